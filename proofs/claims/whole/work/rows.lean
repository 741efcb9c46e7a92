section
-- ===== PART A: goes FIRST, ahead of the names: the tables' words, and 'selects' of the private methods out of them =====
/-- a private method of a class that the tables say can be made, by its rows of tables_1 -/
def lw_okq (q : MethodName × Nat) : Prop := (q.1.cls ≠ "java/lang/invoke/MethodHandle" ∧ q.1.cls ≠ "java/lang/invoke/VarHandle") ∧ Cond.instantiable q.1.cls q.2 ∈ tables_1 ∧ Cond.privateMethod q.1 ∈ tables_1 ∧ Cond.instanceMethod q.1 ∈ tables_1
theorem lw_p0 : lw_okq (⟨"PacketTrail", "putOnTape", "(I)V"⟩, 10) := ⟨⟨by decide +kernel, by decide +kernel⟩, List.mem_of_getElem? (i := 24) (by decide +kernel), List.mem_of_getElem? (i := 254) (by decide +kernel), List.mem_of_getElem? (i := 255) (by decide +kernel)⟩
theorem lw_p1 : lw_okq (⟨"PacketTrail", "keepState", "()V"⟩, 10) := ⟨⟨by decide +kernel, by decide +kernel⟩, List.mem_of_getElem? (i := 24) (by decide +kernel), List.mem_of_getElem? (i := 266) (by decide +kernel), List.mem_of_getElem? (i := 267) (by decide +kernel)⟩
theorem lw_p2 : lw_okq (⟨"PacketTrail$Joiner", "gatherOf", "(LPacketTrail$Net;LPacketTrail$Packet;)V"⟩, 16) := ⟨⟨by decide +kernel, by decide +kernel⟩, List.mem_of_getElem? (i := 112) (by decide +kernel), List.mem_of_getElem? (i := 309) (by decide +kernel), List.mem_of_getElem? (i := 310) (by decide +kernel)⟩
theorem lw_p3 : lw_okq (⟨"PacketTrail$Firsts", "isChosen", "(II)Z"⟩, 6) := ⟨⟨by decide +kernel, by decide +kernel⟩, List.mem_of_getElem? (i := 174) (by decide +kernel), List.mem_of_getElem? (i := 347) (by decide +kernel), List.mem_of_getElem? (i := 348) (by decide +kernel)⟩
theorem lw_p4 : lw_okq (⟨"PacketTrail", "require", "(Z)V"⟩, 10) := ⟨⟨by decide +kernel, by decide +kernel⟩, List.mem_of_getElem? (i := 24) (by decide +kernel), List.mem_of_getElem? (i := 369) (by decide +kernel), List.mem_of_getElem? (i := 370) (by decide +kernel)⟩
theorem lw_p5 : lw_okq (⟨"java/lang/Throwable", "fillInStackTrace", "(I)Ljava/lang/Throwable;"⟩, 6) := ⟨⟨by decide +kernel, by decide +kernel⟩, List.mem_of_getElem? (i := 411) (by decide +kernel), List.mem_of_getElem? (i := 409) (by decide +kernel), List.mem_of_getElem? (i := 410) (by decide +kernel)⟩
theorem lw_p6 : lw_okq (⟨"PacketTrail$Reader", "readHops", "()Z"⟩, 10) := ⟨⟨by decide +kernel, by decide +kernel⟩, List.mem_of_getElem? (i := 440) (by decide +kernel), List.mem_of_getElem? (i := 486) (by decide +kernel), List.mem_of_getElem? (i := 487) (by decide +kernel)⟩
theorem lw_p7 : lw_okq (⟨"PacketTrail$Reader", "skipBlanks", "()V"⟩, 10) := ⟨⟨by decide +kernel, by decide +kernel⟩, List.mem_of_getElem? (i := 440) (by decide +kernel), List.mem_of_getElem? (i := 490) (by decide +kernel), List.mem_of_getElem? (i := 491) (by decide +kernel)⟩
theorem lw_p8 : lw_okq (⟨"PacketTrail$Reader", "skipLetters", "()V"⟩, 10) := ⟨⟨by decide +kernel, by decide +kernel⟩, List.mem_of_getElem? (i := 440) (by decide +kernel), List.mem_of_getElem? (i := 494) (by decide +kernel), List.mem_of_getElem? (i := 495) (by decide +kernel)⟩
theorem lw_p9 : lw_okq (⟨"PacketTrail$Reader", "isWord", "(ILjava/lang/String;)Z"⟩, 10) := ⟨⟨by decide +kernel, by decide +kernel⟩, List.mem_of_getElem? (i := 440) (by decide +kernel), List.mem_of_getElem? (i := 499) (by decide +kernel), List.mem_of_getElem? (i := 500) (by decide +kernel)⟩
theorem lw_p10 : lw_okq (⟨"PacketTrail$Reader", "refuse", "(II)Z"⟩, 10) := ⟨⟨by decide +kernel, by decide +kernel⟩, List.mem_of_getElem? (i := 440) (by decide +kernel), List.mem_of_getElem? (i := 551) (by decide +kernel), List.mem_of_getElem? (i := 552) (by decide +kernel)⟩
theorem lw_p11 : lw_okq (⟨"PacketTrail$Reader", "readNumber", "()I"⟩, 10) := ⟨⟨by decide +kernel, by decide +kernel⟩, List.mem_of_getElem? (i := 440) (by decide +kernel), List.mem_of_getElem? (i := 555) (by decide +kernel), List.mem_of_getElem? (i := 556) (by decide +kernel)⟩
theorem lw_p12 : lw_okq (⟨"PacketTrail$Reader", "readSemicolon", "()Z"⟩, 10) := ⟨⟨by decide +kernel, by decide +kernel⟩, List.mem_of_getElem? (i := 440) (by decide +kernel), List.mem_of_getElem? (i := 563) (by decide +kernel), List.mem_of_getElem? (i := 564) (by decide +kernel)⟩
theorem lw_p13 : lw_okq (⟨"PacketTrail$Reader", "isAtEnd", "()Z"⟩, 10) := ⟨⟨by decide +kernel, by decide +kernel⟩, List.mem_of_getElem? (i := 440) (by decide +kernel), List.mem_of_getElem? (i := 567) (by decide +kernel), List.mem_of_getElem? (i := 568) (by decide +kernel)⟩
theorem lw_p14 : lw_okq (⟨"PacketTrail$Reader", "readLine", "()Z"⟩, 10) := ⟨⟨by decide +kernel, by decide +kernel⟩, List.mem_of_getElem? (i := 440) (by decide +kernel), List.mem_of_getElem? (i := 571) (by decide +kernel), List.mem_of_getElem? (i := 572) (by decide +kernel)⟩
theorem lw_p15 : lw_okq (⟨"PacketTrail$Reader", "readLink", "(I)Z"⟩, 10) := ⟨⟨by decide +kernel, by decide +kernel⟩, List.mem_of_getElem? (i := 440) (by decide +kernel), List.mem_of_getElem? (i := 576) (by decide +kernel), List.mem_of_getElem? (i := 577) (by decide +kernel)⟩
def lw_privs_1 : List (MethodName × Nat) := [(⟨"PacketTrail", "putOnTape", "(I)V"⟩, 10), (⟨"PacketTrail", "keepState", "()V"⟩, 10), (⟨"PacketTrail$Joiner", "gatherOf", "(LPacketTrail$Net;LPacketTrail$Packet;)V"⟩, 16), (⟨"PacketTrail$Firsts", "isChosen", "(II)Z"⟩, 6), (⟨"PacketTrail", "require", "(Z)V"⟩, 10), (⟨"java/lang/Throwable", "fillInStackTrace", "(I)Ljava/lang/Throwable;"⟩, 6), (⟨"PacketTrail$Reader", "readHops", "()Z"⟩, 10), (⟨"PacketTrail$Reader", "skipBlanks", "()V"⟩, 10), (⟨"PacketTrail$Reader", "skipLetters", "()V"⟩, 10), (⟨"PacketTrail$Reader", "isWord", "(ILjava/lang/String;)Z"⟩, 10), (⟨"PacketTrail$Reader", "refuse", "(II)Z"⟩, 10), (⟨"PacketTrail$Reader", "readNumber", "()I"⟩, 10), (⟨"PacketTrail$Reader", "readSemicolon", "()Z"⟩, 10), (⟨"PacketTrail$Reader", "isAtEnd", "()Z"⟩, 10), (⟨"PacketTrail$Reader", "readLine", "()Z"⟩, 10), (⟨"PacketTrail$Reader", "readLink", "(I)Z"⟩, 10)]
theorem lw_r1 : ∀ q ∈ lw_privs_1, lw_okq q := List.forall_mem_cons.mpr ⟨lw_p0, List.forall_mem_cons.mpr ⟨lw_p1, List.forall_mem_cons.mpr ⟨lw_p2, List.forall_mem_cons.mpr ⟨lw_p3, List.forall_mem_cons.mpr ⟨lw_p4, List.forall_mem_cons.mpr ⟨lw_p5, List.forall_mem_cons.mpr ⟨lw_p6, List.forall_mem_cons.mpr ⟨lw_p7, List.forall_mem_cons.mpr ⟨lw_p8, List.forall_mem_cons.mpr ⟨lw_p9, List.forall_mem_cons.mpr ⟨lw_p10, List.forall_mem_cons.mpr ⟨lw_p11, List.forall_mem_cons.mpr ⟨lw_p12, List.forall_mem_cons.mpr ⟨lw_p13, List.forall_mem_cons.mpr ⟨lw_p14, List.forall_mem_cons.mpr ⟨lw_p15, fun _ h => absurd h List.not_mem_nil⟩⟩⟩⟩⟩⟩⟩⟩⟩⟩⟩⟩⟩⟩⟩⟩
theorem lw_p16 : lw_okq (⟨"PacketTrail$Reader", "readNear", "()Z"⟩, 10) := ⟨⟨by decide +kernel, by decide +kernel⟩, List.mem_of_getElem? (i := 440) (by decide +kernel), List.mem_of_getElem? (i := 580) (by decide +kernel), List.mem_of_getElem? (i := 581) (by decide +kernel)⟩
theorem lw_p17 : lw_okq (⟨"PacketTrail$Reader", "readFar", "()Z"⟩, 10) := ⟨⟨by decide +kernel, by decide +kernel⟩, List.mem_of_getElem? (i := 440) (by decide +kernel), List.mem_of_getElem? (i := 588) (by decide +kernel), List.mem_of_getElem? (i := 589) (by decide +kernel)⟩
theorem lw_p18 : lw_okq (⟨"PacketTrail$Reader", "readCut", "()Z"⟩, 10) := ⟨⟨by decide +kernel, by decide +kernel⟩, List.mem_of_getElem? (i := 440) (by decide +kernel), List.mem_of_getElem? (i := 601) (by decide +kernel), List.mem_of_getElem? (i := 602) (by decide +kernel)⟩
theorem lw_p19 : lw_okq (⟨"PacketTrail$Reader", "readRoute", "()Z"⟩, 10) := ⟨⟨by decide +kernel, by decide +kernel⟩, List.mem_of_getElem? (i := 440) (by decide +kernel), List.mem_of_getElem? (i := 606) (by decide +kernel), List.mem_of_getElem? (i := 607) (by decide +kernel)⟩
theorem lw_p20 : lw_okq (⟨"PacketTrail$Reader", "readSetting", "(I)Z"⟩, 10) := ⟨⟨by decide +kernel, by decide +kernel⟩, List.mem_of_getElem? (i := 440) (by decide +kernel), List.mem_of_getElem? (i := 611) (by decide +kernel), List.mem_of_getElem? (i := 612) (by decide +kernel)⟩
theorem lw_p21 : lw_okq (⟨"PacketTrail", "refuseWhenFull", "()V"⟩, 10) := ⟨⟨by decide +kernel, by decide +kernel⟩, List.mem_of_getElem? (i := 24) (by decide +kernel), List.mem_of_getElem? (i := 631) (by decide +kernel), List.mem_of_getElem? (i := 632) (by decide +kernel)⟩
theorem lw_p22 : lw_okq (⟨"PacketTrail$Packet", "fateAt", "(LPacketTrail$Net;II)I"⟩, 10) := ⟨⟨by decide +kernel, by decide +kernel⟩, List.mem_of_getElem? (i := 651) (by decide +kernel), List.mem_of_getElem? (i := 711) (by decide +kernel), List.mem_of_getElem? (i := 712) (by decide +kernel)⟩
theorem lw_p23 : lw_okq (⟨"PacketTrail", "find", "(Z)V"⟩, 10) := ⟨⟨by decide +kernel, by decide +kernel⟩, List.mem_of_getElem? (i := 24) (by decide +kernel), List.mem_of_getElem? (i := 731) (by decide +kernel), List.mem_of_getElem? (i := 732) (by decide +kernel)⟩
theorem lw_p24 : lw_okq (⟨"PacketTrail", "chosenAtFirst", "()I"⟩, 10) := ⟨⟨by decide +kernel, by decide +kernel⟩, List.mem_of_getElem? (i := 24) (by decide +kernel), List.mem_of_getElem? (i := 782) (by decide +kernel), List.mem_of_getElem? (i := 783) (by decide +kernel)⟩
theorem lw_p25 : lw_okq (⟨"PacketTrail", "clashesAmong", "(I)I"⟩, 10) := ⟨⟨by decide +kernel, by decide +kernel⟩, List.mem_of_getElem? (i := 24) (by decide +kernel), List.mem_of_getElem? (i := 794) (by decide +kernel), List.mem_of_getElem? (i := 795) (by decide +kernel)⟩
theorem lw_p26 : lw_okq (⟨"PacketTrail", "isLabel", "(I)Z"⟩, 10) := ⟨⟨by decide +kernel, by decide +kernel⟩, List.mem_of_getElem? (i := 24) (by decide +kernel), List.mem_of_getElem? (i := 840) (by decide +kernel), List.mem_of_getElem? (i := 841) (by decide +kernel)⟩
theorem lw_p27 : lw_okq (⟨"PacketTrail$Joiner", "openWalk", "(II)V"⟩, 16) := ⟨⟨by decide +kernel, by decide +kernel⟩, List.mem_of_getElem? (i := 112) (by decide +kernel), List.mem_of_getElem? (i := 855) (by decide +kernel), List.mem_of_getElem? (i := 856) (by decide +kernel)⟩
theorem lw_p28 : lw_okq (⟨"PacketTrail$Joiner", "stand", "(IIII)V"⟩, 16) := ⟨⟨by decide +kernel, by decide +kernel⟩, List.mem_of_getElem? (i := 112) (by decide +kernel), List.mem_of_getElem? (i := 859) (by decide +kernel), List.mem_of_getElem? (i := 860) (by decide +kernel)⟩
theorem lw_p29 : lw_okq (⟨"PacketTrail$Joiner", "nextMove", "(LPacketTrail$Net;I)I"⟩, 16) := ⟨⟨by decide +kernel, by decide +kernel⟩, List.mem_of_getElem? (i := 112) (by decide +kernel), List.mem_of_getElem? (i := 863) (by decide +kernel), List.mem_of_getElem? (i := 864) (by decide +kernel)⟩
theorem lw_p30 : lw_okq (⟨"PacketTrail$Joiner", "takeBack", "(I)V"⟩, 16) := ⟨⟨by decide +kernel, by decide +kernel⟩, List.mem_of_getElem? (i := 112) (by decide +kernel), List.mem_of_getElem? (i := 867) (by decide +kernel), List.mem_of_getElem? (i := 868) (by decide +kernel)⟩
theorem lw_p31 : lw_okq (⟨"PacketTrail$Joiner", "endWalk", "(I)I"⟩, 16) := ⟨⟨by decide +kernel, by decide +kernel⟩, List.mem_of_getElem? (i := 112) (by decide +kernel), List.mem_of_getElem? (i := 871) (by decide +kernel), List.mem_of_getElem? (i := 872) (by decide +kernel)⟩
def lw_privs_2 : List (MethodName × Nat) := [(⟨"PacketTrail$Reader", "readNear", "()Z"⟩, 10), (⟨"PacketTrail$Reader", "readFar", "()Z"⟩, 10), (⟨"PacketTrail$Reader", "readCut", "()Z"⟩, 10), (⟨"PacketTrail$Reader", "readRoute", "()Z"⟩, 10), (⟨"PacketTrail$Reader", "readSetting", "(I)Z"⟩, 10), (⟨"PacketTrail", "refuseWhenFull", "()V"⟩, 10), (⟨"PacketTrail$Packet", "fateAt", "(LPacketTrail$Net;II)I"⟩, 10), (⟨"PacketTrail", "find", "(Z)V"⟩, 10), (⟨"PacketTrail", "chosenAtFirst", "()I"⟩, 10), (⟨"PacketTrail", "clashesAmong", "(I)I"⟩, 10), (⟨"PacketTrail", "isLabel", "(I)Z"⟩, 10), (⟨"PacketTrail$Joiner", "openWalk", "(II)V"⟩, 16), (⟨"PacketTrail$Joiner", "stand", "(IIII)V"⟩, 16), (⟨"PacketTrail$Joiner", "nextMove", "(LPacketTrail$Net;I)I"⟩, 16), (⟨"PacketTrail$Joiner", "takeBack", "(I)V"⟩, 16), (⟨"PacketTrail$Joiner", "endWalk", "(I)I"⟩, 16)]
theorem lw_r2 : ∀ q ∈ lw_privs_2, lw_okq q := List.forall_mem_cons.mpr ⟨lw_p16, List.forall_mem_cons.mpr ⟨lw_p17, List.forall_mem_cons.mpr ⟨lw_p18, List.forall_mem_cons.mpr ⟨lw_p19, List.forall_mem_cons.mpr ⟨lw_p20, List.forall_mem_cons.mpr ⟨lw_p21, List.forall_mem_cons.mpr ⟨lw_p22, List.forall_mem_cons.mpr ⟨lw_p23, List.forall_mem_cons.mpr ⟨lw_p24, List.forall_mem_cons.mpr ⟨lw_p25, List.forall_mem_cons.mpr ⟨lw_p26, List.forall_mem_cons.mpr ⟨lw_p27, List.forall_mem_cons.mpr ⟨lw_p28, List.forall_mem_cons.mpr ⟨lw_p29, List.forall_mem_cons.mpr ⟨lw_p30, List.forall_mem_cons.mpr ⟨lw_p31, fun _ h => absurd h List.not_mem_nil⟩⟩⟩⟩⟩⟩⟩⟩⟩⟩⟩⟩⟩⟩⟩⟩
theorem lw_p32 : lw_okq (⟨"PacketTrail$Joiner", "keepSet", "(I)V"⟩, 16) := ⟨⟨by decide +kernel, by decide +kernel⟩, List.mem_of_getElem? (i := 112) (by decide +kernel), List.mem_of_getElem? (i := 875) (by decide +kernel), List.mem_of_getElem? (i := 876) (by decide +kernel)⟩
theorem lw_p33 : lw_okq (⟨"PacketTrail$Joiner", "goOn", "(LPacketTrail$Net;I)I"⟩, 16) := ⟨⟨by decide +kernel, by decide +kernel⟩, List.mem_of_getElem? (i := 112) (by decide +kernel), List.mem_of_getElem? (i := 879) (by decide +kernel), List.mem_of_getElem? (i := 880) (by decide +kernel)⟩
theorem lw_p34 : lw_okq (⟨"PacketTrail", "walksOrWhyNone", "()I"⟩, 10) := ⟨⟨by decide +kernel, by decide +kernel⟩, List.mem_of_getElem? (i := 24) (by decide +kernel), List.mem_of_getElem? (i := 890) (by decide +kernel), List.mem_of_getElem? (i := 891) (by decide +kernel)⟩
theorem lw_p35 : lw_okq (⟨"PacketTrail", "isJoinedAs", "(II)Z"⟩, 10) := ⟨⟨by decide +kernel, by decide +kernel⟩, List.mem_of_getElem? (i := 24) (by decide +kernel), List.mem_of_getElem? (i := 917) (by decide +kernel), List.mem_of_getElem? (i := 918) (by decide +kernel)⟩
theorem lw_p36 : lw_okq (⟨"PacketTrail", "walksAreTrails", "(I)Z"⟩, 10) := ⟨⟨by decide +kernel, by decide +kernel⟩, List.mem_of_getElem? (i := 24) (by decide +kernel), List.mem_of_getElem? (i := 921) (by decide +kernel), List.mem_of_getElem? (i := 922) (by decide +kernel)⟩
theorem lw_p37 : lw_okq (⟨"PacketTrail$Joiner", "isTrail", "(ILPacketTrail$Packet;)Z"⟩, 16) := ⟨⟨by decide +kernel, by decide +kernel⟩, List.mem_of_getElem? (i := 112) (by decide +kernel), List.mem_of_getElem? (i := 933) (by decide +kernel), List.mem_of_getElem? (i := 934) (by decide +kernel)⟩
theorem lw_p38 : lw_okq (⟨"PacketTrail", "isCounted", "(II)Z"⟩, 10) := ⟨⟨by decide +kernel, by decide +kernel⟩, List.mem_of_getElem? (i := 24) (by decide +kernel), List.mem_of_getElem? (i := 944) (by decide +kernel), List.mem_of_getElem? (i := 945) (by decide +kernel)⟩
theorem lw_p39 : lw_okq (⟨"PacketTrail", "weigh", "(II)V"⟩, 10) := ⟨⟨by decide +kernel, by decide +kernel⟩, List.mem_of_getElem? (i := 24) (by decide +kernel), List.mem_of_getElem? (i := 948) (by decide +kernel), List.mem_of_getElem? (i := 949) (by decide +kernel)⟩
theorem lw_p40 : lw_okq (⟨"PacketTrail", "sureWalks", "(II)J"⟩, 10) := ⟨⟨by decide +kernel, by decide +kernel⟩, List.mem_of_getElem? (i := 24) (by decide +kernel), List.mem_of_getElem? (i := 992) (by decide +kernel), List.mem_of_getElem? (i := 993) (by decide +kernel)⟩
theorem lw_p41 : lw_okq (⟨"PacketTrail$Firsts", "isFirstOfItsMix", "(I)Z"⟩, 6) := ⟨⟨by decide +kernel, by decide +kernel⟩, List.mem_of_getElem? (i := 174) (by decide +kernel), List.mem_of_getElem? (i := 1044) (by decide +kernel), List.mem_of_getElem? (i := 1045) (by decide +kernel)⟩
theorem lw_p42 : lw_okq (⟨"PacketTrailModel", "puts", "(I)V"⟩, 37) := ⟨⟨by decide +kernel, by decide +kernel⟩, List.mem_of_getElem? (i := 1052) (by decide +kernel), List.mem_of_getElem? (i := 1177) (by decide +kernel), List.mem_of_getElem? (i := 1178) (by decide +kernel)⟩
theorem lw_p43 : lw_okq (⟨"PacketTrailModel", "isFine", "(ZII)Z"⟩, 37) := ⟨⟨by decide +kernel, by decide +kernel⟩, List.mem_of_getElem? (i := 1052) (by decide +kernel), List.mem_of_getElem? (i := 1188) (by decide +kernel), List.mem_of_getElem? (i := 1189) (by decide +kernel)⟩
theorem lw_p44 : lw_okq (⟨"PacketTrailModel", "passes", "(Ljava/lang/String;)Z"⟩, 37) := ⟨⟨by decide +kernel, by decide +kernel⟩, List.mem_of_getElem? (i := 1052) (by decide +kernel), List.mem_of_getElem? (i := 1193) (by decide +kernel), List.mem_of_getElem? (i := 1194) (by decide +kernel)⟩
theorem lw_p45 : lw_okq (⟨"PacketTrailModel", "sign", "()I"⟩, 37) := ⟨⟨by decide +kernel, by decide +kernel⟩, List.mem_of_getElem? (i := 1052) (by decide +kernel), List.mem_of_getElem? (i := 1197) (by decide +kernel), List.mem_of_getElem? (i := 1198) (by decide +kernel)⟩
theorem lw_p46 : lw_okq (⟨"PacketTrailModel", "isSmall", "(I)Z"⟩, 37) := ⟨⟨by decide +kernel, by decide +kernel⟩, List.mem_of_getElem? (i := 1052) (by decide +kernel), List.mem_of_getElem? (i := 1202) (by decide +kernel), List.mem_of_getElem? (i := 1203) (by decide +kernel)⟩
theorem lw_p47 : lw_okq (⟨"PacketTrailModel", "wrong", "(II)V"⟩, 37) := ⟨⟨by decide +kernel, by decide +kernel⟩, List.mem_of_getElem? (i := 1052) (by decide +kernel), List.mem_of_getElem? (i := 1207) (by decide +kernel), List.mem_of_getElem? (i := 1208) (by decide +kernel)⟩
def lw_privs_3 : List (MethodName × Nat) := [(⟨"PacketTrail$Joiner", "keepSet", "(I)V"⟩, 16), (⟨"PacketTrail$Joiner", "goOn", "(LPacketTrail$Net;I)I"⟩, 16), (⟨"PacketTrail", "walksOrWhyNone", "()I"⟩, 10), (⟨"PacketTrail", "isJoinedAs", "(II)Z"⟩, 10), (⟨"PacketTrail", "walksAreTrails", "(I)Z"⟩, 10), (⟨"PacketTrail$Joiner", "isTrail", "(ILPacketTrail$Packet;)Z"⟩, 16), (⟨"PacketTrail", "isCounted", "(II)Z"⟩, 10), (⟨"PacketTrail", "weigh", "(II)V"⟩, 10), (⟨"PacketTrail", "sureWalks", "(II)J"⟩, 10), (⟨"PacketTrail$Firsts", "isFirstOfItsMix", "(I)Z"⟩, 6), (⟨"PacketTrailModel", "puts", "(I)V"⟩, 37), (⟨"PacketTrailModel", "isFine", "(ZII)Z"⟩, 37), (⟨"PacketTrailModel", "passes", "(Ljava/lang/String;)Z"⟩, 37), (⟨"PacketTrailModel", "sign", "()I"⟩, 37), (⟨"PacketTrailModel", "isSmall", "(I)Z"⟩, 37), (⟨"PacketTrailModel", "wrong", "(II)V"⟩, 37)]
theorem lw_r3 : ∀ q ∈ lw_privs_3, lw_okq q := List.forall_mem_cons.mpr ⟨lw_p32, List.forall_mem_cons.mpr ⟨lw_p33, List.forall_mem_cons.mpr ⟨lw_p34, List.forall_mem_cons.mpr ⟨lw_p35, List.forall_mem_cons.mpr ⟨lw_p36, List.forall_mem_cons.mpr ⟨lw_p37, List.forall_mem_cons.mpr ⟨lw_p38, List.forall_mem_cons.mpr ⟨lw_p39, List.forall_mem_cons.mpr ⟨lw_p40, List.forall_mem_cons.mpr ⟨lw_p41, List.forall_mem_cons.mpr ⟨lw_p42, List.forall_mem_cons.mpr ⟨lw_p43, List.forall_mem_cons.mpr ⟨lw_p44, List.forall_mem_cons.mpr ⟨lw_p45, List.forall_mem_cons.mpr ⟨lw_p46, List.forall_mem_cons.mpr ⟨lw_p47, fun _ h => absurd h List.not_mem_nil⟩⟩⟩⟩⟩⟩⟩⟩⟩⟩⟩⟩⟩⟩⟩⟩
theorem lw_p48 : lw_okq (⟨"PacketTrailModel", "number", "(II)I"⟩, 37) := ⟨⟨by decide +kernel, by decide +kernel⟩, List.mem_of_getElem? (i := 1052) (by decide +kernel), List.mem_of_getElem? (i := 1211) (by decide +kernel), List.mem_of_getElem? (i := 1212) (by decide +kernel)⟩
theorem lw_p49 : lw_okq (⟨"PacketTrailModel", "ends", "()V"⟩, 37) := ⟨⟨by decide +kernel, by decide +kernel⟩, List.mem_of_getElem? (i := 1052) (by decide +kernel), List.mem_of_getElem? (i := 1217) (by decide +kernel), List.mem_of_getElem? (i := 1218) (by decide +kernel)⟩
theorem lw_p50 : lw_okq (⟨"PacketTrailModel", "oneLine", "()V"⟩, 37) := ⟨⟨by decide +kernel, by decide +kernel⟩, List.mem_of_getElem? (i := 1052) (by decide +kernel), List.mem_of_getElem? (i := 1221) (by decide +kernel), List.mem_of_getElem? (i := 1222) (by decide +kernel)⟩
theorem lw_p51 : lw_okq (⟨"PacketTrailModel", "readsLink", "()V"⟩, 37) := ⟨⟨by decide +kernel, by decide +kernel⟩, List.mem_of_getElem? (i := 1052) (by decide +kernel), List.mem_of_getElem? (i := 1226) (by decide +kernel), List.mem_of_getElem? (i := 1227) (by decide +kernel)⟩
theorem lw_p52 : lw_okq (⟨"PacketTrailModel", "other", "(I)I"⟩, 37) := ⟨⟨by decide +kernel, by decide +kernel⟩, List.mem_of_getElem? (i := 1052) (by decide +kernel), List.mem_of_getElem? (i := 1230) (by decide +kernel), List.mem_of_getElem? (i := 1231) (by decide +kernel)⟩
theorem lw_p53 : lw_okq (⟨"PacketTrailModel", "linkBy", "([I[IIII)I"⟩, 37) := ⟨⟨by decide +kernel, by decide +kernel⟩, List.mem_of_getElem? (i := 1052) (by decide +kernel), List.mem_of_getElem? (i := 1234) (by decide +kernel), List.mem_of_getElem? (i := 1235) (by decide +kernel)⟩
theorem lw_p54 : lw_okq (⟨"PacketTrailModel", "cutTold", "()V"⟩, 37) := ⟨⟨by decide +kernel, by decide +kernel⟩, List.mem_of_getElem? (i := 1052) (by decide +kernel), List.mem_of_getElem? (i := 1239) (by decide +kernel), List.mem_of_getElem? (i := 1240) (by decide +kernel)⟩
theorem lw_p55 : lw_okq (⟨"PacketTrailModel", "readsRoute", "()V"⟩, 37) := ⟨⟨by decide +kernel, by decide +kernel⟩, List.mem_of_getElem? (i := 1052) (by decide +kernel), List.mem_of_getElem? (i := 1244) (by decide +kernel), List.mem_of_getElem? (i := 1245) (by decide +kernel)⟩
theorem lw_p56 : lw_okq (⟨"PacketTrailModel", "baseTold", "()V"⟩, 37) := ⟨⟨by decide +kernel, by decide +kernel⟩, List.mem_of_getElem? (i := 1052) (by decide +kernel), List.mem_of_getElem? (i := 1249) (by decide +kernel), List.mem_of_getElem? (i := 1250) (by decide +kernel)⟩
theorem lw_p57 : lw_okq (⟨"PacketTrailModel", "isHop", "(I)Z"⟩, 37) := ⟨⟨by decide +kernel, by decide +kernel⟩, List.mem_of_getElem? (i := 1052) (by decide +kernel), List.mem_of_getElem? (i := 1267) (by decide +kernel), List.mem_of_getElem? (i := 1268) (by decide +kernel)⟩
theorem lw_p58 : lw_okq (⟨"PacketTrailModel", "keeps", "()V"⟩, 37) := ⟨⟨by decide +kernel, by decide +kernel⟩, List.mem_of_getElem? (i := 1052) (by decide +kernel), List.mem_of_getElem? (i := 1271) (by decide +kernel), List.mem_of_getElem? (i := 1272) (by decide +kernel)⟩
theorem lw_p59 : lw_okq (⟨"PacketTrailModel", "goes", "(I)V"⟩, 37) := ⟨⟨by decide +kernel, by decide +kernel⟩, List.mem_of_getElem? (i := 1052) (by decide +kernel), List.mem_of_getElem? (i := 1275) (by decide +kernel), List.mem_of_getElem? (i := 1276) (by decide +kernel)⟩
theorem lw_p60 : lw_okq (⟨"PacketTrailModel", "of", "(II)I"⟩, 37) := ⟨⟨by decide +kernel, by decide +kernel⟩, List.mem_of_getElem? (i := 1052) (by decide +kernel), List.mem_of_getElem? (i := 1279) (by decide +kernel), List.mem_of_getElem? (i := 1280) (by decide +kernel)⟩
theorem lw_p61 : lw_okq (⟨"PacketTrailModel", "routeOf", "(II)I"⟩, 37) := ⟨⟨by decide +kernel, by decide +kernel⟩, List.mem_of_getElem? (i := 1052) (by decide +kernel), List.mem_of_getElem? (i := 1283) (by decide +kernel), List.mem_of_getElem? (i := 1284) (by decide +kernel)⟩
theorem lw_p62 : lw_okq (⟨"PacketTrailModel", "isCut", "(I)Z"⟩, 37) := ⟨⟨by decide +kernel, by decide +kernel⟩, List.mem_of_getElem? (i := 1052) (by decide +kernel), List.mem_of_getElem? (i := 1287) (by decide +kernel), List.mem_of_getElem? (i := 1288) (by decide +kernel)⟩
theorem lw_p63 : lw_okq (⟨"PacketTrailModel", "isLink", "(I)Z"⟩, 37) := ⟨⟨by decide +kernel, by decide +kernel⟩, List.mem_of_getElem? (i := 1052) (by decide +kernel), List.mem_of_getElem? (i := 1299) (by decide +kernel), List.mem_of_getElem? (i := 1300) (by decide +kernel)⟩
def lw_privs_4 : List (MethodName × Nat) := [(⟨"PacketTrailModel", "number", "(II)I"⟩, 37), (⟨"PacketTrailModel", "ends", "()V"⟩, 37), (⟨"PacketTrailModel", "oneLine", "()V"⟩, 37), (⟨"PacketTrailModel", "readsLink", "()V"⟩, 37), (⟨"PacketTrailModel", "other", "(I)I"⟩, 37), (⟨"PacketTrailModel", "linkBy", "([I[IIII)I"⟩, 37), (⟨"PacketTrailModel", "cutTold", "()V"⟩, 37), (⟨"PacketTrailModel", "readsRoute", "()V"⟩, 37), (⟨"PacketTrailModel", "baseTold", "()V"⟩, 37), (⟨"PacketTrailModel", "isHop", "(I)Z"⟩, 37), (⟨"PacketTrailModel", "keeps", "()V"⟩, 37), (⟨"PacketTrailModel", "goes", "(I)V"⟩, 37), (⟨"PacketTrailModel", "of", "(II)I"⟩, 37), (⟨"PacketTrailModel", "routeOf", "(II)I"⟩, 37), (⟨"PacketTrailModel", "isCut", "(I)Z"⟩, 37), (⟨"PacketTrailModel", "isLink", "(I)Z"⟩, 37)]
theorem lw_r4 : ∀ q ∈ lw_privs_4, lw_okq q := List.forall_mem_cons.mpr ⟨lw_p48, List.forall_mem_cons.mpr ⟨lw_p49, List.forall_mem_cons.mpr ⟨lw_p50, List.forall_mem_cons.mpr ⟨lw_p51, List.forall_mem_cons.mpr ⟨lw_p52, List.forall_mem_cons.mpr ⟨lw_p53, List.forall_mem_cons.mpr ⟨lw_p54, List.forall_mem_cons.mpr ⟨lw_p55, List.forall_mem_cons.mpr ⟨lw_p56, List.forall_mem_cons.mpr ⟨lw_p57, List.forall_mem_cons.mpr ⟨lw_p58, List.forall_mem_cons.mpr ⟨lw_p59, List.forall_mem_cons.mpr ⟨lw_p60, List.forall_mem_cons.mpr ⟨lw_p61, List.forall_mem_cons.mpr ⟨lw_p62, List.forall_mem_cons.mpr ⟨lw_p63, fun _ h => absurd h List.not_mem_nil⟩⟩⟩⟩⟩⟩⟩⟩⟩⟩⟩⟩⟩⟩⟩⟩
theorem lw_p64 : lw_okq (⟨"PacketTrailModel", "maySet", "(II)Z"⟩, 37) := ⟨⟨by decide +kernel, by decide +kernel⟩, List.mem_of_getElem? (i := 1052) (by decide +kernel), List.mem_of_getElem? (i := 1311) (by decide +kernel), List.mem_of_getElem? (i := 1312) (by decide +kernel)⟩
theorem lw_p65 : lw_okq (⟨"PacketTrailModel", "counted", "(I)I"⟩, 37) := ⟨⟨by decide +kernel, by decide +kernel⟩, List.mem_of_getElem? (i := 1052) (by decide +kernel), List.mem_of_getElem? (i := 1323) (by decide +kernel), List.mem_of_getElem? (i := 1324) (by decide +kernel)⟩
theorem lw_p66 : lw_okq (⟨"PacketTrailModel", "chosenMany", "(I)I"⟩, 37) := ⟨⟨by decide +kernel, by decide +kernel⟩, List.mem_of_getElem? (i := 1052) (by decide +kernel), List.mem_of_getElem? (i := 1327) (by decide +kernel), List.mem_of_getElem? (i := 1328) (by decide +kernel)⟩
theorem lw_p67 : lw_okq (⟨"PacketTrailModel", "isChosen", "(II)Z"⟩, 37) := ⟨⟨by decide +kernel, by decide +kernel⟩, List.mem_of_getElem? (i := 1052) (by decide +kernel), List.mem_of_getElem? (i := 1331) (by decide +kernel), List.mem_of_getElem? (i := 1332) (by decide +kernel)⟩
theorem lw_p68 : lw_okq (⟨"PacketTrailModel", "mixAt", "(II)I"⟩, 37) := ⟨⟨by decide +kernel, by decide +kernel⟩, List.mem_of_getElem? (i := 1052) (by decide +kernel), List.mem_of_getElem? (i := 1335) (by decide +kernel), List.mem_of_getElem? (i := 1336) (by decide +kernel)⟩
theorem lw_p69 : lw_okq (⟨"PacketTrailModel", "mixBy", "(III)I"⟩, 37) := ⟨⟨by decide +kernel, by decide +kernel⟩, List.mem_of_getElem? (i := 1052) (by decide +kernel), List.mem_of_getElem? (i := 1339) (by decide +kernel), List.mem_of_getElem? (i := 1340) (by decide +kernel)⟩
theorem lw_p70 : lw_okq (⟨"PacketTrailModel", "clashesBy", "(I)I"⟩, 37) := ⟨⟨by decide +kernel, by decide +kernel⟩, List.mem_of_getElem? (i := 1052) (by decide +kernel), List.mem_of_getElem? (i := 1346) (by decide +kernel), List.mem_of_getElem? (i := 1347) (by decide +kernel)⟩
theorem lw_p71 : lw_okq (⟨"PacketTrailModel", "hashOf", "(I)I"⟩, 37) := ⟨⟨by decide +kernel, by decide +kernel⟩, List.mem_of_getElem? (i := 1052) (by decide +kernel), List.mem_of_getElem? (i := 1350) (by decide +kernel), List.mem_of_getElem? (i := 1351) (by decide +kernel)⟩
theorem lw_p72 : lw_okq (⟨"PacketTrailModel", "isPacket", "(I)Z"⟩, 37) := ⟨⟨by decide +kernel, by decide +kernel⟩, List.mem_of_getElem? (i := 1052) (by decide +kernel), List.mem_of_getElem? (i := 1366) (by decide +kernel), List.mem_of_getElem? (i := 1367) (by decide +kernel)⟩
theorem lw_p73 : lw_okq (⟨"PacketTrailModel", "labelOf", "(I)I"⟩, 37) := ⟨⟨by decide +kernel, by decide +kernel⟩, List.mem_of_getElem? (i := 1052) (by decide +kernel), List.mem_of_getElem? (i := 1370) (by decide +kernel), List.mem_of_getElem? (i := 1371) (by decide +kernel)⟩
theorem lw_p74 : lw_okq (⟨"PacketTrailModel", "hopAt", "(II)I"⟩, 37) := ⟨⟨by decide +kernel, by decide +kernel⟩, List.mem_of_getElem? (i := 1052) (by decide +kernel), List.mem_of_getElem? (i := 1378) (by decide +kernel), List.mem_of_getElem? (i := 1379) (by decide +kernel)⟩
theorem lw_p75 : lw_okq (⟨"PacketTrailModel", "linkAt", "(II)I"⟩, 37) := ⟨⟨by decide +kernel, by decide +kernel⟩, List.mem_of_getElem? (i := 1052) (by decide +kernel), List.mem_of_getElem? (i := 1382) (by decide +kernel), List.mem_of_getElem? (i := 1383) (by decide +kernel)⟩
theorem lw_p76 : lw_okq (⟨"PacketTrailModel", "laysReports", "(I)V"⟩, 37) := ⟨⟨by decide +kernel, by decide +kernel⟩, List.mem_of_getElem? (i := 1052) (by decide +kernel), List.mem_of_getElem? (i := 1390) (by decide +kernel), List.mem_of_getElem? (i := 1391) (by decide +kernel)⟩
theorem lw_p77 : lw_okq (⟨"PacketTrailModel", "isLabel", "(I)Z"⟩, 37) := ⟨⟨by decide +kernel, by decide +kernel⟩, List.mem_of_getElem? (i := 1052) (by decide +kernel), List.mem_of_getElem? (i := 1402) (by decide +kernel), List.mem_of_getElem? (i := 1403) (by decide +kernel)⟩
theorem lw_p78 : lw_okq (⟨"PacketTrailModel", "jointsOf", "(I)I"⟩, 37) := ⟨⟨by decide +kernel, by decide +kernel⟩, List.mem_of_getElem? (i := 1052) (by decide +kernel), List.mem_of_getElem? (i := 1406) (by decide +kernel), List.mem_of_getElem? (i := 1407) (by decide +kernel)⟩
theorem lw_p79 : lw_okq (⟨"PacketTrailModel", "joins", "(I)V"⟩, 37) := ⟨⟨by decide +kernel, by decide +kernel⟩, List.mem_of_getElem? (i := 1052) (by decide +kernel), List.mem_of_getElem? (i := 1410) (by decide +kernel), List.mem_of_getElem? (i := 1411) (by decide +kernel)⟩
def lw_privs_5 : List (MethodName × Nat) := [(⟨"PacketTrailModel", "maySet", "(II)Z"⟩, 37), (⟨"PacketTrailModel", "counted", "(I)I"⟩, 37), (⟨"PacketTrailModel", "chosenMany", "(I)I"⟩, 37), (⟨"PacketTrailModel", "isChosen", "(II)Z"⟩, 37), (⟨"PacketTrailModel", "mixAt", "(II)I"⟩, 37), (⟨"PacketTrailModel", "mixBy", "(III)I"⟩, 37), (⟨"PacketTrailModel", "clashesBy", "(I)I"⟩, 37), (⟨"PacketTrailModel", "hashOf", "(I)I"⟩, 37), (⟨"PacketTrailModel", "isPacket", "(I)Z"⟩, 37), (⟨"PacketTrailModel", "labelOf", "(I)I"⟩, 37), (⟨"PacketTrailModel", "hopAt", "(II)I"⟩, 37), (⟨"PacketTrailModel", "linkAt", "(II)I"⟩, 37), (⟨"PacketTrailModel", "laysReports", "(I)V"⟩, 37), (⟨"PacketTrailModel", "isLabel", "(I)Z"⟩, 37), (⟨"PacketTrailModel", "jointsOf", "(I)I"⟩, 37), (⟨"PacketTrailModel", "joins", "(I)V"⟩, 37)]
theorem lw_r5 : ∀ q ∈ lw_privs_5, lw_okq q := List.forall_mem_cons.mpr ⟨lw_p64, List.forall_mem_cons.mpr ⟨lw_p65, List.forall_mem_cons.mpr ⟨lw_p66, List.forall_mem_cons.mpr ⟨lw_p67, List.forall_mem_cons.mpr ⟨lw_p68, List.forall_mem_cons.mpr ⟨lw_p69, List.forall_mem_cons.mpr ⟨lw_p70, List.forall_mem_cons.mpr ⟨lw_p71, List.forall_mem_cons.mpr ⟨lw_p72, List.forall_mem_cons.mpr ⟨lw_p73, List.forall_mem_cons.mpr ⟨lw_p74, List.forall_mem_cons.mpr ⟨lw_p75, List.forall_mem_cons.mpr ⟨lw_p76, List.forall_mem_cons.mpr ⟨lw_p77, List.forall_mem_cons.mpr ⟨lw_p78, List.forall_mem_cons.mpr ⟨lw_p79, fun _ h => absurd h List.not_mem_nil⟩⟩⟩⟩⟩⟩⟩⟩⟩⟩⟩⟩⟩⟩⟩⟩
theorem lw_p80 : lw_okq (⟨"PacketTrailModel", "beginsWalk", "()V"⟩, 37) := ⟨⟨by decide +kernel, by decide +kernel⟩, List.mem_of_getElem? (i := 1052) (by decide +kernel), List.mem_of_getElem? (i := 1414) (by decide +kernel), List.mem_of_getElem? (i := 1415) (by decide +kernel)⟩
theorem lw_p81 : lw_okq (⟨"PacketTrailModel", "takesSet", "()V"⟩, 37) := ⟨⟨by decide +kernel, by decide +kernel⟩, List.mem_of_getElem? (i := 1052) (by decide +kernel), List.mem_of_getElem? (i := 1418) (by decide +kernel), List.mem_of_getElem? (i := 1419) (by decide +kernel)⟩
theorem lw_p82 : lw_okq (⟨"PacketTrailModel", "goesOn", "(IIZ)V"⟩, 37) := ⟨⟨by decide +kernel, by decide +kernel⟩, List.mem_of_getElem? (i := 1052) (by decide +kernel), List.mem_of_getElem? (i := 1422) (by decide +kernel), List.mem_of_getElem? (i := 1423) (by decide +kernel)⟩
theorem lw_p83 : lw_okq (⟨"PacketTrailModel", "isOver", "()Z"⟩, 37) := ⟨⟨by decide +kernel, by decide +kernel⟩, List.mem_of_getElem? (i := 1052) (by decide +kernel), List.mem_of_getElem? (i := 1426) (by decide +kernel), List.mem_of_getElem? (i := 1427) (by decide +kernel)⟩
theorem lw_p84 : lw_okq (⟨"PacketTrailModel", "longAt", "(I)I"⟩, 37) := ⟨⟨by decide +kernel, by decide +kernel⟩, List.mem_of_getElem? (i := 1052) (by decide +kernel), List.mem_of_getElem? (i := 1434) (by decide +kernel), List.mem_of_getElem? (i := 1435) (by decide +kernel)⟩
theorem lw_p85 : lw_okq (⟨"PacketTrailModel", "lastHop", "(I)I"⟩, 37) := ⟨⟨by decide +kernel, by decide +kernel⟩, List.mem_of_getElem? (i := 1052) (by decide +kernel), List.mem_of_getElem? (i := 1438) (by decide +kernel), List.mem_of_getElem? (i := 1439) (by decide +kernel)⟩
theorem lw_p86 : lw_okq (⟨"PacketTrailModel", "isTrue", "(I)Z"⟩, 37) := ⟨⟨by decide +kernel, by decide +kernel⟩, List.mem_of_getElem? (i := 1052) (by decide +kernel), List.mem_of_getElem? (i := 1450) (by decide +kernel), List.mem_of_getElem? (i := 1451) (by decide +kernel)⟩
theorem lw_p87 : lw_okq (⟨"PacketTrailModel", "isAlike", "(II)Z"⟩, 37) := ⟨⟨by decide +kernel, by decide +kernel⟩, List.mem_of_getElem? (i := 1052) (by decide +kernel), List.mem_of_getElem? (i := 1454) (by decide +kernel), List.mem_of_getElem? (i := 1455) (by decide +kernel)⟩
theorem lw_p88 : lw_okq (⟨"PacketTrailModel", "isWalk", "(II)Z"⟩, 37) := ⟨⟨by decide +kernel, by decide +kernel⟩, List.mem_of_getElem? (i := 1052) (by decide +kernel), List.mem_of_getElem? (i := 1458) (by decide +kernel), List.mem_of_getElem? (i := 1459) (by decide +kernel)⟩
theorem lw_p89 : lw_okq (⟨"PacketTrailModel", "reckoned", "(III)J"⟩, 37) := ⟨⟨by decide +kernel, by decide +kernel⟩, List.mem_of_getElem? (i := 1052) (by decide +kernel), List.mem_of_getElem? (i := 1466) (by decide +kernel), List.mem_of_getElem? (i := 1467) (by decide +kernel)⟩
theorem lw_p90 : lw_okq (⟨"PacketTrailModel", "counts", "(III)J"⟩, 37) := ⟨⟨by decide +kernel, by decide +kernel⟩, List.mem_of_getElem? (i := 1052) (by decide +kernel), List.mem_of_getElem? (i := 1470) (by decide +kernel), List.mem_of_getElem? (i := 1471) (by decide +kernel)⟩
theorem lw_p91 : lw_okq (⟨"PacketTrailModel", "unlikeBy", "(I)I"⟩, 37) := ⟨⟨by decide +kernel, by decide +kernel⟩, List.mem_of_getElem? (i := 1052) (by decide +kernel), List.mem_of_getElem? (i := 1508) (by decide +kernel), List.mem_of_getElem? (i := 1509) (by decide +kernel)⟩
def lw_privs_6 : List (MethodName × Nat) := [(⟨"PacketTrailModel", "beginsWalk", "()V"⟩, 37), (⟨"PacketTrailModel", "takesSet", "()V"⟩, 37), (⟨"PacketTrailModel", "goesOn", "(IIZ)V"⟩, 37), (⟨"PacketTrailModel", "isOver", "()Z"⟩, 37), (⟨"PacketTrailModel", "longAt", "(I)I"⟩, 37), (⟨"PacketTrailModel", "lastHop", "(I)I"⟩, 37), (⟨"PacketTrailModel", "isTrue", "(I)Z"⟩, 37), (⟨"PacketTrailModel", "isAlike", "(II)Z"⟩, 37), (⟨"PacketTrailModel", "isWalk", "(II)Z"⟩, 37), (⟨"PacketTrailModel", "reckoned", "(III)J"⟩, 37), (⟨"PacketTrailModel", "counts", "(III)J"⟩, 37), (⟨"PacketTrailModel", "unlikeBy", "(I)I"⟩, 37)]
theorem lw_r6 : ∀ q ∈ lw_privs_6, lw_okq q := List.forall_mem_cons.mpr ⟨lw_p80, List.forall_mem_cons.mpr ⟨lw_p81, List.forall_mem_cons.mpr ⟨lw_p82, List.forall_mem_cons.mpr ⟨lw_p83, List.forall_mem_cons.mpr ⟨lw_p84, List.forall_mem_cons.mpr ⟨lw_p85, List.forall_mem_cons.mpr ⟨lw_p86, List.forall_mem_cons.mpr ⟨lw_p87, List.forall_mem_cons.mpr ⟨lw_p88, List.forall_mem_cons.mpr ⟨lw_p89, List.forall_mem_cons.mpr ⟨lw_p90, List.forall_mem_cons.mpr ⟨lw_p91, fun _ h => absurd h List.not_mem_nil⟩⟩⟩⟩⟩⟩⟩⟩⟩⟩⟩⟩
def lw_privs : List (MethodName × Nat) := lw_privs_1 ++ (lw_privs_2 ++ (lw_privs_3 ++ (lw_privs_4 ++ (lw_privs_5 ++ (lw_privs_6)))))
def lw_tbl : List Cond := k2_sels lw_privs ++ tables_1
theorem lw_privs_ok : ∀ q ∈ lw_privs, lw_okq q := by
  show ∀ q ∈ lw_privs_1 ++ (lw_privs_2 ++ (lw_privs_3 ++ (lw_privs_4 ++ (lw_privs_5 ++ (lw_privs_6))))), lw_okq q
  exact List.forall_mem_append.mpr ⟨lw_r1, List.forall_mem_append.mpr ⟨lw_r2, List.forall_mem_append.mpr ⟨lw_r3, List.forall_mem_append.mpr ⟨lw_r4, List.forall_mem_append.mpr ⟨lw_r5, lw_r6⟩⟩⟩⟩⟩
end
section
/-! ===== BEGIN words of one list among another's, by their places ===== -/
theorem goodIn_r {big : List Cond} (ws : List Cond) (ps : List Nat) (hp : ws = ps.filterMap (fun i => big[i]?)) (h : ws.all goodWord = true) : GoodIn big ws := by
  intro w hw
  have h1 := List.all_eq_true.mp h w hw
  rw [hp] at hw
  obtain ⟨i, -, hi⟩ := List.mem_filterMap.mp hw
  have hm : w ∈ big := by first | exact List.mem_of_getElem? hi | exact List.getElem?_mem hi
  exact ⟨hm, good_of_word h1⟩
theorem goodIn_app {big a b : List Cond} (ha : GoodIn big a) (hb : GoodIn big b) : GoodIn big (a ++ b) := fun w h => (List.mem_append.mp h).elim (ha w) (hb w)
theorem goodIn_ca {big a b : List Cond} {c : Cond} (ha : GoodIn big (c :: a)) (hb : GoodIn big b) : GoodIn big (c :: (a ++ b)) := fun w h => (List.mem_cons.mp h).elim (fun e => ha w (List.mem_cons.mpr (Or.inl e))) (fun h => (List.mem_append.mp h).elim (fun h => ha w (List.mem_cons.mpr (Or.inr h))) (hb w))
theorem goodIn_sub {big ws : List Cond} (hm : ∀ w ∈ ws, w ∈ big) (h : ws.all goodWord = true) : GoodIn big ws := fun w hw => ⟨hm w hw, good_of_word (List.all_eq_true.mp h w hw)⟩
/-! ===== END ===== -/

/-! ===== BEGIN exceptions that leave a method, and their catching by the caller (launches without stack traces) ===== -/
section VXA
/-! The laws vx_back, vx_callV, vx_callS, vx_callSW, vx_throw0, vx_throwS follow proofs of the library, with one case more: JvmDerived/Free/Laws.lean (Back.of_free), Shelf42/LK1.lean (callV, callS), Shelf/KitTraced.lean (throwNew0V, throwNewS). -/
/-- where a method has thrown q: the class by its name, the cell, what was written, the world -/
def vx_T (XC : String → State → State → Prop) (st : State) (q : Addr) (t : State) (mc ms : Nat) (free : Addr → Prop) : Prop :=
  ∃ (E : String) (ce : Cell) (L : List Loc), XC E st t ∧ t.heap[q]? = some ce ∧ ce.vm = .none ∧ st.vm.findClass E = some ce.cls ∧ st.WarmedH t.vm ∧ st.sameButNew ({ t with vm := st.vm } : State) L mc ms ∧ ∀ z ∈ L, free z.base
def vx_Q (Qc : Array Value → State → Outcome → State → Prop) (XC : String → State → State → Prop) (mc ms : Nat) (free : Addr → Prop) : Array Value → State → Outcome → State → Prop := fun a st o t =>
  (Qc a st o t ∧ ∃ L, FrameEnd st o t L mc ms ∧ ∀ q ∈ L, free q.base) ∨ ∃ q, o = .threw q ∧ vx_T XC st q t mc ms free
/-- a callee that returns or throws -/
def vx_Met (l : Launch) (y : MethodName) (ws : List Cond) (rm : Room) (Pc : Array Value → State → Prop) (Qc : Array Value → State → Outcome → State → Prop) (XC : String → State → State → Prop) (mc ms : Nat) (free : Addr → Prop) : Prop :=
  MetFree l y (headSpec ws rm) Pc (fun _ _ _ _ _ => True) (vx_Q Qc XC mc ms free)
def vx_Post (XC : String → State → State → Prop) (mc ms : Nat) (free : Addr → Prop) : Pt → Array Value → Addr → Pt → Prop := fun A a q B =>
  ∃ (g : JFrame) (mk : MethodId) (t : State) (L : List Loc) (E : String) (ce : Cell), B.U.heap = t.heap ∧ B.U.vm = t.vm ∧ XC E (A.U.calling g mk a) t ∧ t.heap[q]? = some ce ∧ ce.vm = .none ∧ A.U.vm.findClass E = some ce.cls ∧ B.locs = A.locs ++ L ∧ (∀ z ∈ L, free z.base) ∧ B.cells = A.cells + mc ∧ B.slots = A.slots + ms
def vx_Back (l : Launch) (R : Room) (p : Program) (e : Env) (below : List Frame) (s : State) (sargs : Array Value) (y : MethodName) (len W9 : Nat)
    (Pre : Pt → Array Value → Prop) (Post : Pt → Array Value → Option Value → Pt → Prop) (PostX : Pt → Array Value → Addr → Pt → Prop) : Prop :=
  ∀ (m : MethodId) (meth : Method) (c : Code) (A : Pt) (g : JFrame) (ig : Instr) (mk : MethodId) (a : Array Value),
    Stand p l e R s m sargs below meth c A.U A.locs A.cells A.slots → g.method = m → g.locals.size = c.maxLocals → decode c.code g.pc = .ok (ig, len) →
    2 * g.monitorRoom + (g.stack.map fun v => v.category).sum ≤ W9 → A.U.methodNamed? y = some mk → Pre A a →
    (∃ (v : Option Value) (B : Pt), Stand p l e R s m sargs below meth c B.U B.locs B.cells B.slots ∧ Post A a v B ∧
      Steps p.tables e below (doInvoke e (A.U.setTop g) [] mk a).1 (B.U.setTop { g with pc := g.pc + len, stack := v.toList ++ g.stack })) ∨
    (∃ (q : Addr) (B : Pt), Stand p l e R s m sargs below meth c B.U B.locs B.cells B.slots ∧ PostX A a q B ∧
      Steps p.tables e below (doInvoke e (A.U.setTop g) [] mk a).1 ((B.U.setTop g).pushFrame (.throwing q)))
section Payer
variable {l : Launch} {R : Room} {p : Program} {e : Env} {below : List Frame} {s : State} {sargs : Array Value} {y : MethodName} {len W9 : Nat}
theorem vx_back {ws : List Cond} {rm : Room} {Pc : Array Value → State → Prop} {Qc : Array Value → State → Outcome → State → Prop} {XC : String → State → State → Prop} {mc ms : Nat} {free : Addr → Prop} {bytes : ByteArray} {maxL : Nat} {ret : Option FieldType}
    (hM : vx_Met l y ws rm Pc Qc XC mc ms free) (hblind : FrameBlind Pc) (hrc : rm.cells = mc) (hrs : rm.slots = ms)
    (hframes : rm.frames + 1 ≤ R.frames) (hlocals : W9 + (maxL + 11) + rm.locals ≤ R.locals)
    (hws : ∀ w ∈ ws, ∀ a' U, s.WarmedH U.vm → w.before a' U = true) (hcode : Cond.code y bytes maxL ret ∈ ws) (hinit : ∀ a' U, s.WarmedH U.vm → (Cond.initialized y.cls).before a' U = true) :
    vx_Back l R p e below s sargs y len W9 (PreOf R mc ms Pc) (PostOf Qc mc ms free) (vx_Post XC mc ms free) := by
  intro m meth c A g ig mk a X hg hsize hdg hW hn hp
  have h1 : (headSpec ws rm).pre.before a A.U = true := atoms_intro fun w hw => hws w hw _ _ X.warmed
  have h2 : (Cond.code y bytes maxL ret).before a A.U = true := hws _ hcode _ _ X.warmed
  have h3 : (Cond.initialized y.cls).before a A.U = true := hinit _ _ X.warmed
  have h4 : A.cells + (headSpec ws rm).room.cells ≤ R.cells := by rw [show (headSpec ws rm).room.cells = mc from hrc]; exact hp.1
  have h5 : A.slots + (headSpec ws rm).room.slots ≤ R.slots := by rw [show (headSpec ws rm).room.slots = ms from hrs]; exact hp.2.1
  have hPc : Pc a (A.U.calling g mk a) := hblind _ _ _ _ hp.2.2
  obtain ⟨U, Ls, c0, s0⟩ := A
  dsimp only [Pt.U, Pt.locs, Pt.cells, Pt.slots] at h1 h2 h3 h4 h5 X hn hPc ⊢
  obtain ⟨methY, cY, hmY, hcY, -, hlY, -, -, -, -⟩ := Cond.code_spec hn h2
  obtain ⟨kY, hkY, -⟩ := className_of_methodNamed hn
  have hinitY : kY.init = .initialized := Cond.initialized_spec (findClass_of_methodNamed hn) hkY h3
  have h : At U g.method c below := by rw [hg]; exact X.here
  have hlocals9 : W9 + (maxL + 11) + (headSpec ws rm).room.locals ≤ R.locals := hlocals
  have happ : (headSpec ws rm).appliesLoose y e.platform (U.calling g mk a) = true :=
    Spec.appliesLoose_calling (g := g) h hdg hn hkY hinitY
      (X.room_calling (g := g) (R' := (headSpec ws rm).room) hsize hmY hcY hframes (by rw [hlY]; omega) h4 h5) h1
  obtain ⟨mid, hmid⟩ := h.above
  have hfr : (U.setTop g).frames = (.java g :: mid) ++ below := by rw [State.frames_setTop' g h.top, hmid]; rfl
  obtain ⟨o, s₂, hsteps, -, hend, hq⟩ := Steps.callFree hM p X.admits X.cas X.clock (acts := []) hfr happ hPc trivial
  have hq' : vx_Q Qc XC mc ms free a (U.calling g mk a) o s₂ := hq
  rw [State.frames_setTop' g h.top] at hend
  obtain ⟨g₀, hg0⟩ := Option.isSome_iff_exists.mp h.top
  obtain ⟨r, hr⟩ := State.topJava?_eq_some.mp hg0
  have hr' : (({ U with heap := s₂.heap, slotsUsed := s₂.slotsUsed } : State).setVm s₂.vm).frames = .java g₀ :: r := hr
  rcases hq' with ⟨hqc, L, hfe, hL⟩ | ⟨q, rfl, E, ce, L, hx, hce, hcv, hcl, hW₂, hsm, hL⟩
  · obtain ⟨⟨v, rfl⟩, hW₂, e2, q2, q3, q4, q5, q6⟩ := id hfe
    have e3 : s₂ = ({ (U.calling g mk a).setFrames s₂.frames with heap := s₂.heap, slotsUsed := s₂.slotsUsed } : State).setVm s₂.vm := by
      have : s₂ = ({ s₂ with vm := (U.calling g mk a).vm } : State).setVm s₂.vm := rfl
      rw [e2] at this
      exact this
    obtain ⟨c₂, i₂, len₂, hc₂, hd₂, hf₂⟩ := hend
    have hW' : U.WarmedH s₂.vm := hW₂
    have hcc : c₂ = c := by
      have h1 : s₂.code? g.method = U.code? g.method := by
        rw [State.code?_eq, State.code?_eq, hW'.alike.method?]
      exact Option.some.inj (hc₂.symm.trans (h1.trans h.code))
    subst hcc
    have hlen : len₂ = len := by rw [hdg] at hd₂; cases hd₂; rfl
    subst hlen
    have hs₂ : s₂ = (({ U with heap := s₂.heap, slotsUsed := s₂.slotsUsed } : State).setVm s₂.vm).setTop { g with pc := g.pc + len₂, stack := v.toList ++ g.stack } := by
      refine e3.trans ?_
      rw [hf₂, State.calling_eq h.top, State.setFrames_setFrames, State.setTop_of_frames _ hr', hr]
      rfl
    have hsame : U.sameButNew ({ U with heap := s₂.heap, slotsUsed := s₂.slotsUsed } : State) L mc ms := by
      refine ⟨?_, q2, q3, q4, q5, q6⟩
      obtain ⟨t, ht, -⟩ := State.frames_cons hr
      show ({ U with heap := s₂.heap, slotsUsed := s₂.slotsUsed } : State) = { U.setFrames U.frames with heap := s₂.heap, slotsUsed := s₂.slotsUsed }
      rw [State.setFrames_self ht]
    subst hg
    refine Or.inl ⟨v, ⟨(({ U with heap := s₂.heap, slotsUsed := s₂.slotsUsed } : State).setVm s₂.vm), Ls ++ L, c0 + mc, s0 + ms⟩,
      ⟨X.admits, X.cas, X.clock, X.frames, X.room, X.hears, X.method, X.code, (X.here.setHeapUsed s₂.heap s₂.slotsUsed).setVm hW'.alike, X.tail, State.WarmedH.trans X.warmed hW', X.limits, X.bytes, X.same.trans (hsame.setVm s.vm)⟩,
      ⟨g, mk, s₂, L, rfl, rfl, hqc, rfl, hL, rfl, rfl⟩, ?_⟩
    show Steps p.tables e below _ ((({ U with heap := s₂.heap, slotsUsed := s₂.slotsUsed } : State).setVm s₂.vm).setTop { g with pc := g.pc + len₂, stack := v.toList ++ g.stack })
    rw [← hs₂]
    exact hsteps
  · obtain ⟨e2, q2, q3, q4, q5, q6⟩ := id hsm
    have e3 : s₂ = ({ (U.calling g mk a).setFrames s₂.frames with heap := s₂.heap, slotsUsed := s₂.slotsUsed } : State).setVm s₂.vm := by
      have : s₂ = ({ s₂ with vm := (U.calling g mk a).vm } : State).setVm s₂.vm := rfl
      rw [e2] at this
      exact this
    have hf₂ : s₂.frames = .throwing q :: .java g :: U.frames.tail := hend
    have hW' : U.WarmedH s₂.vm := hW₂
    have hs₂ : s₂ = ((({ U with heap := s₂.heap, slotsUsed := s₂.slotsUsed } : State).setVm s₂.vm).setTop g).pushFrame (.throwing q) := by
      refine e3.trans ?_
      rw [hf₂, State.calling_eq h.top, State.setFrames_setFrames, State.pushFrame, State.frames_setTop _ hr', State.setTop_of_frames _ hr', State.setFrames_setFrames, hr]
      rfl
    have hsame : U.sameButNew ({ U with heap := s₂.heap, slotsUsed := s₂.slotsUsed } : State) L mc ms := by
      refine ⟨?_, q2, q3, q4, q5, q6⟩
      obtain ⟨t, ht, -⟩ := State.frames_cons hr
      show ({ U with heap := s₂.heap, slotsUsed := s₂.slotsUsed } : State) = { U.setFrames U.frames with heap := s₂.heap, slotsUsed := s₂.slotsUsed }
      rw [State.setFrames_self ht]
    subst hg
    refine Or.inr ⟨q, ⟨(({ U with heap := s₂.heap, slotsUsed := s₂.slotsUsed } : State).setVm s₂.vm), Ls ++ L, c0 + mc, s0 + ms⟩,
      ⟨X.admits, X.cas, X.clock, X.frames, X.room, X.hears, X.method, X.code, (X.here.setHeapUsed s₂.heap s₂.slotsUsed).setVm hW'.alike, X.tail, State.WarmedH.trans X.warmed hW', X.limits, X.bytes, X.same.trans (hsame.setVm s.vm)⟩,
      ⟨g, mk, s₂, L, E, ce, rfl, rfl, hx, hce, hcv, hcl, rfl, hL, rfl, rfl⟩, ?_⟩
    show Steps p.tables e below _ (((({ U with heap := s₂.heap, slotsUsed := s₂.slotsUsed } : State).setVm s₂.vm).setTop g).pushFrame (.throwing q))
    rw [← hs₂]
    exact hsteps
end Payer
section Calls
variable {p : Program} {l : Launch} {e : Env} {R : Room} {s : State} {m : MethodId} {args : Array Value} {below : List Frame} {meth : Method} {c : Code} {T : State} {locs : List Loc} {cells slots : Nat}
theorem vx_callV (X : Stand p l e R s m args below meth c T locs cells slots) (hexec : p.tables.exec = Jvm.exec) {own C : String} {index : Nat} {y : MethodName} {bytes : ByteArray} {maxL : Nat} {ret : Option FieldType}
    (hown : s.vm.findClass own = some m.cls) (hlink : (Cond.methodLink own index y).before args s = true) (hinst : (Cond.instanceMethod y).before args s = true) (hsel : (Cond.selects C y y).before args s = true)
    (hcode : (Cond.code y bytes maxL ret).before args s = true) (hy : y.cls ≠ "java/lang/invoke/MethodHandle" ∧ y.cls ≠ "java/lang/invoke/VarHandle")
    {W9 : Nat} {Pre : Pt → Array Value → Prop} {Post : Pt → Array Value → Option Value → Pt → Prop} {PostX : Pt → Array Value → Addr → Pt → Prop} (hK : vx_Back l R p e below s args y 3 W9 Pre Post PostX)
    {b : Addr} {cellB : Cell} (hcell : T.heap[b]? = some cellB) (hobj : cellB.vm.isStatics = false) (hcls : s.vm.findClass C = some cellB.cls)
    {g : JFrame} (hg : g.method = m) (hsize : g.locals.size = c.maxLocals) {argsL rest : List Value} (hlen : ∀ sig, parseMethodDescriptor y.desc = some sig → argsL.length = sig.parameters.length)
    (hstack : g.stack = argsL.reverse ++ .ref b :: rest) (hW : 2 * g.monitorRoom + (rest.map fun v => v.category).sum ≤ W9) (hdg : decode c.code g.pc = .ok (.invokevirtual index, 3))
    (hpre : ∀ vm₁, s.WarmedH vm₁ → Pre ⟨T.setVm vm₁, locs, cells, slots⟩ (Value.ref b :: argsL).toArray) :
    (∃ (v : Option Value) (vm₁ : Vm) (B : Pt), s.WarmedH vm₁ ∧ Stand p l e R s m args below meth c B.U B.locs B.cells B.slots ∧ Post ⟨T.setVm vm₁, locs, cells, slots⟩ (Value.ref b :: argsL).toArray v B ∧
      ∀ target, Steps p.tables e below (B.U.setTop { g with pc := g.pc + 3, stack := v.toList ++ rest }) target → Steps p.tables e below (T.setTop g) target) ∨
    (∃ (q : Addr) (vm₁ : Vm) (B : Pt), s.WarmedH vm₁ ∧ Stand p l e R s m args below meth c B.U B.locs B.cells B.slots ∧ PostX ⟨T.setVm vm₁, locs, cells, slots⟩ (Value.ref b :: argsL).toArray q B ∧
      Steps p.tables e below (T.setTop g) ((B.U.setTop { g with stack := rest }).pushFrame (.throwing q))) := by
  obtain ⟨mk, methM, hnamed, hmethM, hstM, habM⟩ := Cond.instanceMethod_spec hinst
  obtain ⟨methM', cM, hmethM', -, -, -, -, -, -, hsigM⟩ := Cond.code_spec hnamed hcode
  cases hmethM.symm.trans hmethM'
  obtain ⟨c2, r2, m2, q1, q2, q3, q4, kP, hkP, hkPi⟩ := Cond.selects_spec hsel
  cases hcls.symm.trans q1
  cases (State.methodFound?_of_named hnamed hy).symm.trans q2
  cases hnamed.symm.trans q3
  have hselP : selectMethod e.platform s.vm cellB.cls mk = .method mk := by rw [Launch.admits_selectMethod X.admits]; exact q4
  obtain ⟨vm₁, X₁, hstep₁⟩ := X.invokevirtual hexec hown hlink hnamed hmethM hstM hkP hkPi hy (a := b) (cell := cellB) hcell
    (fun z h => by rw [h] at hobj; cases hobj) hselP hmethM habM hkP hkPi (g := g) hg (argsL := argsL) (rest := rest) (hlen _ hsigM) hstack hdg
  rcases hK m meth c ⟨T.setVm vm₁, locs, cells, slots⟩ { g with stack := rest } (.invokevirtual index) mk (Value.ref b :: argsL).toArray X₁ hg hsize hdg hW (X₁.named hnamed) (hpre vm₁ X₁.warmed) with ⟨v, B, X', hpost, hsteps⟩ | ⟨q, B, X', hpost, hsteps⟩
  · exact Or.inl ⟨v, vm₁, B, X₁.warmed, X', hpost, fun target h => hstep₁ _ fun acts => by rw [doInvoke_state]; exact hsteps.trans h⟩
  · exact Or.inr ⟨q, vm₁, B, X₁.warmed, X', hpost, hstep₁ _ fun acts => by rw [doInvoke_state]; exact hsteps⟩
theorem vx_callS (X : Stand p l e R s m args below meth c T locs cells slots) (hexec : p.tables.exec = Jvm.exec) {own : String} {index : Nat} {y : MethodName} {bytes : ByteArray} {maxL : Nat} {ret : Option FieldType}
    (hown : s.vm.findClass own = some m.cls) (hlink : (Cond.methodLink own index y).before args s = true) (hstat : (Cond.static y).before args s = true) (hinit : (Cond.initialized y.cls).before args s = true)
    (hcode : (Cond.code y bytes maxL ret).before args s = true) (hy : y.cls ≠ "java/lang/invoke/MethodHandle" ∧ y.cls ≠ "java/lang/invoke/VarHandle")
    {W9 : Nat} {Pre : Pt → Array Value → Prop} {Post : Pt → Array Value → Option Value → Pt → Prop} {PostX : Pt → Array Value → Addr → Pt → Prop} (hK : vx_Back l R p e below s args y 3 W9 Pre Post PostX)
    {g : JFrame} (hg : g.method = m) (hsize : g.locals.size = c.maxLocals) {argsL rest : List Value} (hlen : ∀ sig, parseMethodDescriptor y.desc = some sig → argsL.length = sig.parameters.length)
    (hstack : g.stack = argsL.reverse ++ rest) (hW : 2 * g.monitorRoom + (rest.map fun v => v.category).sum ≤ W9) (hdg : decode c.code g.pc = .ok (.invokestatic index, 3))
    (hpre : ∀ vm₁, s.WarmedH vm₁ → Pre ⟨T.setVm vm₁, locs, cells, slots⟩ argsL.toArray) :
    (∃ (v : Option Value) (vm₁ : Vm) (B : Pt), s.WarmedH vm₁ ∧ Stand p l e R s m args below meth c B.U B.locs B.cells B.slots ∧ Post ⟨T.setVm vm₁, locs, cells, slots⟩ argsL.toArray v B ∧
      ∀ target, Steps p.tables e below (B.U.setTop { g with pc := g.pc + 3, stack := v.toList ++ rest }) target → Steps p.tables e below (T.setTop g) target) ∨
    (∃ (q : Addr) (vm₁ : Vm) (B : Pt), s.WarmedH vm₁ ∧ Stand p l e R s m args below meth c B.U B.locs B.cells B.slots ∧ PostX ⟨T.setVm vm₁, locs, cells, slots⟩ argsL.toArray q B ∧
      Steps p.tables e below (T.setTop g) ((B.U.setTop { g with stack := rest }).pushFrame (.throwing q))) := by
  obtain ⟨mk, hnamed⟩ := Cond.code_named hcode
  obtain ⟨methM, cM, hmethM, -, -, -, -, -, -, hsigM⟩ := Cond.code_spec hnamed hcode
  have hstatic : methM.isStatic = true := Cond.static_spec hnamed hmethM hstat
  obtain ⟨kP, hkP, -⟩ := className_of_methodNamed hnamed
  have hinitP : kP.init = .initialized := Cond.initialized_spec (findClass_of_methodNamed hnamed) hkP hinit
  obtain ⟨vm₁, X₁, hstep₁⟩ := X.invokestatic hexec hown hlink hnamed hmethM hstatic hkP hinitP hy (g := g) hg (argsL := argsL) (rest := rest) (hlen _ hsigM) hstack hdg
  rcases hK m meth c ⟨T.setVm vm₁, locs, cells, slots⟩ { g with stack := rest } (.invokestatic index) mk argsL.toArray X₁ hg hsize hdg hW (X₁.named hnamed) (hpre vm₁ X₁.warmed) with ⟨v, B, X', hpost, hsteps⟩ | ⟨q, B, X', hpost, hsteps⟩
  · exact Or.inl ⟨v, vm₁, B, X₁.warmed, X', hpost, fun target h => hstep₁ _ fun acts => by rw [doInvoke_state]; exact hsteps.trans h⟩
  · exact Or.inr ⟨q, vm₁, B, X₁.warmed, X', hpost, hstep₁ _ fun acts => by rw [doInvoke_state]; exact hsteps⟩
end Calls
theorem vx_cls {s : State} {T : State} {vm₁ : Vm} {E : String} {k : ClassId} (hW : s.WarmedH vm₁) (h : (T.setVm vm₁).vm.findClass E = some k) : s.vm.findClass E = some k := by
  have h1 : vm₁.findClass E = some k := h
  rw [hW.alike.findClass] at h1
  exact h1
/-- the method's frame g, with q thrown over it -/
def vx_W (p : Program) (l : Launch) (e : Env) (R : Room) (s : State) (m : MethodId) (args : Array Value) (below : List Frame) (meth : Method) (c : Code) (H : Heap) (locs : List Loc) (cells slots : Nat) (Q : State → Prop) (g : JFrame) (q : Addr) : Prop :=
  ∀ T : State, T.heap = H → Stand p l e R s m args below meth c T locs cells slots → ∃ t, Steps p.tables e below ((T.setTop g).pushFrame (.throwing q)) t ∧ Q t
def vx_Run (p : Program) (l : Launch) (e : Env) (R : Room) (s : State) (m : MethodId) (args : Array Value) (below : List Frame) (meth : Method) (c : Code) (H : Heap) (locs : List Loc) (cells slots mc ms : Nat) (g : JFrame) (rest : List Value) (Qa : State → Outcome → State → Prop) (XC : String → State → State → Prop) (free : Addr → Prop) : Prop :=
  ∀ T : State, T.heap = H → Stand p l e R s m args below meth c T locs cells slots →
    (∃ (v : Option Value) (st₀ t T' : State) (L : List Loc), st₀.heap = H ∧ Stand p l e R s m args below meth c T' (locs ++ L) (cells + mc) (slots + ms) ∧ (∀ q ∈ L, free q.base) ∧ T'.heap = t.heap ∧ T'.vm = t.vm ∧ Qa st₀ (.returned v) t ∧
      Goes p e below T g T' { g with pc := g.pc + 3, stack := v.toList ++ rest }) ∨
    (∃ (q : Addr) (st₀ t T' : State) (L : List Loc) (E : String) (ce : Cell), st₀.heap = H ∧ Stand p l e R s m args below meth c T' (locs ++ L) (cells + mc) (slots + ms) ∧ (∀ z ∈ L, free z.base) ∧ T'.heap = t.heap ∧ T'.vm = t.vm ∧ XC E st₀ t ∧ t.heap[q]? = some ce ∧ ce.vm = .none ∧ s.vm.findClass E = some ce.cls ∧
      Steps p.tables e below (T.setTop g) ((T'.setTop { g with stack := rest }).pushFrame (.throwing q)))
def vx_X {S : Type} (px : S → Prop) (B : String → S → State → Prop) (A : Nat → Prop) : String → State → State → Prop := fun E st t => ∃ u : S, px u ∧ B E u t ∧ va_F A st t
section Runs
variable {p : Program} {l : Launch} {e : Env} {R : Room} {s : State} {m : MethodId} {args : Array Value} {below : List Frame} {meth : Method} {c : Code} {H : Heap} {locs : List Loc} {cells slots : Nat}
variable {y : MethodName} {bytes cc : ByteArray} {maxL nL mc ms n index : Nat} {ret : Option FieldType} {ws : List Cond} {rm : Room} {Pc : Array Value → State → Prop} {Qc : Array Value → State → Outcome → State → Prop} {XC : String → State → State → Prop} {free : Addr → Prop} {Ts : List Cond} {own C : String} {b : Addr} {As rest : List Value} {g : JFrame}
theorem vx_callBack (cb : CallB R s args own index y bytes maxL ret ws rm mc ms n) (hM : vx_Met l y ws rm Pc Qc XC mc ms free) (hbl : FrameBlind Pc) : vx_Back l R p e below s args y 3 8 (PreOf R mc ms Pc) (PostOf Qc mc ms free) (vx_Post XC mc ms free) := by
  obtain ⟨hrc, hrs, hfr, hlo, hws, hcw, -, hini, -⟩ := cb
  exact vx_back (bytes := bytes) (maxL := maxL) (ret := ret) hM hbl hrc hrs hfr hlo hws hcw (fun a' U hW => word_at hW (Or.inl (by first | rfl | simp [Cond.onTables, Cond.keeps, Cond.steady])) hini)
theorem vx_runV (S : CallFix p m c cc nL s args Ts own) (hM : vx_Met l y ws rm Pc Qc XC mc ms free) (cw : CallW R s args own C index y bytes maxL ret ws rm mc ms n) (hp : PreV s H C b Pc As)
    (hg : g.method = m) (hn : As.length = n) (hsize : g.locals.size = nL) (hstack : g.stack = As.reverse ++ .ref b :: rest) (hW : 2 * g.monitorRoom + (rest.map fun v => v.category).sum ≤ 8) (hdg : decode cc g.pc = .ok (.invokevirtual index, 3)) (hf : cells + mc ≤ R.cells ∧ slots + ms ≤ R.slots) :
    vx_Run p l e R s m args below meth c H locs cells slots mc ms g rest (Qc (Value.ref b :: As).toArray) XC free := by
  have hK : vx_Back l R p e below s args y 3 8 (PreOf R mc ms Pc) (PostOf Qc mc ms free) (vx_Post XC mc ms free) := vx_callBack cw.1 hM hp.1
  obtain ⟨⟨-, -, -, -, -, -, hcode, -, hy, hlen, hl⟩, hin, hse⟩ := cw
  obtain ⟨hx, hb, hml, ho, -⟩ := S
  obtain ⟨-, ⟨cellB, hcB, hoB, hclB⟩, hPc⟩ := hp
  intro T hT X
  rcases vx_callV X hx (C := C) (bytes := bytes) (maxL := maxL) (ret := ret) ho hl hin hse hcode hy hK (by rw [hT]; exact hcB) hoB hclB hg (hsize.trans hml.symm) (argsL := As) (rest := rest) (fun sig h => hn.trans (hlen sig h)) hstack hW (by rw [hb]; exact hdg)
    (fun vm₁ hW₁ => ⟨hf.1, hf.2, hPc (T.setVm vm₁) hT hW₁⟩) with ⟨v, vm₁, ⟨U', l2, c2, s2⟩, hW₁, X', ⟨g', mk, t, L, e1, e2, hq, h1, hL, h2, h3⟩, st⟩ | ⟨q, vm₁, ⟨U', l2, c2, s2⟩, hW₁, X', ⟨g', mk, t, L, E, ce, e1, e2, hq, hce, hcv, hcl, h1, hL, h2, h3⟩, st⟩
  · dsimp only [Pt.U, Pt.locs, Pt.cells, Pt.slots] at X' e1 e2 h1 h2 h3 st
    subst h1; subst h2; subst h3
    exact Or.inl ⟨v, (T.setVm vm₁).calling g' mk (Value.ref b :: As).toArray, t, U', L, hT, X', hL, e1, e2, hq, st⟩
  · dsimp only [Pt.U, Pt.locs, Pt.cells, Pt.slots] at X' e1 e2 h1 h2 h3 st hcl
    subst h1; subst h2; subst h3
    exact Or.inr ⟨q, (T.setVm vm₁).calling g' mk (Value.ref b :: As).toArray, t, U', L, E, ce, hT, X', hL, e1, e2, hq, hce, hcv, vx_cls hW₁ hcl, st⟩
theorem vx_runS (S : CallFix p m c cc nL s args Ts own) (hM : vx_Met l y ws rm Pc Qc XC mc ms free) (cw : CallB R s args own index y bytes maxL ret ws rm mc ms n ∧ (Cond.static y).before args s = true) (hp : PreS s H Pc As)
    (hg : g.method = m) (hn : As.length = n) (hsize : g.locals.size = nL) (hstack : g.stack = As.reverse ++ rest) (hW : 2 * g.monitorRoom + (rest.map fun v => v.category).sum ≤ 8) (hdg : decode cc g.pc = .ok (.invokestatic index, 3)) (hf : cells + mc ≤ R.cells ∧ slots + ms ≤ R.slots) :
    vx_Run p l e R s m args below meth c H locs cells slots mc ms g rest (Qc As.toArray) XC free := by
  have hK : vx_Back l R p e below s args y 3 8 (PreOf R mc ms Pc) (PostOf Qc mc ms free) (vx_Post XC mc ms free) := vx_callBack cw.1 hM hp.1
  obtain ⟨⟨-, -, -, -, -, -, hcode, hini, hy, hlen, hl⟩, hstt⟩ := cw
  obtain ⟨hx, hb, hml, ho, -⟩ := S
  intro T hT X
  rcases vx_callS X hx (bytes := bytes) (maxL := maxL) (ret := ret) ho hl hstt hini hcode hy hK hg (hsize.trans hml.symm) (argsL := As) (rest := rest) (fun sig h => hn.trans (hlen sig h)) hstack hW (by rw [hb]; exact hdg)
    (fun vm₁ hW₁ => ⟨hf.1, hf.2, hp.2 (T.setVm vm₁) hT hW₁⟩) with ⟨v, vm₁, ⟨U', l2, c2, s2⟩, hW₁, X', ⟨g', mk, t, L, e1, e2, hq, h1, hL, h2, h3⟩, st⟩ | ⟨q, vm₁, ⟨U', l2, c2, s2⟩, hW₁, X', ⟨g', mk, t, L, E, ce, e1, e2, hq, hce, hcv, hcl, h1, hL, h2, h3⟩, st⟩
  · dsimp only [Pt.U, Pt.locs, Pt.cells, Pt.slots] at X' e1 e2 h1 h2 h3 st
    subst h1; subst h2; subst h3
    exact Or.inl ⟨v, (T.setVm vm₁).calling g' mk As.toArray, t, U', L, hT, X', hL, e1, e2, hq, st⟩
  · dsimp only [Pt.U, Pt.locs, Pt.cells, Pt.slots] at X' e1 e2 h1 h2 h3 st hcl
    subst h1; subst h2; subst h3
    exact Or.inr ⟨q, (T.setVm vm₁).calling g' mk As.toArray, t, U', L, E, ce, hT, X', hL, e1, e2, hq, hce, hcv, vx_cls hW₁ hcl, st⟩
end Runs
section Rows
variable {p : Program} {l : Launch} {e : Env} {R : Room} {s : State} {m : MethodId} {args : Array Value} {below : List Frame} {meth : Method} {c : Code} {H : Heap} {locs : List Loc} {cells slots : Nat} {Q : State → Prop}
variable {mc ms : Nat} {free : Addr → Prop} {A0 A1 : Nat → Prop} {H0 : Heap} {a : Array Value} {pc : Nat} {ls : Array Slot} {st0 rest : List Value}
theorem vx_keep {st₀ t T' : State} {L : List Loc} (h0 : st₀.heap = H) (e1 : T'.heap = t.heap) (hS : va_S A0 H0 H locs) (hA : ∀ q, q < H.size → A1 q → A0 q) (hf : ∀ q, free q → A0 q) (hL : ∀ q ∈ L, free q.base) (hF : va_F A1 st₀ t) :
    H.size ≤ T'.heap.size ∧ (∀ q : Nat, q < H.size → ¬ A1 q → T'.heap[q]? = H[q]?) ∧ va_S A0 H0 T'.heap (locs ++ L) := by
  obtain ⟨hz, hk⟩ := hF
  rw [h0] at hz hk
  exact ⟨by rw [e1]; exact hz, fun q h1 h2 => by rw [e1]; exact hk q h1 h2,
    ⟨Nat.le_trans hS.1 (by rw [e1]; exact hz), fun q h1 h2 => by rw [e1, hk q (Nat.lt_of_lt_of_le h1 hS.1) (fun z => h2 (hA q (Nat.lt_of_lt_of_le h1 hS.1) z))]; exact hS.2.1 q h1 h2, fun q hq => by
      rcases List.mem_append.mp hq with h | h
      · exact hS.2.2 q h
      · exact hf _ (hL q h)⟩⟩
theorem vx_calli {S SX : Type} {post : Int32 → S → Prop} {px : SX → Prop} {B : S → State → Prop} {BX : String → SX → State → Prop} {AX : Nat → Prop} (hr : vx_Run p l e R s m args below meth c H locs cells slots mc ms (F0 m pc ls st0) rest (va_Qi post B A1 a) (vx_X px BX AX) free) (hS : va_S A0 H0 H locs) (hA : ∀ q, q < H.size → A1 q → A0 q) (hf : ∀ q, free q → A0 q) (hAX : ∀ q, q < H.size → AX q → A0 q)
    (kx : ∀ (E : String) (ce : Cell) (q9 : Addr) (u : SX) (t : State) (H1 : Heap) (locs1 : List Loc), t.heap = H1 → s.vm.Alike t.vm → px u → BX E u t → H.size ≤ H1.size → (∀ q : Nat, q < H.size → ¬ AX q → H1[q]? = H[q]?) → va_S A0 H0 H1 locs1 → H1[q9]? = some ce → ce.vm = .none → s.vm.findClass E = some ce.cls → vx_W p l e R s m args below meth c H1 locs1 (cells + mc) (slots + ms) Q (F0 m pc ls rest) q9)
    (kk : ∀ (r : Int32) (u : S) (t : State) (H1 : Heap) (locs1 : List Loc), t.heap = H1 → s.vm.Alike t.vm → post r u → B u t → H.size ≤ H1.size → (∀ q : Nat, q < H.size → ¬ A1 q → H1[q]? = H[q]?) → va_S A0 H0 H1 locs1 → W p l e R s m args below meth c H1 locs1 (cells + mc) (slots + ms) Q (F0 m (pc + 3) ls (.int r :: rest))) : W p l e R s m args below meth c H locs cells slots Q (F0 m pc ls st0) := by
  intro T hT X
  rcases hr T hT X with ⟨v, st₀, t, T', L, h0, X', hL, e1, e2, ⟨⟨r, u, hv, hp, hb⟩, hF⟩, st⟩ | ⟨q, st₀, t, T', L, E, ce, h0, X', hL, e1, e2, ⟨u, hp, hb, hF⟩, hce, hcv, hcl, st⟩
  · cases hv
    obtain ⟨k1, k2, k3⟩ := vx_keep h0 e1 hS hA hf hL hF
    obtain ⟨t2, a1, b1⟩ := kk r u t T'.heap (locs ++ L) e1.symm (by rw [← e2]; exact X'.warmed.alike) hp hb k1 k2 k3 T' rfl X'
    exact ⟨t2, st t2 a1, b1⟩
  · obtain ⟨k1, k2, k3⟩ := vx_keep h0 e1 hS hAX hf hL hF
    obtain ⟨t2, a1, b1⟩ := kx E ce q u t T'.heap (locs ++ L) e1.symm (by rw [← e2]; exact X'.warmed.alike) hp hb k1 k2 k3 (by rw [e1]; exact hce) hcv hcl T' rfl X'
    exact ⟨t2, st.trans a1, b1⟩
theorem vx_calll {S SX : Type} {post : Int64 → S → Prop} {px : SX → Prop} {B : S → State → Prop} {BX : String → SX → State → Prop} {AX : Nat → Prop} (hr : vx_Run p l e R s m args below meth c H locs cells slots mc ms (F0 m pc ls st0) rest (va_Ql post B A1 a) (vx_X px BX AX) free) (hS : va_S A0 H0 H locs) (hA : ∀ q, q < H.size → A1 q → A0 q) (hf : ∀ q, free q → A0 q) (hAX : ∀ q, q < H.size → AX q → A0 q)
    (kx : ∀ (E : String) (ce : Cell) (q9 : Addr) (u : SX) (t : State) (H1 : Heap) (locs1 : List Loc), t.heap = H1 → s.vm.Alike t.vm → px u → BX E u t → H.size ≤ H1.size → (∀ q : Nat, q < H.size → ¬ AX q → H1[q]? = H[q]?) → va_S A0 H0 H1 locs1 → H1[q9]? = some ce → ce.vm = .none → s.vm.findClass E = some ce.cls → vx_W p l e R s m args below meth c H1 locs1 (cells + mc) (slots + ms) Q (F0 m pc ls rest) q9)
    (kk : ∀ (r : Int64) (u : S) (t : State) (H1 : Heap) (locs1 : List Loc), t.heap = H1 → s.vm.Alike t.vm → post r u → B u t → H.size ≤ H1.size → (∀ q : Nat, q < H.size → ¬ A1 q → H1[q]? = H[q]?) → va_S A0 H0 H1 locs1 → W p l e R s m args below meth c H1 locs1 (cells + mc) (slots + ms) Q (F0 m (pc + 3) ls (.long r :: rest))) : W p l e R s m args below meth c H locs cells slots Q (F0 m pc ls st0) := by
  intro T hT X
  rcases hr T hT X with ⟨v, st₀, t, T', L, h0, X', hL, e1, e2, ⟨⟨r, u, hv, hp, hb⟩, hF⟩, st⟩ | ⟨q, st₀, t, T', L, E, ce, h0, X', hL, e1, e2, ⟨u, hp, hb, hF⟩, hce, hcv, hcl, st⟩
  · cases hv
    obtain ⟨k1, k2, k3⟩ := vx_keep h0 e1 hS hA hf hL hF
    obtain ⟨t2, a1, b1⟩ := kk r u t T'.heap (locs ++ L) e1.symm (by rw [← e2]; exact X'.warmed.alike) hp hb k1 k2 k3 T' rfl X'
    exact ⟨t2, st t2 a1, b1⟩
  · obtain ⟨k1, k2, k3⟩ := vx_keep h0 e1 hS hAX hf hL hF
    obtain ⟨t2, a1, b1⟩ := kx E ce q u t T'.heap (locs ++ L) e1.symm (by rw [← e2]; exact X'.warmed.alike) hp hb k1 k2 k3 (by rw [e1]; exact hce) hcv hcl T' rfl X'
    exact ⟨t2, st.trans a1, b1⟩
theorem vx_callf {S SX : Type} {post : UInt32 → S → Prop} {px : SX → Prop} {B : S → State → Prop} {BX : String → SX → State → Prop} {AX : Nat → Prop} (hr : vx_Run p l e R s m args below meth c H locs cells slots mc ms (F0 m pc ls st0) rest (va_Qf post B A1 a) (vx_X px BX AX) free) (hS : va_S A0 H0 H locs) (hA : ∀ q, q < H.size → A1 q → A0 q) (hf : ∀ q, free q → A0 q) (hAX : ∀ q, q < H.size → AX q → A0 q)
    (kx : ∀ (E : String) (ce : Cell) (q9 : Addr) (u : SX) (t : State) (H1 : Heap) (locs1 : List Loc), t.heap = H1 → s.vm.Alike t.vm → px u → BX E u t → H.size ≤ H1.size → (∀ q : Nat, q < H.size → ¬ AX q → H1[q]? = H[q]?) → va_S A0 H0 H1 locs1 → H1[q9]? = some ce → ce.vm = .none → s.vm.findClass E = some ce.cls → vx_W p l e R s m args below meth c H1 locs1 (cells + mc) (slots + ms) Q (F0 m pc ls rest) q9)
    (kk : ∀ (r : UInt32) (u : S) (t : State) (H1 : Heap) (locs1 : List Loc), t.heap = H1 → s.vm.Alike t.vm → post r u → B u t → H.size ≤ H1.size → (∀ q : Nat, q < H.size → ¬ A1 q → H1[q]? = H[q]?) → va_S A0 H0 H1 locs1 → W p l e R s m args below meth c H1 locs1 (cells + mc) (slots + ms) Q (F0 m (pc + 3) ls (.float r :: rest))) : W p l e R s m args below meth c H locs cells slots Q (F0 m pc ls st0) := by
  intro T hT X
  rcases hr T hT X with ⟨v, st₀, t, T', L, h0, X', hL, e1, e2, ⟨⟨r, u, hv, hp, hb⟩, hF⟩, st⟩ | ⟨q, st₀, t, T', L, E, ce, h0, X', hL, e1, e2, ⟨u, hp, hb, hF⟩, hce, hcv, hcl, st⟩
  · cases hv
    obtain ⟨k1, k2, k3⟩ := vx_keep h0 e1 hS hA hf hL hF
    obtain ⟨t2, a1, b1⟩ := kk r u t T'.heap (locs ++ L) e1.symm (by rw [← e2]; exact X'.warmed.alike) hp hb k1 k2 k3 T' rfl X'
    exact ⟨t2, st t2 a1, b1⟩
  · obtain ⟨k1, k2, k3⟩ := vx_keep h0 e1 hS hAX hf hL hF
    obtain ⟨t2, a1, b1⟩ := kx E ce q u t T'.heap (locs ++ L) e1.symm (by rw [← e2]; exact X'.warmed.alike) hp hb k1 k2 k3 (by rw [e1]; exact hce) hcv hcl T' rfl X'
    exact ⟨t2, st.trans a1, b1⟩
theorem vx_calld {S SX : Type} {post : UInt64 → S → Prop} {px : SX → Prop} {B : S → State → Prop} {BX : String → SX → State → Prop} {AX : Nat → Prop} (hr : vx_Run p l e R s m args below meth c H locs cells slots mc ms (F0 m pc ls st0) rest (va_Qd post B A1 a) (vx_X px BX AX) free) (hS : va_S A0 H0 H locs) (hA : ∀ q, q < H.size → A1 q → A0 q) (hf : ∀ q, free q → A0 q) (hAX : ∀ q, q < H.size → AX q → A0 q)
    (kx : ∀ (E : String) (ce : Cell) (q9 : Addr) (u : SX) (t : State) (H1 : Heap) (locs1 : List Loc), t.heap = H1 → s.vm.Alike t.vm → px u → BX E u t → H.size ≤ H1.size → (∀ q : Nat, q < H.size → ¬ AX q → H1[q]? = H[q]?) → va_S A0 H0 H1 locs1 → H1[q9]? = some ce → ce.vm = .none → s.vm.findClass E = some ce.cls → vx_W p l e R s m args below meth c H1 locs1 (cells + mc) (slots + ms) Q (F0 m pc ls rest) q9)
    (kk : ∀ (r : UInt64) (u : S) (t : State) (H1 : Heap) (locs1 : List Loc), t.heap = H1 → s.vm.Alike t.vm → post r u → B u t → H.size ≤ H1.size → (∀ q : Nat, q < H.size → ¬ A1 q → H1[q]? = H[q]?) → va_S A0 H0 H1 locs1 → W p l e R s m args below meth c H1 locs1 (cells + mc) (slots + ms) Q (F0 m (pc + 3) ls (.double r :: rest))) : W p l e R s m args below meth c H locs cells slots Q (F0 m pc ls st0) := by
  intro T hT X
  rcases hr T hT X with ⟨v, st₀, t, T', L, h0, X', hL, e1, e2, ⟨⟨r, u, hv, hp, hb⟩, hF⟩, st⟩ | ⟨q, st₀, t, T', L, E, ce, h0, X', hL, e1, e2, ⟨u, hp, hb, hF⟩, hce, hcv, hcl, st⟩
  · cases hv
    obtain ⟨k1, k2, k3⟩ := vx_keep h0 e1 hS hA hf hL hF
    obtain ⟨t2, a1, b1⟩ := kk r u t T'.heap (locs ++ L) e1.symm (by rw [← e2]; exact X'.warmed.alike) hp hb k1 k2 k3 T' rfl X'
    exact ⟨t2, st t2 a1, b1⟩
  · obtain ⟨k1, k2, k3⟩ := vx_keep h0 e1 hS hAX hf hL hF
    obtain ⟨t2, a1, b1⟩ := kx E ce q u t T'.heap (locs ++ L) e1.symm (by rw [← e2]; exact X'.warmed.alike) hp hb k1 k2 k3 (by rw [e1]; exact hce) hcv hcl T' rfl X'
    exact ⟨t2, st.trans a1, b1⟩
theorem vx_callv {S SX : Type} {post : S → Prop} {px : SX → Prop} {B : S → State → Prop} {BX : String → SX → State → Prop} {AX : Nat → Prop} (hr : vx_Run p l e R s m args below meth c H locs cells slots mc ms (F0 m pc ls st0) rest (va_Qv post B A1 a) (vx_X px BX AX) free) (hS : va_S A0 H0 H locs) (hA : ∀ q, q < H.size → A1 q → A0 q) (hf : ∀ q, free q → A0 q) (hAX : ∀ q, q < H.size → AX q → A0 q)
    (kx : ∀ (E : String) (ce : Cell) (q9 : Addr) (u : SX) (t : State) (H1 : Heap) (locs1 : List Loc), t.heap = H1 → s.vm.Alike t.vm → px u → BX E u t → H.size ≤ H1.size → (∀ q : Nat, q < H.size → ¬ AX q → H1[q]? = H[q]?) → va_S A0 H0 H1 locs1 → H1[q9]? = some ce → ce.vm = .none → s.vm.findClass E = some ce.cls → vx_W p l e R s m args below meth c H1 locs1 (cells + mc) (slots + ms) Q (F0 m pc ls rest) q9)
    (kk : ∀ (u : S) (t : State) (H1 : Heap) (locs1 : List Loc), t.heap = H1 → s.vm.Alike t.vm → post u → B u t → H.size ≤ H1.size → (∀ q : Nat, q < H.size → ¬ A1 q → H1[q]? = H[q]?) → va_S A0 H0 H1 locs1 → W p l e R s m args below meth c H1 locs1 (cells + mc) (slots + ms) Q (F0 m (pc + 3) ls (rest))) : W p l e R s m args below meth c H locs cells slots Q (F0 m pc ls st0) := by
  intro T hT X
  rcases hr T hT X with ⟨v, st₀, t, T', L, h0, X', hL, e1, e2, ⟨⟨u, hv, hp, hb⟩, hF⟩, st⟩ | ⟨q, st₀, t, T', L, E, ce, h0, X', hL, e1, e2, ⟨u, hp, hb, hF⟩, hce, hcv, hcl, st⟩
  · cases hv
    obtain ⟨k1, k2, k3⟩ := vx_keep h0 e1 hS hA hf hL hF
    obtain ⟨t2, a1, b1⟩ := kk u t T'.heap (locs ++ L) e1.symm (by rw [← e2]; exact X'.warmed.alike) hp hb k1 k2 k3 T' rfl X'
    exact ⟨t2, st t2 a1, b1⟩
  · obtain ⟨k1, k2, k3⟩ := vx_keep h0 e1 hS hAX hf hL hF
    obtain ⟨t2, a1, b1⟩ := kx E ce q u t T'.heap (locs ++ L) e1.symm (by rw [← e2]; exact X'.warmed.alike) hp hb k1 k2 k3 (by rw [e1]; exact hce) hcv hcl T' rfl X'
    exact ⟨t2, st.trans a1, b1⟩
/-- caught by the row x of this method's table; the rows ahead don't take it -/
theorem vx_catch {own name : String} {E : String} {ce : Cell} {q : Addr} (hown : s.vm.findClass own = some m.cls) (pre : List ExceptionTableEntry) (x : ExceptionTableEntry) (suf : List ExceptionTableEntry) (hsplit : c.exceptionTable.toList = pre ++ x :: suf)
    (hpass : ∀ z ∈ pre, covers z pc = false ∨ (z.catchType ≠ 0 ∧ ∃ nm : String, (Cond.classLink own z.catchType nm).before args s = true ∧ va_Nc E nm s)) (hx : covers x pc = true) (h0 : x.catchType ≠ 0)
    (hlink : (Cond.classLink own x.catchType name).before args s = true) (hcast : (Cond.castable E name).before args s = true) (hcell : H[q]? = some ce) (hv : ce.vm = .none) (hcl : s.vm.findClass E = some ce.cls)
    (kk : W p l e R s m args below meth c H locs cells slots Q (F0 m x.handlerPc ls [.ref q])) : vx_W p l e R s m args below meth c H locs cells slots Q (F0 m pc ls rest) q := by
  intro T hT X
  have hpl : e.platform.magicAccessors = ({} : Platform).magicAccessors := by rw [X.admits.platform]
  obtain ⟨c3, c4, hc3, hc4, hasg⟩ := Cond.castable_spec hcast
  cases Option.some.inj (hc3.symm.trans hcl)
  obtain ⟨c5, hc5, hcl5⟩ := Cond.classLink_spec hown hlink e.platform hpl
  cases Option.some.inj (hc4.symm.trans hc5)
  obtain ⟨vm', X', st⟩ := X.thenCaughtThrough q (g := F0 m pc ls rest) rfl (Steps.refl _) (by rw [hT]; exact hcell) (by rw [hv]; rfl) (by obtain ⟨k9, h9, -⟩ := Vm.findClass_spec hcl; exact ⟨k9, h9⟩) pre x suf hsplit
    (fun z hz => by
      rcases hpass z hz with h | ⟨hz0, nm, hl1, hn1⟩
      · exact Or.inl h
      · obtain ⟨c6, hc6, hcl6⟩ := Cond.classLink_spec hown hl1 e.platform hpl
        obtain ⟨a8, b8, h1, h2, h3⟩ := hn1
        cases Option.some.inj (h1.symm.trans hcl)
        cases Option.some.inj (h2.symm.trans hc6)
        exact Or.inr ⟨hz0, _, hcl6, h3⟩) hx (Or.inr ⟨h0, c4, hcl5, hasg⟩)
  obtain ⟨t, a1, b1⟩ := kk (T.setVm vm') hT X'
  exact ⟨t, st.trans a1, b1⟩
end Rows
section Ends
variable {p : Program} {l : Launch} {e : Env} {R : Room} {s : State} {m : MethodId} {args : Array Value} {below : List Frame} {meth : Method} {c : Code} {H : Heap} {locs : List Loc} {cells slots : Nat} {Q : State → Prop}
variable {mc ms : Nat} {free : Addr → Prop} {A0 A1 : Nat → Prop} {H0 : Heap} {a : Array Value} {ls : Array Slot} {st0 rest : List Value}
variable {Qc : Array Value → State → Outcome → State → Prop} {XC : String → State → State → Prop}
/-- what a body that may throw owes at its end -/
def vx_MQ (below : List Frame) (Qc : Array Value → State → Outcome → State → Prop) (XC : String → State → State → Prop) (a : Array Value) (s : State) (mc ms : Nat) (free : Addr → Prop) : State → Prop := fun t =>
  ∃ o, t.status = .running ∧ Ended t below o ∧ vx_Q Qc XC mc ms free a s o t
theorem vx_ret {g : JFrame} {mc ms : Nat} (k : W p l e R s m args below meth c H locs cells slots (MQ below Qc args s mc ms free) g) : W p l e R s m args below meth c H locs cells slots (vx_MQ below Qc XC args s mc ms free) g := by
  intro T hT X
  obtain ⟨t, a1, o, b1, b2, b3, b4⟩ := k T hT X
  exact ⟨t, a1, o, b1, b2, Or.inl ⟨b3, b4⟩⟩
/-- not caught here: it goes on to the caller -/
theorem vx_widen {g : JFrame} {q : Addr} {k n : Nat} (h1 : cells ≤ k) (h2 : slots ≤ n) (kk : vx_W p l e R s m args below meth c H locs k n Q g q) : vx_W p l e R s m args below meth c H locs cells slots Q g q := fun T hT X => kk T hT (stand_widen X h1 h2)
theorem vx_out {pc : Nat} {E : String} {ce : Cell} {q : Addr} {mc ms : Nat} (hout : ∀ x ∈ c.exceptionTable.toList, covers x pc = false) (hlocks : meth.locks = false) (hcell : H[q]? = some ce) (hv : ce.vm = .none) (hcl : s.vm.findClass E = some ce.cls)
    (hx : ∀ t : State, t.heap = H → s.vm.Alike t.vm → XC E s t) (hf : ∀ z ∈ locs, free z.base) (hc : cells ≤ mc) (hs : slots ≤ ms) :
    vx_W p l e R s m args below meth c H locs cells slots (vx_MQ below Qc XC args s mc ms free) (F0 m pc ls rest) q := by
  intro T hT X
  obtain ⟨st1, hrun, hend, hW, hsm⟩ := X.leaveThrown q (g := F0 m pc ls rest) rfl rfl rfl hout hlocks
  have hcell9 : (T.setFrames (.throwing q :: below)).heap[q]? = some ce := by
    show T.heap[q]? = some ce
    rw [hT]; exact hcell
  exact ⟨_, st1, .threw q, hrun, hend, Or.inr ⟨q, rfl, E, ce, locs, hx _ hT hW.alike, hcell9, hv, hcl, hW, hsm.mono hc hs, hf⟩⟩
theorem vx_frame {U : State} {k n : Nat} (h : s.sameButNew ({ U with vm := s.vm } : State) locs k n) : s.heap.size ≤ U.heap.size ∧ ∀ q : Nat, q < s.heap.size → (∀ z ∈ locs, z.base ≠ q) → U.heap[q]? = s.heap[q]? := by
  obtain ⟨-, h2, -, -, -, h6⟩ := h
  refine ⟨h2, fun q hq hz => ?_⟩
  obtain ⟨c9, e1, e2, e3, e4⟩ := h6 q _ (Array.getElem?_eq_getElem hq)
  have hs : c9.slots = (s.heap[q]).slots := Array.ext_getElem? fun i => e4 i fun hm => hz _ hm rfl
  have h9 : c9 = s.heap[q] := by
    rw [hs] at e2
    exact e2
  have e5 : U.heap[q]? = some c9 := e1
  rw [e5, h9, Array.getElem?_eq_getElem hq]
/-- the words of a throw but the four that speak of the heap -/
def vx_no (w : Cond) : Bool := decide (w ≠ .isRef (.static Bundle.tN "UNASSIGNED_STACK" Bundle.steD)) && decide (w ≠ .isRef (.static Bundle.tN "SUPPRESSED_SENTINEL" Bundle.listD)) && decide (w ≠ .laysStatic Bundle.tN "UNASSIGNED_STACK" Bundle.steD) && decide (w ≠ .laysStatic Bundle.tN "SUPPRESSED_SENTINEL" Bundle.listD)
def vx_at0 (own : String) (ic : Nat) (X : String) (names : List String) : List Cond := (Bundle.ownAtoms0 own ic X names).filter vx_no
def vx_atS (own : String) (ic : Nat) (X : String) (names : List String) : List Cond := (Bundle.ownAtoms own ic X names).filter vx_no
/-- a word that the tables alone decide, or a good one -/
def vx_ot (w : Cond) : Bool := w.onTables || goodWord w
theorem vx_ot_at {args a' : Array Value} {s U : State} {w : Cond} (hW : s.WarmedH U.vm) (hvm : s.vm = U.vm) (hg : vx_ot w = true) (h : w.before args s = true) : w.before a' U = true := by
  simp only [vx_ot, Bool.or_eq_true] at hg
  rcases hg with hg | hg
  · exact va_tabs hg hvm h
  · exact word_at hW (good_of_word hg) h
/-- a list's words: the good ones out of the method's own list, the others by premises of their own -/
theorem vx_hat {args : Array Value} {s : State} {L B : List Cond} (h1 : ∀ w ∈ L.filter goodWord, w.before args s = true) (h2 : ∀ w ∈ L.filter (fun w => !goodWord w), w ∈ B) (h3 : ∀ w ∈ B, w.before args s = true) : ∀ w ∈ L, w.before args s = true := by
  intro w hw
  by_cases g : goodWord w = true
  · exact h1 w (List.mem_filter.mpr ⟨hw, g⟩)
  · refine h3 w (h2 w (List.mem_filter.mpr ⟨hw, ?_⟩))
    show (!goodWord w) = true
    cases hgw : goodWord w
    · rfl
    · exact absurd hgw g
theorem vx_c {args : Array Value} {s : State} {w : Cond} {B : List Cond} (h : w.before args s = true) (t : ∀ w ∈ B, w.before args s = true) : ∀ w' ∈ w :: B, w'.before args s = true := fun w' h' => (List.mem_cons.mp h').elim (fun e => by rw [e]; exact h) (t w')
theorem vx_n {args : Array Value} {s : State} : ∀ w ∈ ([] : List Cond), w.before args s = true := fun _ h => nomatch h
theorem vx_own {args : Array Value} {s : State} {L : List Cond} (h1 : ∀ w ∈ L.filter vx_no, w.before args s = true)
    (hU : (Cond.isRef (.static Bundle.tN "UNASSIGNED_STACK" Bundle.steD)).before args s = true) (hN : (Cond.isRef (.static Bundle.tN "SUPPRESSED_SENTINEL" Bundle.listD)).before args s = true)
    (lU : (Cond.laysStatic Bundle.tN "UNASSIGNED_STACK" Bundle.steD).before args s = true) (lN : (Cond.laysStatic Bundle.tN "SUPPRESSED_SENTINEL" Bundle.listD).before args s = true) : ∀ w ∈ L, w.before args s = true := by
  intro w hw
  by_cases e1 : w = .isRef (.static Bundle.tN "UNASSIGNED_STACK" Bundle.steD)
  · rw [e1]; exact hU
  · by_cases e2 : w = .isRef (.static Bundle.tN "SUPPRESSED_SENTINEL" Bundle.listD)
    · rw [e2]; exact hN
    · by_cases e3 : w = .laysStatic Bundle.tN "UNASSIGNED_STACK" Bundle.steD
      · rw [e3]; exact lU
      · by_cases e4 : w = .laysStatic Bundle.tN "SUPPRESSED_SENTINEL" Bundle.listD
        · rw [e4]; exact lN
        · exact h1 w (List.mem_filter.mpr ⟨hw, by unfold vx_no; rw [decide_eq_true e1, decide_eq_true e2, decide_eq_true e3, decide_eq_true e4]; rfl⟩)
/-- where a static field lies, its class's statics cell in H -/
def vx_L (C n d : String) (A : Nat → Prop) (U : State) (H : Heap) : Prop := ∃ (c : ClassId) (k : Class) (i : Nat) (f : Field) (a : Nat) (cell : Cell), U.vm.findClass C = some c ∧ U.fieldFound? C n d = some (c, k, i, f) ∧ f.isStatic = true ∧ k.statics = some a ∧ H[a]? = some cell ∧ cell.vm.isStatics = true ∧ cell.cls = c ∧ f.slot < cell.slots.size ∧ k.staticTypes[f.slot]? = some f.type ∧ ¬ A a
theorem vx_L.moved {C n d : String} {A : Nat → Prop} {u U : State} {H : Heap} (hvm : u.vm.Alike U.vm) (h : vx_L C n d A u H) : vx_L C n d A U H := by
  obtain ⟨c, k, i, f, a, cell, h1, h2, h3, h4, h5, h6, h7, h8, h9, h10⟩ := h
  obtain ⟨k', hi', he⟩ := State.fieldFound?_setVm hvm h2
  exact ⟨c, k', i, f, a, cell, by rw [hvm.findClass]; exact h1, hi', h3, by rw [he]; exact h4, h5, h6, h7, h8, by rw [he]; exact h9, h10⟩
theorem vx_L.kept {C n d : String} {A : Nat → Prop} {U : State} {H H1 : Heap} (h : vx_L C n d A U H) (hq : ∀ a : Nat, a < H.size → ¬ A a → H1[a]? = H[a]?) : vx_L C n d A U H1 := by
  obtain ⟨c, k, i, f, a, cell, h1, h2, h3, h4, h5, h6, h7, h8, h9, h10⟩ := h
  exact ⟨c, k, i, f, a, cell, h1, h2, h3, h4, by rw [hq a (Array.getElem?_eq_some_iff.mp h5).1 h10]; exact h5, h6, h7, h8, h9, h10⟩
theorem vx_L.narrow {C n d : String} {A B : Nat → Prop} {U : State} {H : Heap} (h : vx_L C n d A U H) (hAB : ∀ q, B q → A q) : vx_L C n d B U H := by
  obtain ⟨c, k, i, f, a, cell, h1, h2, h3, h4, h5, h6, h7, h8, h9, h10⟩ := h
  exact ⟨c, k, i, f, a, cell, h1, h2, h3, h4, h5, h6, h7, h8, h9, fun z => h10 (hAB _ z)⟩
theorem vx_L.word {C n d : String} {A : Nat → Prop} {s : State} {args : Array Value} (h : vx_L C n d A s s.heap) : (Cond.laysStatic C n d).before args s = true := by
  obtain ⟨c, k, i, f, a, cell, h1, h2, h3, h4, h5, h6, h7, h8, h9, -⟩ := h
  show (Cond.laysStatic C n d).holds args s none s [] = true
  exact Cond.laysStatic_of h1 h2 h3 h4 h5 h6 h7 h8 h9
/-- .. and what it holds: null or some reference -/
def vx_Zq (C n d : String) (A : Nat → Prop) (U : State) (H : Heap) : Prop := va_Zq C n d A U H ∧ vx_L C n d A U H
theorem vx_Zq.moved {C n d : String} {A : Nat → Prop} {u U : State} {H : Heap} (hvm : u.vm.Alike U.vm) (h : vx_Zq C n d A u H) : vx_Zq C n d A U H := ⟨va_Zq.moved hvm h.1, vx_L.moved hvm h.2⟩
theorem vx_Zq.kept {C n d : String} {A : Nat → Prop} {U : State} {H H1 : Heap} (h : vx_Zq C n d A U H) (hq : ∀ a : Nat, a < H.size → ¬ A a → H1[a]? = H[a]?) : vx_Zq C n d A U H1 := ⟨va_Zq.kept h.1 hq, vx_L.kept h.2 hq⟩
theorem vx_Zq.narrow {C n d : String} {A B : Nat → Prop} {U : State} {H : Heap} (h : vx_Zq C n d A U H) (hAB : ∀ q, B q → A q) : vx_Zq C n d B U H := ⟨va_Zq.narrow h.1 hAB, vx_L.narrow h.2 hAB⟩
theorem vx_Zqof {args : Array Value} {s : State} {C n d : String} {A : Nat → Prop} (hl : (Cond.laysStatic C n d).before args s = true) (hini : (Cond.initialized C).before args s = true) (h : (Cond.isRef (.static C n d)).before args s = true) (hA : ∀ a : Nat, a < s.heap.size → ¬ A a) : vx_Zq C n d A s s.heap := by
  refine ⟨va_Zqof hl hini h hA, ?_⟩
  obtain ⟨c, k, i, f, a, cell, h1, h2, h3, h4, h5, h6, h7, h8, h9⟩ := Cond.laysStatic_spec hl
  exact ⟨c, k, i, f, a, cell, h1, h2, h3, h4, h5, h6, h7, h8, h9, hA a (Array.getElem?_eq_some_iff.mp h5).1⟩
theorem vx_isRef {C n d : String} {v : Value} {A : Nat → Prop} {s : State} {args : Array Value} (h : va_Z C n d v A s s.heap) (hv : v.isRef = true) : (Cond.isRef (.static C n d)).before args s = true := by
  obtain ⟨cf, kf, fi, f, a, cell, h1, h2, h3, h4, h5, h6, h7, -⟩ := h
  have he : (Term.static C n d).eval args s none [] s = some v := by
    simp [Term.eval, State.fieldNamed?, h1, h2, h4, h5, h6, h7]
  simp only [Cond.before, Cond.holds, Cond.value, he]
  cases v <;> simp_all [Value.isRef]
theorem vx_isRefq {C n d : String} {A : Nat → Prop} {s : State} {args : Array Value} (h : va_Zq C n d A s s.heap) : (Cond.isRef (.static C n d)).before args s = true := by
  rcases h with h | ⟨t, h⟩
  · exact vx_isRef h rfl
  · exact vx_isRef h rfl
/-- the same frame, seen from here: as if the method were called anew in this heap -/
theorem vx_rebase {T : State} (X : Stand p l e R s m args below meth c T locs cells slots) {R' : Room} (hf : R'.frames ≤ R.frames) (hl : R'.locals ≤ R.locals) (hc : cells + R'.cells ≤ R.cells) (hs : slots + R'.slots ≤ R.slots) :
    Stand p l e R' ((T.setVm s.vm).setFrames (.invoking m args :: below)) m args below meth c T [] 0 0 := by
  have htop : (T.setVm s.vm).topJava?.isSome := X.here.top
  have hF : ((T.setVm s.vm).setFrames (.invoking m args :: below)).frames = .invoking m args :: below := State.frames_setFrames _ (State.cur_lt_of_top htop)
  obtain ⟨g₀, hg0⟩ := Option.isSome_iff_exists.mp htop
  obtain ⟨r, hr⟩ := State.topJava?_eq_some.mp hg0
  have hl9 : e.platform.stackLimits (T.setVm s.vm).me = e.platform.stackLimits s.me := X.limits
  have hb9 : (T.setVm s.vm).me.stackBytes = s.me.stackBytes := X.bytes
  refine ⟨X.admits, X.cas, X.clock, hF, ?_, X.hears, X.method, X.code, X.here, X.tail, X.warmed, ?_, ?_, ?_⟩
  · have h := X.room
    have hU : ((T.setVm s.vm).setFrames (.invoking m args :: below)).localsInUse = s.localsInUse := by
      rw [State.localsInUse_invoking hF (meth := meth) (c := c) X.method X.code, State.localsInUse_invoking X.frames X.method X.code]
    simp only [State.hasRoom, Bool.and_eq_true, decide_eq_true_eq] at h ⊢
    obtain ⟨⟨⟨⟨h1, h2, h3, h4, h5, h6⟩, h7⟩, h8⟩, h9⟩ := h
    rw [X.frames, List.length_cons] at h2 h3
    have q1 := X.heapSize
    have q2 := X.used
    simp only [hF, hU, List.length_cons, State.stackLimits_setFrames, State.stackBytes_setFrames, hl9, hb9]
    refine ⟨⟨⟨⟨by omega, by omega, by omega, by omega, by omega, h6⟩, ?_⟩, ?_⟩, X.book⟩
    · show T.heap.size + R'.cells ≤ e.platform.maxCells
      omega
    · show T.slotsUsed + R'.slots ≤ e.platform.maxSlots
      omega
  · rw [State.stackLimits_setFrames]; rfl
  · rw [State.stackBytes_setFrames]; rfl
  · refine ⟨?_, Nat.le_refl _, Nat.le_refl _, ?_, ?_, fun a c9 h9 => ⟨c9, h9, rfl, rfl, fun _ _ => rfl⟩⟩
    · obtain ⟨t, ht, -⟩ := State.frames_cons hr
      show T.setVm s.vm = { ((T.setVm s.vm).setFrames (.invoking m args :: below)).setFrames (T.setVm s.vm).frames with heap := T.heap, slotsUsed := T.slotsUsed }
      rw [State.setFrames_setFrames, State.setFrames_self ht]
      rfl
    · show T.slotsUsed = T.slotsUsed + ((T.heap.toList.drop T.heap.size).map (·.slots.size)).sum
      rw [List.drop_eq_nil_of_le (Nat.le_of_eq Array.length_toList)]
      rfl
    · show ((T.heap.toList.drop T.heap.size).map (·.slots.size)).sum ≤ 0
      rw [List.drop_eq_nil_of_le (Nat.le_of_eq Array.length_toList)]
      exact Nat.le_refl _
/-- 'throw new E()': new; dup; invokespecial; athrow -/
theorem vx_throw0 {cc : ByteArray} {pc : Nat} (hexec : p.tables.exec = Jvm.exec) (hb : c.code = cc) (hl : l.stackTraces = false) {own cls : String} {names : List String} {ik ic mc ms : Nat} {A : Nat → Prop}
    (hown : s.vm.findClass own = some m.cls) (hcls : Bundle.fit cls = true) (hnames : ∀ n ∈ names, Bundle.fit n = true)
    (hk : (Cond.classLink own ik cls).before args s = true) (hini : (Cond.initialized cls).before args s = true) (hat : ∀ w ∈ vx_at0 own ic cls names, w.before args s = true)
    (hgood : ∀ w ∈ Cond.classLink own ik cls :: Cond.initialized cls :: vx_at0 own ic cls names, vx_ot w = true)
    (hU : vx_Zq Bundle.tN "UNASSIGNED_STACK" Bundle.steD A s s.heap) (hN : vx_Zq Bundle.tN "SUPPRESSED_SENTINEL" Bundle.listD A s s.heap) (hS : va_S A s.heap H locs) (hsize : ls.size = c.maxLocals)
    (d0 : decode cc pc = .ok (.new ik, 3)) (d3 : decode cc (pc + 3) = .ok (.dup, 1)) (d4 : decode cc (pc + 4) = .ok (.invokespecial ic, 3)) (d7 : decode cc (pc + 7) = .ok (.athrow, 1))
    (hout : ∀ x ∈ c.exceptionTable.toList, covers x (pc + 7) = false)
    (hRframes : names.length + 3 < R.frames) (hRlocals : (rest.map fun v => v.category).sum + (13 * (names.length + 1) + 42) ≤ R.locals) (hRcells : cells + 1 ≤ R.cells) (hRslots : slots + 6 ≤ R.slots) (hlocks : meth.locks = false)
    (hx : ∀ t : State, s.vm.Alike t.vm → H.size ≤ t.heap.size → (∀ q : Nat, q < H.size → t.heap[q]? = H[q]?) → XC cls s t)
    (hf : ∀ z ∈ locs, free z.base) (hc : cells + 1 ≤ mc) (hs : slots + 6 ≤ ms) :
    W p l e R s m args below meth c H locs cells slots (vx_MQ below Qc XC args s mc ms free) (F0 m pc ls rest) := by
  intro T hT X
  have htr : e.platform.stackTraces = false := (show e.platform.stackTraces = l.stackTraces by rw [X.admits.platform]).trans hl
  have Y := vx_rebase X (R' := { frames := R.frames, locals := R.locals, cells := 1, slots := 6 }) (Nat.le_refl _) (Nat.le_refl _) hRcells hRslots
  obtain ⟨s', hA⟩ : ∃ z, z = (T.setVm s.vm).setFrames (.invoking m args :: below) := ⟨_, rfl⟩
  rw [← hA] at Y
  have hvm : s'.vm = s.vm := by rw [hA]; rfl
  have hhp : s'.heap = H := by rw [hA]; exact hT
  have hW0 : s.WarmedH s'.vm := by rw [hvm]; exact State.WarmedH.refl s
  have hat' : ∀ w ∈ vx_at0 own ic cls names, w.before args s' = true := fun w hw => vx_ot_at hW0 hvm.symm (hgood w (List.mem_cons_of_mem _ (List.mem_cons_of_mem _ hw))) (hat w hw)
  have hk' : (Cond.classLink own ik cls).before args s' = true := vx_ot_at hW0 hvm.symm (hgood _ List.mem_cons_self) hk
  have hini' : (Cond.initialized cls).before args s' = true := vx_ot_at hW0 hvm.symm (hgood _ (List.mem_cons_of_mem _ List.mem_cons_self)) hini
  have hU' : vx_Zq Bundle.tN "UNASSIGNED_STACK" Bundle.steD A s' s'.heap := by rw [hhp]; exact vx_Zq.moved hW0.alike (hU.kept hS.2.1)
  have hN' : vx_Zq Bundle.tN "SUPPRESSED_SENTINEL" Bundle.listD A s' s'.heap := by rw [hhp]; exact vx_Zq.moved hW0.alike (hN.kept hS.2.1)
  have h : ∀ w ∈ Bundle.ownAtoms0 own ic cls names, w.before args s' = true := vx_own hat' (vx_isRefq hU'.1) (vx_isRefq hN'.1) hU'.2.word hN'.2.word
  have hown' : s'.vm.findClass own = some m.cls := by rw [hvm]; exact hown
  have hins : (Cond.instantiable cls 6).before args s' = true := h _ (by simp [Bundle.ownAtoms0])
  obtain ⟨vm₁, cX, kX, hfX, hkX, -, -, X₁, st1⟩ := Y.newCold hexec (own := own) (C := cls) (index := ik) (n := 6) hown' hk' hins hini'
    (g := F0 m pc ls rest) rfl (by rw [hb]; exact d0) (Nat.le_refl _) (Nat.le_refl _)
  generalize hT1 : (T.setVm vm₁).pushCell { cls := cX, slots := kX.instanceTypes.map defaultValue, vm := .none } = T1 at X₁ st1
  have hcat : (Value.ref T.heap.size).category = 1 := rfl
  have hcellA : T1.heap[T.heap.size]? = some (freshCell cX kX) := by rw [← hT1]; exact State.heap_pushCell_size _ _
  have d3' : decode c.code (pc + 3) = .ok (.dup, 1) := by rw [hb]; exact d3
  obtain ⟨U, hsteps, hrun, hend, hW, hsame, ce, hce, hO⟩ := X₁.ctorThrow0 hexec htr (own := own) (cls := cls) (names := names) (ic := ic) hown' hcls hnames h (fun x hx => nomatch hx) hfX hkX hcellA (by rw [hhp, hT]; exact Nat.le_refl _)
    (g := { method := m, pc := pc + 4, locals := ls, stack := .ref T.heap.size :: .ref T.heap.size :: rest, locked := none }) rfl hsize rfl rfl (rest := rest) rfl
    (by rw [hb]; exact d4) (by rw [hb]; exact d7) hout hRframes (by simp only [List.map_cons, List.sum_cons, hcat]; omega) hlocks
  obtain ⟨f1, f2⟩ := vx_frame hsame
  rw [hhp] at f1 f2
  have hWs : s.WarmedH U.vm := State.WarmedH.trans hW0 hW
  have hcl : s.vm.findClass cls = some ce.cls := by
    have h9 := hO.cls
    rw [hvm] at h9
    exact h9
  have hall : s.sameButNew ({ U with vm := s.vm } : State) locs mc ms := by
    subst hA
    obtain ⟨e1, e2⟩ := hsame
    rw [State.setFrames_setFrames] at e1
    have h2 : (T.setVm s.vm).sameButNew ({ U with vm := s.vm } : State) [] (0 + 1) (0 + 6) := ⟨e1, e2⟩
    have h3 := X.same.trans h2
    rw [List.append_nil] at h3
    exact h3.mono hc hs
  refine ⟨U, ?_, .threw T.heap.size, hrun, hend, Or.inr ⟨T.heap.size, rfl, cls, ce, locs, hx U hWs.alike f1 (fun q hq => f2 q hq (fun z hz => nomatch hz)), hce, hO.vm, hcl, hWs, hall, hf⟩⟩
  refine st1 _ ?_
  show Steps p.tables e below (T1.setTop { method := m, pc := pc + 3, locals := ls, stack := .ref T.heap.size :: rest, locked := none }) _
  jvm_step X₁.here [X₁.here.top, hexec, d3', Value.category]
  exact hsteps
/-- 'throw new E("text")': new; dup; ldc; invokespecial; athrow -/
theorem vx_throwS {cc : ByteArray} {pc : Nat} (hexec : p.tables.exec = Jvm.exec) (hb : c.code = cc) (hl : l.stackTraces = false) {own cls text : String} {names : List String} {ik is ic mc ms sa : Nat} {A : Nat → Prop}
    (hown : s.vm.findClass own = some m.cls) (hcls : Bundle.fit cls = true) (hnames : ∀ n ∈ names, Bundle.fit n = true)
    (hk : (Cond.classLink own ik cls).before args s = true) (hini : (Cond.initialized cls).before args s = true) (hstr : vk_R own is text sa s) (hat : ∀ w ∈ vx_atS own ic cls names, w.before args s = true)
    (hgood : ∀ w ∈ Cond.classLink own ik cls :: Cond.initialized cls :: vx_atS own ic cls names, vx_ot w = true)
    (hU : vx_Zq Bundle.tN "UNASSIGNED_STACK" Bundle.steD A s s.heap) (hN : vx_Zq Bundle.tN "SUPPRESSED_SENTINEL" Bundle.listD A s s.heap) (hS : va_S A s.heap H locs) (hsize : ls.size = c.maxLocals)
    (d0 : decode cc pc = .ok (.new ik, 3)) (d3 : decode cc (pc + 3) = .ok (.dup, 1)) (d4 : decode cc (pc + 4) = .ok (.ldc is, 2)) (d6 : decode cc (pc + 6) = .ok (.invokespecial ic, 3)) (d9 : decode cc (pc + 9) = .ok (.athrow, 1))
    (hout : ∀ x ∈ c.exceptionTable.toList, covers x (pc + 9) = false)
    (hRframes : names.length + 3 < R.frames) (hRlocals : (rest.map fun v => v.category).sum + (13 * (names.length + 1) + 43) ≤ R.locals) (hRcells : cells + 1 ≤ R.cells) (hRslots : slots + 6 ≤ R.slots) (hlocks : meth.locks = false)
    (hx : ∀ t : State, s.vm.Alike t.vm → H.size ≤ t.heap.size → (∀ q : Nat, q < H.size → t.heap[q]? = H[q]?) → XC cls s t)
    (hf : ∀ z ∈ locs, free z.base) (hc : cells + 1 ≤ mc) (hs : slots + 6 ≤ ms) :
    W p l e R s m args below meth c H locs cells slots (vx_MQ below Qc XC args s mc ms free) (F0 m pc ls rest) := by
  intro T hT X
  have htr : e.platform.stackTraces = false := (show e.platform.stackTraces = l.stackTraces by rw [X.admits.platform]).trans hl
  have Y := vx_rebase X (R' := { frames := R.frames, locals := R.locals, cells := 1, slots := 6 }) (Nat.le_refl _) (Nat.le_refl _) hRcells hRslots
  obtain ⟨s', hA⟩ : ∃ z, z = (T.setVm s.vm).setFrames (.invoking m args :: below) := ⟨_, rfl⟩
  rw [← hA] at Y
  have hvm : s'.vm = s.vm := by rw [hA]; rfl
  have hhp : s'.heap = H := by rw [hA]; exact hT
  have hW0 : s.WarmedH s'.vm := by rw [hvm]; exact State.WarmedH.refl s
  have hat' : ∀ w ∈ vx_atS own ic cls names, w.before args s' = true := fun w hw => vx_ot_at hW0 hvm.symm (hgood w (List.mem_cons_of_mem _ (List.mem_cons_of_mem _ hw))) (hat w hw)
  have hk' : (Cond.classLink own ik cls).before args s' = true := vx_ot_at hW0 hvm.symm (hgood _ List.mem_cons_self) hk
  have hini' : (Cond.initialized cls).before args s' = true := vx_ot_at hW0 hvm.symm (hgood _ (List.mem_cons_of_mem _ List.mem_cons_self)) hini
  have hU' : vx_Zq Bundle.tN "UNASSIGNED_STACK" Bundle.steD A s' s'.heap := by rw [hhp]; exact vx_Zq.moved hW0.alike (hU.kept hS.2.1)
  have hN' : vx_Zq Bundle.tN "SUPPRESSED_SENTINEL" Bundle.listD A s' s'.heap := by rw [hhp]; exact vx_Zq.moved hW0.alike (hN.kept hS.2.1)
  have h : ∀ w ∈ Bundle.ownAtoms own ic cls names, w.before args s' = true := vx_own hat' (vx_isRefq hU'.1) (vx_isRefq hN'.1) hU'.2.word hN'.2.word
  have hown' : s'.vm.findClass own = some m.cls := by rw [hvm]; exact hown
  have hins : (Cond.instantiable cls 6).before args s' = true := h _ (by simp [Bundle.ownAtoms])
  obtain ⟨vm₁, cX, kX, hfX, hkX, -, -, X₁, st1⟩ := Y.newCold hexec (own := own) (C := cls) (index := ik) (n := 6) hown' hk' hins hini'
    (g := F0 m pc ls rest) rfl (by rw [hb]; exact d0) (Nat.le_refl _) (Nat.le_refl _)
  generalize hT1 : (T.setVm vm₁).pushCell { cls := cX, slots := kX.instanceTypes.map defaultValue, vm := .none } = T1 at X₁ st1
  have hcat : (Value.ref T.heap.size).category = 1 := rfl
  have hcellA : T1.heap[T.heap.size]? = some (freshCell cX kX) := by rw [← hT1]; exact State.heap_pushCell_size _ _
  have d3' : decode c.code (pc + 3) = .ok (.dup, 1) := by rw [hb]; exact d3
  have d4' : decode c.code (pc + 4) = .ok (.ldc is, 2) := by rw [hb]; exact d4
  have hstr' : vk_R own is text sa s' := vk_R.warm hW0 hstr
  obtain ⟨U, hsteps, hrun, hend, hW, hsame, ce, hce, hO⟩ := X₁.ctorThrowS hexec htr (own := own) (cls := cls) (names := names) (ic := ic) hown' hcls hnames h (fun x hx => nomatch hx) hfX hkX hcellA (by rw [hhp, hT]; exact Nat.le_refl _) (msg := .ref sa) rfl
    (g := { method := m, pc := pc + 6, locals := ls, stack := .ref sa :: .ref T.heap.size :: .ref T.heap.size :: rest, locked := none }) rfl hsize rfl rfl (rest := rest) rfl
    (by rw [hb]; exact d6) (by rw [hb]; exact d9) hout hRframes (by simp only [List.map_cons, List.sum_cons, hcat]; omega) hlocks
  obtain ⟨f1, f2⟩ := vx_frame hsame
  rw [hhp] at f1 f2
  have hWs : s.WarmedH U.vm := State.WarmedH.trans hW0 hW
  have hcl : s.vm.findClass cls = some ce.cls := by
    have h9 := hO.cls
    rw [hvm] at h9
    exact h9
  have hall : s.sameButNew ({ U with vm := s.vm } : State) locs mc ms := by
    subst hA
    obtain ⟨e1, e2⟩ := hsame
    rw [State.setFrames_setFrames] at e1
    have h2 : (T.setVm s.vm).sameButNew ({ U with vm := s.vm } : State) [] (0 + 1) (0 + 6) := ⟨e1, e2⟩
    have h3 := X.same.trans h2
    rw [List.append_nil] at h3
    exact h3.mono hc hs
  refine ⟨U, ?_, .threw T.heap.size, hrun, hend, Or.inr ⟨T.heap.size, rfl, cls, ce, locs, hx U hWs.alike f1 (fun q hq => f2 q hq (fun z hz => nomatch hz)), hce, hO.vm, hcl, hWs, hall, hf⟩⟩
  refine st1 _ ?_
  show Steps p.tables e below (T1.setTop { method := m, pc := pc + 3, locals := ls, stack := .ref T.heap.size :: rest, locked := none }) _
  jvm_step X₁.here [X₁.here.top, hexec, d3', Value.category]
  exact X₁.ldcString hexec (own := own) (text := text) (index := is) (a := sa) hown' hstr'.1 hstr'.2
    (g := { method := m, pc := pc + 4, locals := ls, stack := .ref T.heap.size :: .ref T.heap.size :: rest, locked := none }) rfl d4' _ hsteps
/-- 'throw new E("text")', the text by a wide index -/
theorem vx_throwSW {cc : ByteArray} {pc : Nat} (hexec : p.tables.exec = Jvm.exec) (hb : c.code = cc) (hl : l.stackTraces = false) {own cls text : String} {names : List String} {ik is ic mc ms sa : Nat} {A : Nat → Prop}
    (hown : s.vm.findClass own = some m.cls) (hcls : Bundle.fit cls = true) (hnames : ∀ n ∈ names, Bundle.fit n = true)
    (hk : (Cond.classLink own ik cls).before args s = true) (hini : (Cond.initialized cls).before args s = true) (hstr : vk_R own is text sa s) (hat : ∀ w ∈ vx_atS own ic cls names, w.before args s = true)
    (hgood : ∀ w ∈ Cond.classLink own ik cls :: Cond.initialized cls :: vx_atS own ic cls names, vx_ot w = true)
    (hU : vx_Zq Bundle.tN "UNASSIGNED_STACK" Bundle.steD A s s.heap) (hN : vx_Zq Bundle.tN "SUPPRESSED_SENTINEL" Bundle.listD A s s.heap) (hS : va_S A s.heap H locs) (hsize : ls.size = c.maxLocals)
    (d0 : decode cc pc = .ok (.new ik, 3)) (d3 : decode cc (pc + 3) = .ok (.dup, 1)) (d4 : decode cc (pc + 4) = .ok (.ldc_w is, 3)) (d7 : decode cc (pc + 7) = .ok (.invokespecial ic, 3)) (d10 : decode cc (pc + 10) = .ok (.athrow, 1))
    (hout : ∀ x ∈ c.exceptionTable.toList, covers x (pc + 10) = false)
    (hRframes : names.length + 3 < R.frames) (hRlocals : (rest.map fun v => v.category).sum + (13 * (names.length + 1) + 43) ≤ R.locals) (hRcells : cells + 1 ≤ R.cells) (hRslots : slots + 6 ≤ R.slots) (hlocks : meth.locks = false)
    (hx : ∀ t : State, s.vm.Alike t.vm → H.size ≤ t.heap.size → (∀ q : Nat, q < H.size → t.heap[q]? = H[q]?) → XC cls s t)
    (hf : ∀ z ∈ locs, free z.base) (hc : cells + 1 ≤ mc) (hs : slots + 6 ≤ ms) :
    W p l e R s m args below meth c H locs cells slots (vx_MQ below Qc XC args s mc ms free) (F0 m pc ls rest) := by
  intro T hT X
  have htr : e.platform.stackTraces = false := (show e.platform.stackTraces = l.stackTraces by rw [X.admits.platform]).trans hl
  have Y := vx_rebase X (R' := { frames := R.frames, locals := R.locals, cells := 1, slots := 6 }) (Nat.le_refl _) (Nat.le_refl _) hRcells hRslots
  obtain ⟨s', hA⟩ : ∃ z, z = (T.setVm s.vm).setFrames (.invoking m args :: below) := ⟨_, rfl⟩
  rw [← hA] at Y
  have hvm : s'.vm = s.vm := by rw [hA]; rfl
  have hhp : s'.heap = H := by rw [hA]; exact hT
  have hW0 : s.WarmedH s'.vm := by rw [hvm]; exact State.WarmedH.refl s
  have hat' : ∀ w ∈ vx_atS own ic cls names, w.before args s' = true := fun w hw => vx_ot_at hW0 hvm.symm (hgood w (List.mem_cons_of_mem _ (List.mem_cons_of_mem _ hw))) (hat w hw)
  have hk' : (Cond.classLink own ik cls).before args s' = true := vx_ot_at hW0 hvm.symm (hgood _ List.mem_cons_self) hk
  have hini' : (Cond.initialized cls).before args s' = true := vx_ot_at hW0 hvm.symm (hgood _ (List.mem_cons_of_mem _ List.mem_cons_self)) hini
  have hU' : vx_Zq Bundle.tN "UNASSIGNED_STACK" Bundle.steD A s' s'.heap := by rw [hhp]; exact vx_Zq.moved hW0.alike (hU.kept hS.2.1)
  have hN' : vx_Zq Bundle.tN "SUPPRESSED_SENTINEL" Bundle.listD A s' s'.heap := by rw [hhp]; exact vx_Zq.moved hW0.alike (hN.kept hS.2.1)
  have h : ∀ w ∈ Bundle.ownAtoms own ic cls names, w.before args s' = true := vx_own hat' (vx_isRefq hU'.1) (vx_isRefq hN'.1) hU'.2.word hN'.2.word
  have hown' : s'.vm.findClass own = some m.cls := by rw [hvm]; exact hown
  have hins : (Cond.instantiable cls 6).before args s' = true := h _ (by simp [Bundle.ownAtoms])
  obtain ⟨vm₁, cX, kX, hfX, hkX, -, -, X₁, st1⟩ := Y.newCold hexec (own := own) (C := cls) (index := ik) (n := 6) hown' hk' hins hini'
    (g := F0 m pc ls rest) rfl (by rw [hb]; exact d0) (Nat.le_refl _) (Nat.le_refl _)
  generalize hT1 : (T.setVm vm₁).pushCell { cls := cX, slots := kX.instanceTypes.map defaultValue, vm := .none } = T1 at X₁ st1
  have hcat : (Value.ref T.heap.size).category = 1 := rfl
  have hcellA : T1.heap[T.heap.size]? = some (freshCell cX kX) := by rw [← hT1]; exact State.heap_pushCell_size _ _
  have d3' : decode c.code (pc + 3) = .ok (.dup, 1) := by rw [hb]; exact d3
  have d4' : decode c.code (pc + 4) = .ok (.ldc_w is, 3) := by rw [hb]; exact d4
  have hstr' : vk_R own is text sa s' := vk_R.warm hW0 hstr
  obtain ⟨U, hsteps, hrun, hend, hW, hsame, ce, hce, hO⟩ := X₁.ctorThrowS hexec htr (own := own) (cls := cls) (names := names) (ic := ic) hown' hcls hnames h (fun x hx => nomatch hx) hfX hkX hcellA (by rw [hhp, hT]; exact Nat.le_refl _) (msg := .ref sa) rfl
    (g := { method := m, pc := pc + 7, locals := ls, stack := .ref sa :: .ref T.heap.size :: .ref T.heap.size :: rest, locked := none }) rfl hsize rfl rfl (rest := rest) rfl
    (by rw [hb]; exact d7) (by rw [hb]; exact d10) hout hRframes (by simp only [List.map_cons, List.sum_cons, hcat]; omega) hlocks
  obtain ⟨f1, f2⟩ := vx_frame hsame
  rw [hhp] at f1 f2
  have hWs : s.WarmedH U.vm := State.WarmedH.trans hW0 hW
  have hcl : s.vm.findClass cls = some ce.cls := by
    have h9 := hO.cls
    rw [hvm] at h9
    exact h9
  have hall : s.sameButNew ({ U with vm := s.vm } : State) locs mc ms := by
    subst hA
    obtain ⟨e1, e2⟩ := hsame
    rw [State.setFrames_setFrames] at e1
    have h2 : (T.setVm s.vm).sameButNew ({ U with vm := s.vm } : State) [] (0 + 1) (0 + 6) := ⟨e1, e2⟩
    have h3 := X.same.trans h2
    rw [List.append_nil] at h3
    exact h3.mono hc hs
  refine ⟨U, ?_, .threw T.heap.size, hrun, hend, Or.inr ⟨T.heap.size, rfl, cls, ce, locs, hx U hWs.alike f1 (fun q hq => f2 q hq (fun z hz => nomatch hz)), hce, hO.vm, hcl, hWs, hall, hf⟩⟩
  refine st1 _ ?_
  show Steps p.tables e below (T1.setTop { method := m, pc := pc + 3, locals := ls, stack := .ref T.heap.size :: rest, locked := none }) _
  jvm_step X₁.here [X₁.here.top, hexec, d3', Value.category]
  exact X₁.ldcStringW hexec (own := own) (text := text) (index := is) (a := sa) hown' hstr'.1 hstr'.2
    (g := { method := m, pc := pc + 4, locals := ls, stack := .ref T.heap.size :: .ref T.heap.size :: rest, locked := none }) rfl d4' _ hsteps
end Ends
section Bodies
variable {l : Launch}
theorem vx_ofW {y : MethodName} {ws ws' : List Cond} {rm : Room} {Pc : Array Value → State → Prop} {Qc : Array Value → State → Outcome → State → Prop} {XC : String → State → State → Prop} {mc ms : Nat} {free : Addr → Prop} {cc : ByteArray} {maxL : Nat} {ret : Option FieldType}
    (hy : plainName y.cls = true) (hw : ws = Cond.code y cc maxL ret :: ws')
    (body : ∀ p e s m args below meth c s₁, BodyLoose p l y (headSpec ws rm) cc maxL ret e s m args below meth c s₁ → c.maxLocals = maxL → (∀ x ∈ c.exceptionTable.toList, False) → Pc args s →
      W p l e (headSpec ws rm).room s m args below meth c s.heap [] 0 0 (vx_MQ below Qc XC args s mc ms free) (entryFrame m args maxL)) : vx_Met l y ws rm Pc Qc XC mc ms free := by
  refine MetFree.of_bodyS (code := cc) (maxLocals := maxL) (ret := ret) hy ?_ ?_
  · intro args s m h hn
    obtain ⟨meth, c, h1, h2, h3, h4, h5, h6, -, -⟩ := Cond.code_spec hn (atoms_spec (ws := ws) h _ (by rw [hw]; exact List.mem_cons_self))
    exact ⟨meth, c, h1, h2, h3, h4, h5, h6⟩
  · intro p e s m args below meth c s₁ B hml hP _
    have hh0 : s₁.heap = s.heap := by rw [B.state]; rfl
    have ht : ∀ x ∈ c.exceptionTable.toList, False := by
      obtain ⟨meth9, c9, h1, h2, -, -, -, -, h7, -⟩ := Cond.code_spec B.named (atoms_spec (ws := ws) B.pre _ (by rw [hw]; exact List.mem_cons_self))
      cases Option.some.inj (h1.symm.trans B.method)
      cases Option.some.inj (h2.symm.trans (Stand.of_body B).code)
      intro x hx
      rw [Array.isEmpty_iff.mp h7] at hx
      cases hx
    obtain ⟨t, a1, o, b1, b2, b3⟩ := body p e s m args below meth c s₁ B hml ht hP s₁ hh0 (Stand.of_body B)
    exact ⟨t, o, a1, b1, b2, b3⟩
/-- the table of a body with handlers -/
theorem vx_table {p : Program} {x y : MethodName} {S : Spec} {cc bytes : ByteArray} {maxL maxL' : Nat} {ret ret' : Option FieldType} {e : Env} {s s₁ : State} {m : MethodId} {args : Array Value} {below : List Frame} {meth : Method} {c : Code} {hh : List (Nat × Nat × Nat × Nat)}
    (B : BodyLoose p l y S cc maxL ret e s m args below meth c s₁) (h : (Cond.codeWith y bytes maxL' ret' hh).before args s = true) : c.exceptionTable.toList = tableOf hh := by
  obtain ⟨m9, meth9, c9, hn9, h1, h2, -, -, h6, -⟩ := Cond.codeWith_spec h
  cases Option.some.inj (hn9.symm.trans B.named)
  cases Option.some.inj (h1.symm.trans B.method)
  cases Option.some.inj (h2.symm.trans (Stand.of_body B).code)
  rw [← h6, table_eq]
end Bodies
end VXA
/-! ===== END ===== -/
/-! ===== BEGIN a static call of a method with an exception table ===== -/
section VXS
variable {p : Program} {l : Launch} {e : Env} {R : Room} {s : State} {m : MethodId} {args : Array Value} {below : List Frame} {meth : Method} {c : Code} {T : State} {H : Heap} {locs : List Loc} {cells slots : Nat}
abbrev vx_CSW (R : Room) (s : State) (args : Array Value) (own : String) (index : Nat) (y : MethodName) (bytes : ByteArray) (maxL : Nat) (ret : Option FieldType) (hh : List (Nat × Nat × Nat × Nat)) (ws : List Cond) (rm : Room) (mc ms n : Nat) : Prop :=
  (rm.cells = mc ∧ rm.slots = ms ∧ rm.frames + 1 ≤ R.frames ∧ 8 + (maxL + 11) + rm.locals ≤ R.locals ∧ (∀ w ∈ ws, ∀ (a' : Array Value) (U : State), s.WarmedH U.vm → w.before a' U = true) ∧ Cond.codeWith y bytes maxL ret hh ∈ ws) ∧
  (Cond.codeWith y bytes maxL ret hh).before args s = true ∧ (Cond.initialized y.cls).before args s = true ∧ (y.cls ≠ "java/lang/invoke/MethodHandle" ∧ y.cls ≠ "java/lang/invoke/VarHandle") ∧
  (∀ sig, parseMethodDescriptor y.desc = some sig → n = sig.parameters.length) ∧ (Cond.methodLink own index y).before args s = true ∧ (Cond.static y).before args s = true
theorem vx_cwSW {own : String} {index maxL mc ms : Nat} {y : MethodName} {bytes : ByteArray} {ret : Option FieldType} {hh : List (Nat × Nat × Nat × Nat)} {Ts ws ws' : List Cond} {rm : Room} (n : Nat) (ht : ∀ w ∈ Ts, w.before args s = true) (hT : GoodIn Ts (va_wsS own index y ws)) (hw : ws = Cond.codeWith y bytes maxL ret hh :: ws') (hrc : rm.cells = mc) (hrs : rm.slots = ms)
    (hd : y.cls ≠ "java/lang/invoke/MethodHandle" ∧ y.cls ≠ "java/lang/invoke/VarHandle" ∧ (parseMethodDescriptor y.desc).map (fun d => d.parameters.length) = some n) (hR : rm.frames + 1 ≤ R.frames ∧ 8 + (maxL + 11) + rm.locals ≤ R.locals) :
    vx_CSW R s args own index y bytes maxL ret hh ws rm mc ms n := by
  have ok : ∀ w ∈ va_wsS own index y ws, w.before args s = true := fun w h => ht w (hT w h).1
  have hG : GoodIn Ts ws := fun w h => hT w (by unfold va_wsS; exact List.mem_append_right _ h)
  have hc : Cond.codeWith y bytes maxL ret hh ∈ ws := by rw [hw]; exact List.mem_cons_self
  refine ⟨⟨hrc, hrs, hR.1, hR.2, pay_in ht hG, hc⟩, ht _ (hG _ hc).1, ok _ (by simp [va_wsS]), ⟨hd.1, hd.2.1⟩, fun sig h => ?_, ok _ (by simp [va_wsS]), ok _ (by simp [va_wsS])⟩
  have h2 := hd.2.2
  rw [h] at h2
  exact (Option.some.inj h2).symm
theorem vx_callSW (X : Stand p l e R s m args below meth c T locs cells slots) (hexec : p.tables.exec = Jvm.exec) {own : String} {index : Nat} {y : MethodName} {bytes : ByteArray} {maxL : Nat} {ret : Option FieldType} {hh : List (Nat × Nat × Nat × Nat)}
    (hown : s.vm.findClass own = some m.cls) (hlink : (Cond.methodLink own index y).before args s = true) (hstat : (Cond.static y).before args s = true) (hinit : (Cond.initialized y.cls).before args s = true)
    (hcode : (Cond.codeWith y bytes maxL ret hh).before args s = true) (hy : y.cls ≠ "java/lang/invoke/MethodHandle" ∧ y.cls ≠ "java/lang/invoke/VarHandle")
    {W9 : Nat} {Pre : Pt → Array Value → Prop} {Post : Pt → Array Value → Option Value → Pt → Prop} (hK : Back l R p e below s args y 3 W9 Pre Post)
    {g : JFrame} (hg : g.method = m) (hsize : g.locals.size = c.maxLocals) {argsL rest : List Value} (hlen : ∀ sig, parseMethodDescriptor y.desc = some sig → argsL.length = sig.parameters.length)
    (hstack : g.stack = argsL.reverse ++ rest) (hW : 2 * g.monitorRoom + (rest.map fun v => v.category).sum ≤ W9) (hdg : decode c.code g.pc = .ok (.invokestatic index, 3))
    (hpre : ∀ vm₁, s.WarmedH vm₁ → Pre ⟨T.setVm vm₁, locs, cells, slots⟩ argsL.toArray) :
    ∃ (v : Option Value) (vm₁ : Vm) (B : Pt), s.WarmedH vm₁ ∧ Stand p l e R s m args below meth c B.U B.locs B.cells B.slots ∧ Post ⟨T.setVm vm₁, locs, cells, slots⟩ argsL.toArray v B ∧
      ∀ target, Steps p.tables e below (B.U.setTop { g with pc := g.pc + 3, stack := v.toList ++ rest }) target → Steps p.tables e below (T.setTop g) target := by
  obtain ⟨mk, methM, cM, hnamed, hmethM, -, -, -, -, -, -, hsigM⟩ := Cond.codeWith_spec hcode
  have hstatic : methM.isStatic = true := Cond.static_spec hnamed hmethM hstat
  obtain ⟨kP, hkP, -⟩ := className_of_methodNamed hnamed
  have hinitP : kP.init = .initialized := Cond.initialized_spec (findClass_of_methodNamed hnamed) hkP hinit
  obtain ⟨vm₁, X₁, hstep₁⟩ := X.invokestatic hexec hown hlink hnamed hmethM hstatic hkP hinitP hy (g := g) hg (argsL := argsL) (rest := rest) (hlen _ hsigM) hstack hdg
  obtain ⟨v, B, X', hpost, hsteps⟩ := hK m meth c ⟨T.setVm vm₁, locs, cells, slots⟩ { g with stack := rest } (.invokestatic index) mk argsL.toArray X₁ hg hsize hdg hW (X₁.named hnamed) (hpre vm₁ X₁.warmed)
  exact ⟨v, vm₁, B, X₁.warmed, X', hpost, fun target h => hstep₁ _ fun acts => by rw [doInvoke_state]; exact hsteps.trans h⟩
theorem vx_runSW {y : MethodName} {bytes cc : ByteArray} {maxL nL mc ms n index : Nat} {ret : Option FieldType} {hh : List (Nat × Nat × Nat × Nat)} {ws : List Cond} {rm : Room} {Pc : Array Value → State → Prop} {Qc : Array Value → State → Outcome → State → Prop} {free : Addr → Prop} {Ts : List Cond} {own : String} {As rest : List Value} {g : JFrame}
    (S : CallFix p m c cc nL s args Ts own) (hM : Met l y ws rm Pc Qc mc ms free) (cw : vx_CSW R s args own index y bytes maxL ret hh ws rm mc ms n) (hp : PreS s H Pc As)
    (hg : g.method = m) (hn : As.length = n) (hsize : g.locals.size = nL) (hstack : g.stack = As.reverse ++ rest) (hW : 2 * g.monitorRoom + (rest.map fun v => v.category).sum ≤ 8) (hdg : decode cc g.pc = .ok (.invokestatic index, 3)) (hf : cells + mc ≤ R.cells ∧ slots + ms ≤ R.slots) :
    va_Run p l e R s m args below meth c H locs cells slots mc ms g rest (Qc As.toArray) (free) := by
  obtain ⟨⟨hrc, hrs, hfr, hlo, hws, hcw⟩, hcode, hini, hy, hlen, hl, hstt⟩ := cw
  have hK : Back l R p e below s args y 3 8 (PreOf R mc ms Pc) (PostOf Qc mc ms free) := va_backW (hh := hh) (bytes := bytes) (maxL := maxL) (ret := ret) hM hp.1 hrc hrs hfr hlo hws hcw (fun a' U hW => word_at hW (Or.inl (by first | rfl | simp [Cond.onTables, Cond.keeps, Cond.steady])) hini)
  obtain ⟨hx, hb, hml, ho, -⟩ := S
  intro T hT X
  obtain ⟨v, vm₁, ⟨U', l2, c2, s2⟩, hW₁, X', ⟨g', mk, t, L, e1, e2, hq, h1, hL, h2, h3⟩, st⟩ := vx_callSW X hx (hh := hh) (bytes := bytes) (maxL := maxL) (ret := ret) ho hl hstt hini hcode hy hK hg (hsize.trans hml.symm) (argsL := As) (rest := rest) (fun sig h => hn.trans (hlen sig h)) hstack hW (by rw [hb]; exact hdg)
    (fun vm₁ hW₁ => ⟨hf.1, hf.2, hp.2 (T.setVm vm₁) hT hW₁⟩)
  dsimp only [Pt.U, Pt.locs, Pt.cells, Pt.slots] at X' e1 e2 h1 h2 h3 st
  subst h1; subst h2; subst h3
  exact ⟨v, (T.setVm vm₁).calling g' mk As.toArray, t, U', L, hT, X', hL, e1, e2, hq, st⟩
/-- not caught here, past rows that name other classes: it goes on to the caller -/
theorem vx_outP {p : Program} {l : Launch} {e : Env} {R : Room} {s : State} {m : MethodId} {args : Array Value} {below : List Frame} {meth : Method} {c : Code} {H : Heap} {locs : List Loc} {cells slots : Nat} {free : Addr → Prop} {ls : Array Slot} {rest : List Value} {Qc : Array Value → State → Outcome → State → Prop} {XC : String → State → State → Prop}
    {pc : Nat} {own E : String} {ce : Cell} {q : Addr} {mc ms : Nat} (hown : s.vm.findClass own = some m.cls) (hlocks : meth.locks = false)
    (hpass : ∀ z ∈ c.exceptionTable.toList, covers z pc = false ∨ (z.catchType ≠ 0 ∧ ∃ nm : String, (Cond.classLink own z.catchType nm).before args s = true ∧ va_Nc E nm s)) (hcell : H[q]? = some ce) (hv : ce.vm = .none) (hcl : s.vm.findClass E = some ce.cls)
    (hx : ∀ t : State, t.heap = H → s.vm.Alike t.vm → XC E s t) (hf : ∀ z ∈ locs, free z.base) (hc : cells ≤ mc) (hs : slots ≤ ms) :
    vx_W p l e R s m args below meth c H locs cells slots (vx_MQ below Qc XC args s mc ms free) (F0 m pc ls rest) q := by
  intro T hT X
  have hpl : e.platform.magicAccessors = ({} : Platform).magicAccessors := by rw [X.admits.platform]
  obtain ⟨vm', hW', X', st⟩ := X.outThrough hlocks q (g := F0 m pc ls rest) rfl rfl rfl (cell := ce) (by rw [hT]; exact hcell) (by rw [hv]; rfl)
    (by obtain ⟨k9, h9, -⟩ := Vm.findClass_spec hcl; exact ⟨k9, h9⟩) (fun z hz => by
      rcases hpass z hz with h | ⟨hz0, nm, hl1, hn1⟩
      · exact Or.inl h
      · obtain ⟨c6, hc6, hcl6⟩ := Cond.classLink_spec hown hl1 e.platform hpl
        obtain ⟨a8, b8, h1, h2, h3⟩ := hn1
        cases Option.some.inj (h1.symm.trans hcl)
        cases Option.some.inj (h2.symm.trans hc6)
        exact Or.inr ⟨hz0, _, hcl6, h3⟩)
  obtain ⟨g₀, hfr⟩ := X'.frames_eq
  have hcell9 : ((T.setVm vm').setFrames (.throwing q :: below)).heap[q]? = some ce := by
    show T.heap[q]? = some ce
    rw [hT]; exact hcell
  have hend : Ended ((T.setVm vm').setFrames (.throwing q :: below)) below (.threw q) := State.frames_setFrames _ (State.cur_lt_of_frames hfr)
  refine ⟨(T.setVm vm').setFrames (.throwing q :: below), ?_, .threw q, X'.here.running, hend, Or.inr ⟨q, rfl, E, ce, locs, hx _ hT (X'.ends _).1.alike, hcell9, hv, hcl, (X'.ends _).1, (X'.ends _).2.mono hc hs, hf⟩⟩
  rw [X.pushThrowing_eq]
  exact st
/-- a thing of a world lies in the heap -/
theorem vx_lt {D : va_G} {cl : List vw_C} {ws : va_W} {H1 : Heap} (h : va_P D cl ws H1) {k : Nat} {q : Nat × va_E} (hk : ws[k]? = some q) : q.1 < H1.size := (h k q hk).lt
end VXS
/-! ===== END ===== -/
/-! ===== BEGIN methods with a table of their own: called by a name, returning or throwing ===== -/
section VXH
/-! vx_backW, vx_callVX, vx_callSX, vx_callVW, vx_runVW, vx_runVX, vx_runSX, vx_ofWH follow the same proofs as their sisters above (Free/Laws.lean, Shelf42/LK1.lean); vx_outP calls Shelf42/NT130.lean (outThrough). -/
section
variable {l : Launch} {R : Room} {p : Program} {e : Env} {below : List Frame} {s : State} {sargs : Array Value} {y : MethodName} {len W9 : Nat}
theorem vx_backW {ws : List Cond} {rm : Room} {Pc : Array Value → State → Prop} {Qc : Array Value → State → Outcome → State → Prop} {XC : String → State → State → Prop} {mc ms : Nat} {free : Addr → Prop} {bytes : ByteArray} {maxL : Nat} {ret : Option FieldType} {hh : List (Nat × Nat × Nat × Nat)}
    (hM : vx_Met l y ws rm Pc Qc XC mc ms free) (hblind : FrameBlind Pc) (hrc : rm.cells = mc) (hrs : rm.slots = ms)
    (hframes : rm.frames + 1 ≤ R.frames) (hlocals : W9 + (maxL + 11) + rm.locals ≤ R.locals)
    (hws : ∀ w ∈ ws, ∀ a' U, s.WarmedH U.vm → w.before a' U = true) (hcode : Cond.codeWith y bytes maxL ret hh ∈ ws) (hinit : ∀ a' U, s.WarmedH U.vm → (Cond.initialized y.cls).before a' U = true) :
    vx_Back l R p e below s sargs y len W9 (PreOf R mc ms Pc) (PostOf Qc mc ms free) (vx_Post XC mc ms free) := by
  intro m meth c A g ig mk a X hg hsize hdg hW hn hp
  have h1 : (headSpec ws rm).pre.before a A.U = true := atoms_intro fun w hw => hws w hw _ _ X.warmed
  have h2 : (Cond.codeWith y bytes maxL ret hh).before a A.U = true := hws _ hcode _ _ X.warmed
  have h3 : (Cond.initialized y.cls).before a A.U = true := hinit _ _ X.warmed
  have h4 : A.cells + (headSpec ws rm).room.cells ≤ R.cells := by rw [show (headSpec ws rm).room.cells = mc from hrc]; exact hp.1
  have h5 : A.slots + (headSpec ws rm).room.slots ≤ R.slots := by rw [show (headSpec ws rm).room.slots = ms from hrs]; exact hp.2.1
  have hPc : Pc a (A.U.calling g mk a) := hblind _ _ _ _ hp.2.2
  obtain ⟨U, Ls, c0, s0⟩ := A
  dsimp only [Pt.U, Pt.locs, Pt.cells, Pt.slots] at h1 h2 h3 h4 h5 X hn hPc ⊢
  obtain ⟨m9, methY, cY, hn9, hmY, hcY, -, hlY, -⟩ := Cond.codeWith_spec h2
  cases Option.some.inj (hn9.symm.trans hn)
  obtain ⟨kY, hkY, -⟩ := className_of_methodNamed hn
  have hinitY : kY.init = .initialized := Cond.initialized_spec (findClass_of_methodNamed hn) hkY h3
  have h : At U g.method c below := by rw [hg]; exact X.here
  have hlocals9 : W9 + (maxL + 11) + (headSpec ws rm).room.locals ≤ R.locals := hlocals
  have happ : (headSpec ws rm).appliesLoose y e.platform (U.calling g mk a) = true :=
    Spec.appliesLoose_calling (g := g) h hdg hn hkY hinitY
      (X.room_calling (g := g) (R' := (headSpec ws rm).room) hsize hmY hcY hframes (by rw [hlY]; omega) h4 h5) h1
  obtain ⟨mid, hmid⟩ := h.above
  have hfr : (U.setTop g).frames = (.java g :: mid) ++ below := by rw [State.frames_setTop' g h.top, hmid]; rfl
  obtain ⟨o, s₂, hsteps, -, hend, hq⟩ := Steps.callFree hM p X.admits X.cas X.clock (acts := []) hfr happ hPc trivial
  have hq' : vx_Q Qc XC mc ms free a (U.calling g mk a) o s₂ := hq
  rw [State.frames_setTop' g h.top] at hend
  obtain ⟨g₀, hg0⟩ := Option.isSome_iff_exists.mp h.top
  obtain ⟨r, hr⟩ := State.topJava?_eq_some.mp hg0
  have hr' : (({ U with heap := s₂.heap, slotsUsed := s₂.slotsUsed } : State).setVm s₂.vm).frames = .java g₀ :: r := hr
  rcases hq' with ⟨hqc, L, hfe, hL⟩ | ⟨q, rfl, E, ce, L, hx, hce, hcv, hcl, hW₂, hsm, hL⟩
  · obtain ⟨⟨v, rfl⟩, hW₂, e2, q2, q3, q4, q5, q6⟩ := id hfe
    have e3 : s₂ = ({ (U.calling g mk a).setFrames s₂.frames with heap := s₂.heap, slotsUsed := s₂.slotsUsed } : State).setVm s₂.vm := by
      have : s₂ = ({ s₂ with vm := (U.calling g mk a).vm } : State).setVm s₂.vm := rfl
      rw [e2] at this
      exact this
    obtain ⟨c₂, i₂, len₂, hc₂, hd₂, hf₂⟩ := hend
    have hW' : U.WarmedH s₂.vm := hW₂
    have hcc : c₂ = c := by
      have h1 : s₂.code? g.method = U.code? g.method := by
        rw [State.code?_eq, State.code?_eq, hW'.alike.method?]
      exact Option.some.inj (hc₂.symm.trans (h1.trans h.code))
    subst hcc
    have hlen : len₂ = len := by rw [hdg] at hd₂; cases hd₂; rfl
    subst hlen
    have hs₂ : s₂ = (({ U with heap := s₂.heap, slotsUsed := s₂.slotsUsed } : State).setVm s₂.vm).setTop { g with pc := g.pc + len₂, stack := v.toList ++ g.stack } := by
      refine e3.trans ?_
      rw [hf₂, State.calling_eq h.top, State.setFrames_setFrames, State.setTop_of_frames _ hr', hr]
      rfl
    have hsame : U.sameButNew ({ U with heap := s₂.heap, slotsUsed := s₂.slotsUsed } : State) L mc ms := by
      refine ⟨?_, q2, q3, q4, q5, q6⟩
      obtain ⟨t, ht, -⟩ := State.frames_cons hr
      show ({ U with heap := s₂.heap, slotsUsed := s₂.slotsUsed } : State) = { U.setFrames U.frames with heap := s₂.heap, slotsUsed := s₂.slotsUsed }
      rw [State.setFrames_self ht]
    subst hg
    refine Or.inl ⟨v, ⟨(({ U with heap := s₂.heap, slotsUsed := s₂.slotsUsed } : State).setVm s₂.vm), Ls ++ L, c0 + mc, s0 + ms⟩,
      ⟨X.admits, X.cas, X.clock, X.frames, X.room, X.hears, X.method, X.code, (X.here.setHeapUsed s₂.heap s₂.slotsUsed).setVm hW'.alike, X.tail, State.WarmedH.trans X.warmed hW', X.limits, X.bytes, X.same.trans (hsame.setVm s.vm)⟩,
      ⟨g, mk, s₂, L, rfl, rfl, hqc, rfl, hL, rfl, rfl⟩, ?_⟩
    show Steps p.tables e below _ ((({ U with heap := s₂.heap, slotsUsed := s₂.slotsUsed } : State).setVm s₂.vm).setTop { g with pc := g.pc + len₂, stack := v.toList ++ g.stack })
    rw [← hs₂]
    exact hsteps
  · obtain ⟨e2, q2, q3, q4, q5, q6⟩ := id hsm
    have e3 : s₂ = ({ (U.calling g mk a).setFrames s₂.frames with heap := s₂.heap, slotsUsed := s₂.slotsUsed } : State).setVm s₂.vm := by
      have : s₂ = ({ s₂ with vm := (U.calling g mk a).vm } : State).setVm s₂.vm := rfl
      rw [e2] at this
      exact this
    have hf₂ : s₂.frames = .throwing q :: .java g :: U.frames.tail := hend
    have hW' : U.WarmedH s₂.vm := hW₂
    have hs₂ : s₂ = ((({ U with heap := s₂.heap, slotsUsed := s₂.slotsUsed } : State).setVm s₂.vm).setTop g).pushFrame (.throwing q) := by
      refine e3.trans ?_
      rw [hf₂, State.calling_eq h.top, State.setFrames_setFrames, State.pushFrame, State.frames_setTop _ hr', State.setTop_of_frames _ hr', State.setFrames_setFrames, hr]
      rfl
    have hsame : U.sameButNew ({ U with heap := s₂.heap, slotsUsed := s₂.slotsUsed } : State) L mc ms := by
      refine ⟨?_, q2, q3, q4, q5, q6⟩
      obtain ⟨t, ht, -⟩ := State.frames_cons hr
      show ({ U with heap := s₂.heap, slotsUsed := s₂.slotsUsed } : State) = { U.setFrames U.frames with heap := s₂.heap, slotsUsed := s₂.slotsUsed }
      rw [State.setFrames_self ht]
    subst hg
    refine Or.inr ⟨q, ⟨(({ U with heap := s₂.heap, slotsUsed := s₂.slotsUsed } : State).setVm s₂.vm), Ls ++ L, c0 + mc, s0 + ms⟩,
      ⟨X.admits, X.cas, X.clock, X.frames, X.room, X.hears, X.method, X.code, (X.here.setHeapUsed s₂.heap s₂.slotsUsed).setVm hW'.alike, X.tail, State.WarmedH.trans X.warmed hW', X.limits, X.bytes, X.same.trans (hsame.setVm s.vm)⟩,
      ⟨g, mk, s₂, L, E, ce, rfl, rfl, hx, hce, hcv, hcl, rfl, hL, rfl, rfl⟩, ?_⟩
    show Steps p.tables e below _ (((({ U with heap := s₂.heap, slotsUsed := s₂.slotsUsed } : State).setVm s₂.vm).setTop g).pushFrame (.throwing q))
    rw [← hs₂]
    exact hsteps
end
variable {p : Program} {l : Launch} {e : Env} {R : Room} {s : State} {m : MethodId} {args : Array Value} {below : List Frame} {meth : Method} {c : Code} {T : State} {H : Heap} {locs : List Loc} {cells slots : Nat}
theorem vx_callVX (X : Stand p l e R s m args below meth c T locs cells slots) (hexec : p.tables.exec = Jvm.exec) {own C : String} {index : Nat} {y : MethodName} {bytes : ByteArray} {maxL : Nat} {ret : Option FieldType} {hh : List (Nat × Nat × Nat × Nat)}
    (hown : s.vm.findClass own = some m.cls) (hlink : (Cond.methodLink own index y).before args s = true) (hinst : (Cond.instanceMethod y).before args s = true) (hsel : (Cond.selects C y y).before args s = true)
    (hcode : (Cond.codeWith y bytes maxL ret hh).before args s = true) (hy : y.cls ≠ "java/lang/invoke/MethodHandle" ∧ y.cls ≠ "java/lang/invoke/VarHandle")
    {W9 : Nat} {Pre : Pt → Array Value → Prop} {Post : Pt → Array Value → Option Value → Pt → Prop} {PostX : Pt → Array Value → Addr → Pt → Prop} (hK : vx_Back l R p e below s args y 3 W9 Pre Post PostX)
    {b : Addr} {cellB : Cell} (hcell : T.heap[b]? = some cellB) (hobj : cellB.vm.isStatics = false) (hcls : s.vm.findClass C = some cellB.cls)
    {g : JFrame} (hg : g.method = m) (hsize : g.locals.size = c.maxLocals) {argsL rest : List Value} (hlen : ∀ sig, parseMethodDescriptor y.desc = some sig → argsL.length = sig.parameters.length)
    (hstack : g.stack = argsL.reverse ++ .ref b :: rest) (hW : 2 * g.monitorRoom + (rest.map fun v => v.category).sum ≤ W9) (hdg : decode c.code g.pc = .ok (.invokevirtual index, 3))
    (hpre : ∀ vm₁, s.WarmedH vm₁ → Pre ⟨T.setVm vm₁, locs, cells, slots⟩ (Value.ref b :: argsL).toArray) :
    (∃ (v : Option Value) (vm₁ : Vm) (B : Pt), s.WarmedH vm₁ ∧ Stand p l e R s m args below meth c B.U B.locs B.cells B.slots ∧ Post ⟨T.setVm vm₁, locs, cells, slots⟩ (Value.ref b :: argsL).toArray v B ∧
      ∀ target, Steps p.tables e below (B.U.setTop { g with pc := g.pc + 3, stack := v.toList ++ rest }) target → Steps p.tables e below (T.setTop g) target) ∨
    (∃ (q : Addr) (vm₁ : Vm) (B : Pt), s.WarmedH vm₁ ∧ Stand p l e R s m args below meth c B.U B.locs B.cells B.slots ∧ PostX ⟨T.setVm vm₁, locs, cells, slots⟩ (Value.ref b :: argsL).toArray q B ∧
      Steps p.tables e below (T.setTop g) ((B.U.setTop { g with stack := rest }).pushFrame (.throwing q))) := by
  obtain ⟨mk, methM, hnamed, hmethM, hstM, habM⟩ := Cond.instanceMethod_spec hinst
  obtain ⟨m8, methM', cM, hn8, hmethM', -, -, -, -, -, -, hsigM⟩ := Cond.codeWith_spec hcode
  cases Option.some.inj (hn8.symm.trans hnamed)
  cases hmethM.symm.trans hmethM'
  obtain ⟨c2, r2, m2, q1, q2, q3, q4, kP, hkP, hkPi⟩ := Cond.selects_spec hsel
  cases hcls.symm.trans q1
  cases (State.methodFound?_of_named hnamed hy).symm.trans q2
  cases hnamed.symm.trans q3
  have hselP : selectMethod e.platform s.vm cellB.cls mk = .method mk := by rw [Launch.admits_selectMethod X.admits]; exact q4
  obtain ⟨vm₁, X₁, hstep₁⟩ := X.invokevirtual hexec hown hlink hnamed hmethM hstM hkP hkPi hy (a := b) (cell := cellB) hcell
    (fun z h => by rw [h] at hobj; cases hobj) hselP hmethM habM hkP hkPi (g := g) hg (argsL := argsL) (rest := rest) (hlen _ hsigM) hstack hdg
  rcases hK m meth c ⟨T.setVm vm₁, locs, cells, slots⟩ { g with stack := rest } (.invokevirtual index) mk (Value.ref b :: argsL).toArray X₁ hg hsize hdg hW (X₁.named hnamed) (hpre vm₁ X₁.warmed) with ⟨v, B, X', hpost, hsteps⟩ | ⟨q, B, X', hpost, hsteps⟩
  · exact Or.inl ⟨v, vm₁, B, X₁.warmed, X', hpost, fun target h => hstep₁ _ fun acts => by rw [doInvoke_state]; exact hsteps.trans h⟩
  · exact Or.inr ⟨q, vm₁, B, X₁.warmed, X', hpost, hstep₁ _ fun acts => by rw [doInvoke_state]; exact hsteps⟩
theorem vx_callSX (X : Stand p l e R s m args below meth c T locs cells slots) (hexec : p.tables.exec = Jvm.exec) {own : String} {index : Nat} {y : MethodName} {bytes : ByteArray} {maxL : Nat} {ret : Option FieldType} {hh : List (Nat × Nat × Nat × Nat)}
    (hown : s.vm.findClass own = some m.cls) (hlink : (Cond.methodLink own index y).before args s = true) (hstat : (Cond.static y).before args s = true) (hinit : (Cond.initialized y.cls).before args s = true)
    (hcode : (Cond.codeWith y bytes maxL ret hh).before args s = true) (hy : y.cls ≠ "java/lang/invoke/MethodHandle" ∧ y.cls ≠ "java/lang/invoke/VarHandle")
    {W9 : Nat} {Pre : Pt → Array Value → Prop} {Post : Pt → Array Value → Option Value → Pt → Prop} {PostX : Pt → Array Value → Addr → Pt → Prop} (hK : vx_Back l R p e below s args y 3 W9 Pre Post PostX)
    {g : JFrame} (hg : g.method = m) (hsize : g.locals.size = c.maxLocals) {argsL rest : List Value} (hlen : ∀ sig, parseMethodDescriptor y.desc = some sig → argsL.length = sig.parameters.length)
    (hstack : g.stack = argsL.reverse ++ rest) (hW : 2 * g.monitorRoom + (rest.map fun v => v.category).sum ≤ W9) (hdg : decode c.code g.pc = .ok (.invokestatic index, 3))
    (hpre : ∀ vm₁, s.WarmedH vm₁ → Pre ⟨T.setVm vm₁, locs, cells, slots⟩ argsL.toArray) :
    (∃ (v : Option Value) (vm₁ : Vm) (B : Pt), s.WarmedH vm₁ ∧ Stand p l e R s m args below meth c B.U B.locs B.cells B.slots ∧ Post ⟨T.setVm vm₁, locs, cells, slots⟩ argsL.toArray v B ∧
      ∀ target, Steps p.tables e below (B.U.setTop { g with pc := g.pc + 3, stack := v.toList ++ rest }) target → Steps p.tables e below (T.setTop g) target) ∨
    (∃ (q : Addr) (vm₁ : Vm) (B : Pt), s.WarmedH vm₁ ∧ Stand p l e R s m args below meth c B.U B.locs B.cells B.slots ∧ PostX ⟨T.setVm vm₁, locs, cells, slots⟩ argsL.toArray q B ∧
      Steps p.tables e below (T.setTop g) ((B.U.setTop { g with stack := rest }).pushFrame (.throwing q))) := by
  obtain ⟨mk, methM, cM, hnamed, hmethM, -, -, -, -, -, -, hsigM⟩ := Cond.codeWith_spec hcode
  have hstatic : methM.isStatic = true := Cond.static_spec hnamed hmethM hstat
  obtain ⟨kP, hkP, -⟩ := className_of_methodNamed hnamed
  have hinitP : kP.init = .initialized := Cond.initialized_spec (findClass_of_methodNamed hnamed) hkP hinit
  obtain ⟨vm₁, X₁, hstep₁⟩ := X.invokestatic hexec hown hlink hnamed hmethM hstatic hkP hinitP hy (g := g) hg (argsL := argsL) (rest := rest) (hlen _ hsigM) hstack hdg
  rcases hK m meth c ⟨T.setVm vm₁, locs, cells, slots⟩ { g with stack := rest } (.invokestatic index) mk argsL.toArray X₁ hg hsize hdg hW (X₁.named hnamed) (hpre vm₁ X₁.warmed) with ⟨v, B, X', hpost, hsteps⟩ | ⟨q, B, X', hpost, hsteps⟩
  · exact Or.inl ⟨v, vm₁, B, X₁.warmed, X', hpost, fun target h => hstep₁ _ fun acts => by rw [doInvoke_state]; exact hsteps.trans h⟩
  · exact Or.inr ⟨q, vm₁, B, X₁.warmed, X', hpost, hstep₁ _ fun acts => by rw [doInvoke_state]; exact hsteps⟩
theorem vx_callVW (X : Stand p l e R s m args below meth c T locs cells slots) (hexec : p.tables.exec = Jvm.exec) {own C : String} {index : Nat} {y : MethodName} {bytes : ByteArray} {maxL : Nat} {ret : Option FieldType} {hh : List (Nat × Nat × Nat × Nat)}
    (hown : s.vm.findClass own = some m.cls) (hlink : (Cond.methodLink own index y).before args s = true) (hinst : (Cond.instanceMethod y).before args s = true) (hsel : (Cond.selects C y y).before args s = true)
    (hcode : (Cond.codeWith y bytes maxL ret hh).before args s = true) (hy : y.cls ≠ "java/lang/invoke/MethodHandle" ∧ y.cls ≠ "java/lang/invoke/VarHandle")
    {W9 : Nat} {Pre : Pt → Array Value → Prop} {Post : Pt → Array Value → Option Value → Pt → Prop} (hK : Back l R p e below s args y 3 W9 Pre Post)
    {b : Addr} {cellB : Cell} (hcell : T.heap[b]? = some cellB) (hobj : cellB.vm.isStatics = false) (hcls : s.vm.findClass C = some cellB.cls)
    {g : JFrame} (hg : g.method = m) (hsize : g.locals.size = c.maxLocals) {argsL rest : List Value} (hlen : ∀ sig, parseMethodDescriptor y.desc = some sig → argsL.length = sig.parameters.length)
    (hstack : g.stack = argsL.reverse ++ .ref b :: rest) (hW : 2 * g.monitorRoom + (rest.map fun v => v.category).sum ≤ W9) (hdg : decode c.code g.pc = .ok (.invokevirtual index, 3))
    (hpre : ∀ vm₁, s.WarmedH vm₁ → Pre ⟨T.setVm vm₁, locs, cells, slots⟩ (Value.ref b :: argsL).toArray) :
    ∃ (v : Option Value) (vm₁ : Vm) (B : Pt), s.WarmedH vm₁ ∧ Stand p l e R s m args below meth c B.U B.locs B.cells B.slots ∧ Post ⟨T.setVm vm₁, locs, cells, slots⟩ (Value.ref b :: argsL).toArray v B ∧
      ∀ target, Steps p.tables e below (B.U.setTop { g with pc := g.pc + 3, stack := v.toList ++ rest }) target → Steps p.tables e below (T.setTop g) target := by
  obtain ⟨mk, methM, hnamed, hmethM, hstM, habM⟩ := Cond.instanceMethod_spec hinst
  obtain ⟨m8, methM', cM, hn8, hmethM', -, -, -, -, -, -, hsigM⟩ := Cond.codeWith_spec hcode
  cases Option.some.inj (hn8.symm.trans hnamed)
  cases hmethM.symm.trans hmethM'
  obtain ⟨c2, r2, m2, q1, q2, q3, q4, kP, hkP, hkPi⟩ := Cond.selects_spec hsel
  cases hcls.symm.trans q1
  cases (State.methodFound?_of_named hnamed hy).symm.trans q2
  cases hnamed.symm.trans q3
  have hselP : selectMethod e.platform s.vm cellB.cls mk = .method mk := by rw [Launch.admits_selectMethod X.admits]; exact q4
  obtain ⟨vm₁, X₁, hstep₁⟩ := X.invokevirtual hexec hown hlink hnamed hmethM hstM hkP hkPi hy (a := b) (cell := cellB) hcell
    (fun z h => by rw [h] at hobj; cases hobj) hselP hmethM habM hkP hkPi (g := g) hg (argsL := argsL) (rest := rest) (hlen _ hsigM) hstack hdg
  obtain ⟨v, B, X', hpost, hsteps⟩ := hK m meth c ⟨T.setVm vm₁, locs, cells, slots⟩ { g with stack := rest } (.invokevirtual index) mk (Value.ref b :: argsL).toArray X₁ hg hsize hdg hW (X₁.named hnamed) (hpre vm₁ X₁.warmed)
  exact ⟨v, vm₁, B, X₁.warmed, X', hpost, fun target h => hstep₁ _ fun acts => by rw [doInvoke_state]; exact hsteps.trans h⟩
abbrev vx_CVW (R : Room) (s : State) (args : Array Value) (own C : String) (index : Nat) (y : MethodName) (bytes : ByteArray) (maxL : Nat) (ret : Option FieldType) (hh : List (Nat × Nat × Nat × Nat)) (ws : List Cond) (rm : Room) (mc ms n : Nat) : Prop :=
  (rm.cells = mc ∧ rm.slots = ms ∧ rm.frames + 1 ≤ R.frames ∧ 8 + (maxL + 11) + rm.locals ≤ R.locals ∧ (∀ w ∈ ws, ∀ (a' : Array Value) (U : State), s.WarmedH U.vm → w.before a' U = true) ∧ Cond.codeWith y bytes maxL ret hh ∈ ws) ∧
  (Cond.codeWith y bytes maxL ret hh).before args s = true ∧ (Cond.initialized y.cls).before args s = true ∧ (y.cls ≠ "java/lang/invoke/MethodHandle" ∧ y.cls ≠ "java/lang/invoke/VarHandle") ∧
  (∀ sig, parseMethodDescriptor y.desc = some sig → n = sig.parameters.length) ∧ (Cond.methodLink own index y).before args s = true ∧ (Cond.instanceMethod y).before args s = true ∧ (Cond.selects C y y).before args s = true
theorem vx_cwVW {own C : String} {index maxL mc ms : Nat} {y : MethodName} {bytes : ByteArray} {ret : Option FieldType} {hh : List (Nat × Nat × Nat × Nat)} {Ts ws ws' : List Cond} {rm : Room} (n : Nat) (ht : ∀ w ∈ Ts, w.before args s = true) (hT : GoodIn Ts (wsV own index C y ws)) (hw : ws = Cond.codeWith y bytes maxL ret hh :: ws') (hrc : rm.cells = mc) (hrs : rm.slots = ms)
    (hd : y.cls = C ∧ y.cls ≠ "java/lang/invoke/MethodHandle" ∧ y.cls ≠ "java/lang/invoke/VarHandle" ∧ (parseMethodDescriptor y.desc).map (fun d => d.parameters.length) = some n) (hR : rm.frames + 1 ≤ R.frames ∧ 8 + (maxL + 11) + rm.locals ≤ R.locals) :
    vx_CVW R s args own C index y bytes maxL ret hh ws rm mc ms n := by
  obtain ⟨hC, hd⟩ := hd
  subst hC
  have ok : ∀ w ∈ wsV own index y.cls y ws, w.before args s = true := fun w h => ht w (hT w h).1
  have hG : GoodIn Ts ws := fun w h => hT w (by unfold wsV; exact List.mem_append_right _ h)
  have hc : Cond.codeWith y bytes maxL ret hh ∈ ws := by rw [hw]; exact List.mem_cons_self
  refine ⟨⟨hrc, hrs, hR.1, hR.2, pay_in ht hG, hc⟩, ht _ (hG _ hc).1, ok _ (by simp [wsV]), ⟨hd.1, hd.2.1⟩, fun sig h => ?_, ok _ (by simp [wsV]), ok _ (by simp [wsV]), ok _ (by simp [wsV])⟩
  have h2 := hd.2.2
  rw [h] at h2
  exact (Option.some.inj h2).symm
theorem vx_runVW {y : MethodName} {bytes cc : ByteArray} {maxL nL mc ms n index : Nat} {ret : Option FieldType} {hh : List (Nat × Nat × Nat × Nat)} {ws : List Cond} {rm : Room} {Pc : Array Value → State → Prop} {Qc : Array Value → State → Outcome → State → Prop} {free : Addr → Prop} {Ts : List Cond} {own C : String} {b : Addr} {As rest : List Value} {g : JFrame}
    (S : CallFix p m c cc nL s args Ts own) (hM : Met l y ws rm Pc Qc mc ms free) (cw : vx_CVW R s args own C index y bytes maxL ret hh ws rm mc ms n) (hp : PreV s H C b Pc As)
    (hg : g.method = m) (hn : As.length = n) (hsize : g.locals.size = nL) (hstack : g.stack = As.reverse ++ .ref b :: rest) (hW : 2 * g.monitorRoom + (rest.map fun v => v.category).sum ≤ 8) (hdg : decode cc g.pc = .ok (.invokevirtual index, 3)) (hf : cells + mc ≤ R.cells ∧ slots + ms ≤ R.slots) :
    va_Run p l e R s m args below meth c H locs cells slots mc ms g rest (Qc (Value.ref b :: As).toArray) free := by
  obtain ⟨⟨hrc, hrs, hfr, hlo, hws, hcw⟩, hcode, hini, hy, hlen, hl, hin, hse⟩ := cw
  have hK : Back l R p e below s args y 3 8 (PreOf R mc ms Pc) (PostOf Qc mc ms free) := va_backW (hh := hh) (bytes := bytes) (maxL := maxL) (ret := ret) hM hp.1 hrc hrs hfr hlo hws hcw (fun a' U hW => word_at hW (Or.inl (by first | rfl | simp [Cond.onTables, Cond.keeps, Cond.steady])) hini)
  obtain ⟨hx, hb, hml, ho, -⟩ := S
  obtain ⟨-, ⟨cellB, hcB, hoB, hclB⟩, hPc⟩ := hp
  intro T hT X
  obtain ⟨v, vm₁, ⟨U', l2, c2, s2⟩, hW₁, X', ⟨g', mk, t, L, e1, e2, hq, h1, hL, h2, h3⟩, st⟩ := vx_callVW X hx (C := C) (hh := hh) (bytes := bytes) (maxL := maxL) (ret := ret) ho hl hin hse hcode hy hK (by rw [hT]; exact hcB) hoB hclB hg (hsize.trans hml.symm) (argsL := As) (rest := rest) (fun sig h => hn.trans (hlen sig h)) hstack hW (by rw [hb]; exact hdg)
    (fun vm₁ hW₁ => ⟨hf.1, hf.2, hPc (T.setVm vm₁) hT hW₁⟩)
  dsimp only [Pt.U, Pt.locs, Pt.cells, Pt.slots] at X' e1 e2 h1 h2 h3 st
  subst h1; subst h2; subst h3
  exact ⟨v, (T.setVm vm₁).calling g' mk (Value.ref b :: As).toArray, t, U', L, hT, X', hL, e1, e2, hq, st⟩
section
variable {y : MethodName} {bytes cc : ByteArray} {maxL nL mc ms n index : Nat} {ret : Option FieldType} {ws : List Cond} {rm : Room} {Pc : Array Value → State → Prop} {Qc : Array Value → State → Outcome → State → Prop} {XC : String → State → State → Prop} {free : Addr → Prop} {Ts : List Cond} {own C : String} {b : Addr} {As rest : List Value} {g : JFrame}
theorem vx_runVX {hh : List (Nat × Nat × Nat × Nat)} (S : CallFix p m c cc nL s args Ts own) (hM : vx_Met l y ws rm Pc Qc XC mc ms free) (cw : vx_CVW R s args own C index y bytes maxL ret hh ws rm mc ms n) (hp : PreV s H C b Pc As)
    (hg : g.method = m) (hn : As.length = n) (hsize : g.locals.size = nL) (hstack : g.stack = As.reverse ++ .ref b :: rest) (hW : 2 * g.monitorRoom + (rest.map fun v => v.category).sum ≤ 8) (hdg : decode cc g.pc = .ok (.invokevirtual index, 3)) (hf : cells + mc ≤ R.cells ∧ slots + ms ≤ R.slots) :
    vx_Run p l e R s m args below meth c H locs cells slots mc ms g rest (Qc (Value.ref b :: As).toArray) XC free := by
  obtain ⟨⟨hrc, hrs, hfr, hlo, hws, hcw⟩, hcode, hini, hy, hlen, hl, hin, hse⟩ := cw
  have hK : vx_Back l R p e below s args y 3 8 (PreOf R mc ms Pc) (PostOf Qc mc ms free) (vx_Post XC mc ms free) := vx_backW (hh := hh) (bytes := bytes) (maxL := maxL) (ret := ret) hM hp.1 hrc hrs hfr hlo hws hcw (fun a' U hW => word_at hW (Or.inl (by first | rfl | simp [Cond.onTables, Cond.keeps, Cond.steady])) hini)
  obtain ⟨hx, hb, hml, ho, -⟩ := S
  obtain ⟨-, ⟨cellB, hcB, hoB, hclB⟩, hPc⟩ := hp
  intro T hT X
  rcases vx_callVX X hx (C := C) (hh := hh) (bytes := bytes) (maxL := maxL) (ret := ret) ho hl hin hse hcode hy hK (by rw [hT]; exact hcB) hoB hclB hg (hsize.trans hml.symm) (argsL := As) (rest := rest) (fun sig h => hn.trans (hlen sig h)) hstack hW (by rw [hb]; exact hdg)
    (fun vm₁ hW₁ => ⟨hf.1, hf.2, hPc (T.setVm vm₁) hT hW₁⟩) with ⟨v, vm₁, ⟨U', l2, c2, s2⟩, hW₁, X', ⟨g', mk, t, L, e1, e2, hq, h1, hL, h2, h3⟩, st⟩ | ⟨q, vm₁, ⟨U', l2, c2, s2⟩, hW₁, X', ⟨g', mk, t, L, E, ce, e1, e2, hq, hce, hcv, hcl, h1, hL, h2, h3⟩, st⟩
  · dsimp only [Pt.U, Pt.locs, Pt.cells, Pt.slots] at X' e1 e2 h1 h2 h3 st
    subst h1; subst h2; subst h3
    exact Or.inl ⟨v, (T.setVm vm₁).calling g' mk (Value.ref b :: As).toArray, t, U', L, hT, X', hL, e1, e2, hq, st⟩
  · dsimp only [Pt.U, Pt.locs, Pt.cells, Pt.slots] at X' e1 e2 h1 h2 h3 st hcl
    subst h1; subst h2; subst h3
    exact Or.inr ⟨q, (T.setVm vm₁).calling g' mk (Value.ref b :: As).toArray, t, U', L, E, ce, hT, X', hL, e1, e2, hq, hce, hcv, vx_cls hW₁ hcl, st⟩
theorem vx_runSX {hh : List (Nat × Nat × Nat × Nat)} (S : CallFix p m c cc nL s args Ts own) (hM : vx_Met l y ws rm Pc Qc XC mc ms free) (cw : vx_CSW R s args own index y bytes maxL ret hh ws rm mc ms n) (hp : PreS s H Pc As)
    (hg : g.method = m) (hn : As.length = n) (hsize : g.locals.size = nL) (hstack : g.stack = As.reverse ++ rest) (hW : 2 * g.monitorRoom + (rest.map fun v => v.category).sum ≤ 8) (hdg : decode cc g.pc = .ok (.invokestatic index, 3)) (hf : cells + mc ≤ R.cells ∧ slots + ms ≤ R.slots) :
    vx_Run p l e R s m args below meth c H locs cells slots mc ms g rest (Qc As.toArray) XC free := by
  obtain ⟨⟨hrc, hrs, hfr, hlo, hws, hcw⟩, hcode, hini, hy, hlen, hl, hstt⟩ := cw
  have hK : vx_Back l R p e below s args y 3 8 (PreOf R mc ms Pc) (PostOf Qc mc ms free) (vx_Post XC mc ms free) := vx_backW (hh := hh) (bytes := bytes) (maxL := maxL) (ret := ret) hM hp.1 hrc hrs hfr hlo hws hcw (fun a' U hW => word_at hW (Or.inl (by first | rfl | simp [Cond.onTables, Cond.keeps, Cond.steady])) hini)
  obtain ⟨hx, hb, hml, ho, -⟩ := S
  intro T hT X
  rcases vx_callSX X hx (hh := hh) (bytes := bytes) (maxL := maxL) (ret := ret) ho hl hstt hini hcode hy hK hg (hsize.trans hml.symm) (argsL := As) (rest := rest) (fun sig h => hn.trans (hlen sig h)) hstack hW (by rw [hb]; exact hdg)
    (fun vm₁ hW₁ => ⟨hf.1, hf.2, hp.2 (T.setVm vm₁) hT hW₁⟩) with ⟨v, vm₁, ⟨U', l2, c2, s2⟩, hW₁, X', ⟨g', mk, t, L, e1, e2, hq, h1, hL, h2, h3⟩, st⟩ | ⟨q, vm₁, ⟨U', l2, c2, s2⟩, hW₁, X', ⟨g', mk, t, L, E, ce, e1, e2, hq, hce, hcv, hcl, h1, hL, h2, h3⟩, st⟩
  · dsimp only [Pt.U, Pt.locs, Pt.cells, Pt.slots] at X' e1 e2 h1 h2 h3 st
    subst h1; subst h2; subst h3
    exact Or.inl ⟨v, (T.setVm vm₁).calling g' mk As.toArray, t, U', L, hT, X', hL, e1, e2, hq, st⟩
  · dsimp only [Pt.U, Pt.locs, Pt.cells, Pt.slots] at X' e1 e2 h1 h2 h3 st hcl
    subst h1; subst h2; subst h3
    exact Or.inr ⟨q, (T.setVm vm₁).calling g' mk As.toArray, t, U', L, E, ce, hT, X', hL, e1, e2, hq, hce, hcv, vx_cls hW₁ hcl, st⟩
end
end VXH
theorem vx_ofWH {l : Launch} {y : MethodName} {ws ws' : List Cond} {rm : Room} {Pc : Array Value → State → Prop} {Qc : Array Value → State → Outcome → State → Prop} {XC : String → State → State → Prop} {mc ms : Nat} {free : Addr → Prop} {cc : ByteArray} {maxL : Nat} {ret : Option FieldType} {hh : List (Nat × Nat × Nat × Nat)}
    (hy : plainName y.cls = true) (hw : ws = Cond.codeWith y cc maxL ret hh :: ws')
    (body : ∀ p e s m args below meth c s₁, BodyLoose p l y (headSpec ws rm) cc maxL ret e s m args below meth c s₁ → c.maxLocals = maxL → Pc args s →
      W p l e (headSpec ws rm).room s m args below meth c s.heap [] 0 0 (vx_MQ below Qc XC args s mc ms free) (entryFrame m args maxL)) : vx_Met l y ws rm Pc Qc XC mc ms free := by
  refine MetFree.of_bodyS (code := cc) (maxLocals := maxL) (ret := ret) hy ?_ ?_
  · intro args s m h hn
    obtain ⟨m9, meth, c, hn9, h1, h2, h3, h4, -, h5, h6, -⟩ := Cond.codeWith_spec (atoms_spec (ws := ws) h _ (by rw [hw]; exact List.mem_cons_self))
    cases hn.symm.trans hn9
    exact ⟨meth, c, h1, h2, h3, h4, h5, h6⟩
  · intro p e s m args below meth c s₁ B hml hP _
    have hh0 : s₁.heap = s.heap := by rw [B.state]; rfl
    obtain ⟨t, a1, o, b1, b2, b3⟩ := body p e s m args below meth c s₁ B hml hP s₁ hh0 (Stand.of_body B)
    exact ⟨t, o, a1, b1, b2, b3⟩
/-! ===== END ===== -/
end
section
def RX0 : String := "PacketTrail$Firsts"
def TX0 : u_T := fun k => match k with
  | 0 => ("PacketTrail$Firsts", "mixes", "[I", true)
  | 1 => ("PacketTrail$Firsts", "wideLabels", "[I", true)
  | 2 => ("PacketTrail$Firsts", "perLabel", "[I", true)
  | 3 => ("PacketTrail$Firsts", "count", "I", false)
  | 4 => ("PacketTrail$Firsts", "base", "I", false)
  | _ => ("PacketTrail$Firsts", "range", "I", false)
def tyX0 : Nat → FieldType := fun k => match k with
  | 0 => .array .int
  | 1 => .array .int
  | 2 => .array .int
  | 3 => .int
  | 4 => .int
  | _ => .int
theorem nmX0 : ∀ a, a < 6 → ∀ b, b < 6 → a ≠ b → (TX0 a).2.1 ≠ (TX0 b).2.1 := by decide +kernel
theorem tyX0_ok : ∀ k, k < 6 → parseFieldDescriptor (TX0 k).2.2.1 = some (tyX0 k) := by decide +kernel
abbrev cX0_init : ByteArray := prog_2_method_1_code
def yX0_init : MethodName := ⟨RX0, "<init>", "()V"⟩
abbrev cX0_gather : ByteArray := prog_2_method_2_code
def yX0_gather : MethodName := ⟨RX0, "gather", "(LPacketTrail$State;I)V"⟩
abbrev cX0_isChosen : ByteArray := prog_2_method_3_code
def yX0_isChosen : MethodName := ⟨RX0, "isChosen", "(II)Z"⟩
abbrev cX0_chosenBy : ByteArray := prog_2_method_4_code
def yX0_chosenBy : MethodName := ⟨RX0, "chosenBy", "(I)I"⟩
abbrev cX0_clashesBy : ByteArray := prog_2_method_5_code
def yX0_clashesBy : MethodName := ⟨RX0, "clashesBy", "(II)I"⟩
abbrev cX0_unlikeMixes : ByteArray := prog_2_method_6_code
def yX0_unlikeMixes : MethodName := ⟨RX0, "unlikeMixes", "()I"⟩
abbrev cX0_isFirstOfItsMix : ByteArray := prog_2_method_7_code
def yX0_isFirstOfItsMix : MethodName := ⟨RX0, "isFirstOfItsMix", "(I)Z"⟩
def RX1 : String := "PacketTrail$Joiner"
def TX1 : u_T := fun k => match k with
  | 0 => ("PacketTrail$Joiner", "entered", "[I", true)
  | 1 => ("PacketTrail$Joiner", "came", "[I", true)
  | 2 => ("PacketTrail$Joiner", "enteredLeft", "I", false)
  | 3 => ("PacketTrail$Joiner", "cameLeft", "I", false)
  | 4 => ("PacketTrail$Joiner", "moves", "[I", true)
  | 5 => ("PacketTrail$Joiner", "at", "[I", true)
  | 6 => ("PacketTrail$Joiner", "begins", "[I", true)
  | 7 => ("PacketTrail$Joiner", "guides", "[I", true)
  | 8 => ("PacketTrail$Joiner", "steps", "I", false)
  | 9 => ("PacketTrail$Joiner", "sets", "I", false)
  | 10 => ("PacketTrail$Joiner", "walks", "I", false)
  | 11 => ("PacketTrail$Joiner", "walkHops", "[I", true)
  | 12 => ("PacketTrail$Joiner", "walkLengths", "[I", true)
  | 13 => ("PacketTrail$Joiner", "walkBegins", "[I", true)
  | 14 => ("PacketTrail$Joiner", "firstMoves", "[I", true)
  | _ => ("PacketTrail$Joiner", "claimed", "[Z", true)
def tyX1 : Nat → FieldType := fun k => match k with
  | 0 => .array .int
  | 1 => .array .int
  | 2 => .int
  | 3 => .int
  | 4 => .array .int
  | 5 => .array .int
  | 6 => .array .int
  | 7 => .array .int
  | 8 => .int
  | 9 => .int
  | 10 => .int
  | 11 => .array .int
  | 12 => .array .int
  | 13 => .array .int
  | 14 => .array .int
  | _ => .array .boolean
theorem nmX1 : ∀ a, a < 16 → ∀ b, b < 16 → a ≠ b → (TX1 a).2.1 ≠ (TX1 b).2.1 := by decide +kernel
theorem tyX1_ok : ∀ k, k < 16 → parseFieldDescriptor (TX1 k).2.2.1 = some (tyX1 k) := by decide +kernel
abbrev cX1_init : ByteArray := prog_3_method_1_code
def yX1_init : MethodName := ⟨RX1, "<init>", "()V"⟩
abbrev cX1_gather : ByteArray := prog_3_method_2_code
def yX1_gather : MethodName := ⟨RX1, "gather", "(LPacketTrail$State;I)V"⟩
abbrev cX1_gatherOf : ByteArray := prog_3_method_3_code
def yX1_gatherOf : MethodName := ⟨RX1, "gatherOf", "(LPacketTrail$Net;LPacketTrail$Packet;)V"⟩
abbrev cX1_hasReports : ByteArray := prog_3_method_4_code
def yX1_hasReports : MethodName := ⟨RX1, "hasReports", "()Z"⟩
abbrev cX1_join : ByteArray := prog_3_method_5_code
def yX1_join : MethodName := ⟨RX1, "join", "(LPacketTrail$Net;)V"⟩
abbrev cX1_nextMove : ByteArray := prog_3_method_6_code
def yX1_nextMove : MethodName := ⟨RX1, "nextMove", "(LPacketTrail$Net;I)I"⟩
abbrev cX1_stand : ByteArray := prog_3_method_7_code
def yX1_stand : MethodName := ⟨RX1, "stand", "(IIII)V"⟩
abbrev cX1_openWalk : ByteArray := prog_3_method_8_code
def yX1_openWalk : MethodName := ⟨RX1, "openWalk", "(II)V"⟩
abbrev cX1_goOn : ByteArray := prog_3_method_9_code
def yX1_goOn : MethodName := ⟨RX1, "goOn", "(LPacketTrail$Net;I)I"⟩
abbrev cX1_endWalk : ByteArray := prog_3_method_10_code
def yX1_endWalk : MethodName := ⟨RX1, "endWalk", "(I)I"⟩
abbrev cX1_takeBack : ByteArray := prog_3_method_11_code
def yX1_takeBack : MethodName := ⟨RX1, "takeBack", "(I)V"⟩
abbrev cX1_keepSet : ByteArray := prog_3_method_12_code
def yX1_keepSet : MethodName := ⟨RX1, "keepSet", "(I)V"⟩
abbrev cX1_linkOfWalk : ByteArray := prog_3_method_13_code
def yX1_linkOfWalk : MethodName := ⟨RX1, "linkOfWalk", "(II)I"⟩
abbrev cX1_lastHop : ByteArray := prog_3_method_14_code
def yX1_lastHop : MethodName := ⟨RX1, "lastHop", "(LPacketTrail$Net;I)I"⟩
abbrev cX1_countWalks : ByteArray := prog_3_method_15_code
def yX1_countWalks : MethodName := ⟨RX1, "countWalks", "(LPacketTrail$Net;II)I"⟩
abbrev cX1_releaseWalks : ByteArray := prog_3_method_16_code
def yX1_releaseWalks : MethodName := ⟨RX1, "releaseWalks", "()V"⟩
abbrev cX1_claimWalk : ByteArray := prog_3_method_17_code
def yX1_claimWalk : MethodName := ⟨RX1, "claimWalk", "(LPacketTrail$Packet;)Z"⟩
abbrev cX1_isTrail : ByteArray := prog_3_method_18_code
def yX1_isTrail : MethodName := ⟨RX1, "isTrail", "(ILPacketTrail$Packet;)Z"⟩
def RX2 : String := "PacketTrail$Net"
def TX2 : u_T := fun k => match k with
  | 0 => ("PacketTrail$Net", "hops", "I", false)
  | 1 => ("PacketTrail$Net", "links", "I", false)
  | 2 => ("PacketTrail$Net", "starts", "[I", true)
  | 3 => ("PacketTrail$Net", "ends", "[I", true)
  | 4 => ("PacketTrail$Net", "ups", "[I", true)
  | 5 => ("PacketTrail$Net", "routes", "[I", true)
  | _ => ("PacketTrail$Net", "settings", "[I", true)
def tyX2 : Nat → FieldType := fun k => match k with
  | 0 => .int
  | 1 => .int
  | 2 => .array .int
  | 3 => .array .int
  | 4 => .array .int
  | 5 => .array .int
  | _ => .array .int
theorem nmX2 : ∀ a, a < 7 → ∀ b, b < 7 → a ≠ b → (TX2 a).2.1 ≠ (TX2 b).2.1 := by decide +kernel
theorem tyX2_ok : ∀ k, k < 7 → parseFieldDescriptor (TX2 k).2.2.1 = some (tyX2 k) := by decide +kernel
abbrev cX2_init : ByteArray := prog_4_method_1_code
def yX2_init : MethodName := ⟨RX2, "<init>", "()V"⟩
abbrev cX2_init_ : ByteArray := prog_4_method_2_code
def yX2_init_ : MethodName := ⟨RX2, "<init>", "(LPacketTrail$Net;)V"⟩
abbrev cX2_hasHop : ByteArray := prog_4_method_3_code
def yX2_hasHop : MethodName := ⟨RX2, "hasHop", "(I)Z"⟩
abbrev cX2_hasLink : ByteArray := prog_4_method_4_code
def yX2_hasLink : MethodName := ⟨RX2, "hasLink", "(I)Z"⟩
abbrev cX2_addLink : ByteArray := prog_4_method_5_code
def yX2_addLink : MethodName := ⟨RX2, "addLink", "(II)V"⟩
abbrev cX2_linkBetween : ByteArray := prog_4_method_6_code
def yX2_linkBetween : MethodName := ⟨RX2, "linkBetween", "(II)I"⟩
abbrev cX2_fits : ByteArray := prog_4_method_7_code
def yX2_fits : MethodName := ⟨RX2, "fits", "(II)Z"⟩
abbrev cX2_bareMix : ByteArray := prog_4_method_8_code
def yX2_bareMix : MethodName := ⟨RX2, "bareMix", "(LPacketTrail$Packet;II)I"⟩
abbrev cX2_mixOf : ByteArray := prog_4_method_9_code
def yX2_mixOf : MethodName := ⟨RX2, "mixOf", "(LPacketTrail$Packet;I)I"⟩
abbrev cX2_chooses : ByteArray := prog_4_method_10_code
def yX2_chooses : MethodName := ⟨RX2, "chooses", "(LPacketTrail$Packet;I)Z"⟩
abbrev cX2_countChosen : ByteArray := prog_4_method_11_code
def yX2_countChosen : MethodName := ⟨RX2, "countChosen", "(LPacketTrail$Packet;)I"⟩
abbrev cX2_labelOf : ByteArray := prog_4_method_12_code
def yX2_labelOf : MethodName := ⟨RX2, "labelOf", "(LPacketTrail$Packet;)I"⟩
def RX3 : String := "PacketTrail$Packet"
def TX3 : u_T := fun k => match k with
  | 0 => ("PacketTrail$Packet", "from", "I", true)
  | 1 => ("PacketTrail$Packet", "dest", "I", true)
  | 2 => ("PacketTrail$Packet", "number", "I", true)
  | 3 => ("PacketTrail$Packet", "size", "I", true)
  | 4 => ("PacketTrail$Packet", "life", "I", true)
  | 5 => ("PacketTrail$Packet", "wideLabel", "I", true)
  | 6 => ("PacketTrail$Packet", "hops", "[I", true)
  | 7 => ("PacketTrail$Packet", "links", "[I", true)
  | 8 => ("PacketTrail$Packet", "length", "I", false)
  | _ => ("PacketTrail$Packet", "fate", "I", false)
def tyX3 : Nat → FieldType := fun k => match k with
  | 0 => .int
  | 1 => .int
  | 2 => .int
  | 3 => .int
  | 4 => .int
  | 5 => .int
  | 6 => .array .int
  | 7 => .array .int
  | 8 => .int
  | _ => .int
theorem nmX3 : ∀ a, a < 10 → ∀ b, b < 10 → a ≠ b → (TX3 a).2.1 ≠ (TX3 b).2.1 := by decide +kernel
theorem tyX3_ok : ∀ k, k < 10 → parseFieldDescriptor (TX3 k).2.2.1 = some (tyX3 k) := by decide +kernel
abbrev cX3_init : ByteArray := prog_5_method_1_code
def yX3_init : MethodName := ⟨RX3, "<init>", "(IIIII)V"⟩
abbrev cX3_follow : ByteArray := prog_5_method_2_code
def yX3_follow : MethodName := ⟨RX3, "follow", "(LPacketTrail$Net;)V"⟩
abbrev cX3_fateAt : ByteArray := prog_5_method_3_code
def yX3_fateAt : MethodName := ⟨RX3, "fateAt", "(LPacketTrail$Net;II)I"⟩
abbrev cX3_fieldAt : ByteArray := prog_5_method_4_code
def yX3_fieldAt : MethodName := ⟨RX3, "fieldAt", "(II)I"⟩
abbrev cX3_isCountedAt : ByteArray := prog_5_method_5_code
def yX3_isCountedAt : MethodName := ⟨RX3, "isCountedAt", "(III)Z"⟩
def RX4 : String := "PacketTrail$Reader"
def TX4 : u_T := fun k => match k with
  | 0 => ("PacketTrail$Reader", "bytes", "[B", true)
  | 1 => ("PacketTrail$Reader", "length", "I", true)
  | 2 => ("PacketTrail$Reader", "place", "I", false)
  | 3 => ("PacketTrail$Reader", "numberPlace", "I", false)
  | 4 => ("PacketTrail$Reader", "near", "I", false)
  | 5 => ("PacketTrail$Reader", "nearPlace", "I", false)
  | 6 => ("PacketTrail$Reader", "far", "I", false)
  | 7 => ("PacketTrail$Reader", "net", "LPacketTrail$Net;", true)
  | 8 => ("PacketTrail$Reader", "faultKind", "I", false)
  | _ => ("PacketTrail$Reader", "faultPlace", "I", false)
def tyX4 : Nat → FieldType := fun k => match k with
  | 0 => .array .byte
  | 1 => .int
  | 2 => .int
  | 3 => .int
  | 4 => .int
  | 5 => .int
  | 6 => .int
  | 7 => .object "PacketTrail$Net"
  | 8 => .int
  | _ => .int
theorem nmX4 : ∀ a, a < 10 → ∀ b, b < 10 → a ≠ b → (TX4 a).2.1 ≠ (TX4 b).2.1 := by decide +kernel
theorem tyX4_ok : ∀ k, k < 10 → parseFieldDescriptor (TX4 k).2.2.1 = some (tyX4 k) := by decide +kernel
abbrev cX4_init : ByteArray := prog_6_method_1_code
def yX4_init : MethodName := ⟨RX4, "<init>", "([BI)V"⟩
abbrev cX4_readAll : ByteArray := prog_6_method_2_code
def yX4_readAll : MethodName := ⟨RX4, "readAll", "()Z"⟩
abbrev cX4_isAtEnd : ByteArray := prog_6_method_3_code
def yX4_isAtEnd : MethodName := ⟨RX4, "isAtEnd", "()Z"⟩
abbrev cX4_readHops : ByteArray := prog_6_method_4_code
def yX4_readHops : MethodName := ⟨RX4, "readHops", "()Z"⟩
abbrev cX4_readLine : ByteArray := prog_6_method_5_code
def yX4_readLine : MethodName := ⟨RX4, "readLine", "()Z"⟩
abbrev cX4_readLink : ByteArray := prog_6_method_6_code
def yX4_readLink : MethodName := ⟨RX4, "readLink", "(I)Z"⟩
abbrev cX4_readCut : ByteArray := prog_6_method_7_code
def yX4_readCut : MethodName := ⟨RX4, "readCut", "()Z"⟩
abbrev cX4_readRoute : ByteArray := prog_6_method_8_code
def yX4_readRoute : MethodName := ⟨RX4, "readRoute", "()Z"⟩
abbrev cX4_readSetting : ByteArray := prog_6_method_9_code
def yX4_readSetting : MethodName := ⟨RX4, "readSetting", "(I)Z"⟩
abbrev cX4_readNear : ByteArray := prog_6_method_10_code
def yX4_readNear : MethodName := ⟨RX4, "readNear", "()Z"⟩
abbrev cX4_readFar : ByteArray := prog_6_method_11_code
def yX4_readFar : MethodName := ⟨RX4, "readFar", "()Z"⟩
abbrev cX4_readNumber : ByteArray := prog_6_method_12_code
def yX4_readNumber : MethodName := ⟨RX4, "readNumber", "()I"⟩
abbrev cX4_readSemicolon : ByteArray := prog_6_method_13_code
def yX4_readSemicolon : MethodName := ⟨RX4, "readSemicolon", "()Z"⟩
abbrev cX4_skipBlanks : ByteArray := prog_6_method_14_code
def yX4_skipBlanks : MethodName := ⟨RX4, "skipBlanks", "()V"⟩
abbrev cX4_skipLetters : ByteArray := prog_6_method_15_code
def yX4_skipLetters : MethodName := ⟨RX4, "skipLetters", "()V"⟩
abbrev cX4_isWord : ByteArray := prog_6_method_16_code
def yX4_isWord : MethodName := ⟨RX4, "isWord", "(ILjava/lang/String;)Z"⟩
abbrev cX4_refuse : ByteArray := prog_6_method_17_code
def yX4_refuse : MethodName := ⟨RX4, "refuse", "(II)Z"⟩
def RX5 : String := "PacketTrail$Sample"
def TX5 : u_T := fun k => match k with
  | 0 => ("PacketTrail$Sample", "weights", "[I", true)
  | 1 => ("PacketTrail$Sample", "base", "I", false)
  | 2 => ("PacketTrail$Sample", "range", "I", false)
  | _ => ("PacketTrail$Sample", "total", "J", false)
def tyX5 : Nat → FieldType := fun k => match k with
  | 0 => .array .int
  | 1 => .int
  | 2 => .int
  | _ => .long
theorem nmX5 : ∀ a, a < 4 → ∀ b, b < 4 → a ≠ b → (TX5 a).2.1 ≠ (TX5 b).2.1 := by decide +kernel
theorem tyX5_ok : ∀ k, k < 4 → parseFieldDescriptor (TX5 k).2.2.1 = some (tyX5 k) := by decide +kernel
abbrev cX5_init : ByteArray := prog_7_method_1_code
def yX5_init : MethodName := ⟨RX5, "<init>", "()V"⟩
abbrev cX5_clear : ByteArray := prog_7_method_2_code
def yX5_clear : MethodName := ⟨RX5, "clear", "(II)V"⟩
abbrev cX5_add : ByteArray := prog_7_method_3_code
def yX5_add : MethodName := ⟨RX5, "add", "(II)V"⟩
abbrev cX5_chosenBy : ByteArray := prog_7_method_4_code
def yX5_chosenBy : MethodName := ⟨RX5, "chosenBy", "(I)J"⟩
abbrev cX5_sumOverKeys : ByteArray := prog_7_method_5_code
def yX5_sumOverKeys : MethodName := ⟨RX5, "sumOverKeys", "(Z)J"⟩
def RX6 : String := "PacketTrail$State"
def TX6 : u_T := fun k => match k with
  | 0 => ("PacketTrail$State", "net", "LPacketTrail$Net;", true)
  | 1 => ("PacketTrail$State", "sent", "[LPacketTrail$Packet;", true)
  | _ => ("PacketTrail$State", "count", "I", false)
def tyX6 : Nat → FieldType := fun k => match k with
  | 0 => .object "PacketTrail$Net"
  | 1 => .array (.object "PacketTrail$Packet")
  | _ => .int
theorem nmX6 : ∀ a, a < 3 → ∀ b, b < 3 → a ≠ b → (TX6 a).2.1 ≠ (TX6 b).2.1 := by decide +kernel
theorem tyX6_ok : ∀ k, k < 3 → parseFieldDescriptor (TX6 k).2.2.1 = some (tyX6 k) := by decide +kernel
abbrev cX6_init : ByteArray := prog_8_method_1_code
def yX6_init : MethodName := ⟨RX6, "<init>", "(LPacketTrail$Net;)V"⟩
abbrev cX6_init_ : ByteArray := prog_8_method_2_code
def yX6_init_ : MethodName := ⟨RX6, "<init>", "(LPacketTrail$State;)V"⟩
abbrev cX6_hasPacket : ByteArray := prog_8_method_3_code
def yX6_hasPacket : MethodName := ⟨RX6, "hasPacket", "(I)Z"⟩
abbrev cX6_add : ByteArray := prog_8_method_4_code
def yX6_add : MethodName := ⟨RX6, "add", "(LPacketTrail$Packet;)V"⟩
abbrev cX6_countReports : ByteArray := prog_8_method_5_code
def yX6_countReports : MethodName := ⟨RX6, "countReports", "()I"⟩
abbrev cX6_countPartlyChosen : ByteArray := prog_8_method_6_code
def yX6_countPartlyChosen : MethodName := ⟨RX6, "countPartlyChosen", "()I"⟩
abbrev cX6_countFates : ByteArray := prog_8_method_7_code
def yX6_countFates : MethodName := ⟨RX6, "countFates", "(I)I"⟩
abbrev cX6_countTrails : ByteArray := prog_8_method_8_code
def yX6_countTrails : MethodName := ⟨RX6, "countTrails", "(II)I"⟩
def RX7 : String := "PacketTrail"
def TX7 : u_T := fun k => match k with
  | 0 => ("PacketTrail", "tape", "[B", true)
  | 1 => ("PacketTrail", "tapeLength", "I", false)
  | 2 => ("PacketTrail", "faultPlace", "I", false)
  | 3 => ("PacketTrail", "state", "LPacketTrail$State;", false)
  | 4 => ("PacketTrail", "history", "[LPacketTrail$State;", true)
  | 5 => ("PacketTrail", "historyLength", "I", false)
  | 6 => ("PacketTrail", "refused", "[I", true)
  | 7 => ("PacketTrail", "joiner", "LPacketTrail$Joiner;", true)
  | 8 => ("PacketTrail", "firsts", "LPacketTrail$Firsts;", true)
  | _ => ("PacketTrail", "sample", "LPacketTrail$Sample;", true)
def tyX7 : Nat → FieldType := fun k => match k with
  | 0 => .array .byte
  | 1 => .int
  | 2 => .int
  | 3 => .object "PacketTrail$State"
  | 4 => .array (.object "PacketTrail$State")
  | 5 => .int
  | 6 => .array .int
  | 7 => .object "PacketTrail$Joiner"
  | 8 => .object "PacketTrail$Firsts"
  | _ => .object "PacketTrail$Sample"
theorem nmX7 : ∀ a, a < 10 → ∀ b, b < 10 → a ≠ b → (TX7 a).2.1 ≠ (TX7 b).2.1 := by decide +kernel
theorem tyX7_ok : ∀ k, k < 10 → parseFieldDescriptor (TX7 k).2.2.1 = some (tyX7 k) := by decide +kernel
abbrev cX7_init : ByteArray := prog_1_method_1_code
def yX7_init : MethodName := ⟨RX7, "<init>", "()V"⟩
abbrev cX7_feed : ByteArray := prog_1_method_2_code
def yX7_feed : MethodName := ⟨RX7, "feed", "(IIIII)I"⟩
abbrev cX7_text : ByteArray := prog_1_method_3_code
def yX7_text : MethodName := ⟨RX7, "text", "(I)I"⟩
abbrev cX7_fault : ByteArray := prog_1_method_4_code
def yX7_fault : MethodName := ⟨RX7, "fault", "()I"⟩
abbrev cX7_send : ByteArray := prog_1_method_5_code
def yX7_send : MethodName := ⟨RX7, "send", "(IIIII)I"⟩
abbrev cX7_forget : ByteArray := prog_1_method_6_code
def yX7_forget : MethodName := ⟨RX7, "forget", "()I"⟩
abbrev cX7_link : ByteArray := prog_1_method_7_code
def yX7_link : MethodName := ⟨RX7, "link", "(II)Z"⟩
abbrev cX7_route : ByteArray := prog_1_method_8_code
def yX7_route : MethodName := ⟨RX7, "route", "(III)I"⟩
abbrev cX7_set : ByteArray := prog_1_method_9_code
def yX7_set : MethodName := ⟨RX7, "set", "(II)I"⟩
abbrev cX7_undo : ByteArray := prog_1_method_10_code
def yX7_undo : MethodName := ⟨RX7, "undo", "()I"⟩
abbrev cX7_told : ByteArray := prog_1_method_11_code
def yX7_told : MethodName := ⟨RX7, "told", "(I)I"⟩
abbrev cX7_linkTold : ByteArray := prog_1_method_12_code
def yX7_linkTold : MethodName := ⟨RX7, "linkTold", "(II)I"⟩
abbrev cX7_routeTold : ByteArray := prog_1_method_13_code
def yX7_routeTold : MethodName := ⟨RX7, "routeTold", "(II)I"⟩
abbrev cX7_packet : ByteArray := prog_1_method_14_code
def yX7_packet : MethodName := ⟨RX7, "packet", "(II)I"⟩
abbrev cX7_trail : ByteArray := prog_1_method_15_code
def yX7_trail : MethodName := ⟨RX7, "trail", "(III)I"⟩
abbrev cX7_reports : ByteArray := prog_1_method_16_code
def yX7_reports : MethodName := ⟨RX7, "reports", "(III)I"⟩
abbrev cX7_label : ByteArray := prog_1_method_17_code
def yX7_label : MethodName := ⟨RX7, "label", "(I)I"⟩
abbrev cX7_joints : ByteArray := prog_1_method_18_code
def yX7_joints : MethodName := ⟨RX7, "joints", "(I)I"⟩
abbrev cX7_walk : ByteArray := prog_1_method_19_code
def yX7_walk : MethodName := ⟨RX7, "walk", "(III)I"⟩
abbrev cX7_walkAt : ByteArray := prog_1_method_20_code
def yX7_walkAt : MethodName := ⟨RX7, "walkAt", "(III)I"⟩
abbrev cX7_joined : ByteArray := prog_1_method_21_code
def yX7_joined : MethodName := ⟨RX7, "joined", "(I)I"⟩
abbrev cX7_estimate : ByteArray := prog_1_method_22_code
def yX7_estimate : MethodName := ⟨RX7, "estimate", "(III)J"⟩
abbrev cX7_matrix : ByteArray := prog_1_method_23_code
def yX7_matrix : MethodName := ⟨RX7, "matrix", "(III)J"⟩
abbrev cX7_fates : ByteArray := prog_1_method_24_code
def yX7_fates : MethodName := ⟨RX7, "fates", "(I)I"⟩
abbrev cX7_leastLabels : ByteArray := prog_1_method_25_code
def yX7_leastLabels : MethodName := ⟨RX7, "leastLabels", "()I"⟩
abbrev cX7_unlike : ByteArray := prog_1_method_26_code
def yX7_unlike : MethodName := ⟨RX7, "unlike", "(IZ)J"⟩
abbrev cX7_clashes : ByteArray := prog_1_method_27_code
def yX7_clashes : MethodName := ⟨RX7, "clashes", "(I)I"⟩
abbrev cX7_bestKey : ByteArray := prog_1_method_28_code
def yX7_bestKey : MethodName := ⟨RX7, "bestKey", "(II)I"⟩
abbrev cX7_bestMask : ByteArray := prog_1_method_29_code
def yX7_bestMask : MethodName := ⟨RX7, "bestMask", "(I)I"⟩
abbrev cX7_print : ByteArray := prog_1_method_30_code
def yX7_print : MethodName := ⟨RX7, "print", "()J"⟩
abbrev cX7_status : ByteArray := prog_1_method_31_code
def yX7_status : MethodName := ⟨RX7, "status", "(I)I"⟩
abbrev cX7_find : ByteArray := prog_1_method_32_code
def yX7_find : MethodName := ⟨RX7, "find", "(Z)V"⟩
abbrev cX7_require : ByteArray := prog_1_method_33_code
def yX7_require : MethodName := ⟨RX7, "require", "(Z)V"⟩
abbrev cX7_refuseWhenFull : ByteArray := prog_1_method_34_code
def yX7_refuseWhenFull : MethodName := ⟨RX7, "refuseWhenFull", "()V"⟩
abbrev cX7_putOnTape : ByteArray := prog_1_method_35_code
def yX7_putOnTape : MethodName := ⟨RX7, "putOnTape", "(I)V"⟩
abbrev cX7_keepState : ByteArray := prog_1_method_36_code
def yX7_keepState : MethodName := ⟨RX7, "keepState", "()V"⟩
abbrev cX7_isLabel : ByteArray := prog_1_method_37_code
def yX7_isLabel : MethodName := ⟨RX7, "isLabel", "(I)Z"⟩
abbrev cX7_chosenAtFirst : ByteArray := prog_1_method_38_code
def yX7_chosenAtFirst : MethodName := ⟨RX7, "chosenAtFirst", "()I"⟩
abbrev cX7_clashesAmong : ByteArray := prog_1_method_39_code
def yX7_clashesAmong : MethodName := ⟨RX7, "clashesAmong", "(I)I"⟩
abbrev cX7_walksOrWhyNone : ByteArray := prog_1_method_40_code
def yX7_walksOrWhyNone : MethodName := ⟨RX7, "walksOrWhyNone", "()I"⟩
abbrev cX7_isJoinedAs : ByteArray := prog_1_method_41_code
def yX7_isJoinedAs : MethodName := ⟨RX7, "isJoinedAs", "(II)Z"⟩
abbrev cX7_walksAreTrails : ByteArray := prog_1_method_42_code
def yX7_walksAreTrails : MethodName := ⟨RX7, "walksAreTrails", "(I)Z"⟩
abbrev cX7_sureWalks : ByteArray := prog_1_method_43_code
def yX7_sureWalks : MethodName := ⟨RX7, "sureWalks", "(II)J"⟩
abbrev cX7_isCounted : ByteArray := prog_1_method_44_code
def yX7_isCounted : MethodName := ⟨RX7, "isCounted", "(II)Z"⟩
abbrev cX7_weigh : ByteArray := prog_1_method_45_code
def yX7_weigh : MethodName := ⟨RX7, "weigh", "(II)V"⟩
abbrev cX7_reduced : ByteArray := prog_1_method_46_code
def yX7_reduced : MethodName := ⟨RX7, "reduced", "(JJZ)J"⟩
abbrev cX7_commonDivisor : ByteArray := prog_1_method_47_code
def yX7_commonDivisor : MethodName := ⟨RX7, "commonDivisor", "(JJ)J"⟩
def RX8 : String := "PacketTrailModel"
def TX8 : u_T := fun k => match k with
  | 0 => ("PacketTrailModel", "thrown", "I", false)
  | 1 => ("PacketTrailModel", "refused", "[I", true)
  | 2 => ("PacketTrailModel", "m", "[I", true)
  | 3 => ("PacketTrailModel", "read", "[I", true)
  | 4 => ("PacketTrailModel", "back", "[I", true)
  | 5 => ("PacketTrailModel", "one", "[I", true)
  | 6 => ("PacketTrailModel", "two", "[I", true)
  | 7 => ("PacketTrailModel", "readOne", "[I", true)
  | 8 => ("PacketTrailModel", "readTwo", "[I", true)
  | 9 => ("PacketTrailModel", "undos", "I", false)
  | 10 => ("PacketTrailModel", "hops", "I", false)
  | 11 => ("PacketTrailModel", "links", "I", false)
  | 12 => ("PacketTrailModel", "tape", "[B", true)
  | 13 => ("PacketTrailModel", "text", "[B", true)
  | 14 => ("PacketTrailModel", "taped", "I", false)
  | 15 => ("PacketTrailModel", "size", "I", false)
  | 16 => ("PacketTrailModel", "next", "I", false)
  | 17 => ("PacketTrailModel", "begin", "I", false)
  | 18 => ("PacketTrailModel", "fault", "I", false)
  | 19 => ("PacketTrailModel", "faultNow", "I", false)
  | 20 => ("PacketTrailModel", "faultAt", "I", false)
  | 21 => ("PacketTrailModel", "readHops", "I", false)
  | 22 => ("PacketTrailModel", "readLinks", "I", false)
  | 23 => ("PacketTrailModel", "entered", "[I", true)
  | 24 => ("PacketTrailModel", "came", "[I", true)
  | 25 => ("PacketTrailModel", "reportMany", "I", false)
  | 26 => ("PacketTrailModel", "walkHop", "[I", true)
  | 27 => ("PacketTrailModel", "walkFrom", "[I", true)
  | 28 => ("PacketTrailModel", "walkRow", "[I", true)
  | 29 => ("PacketTrailModel", "firstHop", "[I", true)
  | 30 => ("PacketTrailModel", "firstFrom", "[I", true)
  | 31 => ("PacketTrailModel", "firstRow", "[I", true)
  | 32 => ("PacketTrailModel", "walks", "I", false)
  | 33 => ("PacketTrailModel", "steps", "I", false)
  | 34 => ("PacketTrailModel", "sets", "I", false)
  | 35 => ("PacketTrailModel", "firstWalks", "I", false)
  | _ => ("PacketTrailModel", "reportsLeft", "I", false)
def tyX8 : Nat → FieldType := fun k => match k with
  | 0 => .int
  | 1 => .array .int
  | 2 => .array .int
  | 3 => .array .int
  | 4 => .array .int
  | 5 => .array .int
  | 6 => .array .int
  | 7 => .array .int
  | 8 => .array .int
  | 9 => .int
  | 10 => .int
  | 11 => .int
  | 12 => .array .byte
  | 13 => .array .byte
  | 14 => .int
  | 15 => .int
  | 16 => .int
  | 17 => .int
  | 18 => .int
  | 19 => .int
  | 20 => .int
  | 21 => .int
  | 22 => .int
  | 23 => .array .int
  | 24 => .array .int
  | 25 => .int
  | 26 => .array .int
  | 27 => .array .int
  | 28 => .array .int
  | 29 => .array .int
  | 30 => .array .int
  | 31 => .array .int
  | 32 => .int
  | 33 => .int
  | 34 => .int
  | 35 => .int
  | _ => .int
theorem nmX8 : ∀ a, a < 37 → ∀ b, b < 37 → a ≠ b → (TX8 a).2.1 ≠ (TX8 b).2.1 := by decide +kernel
theorem tyX8_ok : ∀ k, k < 37 → parseFieldDescriptor (TX8 k).2.2.1 = some (tyX8 k) := by decide +kernel
abbrev cX8_thrown : ByteArray := prog_10_method_1_code
def yX8_thrown : MethodName := ⟨RX8, "thrown", "()I"⟩
abbrev cX8_isFine : ByteArray := prog_10_method_2_code
def yX8_isFine : MethodName := ⟨RX8, "isFine", "(ZII)Z"⟩
abbrev cX8_within : ByteArray := prog_10_method_3_code
def yX8_within : MethodName := ⟨RX8, "within", "(III)Z"⟩
abbrev cX8_init : ByteArray := prog_10_method_4_code
def yX8_init : MethodName := ⟨RX8, "<init>", "()V"⟩
abbrev cX8_clears : ByteArray := prog_10_method_5_code
def yX8_clears : MethodName := ⟨RX8, "clears", "([I)V"⟩
abbrev cX8_of : ByteArray := prog_10_method_6_code
def yX8_of : MethodName := ⟨RX8, "of", "(II)I"⟩
abbrev cX8_isCut : ByteArray := prog_10_method_7_code
def yX8_isCut : MethodName := ⟨RX8, "isCut", "(I)Z"⟩
abbrev cX8_routeOf : ByteArray := prog_10_method_8_code
def yX8_routeOf : MethodName := ⟨RX8, "routeOf", "(II)I"⟩
abbrev cX8_goes : ByteArray := prog_10_method_9_code
def yX8_goes : MethodName := ⟨RX8, "goes", "(I)V"⟩
abbrev cX8_linkAt : ByteArray := prog_10_method_10_code
def yX8_linkAt : MethodName := ⟨RX8, "linkAt", "(II)I"⟩
abbrev cX8_hopAt : ByteArray := prog_10_method_11_code
def yX8_hopAt : MethodName := ⟨RX8, "hopAt", "(II)I"⟩
abbrev cX8_mixed : ByteArray := prog_10_method_12_code
def yX8_mixed : MethodName := ⟨RX8, "mixed", "(III)I"⟩
abbrev cX8_mixBy : ByteArray := prog_10_method_13_code
def yX8_mixBy : MethodName := ⟨RX8, "mixBy", "(III)I"⟩
abbrev cX8_mixAt : ByteArray := prog_10_method_14_code
def yX8_mixAt : MethodName := ⟨RX8, "mixAt", "(II)I"⟩
abbrev cX8_isChosen : ByteArray := prog_10_method_15_code
def yX8_isChosen : MethodName := ⟨RX8, "isChosen", "(II)Z"⟩
abbrev cX8_hashOf : ByteArray := prog_10_method_16_code
def yX8_hashOf : MethodName := ⟨RX8, "hashOf", "(I)I"⟩
abbrev cX8_labelOf : ByteArray := prog_10_method_17_code
def yX8_labelOf : MethodName := ⟨RX8, "labelOf", "(I)I"⟩
abbrev cX8_feed : ByteArray := prog_10_method_18_code
def yX8_feed : MethodName := ⟨RX8, "feed", "(IIIII)I"⟩
abbrev cX8_puts : ByteArray := prog_10_method_19_code
def yX8_puts : MethodName := ⟨RX8, "puts", "(I)V"⟩
abbrev cX8_wrong : ByteArray := prog_10_method_20_code
def yX8_wrong : MethodName := ⟨RX8, "wrong", "(II)V"⟩
abbrev cX8_sign : ByteArray := prog_10_method_21_code
def yX8_sign : MethodName := ⟨RX8, "sign", "()I"⟩
abbrev cX8_isSmall : ByteArray := prog_10_method_22_code
def yX8_isSmall : MethodName := ⟨RX8, "isSmall", "(I)Z"⟩
abbrev cX8_passes : ByteArray := prog_10_method_23_code
def yX8_passes : MethodName := ⟨RX8, "passes", "(Ljava/lang/String;)Z"⟩
abbrev cX8_number : ByteArray := prog_10_method_24_code
def yX8_number : MethodName := ⟨RX8, "number", "(II)I"⟩
abbrev cX8_ends : ByteArray := prog_10_method_25_code
def yX8_ends : MethodName := ⟨RX8, "ends", "()V"⟩
abbrev cX8_linkBy : ByteArray := prog_10_method_26_code
def yX8_linkBy : MethodName := ⟨RX8, "linkBy", "([I[IIII)I"⟩
abbrev cX8_other : ByteArray := prog_10_method_27_code
def yX8_other : MethodName := ⟨RX8, "other", "(I)I"⟩
abbrev cX8_readsLink : ByteArray := prog_10_method_28_code
def yX8_readsLink : MethodName := ⟨RX8, "readsLink", "()V"⟩
abbrev cX8_cutTold : ByteArray := prog_10_method_29_code
def yX8_cutTold : MethodName := ⟨RX8, "cutTold", "()V"⟩
abbrev cX8_readsRoute : ByteArray := prog_10_method_30_code
def yX8_readsRoute : MethodName := ⟨RX8, "readsRoute", "()V"⟩
abbrev cX8_baseTold : ByteArray := prog_10_method_31_code
def yX8_baseTold : MethodName := ⟨RX8, "baseTold", "()V"⟩
abbrev cX8_oneLine : ByteArray := prog_10_method_32_code
def yX8_oneLine : MethodName := ⟨RX8, "oneLine", "()V"⟩
abbrev cX8_text : ByteArray := prog_10_method_33_code
def yX8_text : MethodName := ⟨RX8, "text", "(I)I"⟩
abbrev cX8_fault : ByteArray := prog_10_method_34_code
def yX8_fault : MethodName := ⟨RX8, "fault", "()I"⟩
abbrev cX8_keeps : ByteArray := prog_10_method_35_code
def yX8_keeps : MethodName := ⟨RX8, "keeps", "()V"⟩
abbrev cX8_isHop : ByteArray := prog_10_method_36_code
def yX8_isHop : MethodName := ⟨RX8, "isHop", "(I)Z"⟩
abbrev cX8_isLink : ByteArray := prog_10_method_37_code
def yX8_isLink : MethodName := ⟨RX8, "isLink", "(I)Z"⟩
abbrev cX8_send : ByteArray := prog_10_method_38_code
def yX8_send : MethodName := ⟨RX8, "send", "(IIIII)I"⟩
abbrev cX8_forget : ByteArray := prog_10_method_39_code
def yX8_forget : MethodName := ⟨RX8, "forget", "()I"⟩
abbrev cX8_link : ByteArray := prog_10_method_40_code
def yX8_link : MethodName := ⟨RX8, "link", "(II)Z"⟩
abbrev cX8_route : ByteArray := prog_10_method_41_code
def yX8_route : MethodName := ⟨RX8, "route", "(III)I"⟩
abbrev cX8_maySet : ByteArray := prog_10_method_42_code
def yX8_maySet : MethodName := ⟨RX8, "maySet", "(II)Z"⟩
abbrev cX8_set : ByteArray := prog_10_method_43_code
def yX8_set : MethodName := ⟨RX8, "set", "(II)I"⟩
abbrev cX8_undo : ByteArray := prog_10_method_44_code
def yX8_undo : MethodName := ⟨RX8, "undo", "()I"⟩
abbrev cX8_chosenMany : ByteArray := prog_10_method_45_code
def yX8_chosenMany : MethodName := ⟨RX8, "chosenMany", "(I)I"⟩
abbrev cX8_counted : ByteArray := prog_10_method_46_code
def yX8_counted : MethodName := ⟨RX8, "counted", "(I)I"⟩
abbrev cX8_clashesBy : ByteArray := prog_10_method_47_code
def yX8_clashesBy : MethodName := ⟨RX8, "clashesBy", "(I)I"⟩
abbrev cX8_told : ByteArray := prog_10_method_48_code
def yX8_told : MethodName := ⟨RX8, "told", "(I)I"⟩
abbrev cX8_linkTold : ByteArray := prog_10_method_49_code
def yX8_linkTold : MethodName := ⟨RX8, "linkTold", "(II)I"⟩
abbrev cX8_routeTold : ByteArray := prog_10_method_50_code
def yX8_routeTold : MethodName := ⟨RX8, "routeTold", "(II)I"⟩
abbrev cX8_isPacket : ByteArray := prog_10_method_51_code
def yX8_isPacket : MethodName := ⟨RX8, "isPacket", "(I)Z"⟩
abbrev cX8_packet : ByteArray := prog_10_method_52_code
def yX8_packet : MethodName := ⟨RX8, "packet", "(II)I"⟩
abbrev cX8_trail : ByteArray := prog_10_method_53_code
def yX8_trail : MethodName := ⟨RX8, "trail", "(III)I"⟩
abbrev cX8_laysReports : ByteArray := prog_10_method_54_code
def yX8_laysReports : MethodName := ⟨RX8, "laysReports", "(I)V"⟩
abbrev cX8_reports : ByteArray := prog_10_method_55_code
def yX8_reports : MethodName := ⟨RX8, "reports", "(III)I"⟩
abbrev cX8_label : ByteArray := prog_10_method_56_code
def yX8_label : MethodName := ⟨RX8, "label", "(I)I"⟩
abbrev cX8_joins : ByteArray := prog_10_method_57_code
def yX8_joins : MethodName := ⟨RX8, "joins", "(I)V"⟩
abbrev cX8_beginsWalk : ByteArray := prog_10_method_58_code
def yX8_beginsWalk : MethodName := ⟨RX8, "beginsWalk", "()V"⟩
abbrev cX8_takesSet : ByteArray := prog_10_method_59_code
def yX8_takesSet : MethodName := ⟨RX8, "takesSet", "()V"⟩
abbrev cX8_isOver : ByteArray := prog_10_method_60_code
def yX8_isOver : MethodName := ⟨RX8, "isOver", "()Z"⟩
abbrev cX8_goesOn : ByteArray := prog_10_method_61_code
def yX8_goesOn : MethodName := ⟨RX8, "goesOn", "(IIZ)V"⟩
abbrev cX8_jointsOf : ByteArray := prog_10_method_62_code
def yX8_jointsOf : MethodName := ⟨RX8, "jointsOf", "(I)I"⟩
abbrev cX8_isLabel : ByteArray := prog_10_method_63_code
def yX8_isLabel : MethodName := ⟨RX8, "isLabel", "(I)Z"⟩
abbrev cX8_joints : ByteArray := prog_10_method_64_code
def yX8_joints : MethodName := ⟨RX8, "joints", "(I)I"⟩
abbrev cX8_longAt : ByteArray := prog_10_method_65_code
def yX8_longAt : MethodName := ⟨RX8, "longAt", "(I)I"⟩
abbrev cX8_lastHop : ByteArray := prog_10_method_66_code
def yX8_lastHop : MethodName := ⟨RX8, "lastHop", "(I)I"⟩
abbrev cX8_walk : ByteArray := prog_10_method_67_code
def yX8_walk : MethodName := ⟨RX8, "walk", "(III)I"⟩
abbrev cX8_walkAt : ByteArray := prog_10_method_68_code
def yX8_walkAt : MethodName := ⟨RX8, "walkAt", "(III)I"⟩
abbrev cX8_isWalk : ByteArray := prog_10_method_69_code
def yX8_isWalk : MethodName := ⟨RX8, "isWalk", "(II)Z"⟩
abbrev cX8_isTrue : ByteArray := prog_10_method_70_code
def yX8_isTrue : MethodName := ⟨RX8, "isTrue", "(I)Z"⟩
abbrev cX8_isAlike : ByteArray := prog_10_method_71_code
def yX8_isAlike : MethodName := ⟨RX8, "isAlike", "(II)Z"⟩
abbrev cX8_joined : ByteArray := prog_10_method_72_code
def yX8_joined : MethodName := ⟨RX8, "joined", "(I)I"⟩
abbrev cX8_common : ByteArray := prog_10_method_73_code
def yX8_common : MethodName := ⟨RX8, "common", "(JJ)J"⟩
abbrev cX8_part : ByteArray := prog_10_method_74_code
def yX8_part : MethodName := ⟨RX8, "part", "(JJZ)J"⟩
abbrev cX8_counts : ByteArray := prog_10_method_75_code
def yX8_counts : MethodName := ⟨RX8, "counts", "(III)J"⟩
abbrev cX8_reckoned : ByteArray := prog_10_method_76_code
def yX8_reckoned : MethodName := ⟨RX8, "reckoned", "(III)J"⟩
abbrev cX8_estimate : ByteArray := prog_10_method_77_code
def yX8_estimate : MethodName := ⟨RX8, "estimate", "(III)J"⟩
abbrev cX8_matrix : ByteArray := prog_10_method_78_code
def yX8_matrix : MethodName := ⟨RX8, "matrix", "(III)J"⟩
abbrev cX8_fates : ByteArray := prog_10_method_79_code
def yX8_fates : MethodName := ⟨RX8, "fates", "(I)I"⟩
abbrev cX8_leastLabels : ByteArray := prog_10_method_80_code
def yX8_leastLabels : MethodName := ⟨RX8, "leastLabels", "()I"⟩
abbrev cX8_unlike : ByteArray := prog_10_method_81_code
def yX8_unlike : MethodName := ⟨RX8, "unlike", "(IZ)J"⟩
abbrev cX8_clashes : ByteArray := prog_10_method_82_code
def yX8_clashes : MethodName := ⟨RX8, "clashes", "(I)I"⟩
abbrev cX8_bestKey : ByteArray := prog_10_method_83_code
def yX8_bestKey : MethodName := ⟨RX8, "bestKey", "(II)I"⟩
abbrev cX8_unlikeBy : ByteArray := prog_10_method_84_code
def yX8_unlikeBy : MethodName := ⟨RX8, "unlikeBy", "(I)I"⟩
abbrev cX8_bestMask : ByteArray := prog_10_method_85_code
def yX8_bestMask : MethodName := ⟨RX8, "bestMask", "(I)I"⟩
abbrev cX8_print : ByteArray := prog_10_method_86_code
def yX8_print : MethodName := ⟨RX8, "print", "()J"⟩
abbrev cX8_status : ByteArray := prog_10_method_87_code
def yX8_status : MethodName := ⟨RX8, "status", "(I)I"⟩
def RJx145de : String := "java/io/Serializable"
def TJx145de : u_T := fun k => match k with
  | _ => ("", "", "", false)
def tyJx145de : Nat → FieldType := fun k => match k with
  | _ => .int
theorem nmJx145de : ∀ a, a < 0 → ∀ b, b < 0 → a ≠ b → (TJx145de a).2.1 ≠ (TJx145de b).2.1 := by decide +kernel
theorem tyJx145de_ok : ∀ k, k < 0 → parseFieldDescriptor (TJx145de k).2.2.1 = some (tyJx145de k) := by decide +kernel
def RJx9f9b0 : String := "java/lang/CharSequence"
def TJx9f9b0 : u_T := fun k => match k with
  | _ => ("", "", "", false)
def tyJx9f9b0 : Nat → FieldType := fun k => match k with
  | _ => .int
theorem nmJx9f9b0 : ∀ a, a < 0 → ∀ b, b < 0 → a ≠ b → (TJx9f9b0 a).2.1 ≠ (TJx9f9b0 b).2.1 := by decide +kernel
theorem tyJx9f9b0_ok : ∀ k, k < 0 → parseFieldDescriptor (TJx9f9b0 k).2.2.1 = some (tyJx9f9b0 k) := by decide +kernel
def RJx8e188 : String := "java/lang/Cloneable"
def TJx8e188 : u_T := fun k => match k with
  | _ => ("", "", "", false)
def tyJx8e188 : Nat → FieldType := fun k => match k with
  | _ => .int
theorem nmJx8e188 : ∀ a, a < 0 → ∀ b, b < 0 → a ≠ b → (TJx8e188 a).2.1 ≠ (TJx8e188 b).2.1 := by decide +kernel
theorem tyJx8e188_ok : ∀ k, k < 0 → parseFieldDescriptor (TJx8e188 k).2.2.1 = some (tyJx8e188 k) := by decide +kernel
def RJxb160c : String := "java/lang/Comparable"
def TJxb160c : u_T := fun k => match k with
  | _ => ("", "", "", false)
def tyJxb160c : Nat → FieldType := fun k => match k with
  | _ => .int
theorem nmJxb160c : ∀ a, a < 0 → ∀ b, b < 0 → a ≠ b → (TJxb160c a).2.1 ≠ (TJxb160c b).2.1 := by decide +kernel
theorem tyJxb160c_ok : ∀ k, k < 0 → parseFieldDescriptor (TJxb160c k).2.2.1 = some (tyJxb160c k) := by decide +kernel
def RJ9 : String := "java/lang/Math"
def TJ9 : u_T := fun k => match k with
  | _ => ("", "", "", false)
def tyJ9 : Nat → FieldType := fun k => match k with
  | _ => .int
theorem nmJ9 : ∀ a, a < 0 → ∀ b, b < 0 → a ≠ b → (TJ9 a).2.1 ≠ (TJ9 b).2.1 := by decide +kernel
theorem tyJ9_ok : ∀ k, k < 0 → parseFieldDescriptor (TJ9 k).2.2.1 = some (tyJ9 k) := by decide +kernel
abbrev cJ9_max_7cf53 : ByteArray := prog_18_method_65_code
def yJ9_max_7cf53 : MethodName := ⟨RJ9, "max", "(II)I"⟩
abbrev cJ9_min_7cf53 : ByteArray := prog_18_method_69_code
def yJ9_min_7cf53 : MethodName := ⟨RJ9, "min", "(II)I"⟩
def RJ0 : String := "java/lang/String"
def TJ0 : u_T := fun k => match k with
  | _ => ("", "", "", false)
def tyJ0 : Nat → FieldType := fun k => match k with
  | _ => .int
theorem nmJ0 : ∀ a, a < 0 → ∀ b, b < 0 → a ≠ b → (TJ0 a).2.1 ≠ (TJ0 b).2.1 := by decide +kernel
theorem tyJ0_ok : ∀ k, k < 0 → parseFieldDescriptor (TJ0 k).2.2.1 = some (tyJ0 k) := by decide +kernel
abbrev cJ0_length_8abf5 : ByteArray := prog_20_method_54_code
def yJ0_length_8abf5 : MethodName := ⟨RJ0, "length", "()I"⟩
abbrev cJ0_charAt_5068e : ByteArray := prog_20_method_56_code
def yJ0_charAt_5068e : MethodName := ⟨RJ0, "charAt", "(I)C"⟩
abbrev cJ0_coder_7d493 : ByteArray := prog_20_method_152_code
def yJ0_coder_7d493 : MethodName := ⟨RJ0, "coder", "()B"⟩
abbrev cJ0_isLatin1_aae02 : ByteArray := prog_20_method_154_code
def yJ0_isLatin1_aae02 : MethodName := ⟨RJ0, "isLatin1", "()Z"⟩
abbrev cJ0_checkIndex_df160 : ByteArray := prog_20_method_155_code
def yJ0_checkIndex_df160 : MethodName := ⟨RJ0, "checkIndex", "(II)V"⟩
def RJ1 : String := "java/lang/StringLatin1"
def TJ1 : u_T := fun k => match k with
  | _ => ("", "", "", false)
def tyJ1 : Nat → FieldType := fun k => match k with
  | _ => .int
theorem nmJ1 : ∀ a, a < 0 → ∀ b, b < 0 → a ≠ b → (TJ1 a).2.1 ≠ (TJ1 b).2.1 := by decide +kernel
theorem tyJ1_ok : ∀ k, k < 0 → parseFieldDescriptor (TJ1 k).2.2.1 = some (tyJ1 k) := by decide +kernel
abbrev cJ1_charAt_3b067 : ByteArray := prog_21_method_2_code
def yJ1_charAt_3b067 : MethodName := ⟨RJ1, "charAt", "([BI)C"⟩
def RJ2 : String := "java/lang/StringUTF16"
def TJ2 : u_T := fun k => match k with
  | _ => ("", "", "", false)
def tyJ2 : Nat → FieldType := fun k => match k with
  | _ => .int
theorem nmJ2 : ∀ a, a < 0 → ∀ b, b < 0 → a ≠ b → (TJ2 a).2.1 ≠ (TJ2 b).2.1 := by decide +kernel
theorem tyJ2_ok : ∀ k, k < 0 → parseFieldDescriptor (TJ2 k).2.2.1 = some (tyJ2 k) := by decide +kernel
abbrev cJ2_getChar_3b067 : ByteArray := prog_22_method_5_code
def yJ2_getChar_3b067 : MethodName := ⟨RJ2, "getChar", "([BI)C"⟩
abbrev cJ2_length_9d52b : ByteArray := prog_22_method_6_code
def yJ2_length_9d52b : MethodName := ⟨RJ2, "length", "([B)I"⟩
abbrev cJ2_charAt_3b067 : ByteArray := prog_22_method_83_code
def yJ2_charAt_3b067 : MethodName := ⟨RJ2, "charAt", "([BI)C"⟩
abbrev cJ2_checkIndex_2214a : ByteArray := prog_22_method_91_code
def yJ2_checkIndex_2214a : MethodName := ⟨RJ2, "checkIndex", "(I[B)V"⟩
def RJ10 : String := "java/lang/System"
def TJ10 : u_T := fun k => match k with
  | _ => ("", "", "", false)
def tyJ10 : Nat → FieldType := fun k => match k with
  | _ => .int
theorem nmJ10 : ∀ a, a < 0 → ∀ b, b < 0 → a ≠ b → (TJ10 a).2.1 ≠ (TJ10 b).2.1 := by decide +kernel
theorem tyJ10_ok : ∀ k, k < 0 → parseFieldDescriptor (TJ10 k).2.2.1 = some (tyJ10 k) := by decide +kernel
def RJxfd54e : String := "java/lang/constant/Constable"
def TJxfd54e : u_T := fun k => match k with
  | _ => ("", "", "", false)
def tyJxfd54e : Nat → FieldType := fun k => match k with
  | _ => .int
theorem nmJxfd54e : ∀ a, a < 0 → ∀ b, b < 0 → a ≠ b → (TJxfd54e a).2.1 ≠ (TJxfd54e b).2.1 := by decide +kernel
theorem tyJxfd54e_ok : ∀ k, k < 0 → parseFieldDescriptor (TJxfd54e k).2.2.1 = some (tyJxfd54e k) := by decide +kernel
def RJx3cf43 : String := "java/lang/constant/ConstantDesc"
def TJx3cf43 : u_T := fun k => match k with
  | _ => ("", "", "", false)
def tyJx3cf43 : Nat → FieldType := fun k => match k with
  | _ => .int
theorem nmJx3cf43 : ∀ a, a < 0 → ∀ b, b < 0 → a ≠ b → (TJx3cf43 a).2.1 ≠ (TJx3cf43 b).2.1 := by decide +kernel
theorem tyJx3cf43_ok : ∀ k, k < 0 → parseFieldDescriptor (TJx3cf43 k).2.2.1 = some (tyJx3cf43 k) := by decide +kernel
def RJ7 : String := "java/util/Arrays"
def TJ7 : u_T := fun k => match k with
  | _ => ("", "", "", false)
def tyJ7 : Nat → FieldType := fun k => match k with
  | _ => .int
theorem nmJ7 : ∀ a, a < 0 → ∀ b, b < 0 → a ≠ b → (TJ7 a).2.1 ≠ (TJ7 b).2.1 := by decide +kernel
theorem tyJ7_ok : ∀ k, k < 0 → parseFieldDescriptor (TJ7 k).2.2.1 = some (tyJ7 k) := by decide +kernel
abbrev cJ7_fill_53178 : ByteArray := prog_27_method_103_code
def yJ7_fill_53178 : MethodName := ⟨RJ7, "fill", "([II)V"⟩
def RJ3 : String := "jdk/internal/util/Preconditions"
def TJ3 : u_T := fun k => match k with
  | _ => ("", "", "", false)
def tyJ3 : Nat → FieldType := fun k => match k with
  | _ => .int
theorem nmJ3 : ∀ a, a < 0 → ∀ b, b < 0 → a ≠ b → (TJ3 a).2.1 ≠ (TJ3 b).2.1 := by decide +kernel
theorem tyJ3_ok : ∀ k, k < 0 → parseFieldDescriptor (TJ3 k).2.2.1 = some (tyJ3 k) := by decide +kernel
abbrev cJ3_checkIndex_8e157 : ByteArray := prog_29_method_11_code
def yJ3_checkIndex_8e157 : MethodName := ⟨RJ3, "checkIndex", "(IILjava/util/function/BiFunction;)I"⟩
def RL : String := "PacketTrailLaw"
abbrev cL_text : ByteArray := method_3_code
def yL_text : MethodName := ⟨RL, "text", "(LPacketTrail;I[J)I"⟩
abbrev cL_send : ByteArray := method_4_code
def yL_send : MethodName := ⟨RL, "send", "(LPacketTrail;IIIII[J)I"⟩
abbrev cL_link : ByteArray := method_5_code
def yL_link : MethodName := ⟨RL, "link", "(LPacketTrail;II[J)I"⟩
abbrev cL_route : ByteArray := method_6_code
def yL_route : MethodName := ⟨RL, "route", "(LPacketTrail;III[J)I"⟩
abbrev cL_set : ByteArray := method_7_code
def yL_set : MethodName := ⟨RL, "set", "(LPacketTrail;II[J)I"⟩
abbrev cL_told : ByteArray := method_8_code
def yL_told : MethodName := ⟨RL, "told", "(LPacketTrail;I[J)I"⟩
abbrev cL_linkTold : ByteArray := method_9_code
def yL_linkTold : MethodName := ⟨RL, "linkTold", "(LPacketTrail;II[J)I"⟩
abbrev cL_routeTold : ByteArray := method_10_code
def yL_routeTold : MethodName := ⟨RL, "routeTold", "(LPacketTrail;II[J)I"⟩
abbrev cL_packet : ByteArray := method_11_code
def yL_packet : MethodName := ⟨RL, "packet", "(LPacketTrail;II[J)I"⟩
abbrev cL_trail : ByteArray := method_12_code
def yL_trail : MethodName := ⟨RL, "trail", "(LPacketTrail;III[J)I"⟩
abbrev cL_reports : ByteArray := method_13_code
def yL_reports : MethodName := ⟨RL, "reports", "(LPacketTrail;III[J)I"⟩
abbrev cL_joints : ByteArray := method_14_code
def yL_joints : MethodName := ⟨RL, "joints", "(LPacketTrail;I[J)I"⟩
abbrev cL_walk : ByteArray := method_15_code
def yL_walk : MethodName := ⟨RL, "walk", "(LPacketTrail;III[J)I"⟩
abbrev cL_walkAt : ByteArray := method_16_code
def yL_walkAt : MethodName := ⟨RL, "walkAt", "(LPacketTrail;III[J)I"⟩
abbrev cL_joined : ByteArray := method_17_code
def yL_joined : MethodName := ⟨RL, "joined", "(LPacketTrail;I[J)I"⟩
abbrev cL_estimate : ByteArray := method_18_code
def yL_estimate : MethodName := ⟨RL, "estimate", "(LPacketTrail;III[J)I"⟩
abbrev cL_matrix : ByteArray := method_19_code
def yL_matrix : MethodName := ⟨RL, "matrix", "(LPacketTrail;III[J)I"⟩
abbrev cL_fates : ByteArray := method_20_code
def yL_fates : MethodName := ⟨RL, "fates", "(LPacketTrail;I[J)I"⟩
abbrev cL_unlike : ByteArray := method_21_code
def yL_unlike : MethodName := ⟨RL, "unlike", "(LPacketTrail;IZ[J)I"⟩
abbrev cL_clashes : ByteArray := method_22_code
def yL_clashes : MethodName := ⟨RL, "clashes", "(LPacketTrail;I[J)I"⟩
abbrev cL_bestKey : ByteArray := method_23_code
def yL_bestKey : MethodName := ⟨RL, "bestKey", "(LPacketTrail;II[J)I"⟩
abbrev cL_bestMask : ByteArray := method_24_code
def yL_bestMask : MethodName := ⟨RL, "bestMask", "(LPacketTrail;I[J)I"⟩
abbrev cL_law : ByteArray := code
def yL_law : MethodName := ⟨RL, "law", "([I)Z"⟩
abbrev vwCl : List vw_C := [(RX0, TX0, 6), (RX1, TX1, 16), (RX2, TX2, 7), (RX3, TX3, 10), (RX4, TX4, 10), (RX5, TX5, 4), (RX6, TX6, 3), (RX7, TX7, 10), (RX8, TX8, 37)]
end
section
/-! THE METHODS, printed by program (wip/whole/gen_tables.py) out of the task's own texts -/
/-- name, code, locals, answer, frames, cells, slots, its class, handlers, how it is called (0 virtual, 1 special, 2 static) -/
abbrev tr_MI : Type := MethodName × ByteArray × Nat × Option FieldType × Nat × Nat × Nat × Nat × List (Nat × Nat × Nat × Nat) × Nat
def mY (M : tr_MI) : MethodName := M.1
def mB (M : tr_MI) : ByteArray := M.2.1
def mL (M : tr_MI) : Nat := M.2.2.1
def mR (M : tr_MI) : Option FieldType := M.2.2.2.1
def mD (M : tr_MI) : Nat := M.2.2.2.2.1
def mC (M : tr_MI) : Nat := M.2.2.2.2.2.1
def mS (M : tr_MI) : Nat := M.2.2.2.2.2.2.1
def mO (M : tr_MI) : Nat := M.2.2.2.2.2.2.2.1
def mH (M : tr_MI) : List (Nat × Nat × Nat × Nat) := M.2.2.2.2.2.2.2.2.1
def mK (M : tr_MI) : Nat := M.2.2.2.2.2.2.2.2.2
def mi_X0_init : tr_MI := (yX0_init, cX0_init, 1, none, 2, 3, 144, 0, [], 1)
def mi_X0_gather : tr_MI := (yX0_gather, cX0_gather, 4, none, 4, 0, 0, 0, [], 0)
def mi_X0_isChosen : tr_MI := (yX0_isChosen, cX0_isChosen, 4, (some .boolean), 2, 0, 0, 0, [], 0)
def mi_X0_chosenBy : tr_MI := (yX0_chosenBy, cX0_chosenBy, 4, (some .int), 3, 0, 0, 0, [], 0)
def mi_X0_clashesBy : tr_MI := (yX0_clashesBy, cX0_clashesBy, 6, (some .int), 3, 0, 0, 0, [], 0)
def mi_X0_unlikeMixes : tr_MI := (yX0_unlikeMixes, cX0_unlikeMixes, 3, (some .int), 3, 0, 0, 0, [], 0)
def mi_X0_isFirstOfItsMix : tr_MI := (yX0_isFirstOfItsMix, cX0_isFirstOfItsMix, 3, (some .boolean), 2, 0, 0, 0, [], 0)
def mi_X1_init : tr_MI := (yX1_init, cX1_init, 1, none, 2, 11, 2794, 1, [], 1)
def mi_X1_gather : tr_MI := (yX1_gather, cX1_gather, 5, none, 7, 0, 0, 1, [], 0)
def mi_X1_gatherOf : tr_MI := (yX1_gatherOf, cX1_gatherOf, 4, none, 6, 0, 0, 1, [], 0)
def mi_X1_hasReports : tr_MI := (yX1_hasReports, cX1_hasReports, 1, (some .boolean), 2, 0, 0, 1, [], 0)
def mi_X1_join : tr_MI := (yX1_join, cX1_join, 5, none, 5, 0, 0, 1, [], 0)
def mi_X1_nextMove : tr_MI := (yX1_nextMove, cX1_nextMove, 5, (some .int), 2, 0, 0, 1, [], 0)
def mi_X1_stand : tr_MI := (yX1_stand, cX1_stand, 5, none, 2, 0, 0, 1, [], 0)
def mi_X1_openWalk : tr_MI := (yX1_openWalk, cX1_openWalk, 5, none, 3, 0, 0, 1, [], 0)
def mi_X1_goOn : tr_MI := (yX1_goOn, cX1_goOn, 6, (some .int), 3, 0, 0, 1, [], 0)
def mi_X1_endWalk : tr_MI := (yX1_endWalk, cX1_endWalk, 2, (some .int), 4, 0, 0, 1, [], 0)
def mi_X1_takeBack : tr_MI := (yX1_takeBack, cX1_takeBack, 2, none, 2, 0, 0, 1, [], 0)
def mi_X1_keepSet : tr_MI := (yX1_keepSet, cX1_keepSet, 3, none, 2, 0, 0, 1, [], 0)
def mi_X1_linkOfWalk : tr_MI := (yX1_linkOfWalk, cX1_linkOfWalk, 3, (some .int), 2, 0, 0, 1, [], 0)
def mi_X1_lastHop : tr_MI := (yX1_lastHop, cX1_lastHop, 4, (some .int), 3, 0, 0, 1, [], 0)
def mi_X1_countWalks : tr_MI := (yX1_countWalks, cX1_countWalks, 6, (some .int), 4, 0, 0, 1, [], 0)
def mi_X1_releaseWalks : tr_MI := (yX1_releaseWalks, cX1_releaseWalks, 2, none, 2, 0, 0, 1, [], 0)
def mi_X1_claimWalk : tr_MI := (yX1_claimWalk, cX1_claimWalk, 3, (some .boolean), 4, 0, 0, 1, [], 0)
def mi_X1_isTrail : tr_MI := (yX1_isTrail, cX1_isTrail, 4, (some .boolean), 3, 0, 0, 1, [], 0)
def mi_X2_init : tr_MI := (yX2_init, cX2_init, 1, none, 3, 5, 177, 2, [], 1)
def mi_X2_init_ : tr_MI := (yX2_init_, cX2_init_, 2, none, 2, 3, 129, 2, [], 1)
def mi_X2_hasHop : tr_MI := (yX2_hasHop, cX2_hasHop, 2, (some .boolean), 2, 0, 0, 2, [], 0)
def mi_X2_hasLink : tr_MI := (yX2_hasLink, cX2_hasLink, 2, (some .boolean), 2, 0, 0, 2, [], 0)
def mi_X2_addLink : tr_MI := (yX2_addLink, cX2_addLink, 3, none, 2, 0, 0, 2, [], 0)
def mi_X2_linkBetween : tr_MI := (yX2_linkBetween, cX2_linkBetween, 4, (some .int), 2, 0, 0, 2, [], 0)
def mi_X2_fits : tr_MI := (yX2_fits, cX2_fits, 3, (some .boolean), 2, 0, 0, 2, [], 0)
def mi_X2_bareMix : tr_MI := (yX2_bareMix, cX2_bareMix, 7, (some .int), 3, 0, 0, 2, [], 0)
def mi_X2_mixOf : tr_MI := (yX2_mixOf, cX2_mixOf, 4, (some .int), 4, 0, 0, 2, [], 0)
def mi_X2_chooses : tr_MI := (yX2_chooses, cX2_chooses, 3, (some .boolean), 5, 0, 0, 2, [], 0)
def mi_X2_countChosen : tr_MI := (yX2_countChosen, cX2_countChosen, 4, (some .int), 6, 0, 0, 2, [], 0)
def mi_X2_labelOf : tr_MI := (yX2_labelOf, cX2_labelOf, 2, (some .int), 2, 0, 0, 2, [], 0)
def mi_X3_init : tr_MI := (yX3_init, cX3_init, 8, none, 2, 2, 26, 3, [], 1)
def mi_X3_follow : tr_MI := (yX3_follow, cX3_follow, 6, none, 3, 0, 0, 3, [], 0)
def mi_X3_fateAt : tr_MI := (yX3_fateAt, cX3_fateAt, 4, (some .int), 2, 0, 0, 3, [], 0)
def mi_X3_fieldAt : tr_MI := (yX3_fieldAt, cX3_fieldAt, 3, (some .int), 2, 0, 0, 3, [], 0)
def mi_X3_isCountedAt : tr_MI := (yX3_isCountedAt, cX3_isCountedAt, 4, (some .boolean), 2, 0, 0, 3, [], 0)
def mi_X4_init : tr_MI := (yX4_init, cX4_init, 3, none, 4, 6, 184, 4, [], 1)
def mi_X4_readAll : tr_MI := (yX4_readAll, cX4_readAll, 3, (some .boolean), 11, 0, 0, 4, [], 0)
def mi_X4_isAtEnd : tr_MI := (yX4_isAtEnd, cX4_isAtEnd, 1, (some .boolean), 3, 0, 0, 4, [], 0)
def mi_X4_readHops : tr_MI := (yX4_readHops, cX4_readHops, 3, (some .boolean), 10, 0, 0, 4, [], 0)
def mi_X4_readLine : tr_MI := (yX4_readLine, cX4_readLine, 2, (some .boolean), 10, 0, 0, 4, [], 0)
def mi_X4_readLink : tr_MI := (yX4_readLink, cX4_readLink, 2, (some .boolean), 5, 0, 0, 4, [], 0)
def mi_X4_readCut : tr_MI := (yX4_readCut, cX4_readCut, 2, (some .boolean), 5, 0, 0, 4, [], 0)
def mi_X4_readRoute : tr_MI := (yX4_readRoute, cX4_readRoute, 3, (some .boolean), 5, 0, 0, 4, [], 0)
def mi_X4_readSetting : tr_MI := (yX4_readSetting, cX4_readSetting, 3, (some .boolean), 4, 0, 0, 4, [], 0)
def mi_X4_readNear : tr_MI := (yX4_readNear, cX4_readNear, 1, (some .boolean), 4, 0, 0, 4, [], 0)
def mi_X4_readFar : tr_MI := (yX4_readFar, cX4_readFar, 1, (some .boolean), 4, 0, 0, 4, [], 0)
def mi_X4_readNumber : tr_MI := (yX4_readNumber, cX4_readNumber, 2, (some .int), 3, 0, 0, 4, [], 0)
def mi_X4_readSemicolon : tr_MI := (yX4_readSemicolon, cX4_readSemicolon, 1, (some .boolean), 3, 0, 0, 4, [], 0)
def mi_X4_skipBlanks : tr_MI := (yX4_skipBlanks, cX4_skipBlanks, 1, none, 2, 0, 0, 4, [], 0)
def mi_X4_skipLetters : tr_MI := (yX4_skipLetters, cX4_skipLetters, 1, none, 2, 0, 0, 4, [], 0)
def mi_X4_isWord : tr_MI := (yX4_isWord, cX4_isWord, 4, (some .boolean), 9, 0, 0, 4, [], 0)
def mi_X4_refuse : tr_MI := (yX4_refuse, cX4_refuse, 3, (some .boolean), 2, 0, 0, 4, [], 0)
def mi_X5_init : tr_MI := (yX5_init, cX5_init, 1, none, 2, 1, 997, 5, [], 1)
def mi_X5_clear : tr_MI := (yX5_clear, cX5_clear, 3, none, 3, 0, 0, 5, [], 0)
def mi_X5_add : tr_MI := (yX5_add, cX5_add, 3, none, 2, 0, 0, 5, [], 0)
def mi_X5_chosenBy : tr_MI := (yX5_chosenBy, cX5_chosenBy, 6, (some .long), 2, 0, 0, 5, [], 0)
def mi_X5_sumOverKeys : tr_MI := (yX5_sumOverKeys, cX5_sumOverKeys, 10, (some .long), 3, 0, 0, 5, [], 0)
def mi_X6_init : tr_MI := (yX6_init, cX6_init, 2, none, 2, 1, 40, 6, [], 1)
def mi_X6_init_ : tr_MI := (yX6_init_, cX6_init_, 2, none, 3, 5, 176, 6, [], 1)
def mi_X6_hasPacket : tr_MI := (yX6_hasPacket, cX6_hasPacket, 2, (some .boolean), 2, 0, 0, 6, [], 0)
def mi_X6_add : tr_MI := (yX6_add, cX6_add, 2, none, 2, 0, 0, 6, [], 0)
def mi_X6_countReports : tr_MI := (yX6_countReports, cX6_countReports, 3, (some .int), 7, 0, 0, 6, [], 0)
def mi_X6_countPartlyChosen : tr_MI := (yX6_countPartlyChosen, cX6_countPartlyChosen, 4, (some .int), 7, 0, 0, 6, [], 0)
def mi_X6_countFates : tr_MI := (yX6_countFates, cX6_countFates, 4, (some .int), 2, 0, 0, 6, [], 0)
def mi_X6_countTrails : tr_MI := (yX6_countTrails, cX6_countTrails, 6, (some .int), 2, 0, 0, 6, [], 0)
def mi_X7_init : tr_MI := (yX7_init, cX7_init, 1, none, 4, 29, 4603, 7, [], 1)
def mi_X7_feed : tr_MI := (yX7_feed, cX7_feed, 6, (some .int), 3, 0, 0, 7, [], 0)
def mi_X7_text : tr_MI := (yX7_text, cX7_text, 4, (some .int), 12, 10, 243, 7, [], 0)
def mi_X7_fault : tr_MI := (yX7_fault, cX7_fault, 1, (some .int), 2, 0, 0, 7, [], 0)
def mi_X7_send : tr_MI := (yX7_send, cX7_send, 7, (some .int), 10, 13, 239, 7, [], 0)
def mi_X7_forget : tr_MI := (yX7_forget, cX7_forget, 2, (some .int), 5, 6, 179, 7, [], 0)
def mi_X7_link : tr_MI := (yX7_link, cX7_link, 4, (some .boolean), 10, 8, 191, 7, [], 0)
def mi_X7_route : tr_MI := (yX7_route, cX7_route, 6, (some .int), 10, 10, 203, 7, [], 0)
def mi_X7_set : tr_MI := (yX7_set, cX7_set, 4, (some .int), 10, 9, 197, 7, [], 0)
def mi_X7_undo : tr_MI := (yX7_undo, cX7_undo, 1, (some .int), 2, 0, 0, 7, [], 0)
def mi_X7_told : tr_MI := (yX7_told, cX7_told, 3, (some .int), 10, 1, 6, 7, [], 0)
def mi_X7_linkTold : tr_MI := (yX7_linkTold, cX7_linkTold, 3, (some .int), 10, 2, 12, 7, [], 0)
def mi_X7_routeTold : tr_MI := (yX7_routeTold, cX7_routeTold, 3, (some .int), 10, 1, 6, 7, [], 0)
def mi_X7_packet : tr_MI := (yX7_packet, cX7_packet, 4, (some .int), 10, 2, 12, 7, [], 0)
def mi_X7_trail : tr_MI := (yX7_trail, cX7_trail, 5, (some .int), 10, 3, 18, 7, [], 0)
def mi_X7_reports : tr_MI := (yX7_reports, cX7_reports, 4, (some .int), 10, 4, 24, 7, [], 0)
def mi_X7_label : tr_MI := (yX7_label, cX7_label, 4, (some .int), 8, 0, 0, 7, [], 0)
def mi_X7_joints : tr_MI := (yX7_joints, cX7_joints, 2, (some .int), 10, 1, 6, 7, [], 0)
def mi_X7_walk : tr_MI := (yX7_walk, cX7_walk, 4, (some .int), 10, 3, 18, 7, [], 0)
def mi_X7_walkAt : tr_MI := (yX7_walkAt, cX7_walkAt, 4, (some .int), 10, 3, 18, 7, [], 0)
def mi_X7_joined : tr_MI := (yX7_joined, cX7_joined, 4, (some .int), 10, 1, 6, 7, [], 0)
def mi_X7_estimate : tr_MI := (yX7_estimate, cX7_estimate, 8, (some .long), 10, 3, 18, 7, [], 0)
def mi_X7_matrix : tr_MI := (yX7_matrix, cX7_matrix, 6, (some .long), 10, 2, 12, 7, [], 0)
def mi_X7_fates : tr_MI := (yX7_fates, cX7_fates, 2, (some .int), 10, 1, 6, 7, [], 0)
def mi_X7_leastLabels : tr_MI := (yX7_leastLabels, cX7_leastLabels, 2, (some .int), 5, 0, 0, 7, [], 0)
def mi_X7_unlike : tr_MI := (yX7_unlike, cX7_unlike, 10, (some .long), 10, 1, 6, 7, [], 0)
def mi_X7_clashes : tr_MI := (yX7_clashes, cX7_clashes, 2, (some .int), 10, 1, 6, 7, [], 0)
def mi_X7_bestKey : tr_MI := (yX7_bestKey, cX7_bestKey, 7, (some .int), 10, 2, 12, 7, [], 0)
def mi_X7_bestMask : tr_MI := (yX7_bestMask, cX7_bestMask, 6, (some .int), 10, 1, 6, 7, [], 0)
def mi_X7_print : tr_MI := (yX7_print, cX7_print, 7, (some .long), 6, 0, 0, 7, [], 0)
def mi_X7_status : tr_MI := (yX7_status, cX7_status, 2, (some .int), 2, 0, 0, 7, [], 0)
def mi_X7_find : tr_MI := (yX7_find, cX7_find, 2, none, 9, 1, 6, 7, [], 0)
def mi_X7_require : tr_MI := (yX7_require, cX7_require, 2, none, 9, 1, 6, 7, [], 0)
def mi_X7_refuseWhenFull : tr_MI := (yX7_refuseWhenFull, cX7_refuseWhenFull, 1, none, 9, 1, 6, 7, [], 0)
def mi_X7_putOnTape : tr_MI := (yX7_putOnTape, cX7_putOnTape, 3, none, 2, 0, 0, 7, [], 0)
def mi_X7_keepState : tr_MI := (yX7_keepState, cX7_keepState, 1, none, 4, 6, 179, 7, [], 0)
def mi_X7_isLabel : tr_MI := (yX7_isLabel, cX7_isLabel, 2, (some .boolean), 2, 0, 0, 7, [], 0)
def mi_X7_chosenAtFirst : tr_MI := (yX7_chosenAtFirst, cX7_chosenAtFirst, 1, (some .int), 5, 0, 0, 7, [], 0)
def mi_X7_clashesAmong : tr_MI := (yX7_clashesAmong, cX7_clashesAmong, 2, (some .int), 5, 0, 0, 7, [], 0)
def mi_X7_walksOrWhyNone : tr_MI := (yX7_walksOrWhyNone, cX7_walksOrWhyNone, 1, (some .int), 2, 0, 0, 7, [], 0)
def mi_X7_isJoinedAs : tr_MI := (yX7_isJoinedAs, cX7_isJoinedAs, 3, (some .boolean), 7, 0, 0, 7, [], 0)
def mi_X7_walksAreTrails : tr_MI := (yX7_walksAreTrails, cX7_walksAreTrails, 5, (some .boolean), 6, 0, 0, 7, [], 0)
def mi_X7_sureWalks : tr_MI := (yX7_sureWalks, cX7_sureWalks, 6, (some .long), 8, 0, 0, 7, [], 0)
def mi_X7_isCounted : tr_MI := (yX7_isCounted, cX7_isCounted, 3, (some .boolean), 3, 0, 0, 7, [], 0)
def mi_X7_weigh : tr_MI := (yX7_weigh, cX7_weigh, 8, none, 4, 0, 0, 7, [], 0)
def mi_X7_reduced : tr_MI := (yX7_reduced, cX7_reduced, 7, (some .long), 3, 0, 0, 7, [], 2)
def mi_X7_commonDivisor : tr_MI := (yX7_commonDivisor, cX7_commonDivisor, 11, (some .long), 2, 0, 0, 7, [], 2)
def mi_X8_thrown : tr_MI := (yX8_thrown, cX8_thrown, 1, (some .int), 2, 0, 0, 8, [], 0)
def mi_X8_isFine : tr_MI := (yX8_isFine, cX8_isFine, 4, (some .boolean), 2, 0, 0, 8, [], 0)
def mi_X8_within : tr_MI := (yX8_within, cX8_within, 3, (some .boolean), 2, 0, 0, 8, [], 2)
def mi_X8_init : tr_MI := (yX8_init, cX8_init, 1, none, 3, 18, 14277, 8, [], 1)
def mi_X8_clears : tr_MI := (yX8_clears, cX8_clears, 2, none, 2, 0, 0, 8, [], 2)
def mi_X8_of : tr_MI := (yX8_of, cX8_of, 3, (some .int), 2, 0, 0, 8, [], 0)
def mi_X8_isCut : tr_MI := (yX8_isCut, cX8_isCut, 2, (some .boolean), 2, 0, 0, 8, [], 0)
def mi_X8_routeOf : tr_MI := (yX8_routeOf, cX8_routeOf, 3, (some .int), 2, 0, 0, 8, [], 0)
def mi_X8_goes : tr_MI := (yX8_goes, cX8_goes, 7, none, 3, 0, 0, 8, [], 0)
def mi_X8_linkAt : tr_MI := (yX8_linkAt, cX8_linkAt, 3, (some .int), 3, 0, 0, 8, [], 0)
def mi_X8_hopAt : tr_MI := (yX8_hopAt, cX8_hopAt, 3, (some .int), 4, 0, 0, 8, [], 0)
def mi_X8_mixed : tr_MI := (yX8_mixed, cX8_mixed, 3, (some .int), 2, 0, 0, 8, [], 2)
def mi_X8_mixBy : tr_MI := (yX8_mixBy, cX8_mixBy, 6, (some .int), 3, 0, 0, 8, [], 0)
def mi_X8_mixAt : tr_MI := (yX8_mixAt, cX8_mixAt, 3, (some .int), 4, 0, 0, 8, [], 0)
def mi_X8_isChosen : tr_MI := (yX8_isChosen, cX8_isChosen, 3, (some .boolean), 5, 0, 0, 8, [], 0)
def mi_X8_hashOf : tr_MI := (yX8_hashOf, cX8_hashOf, 4, (some .int), 3, 0, 0, 8, [], 0)
def mi_X8_labelOf : tr_MI := (yX8_labelOf, cX8_labelOf, 2, (some .int), 4, 0, 0, 8, [], 0)
def mi_X8_feed : tr_MI := (yX8_feed, cX8_feed, 6, (some .int), 3, 0, 0, 8, [], 0)
def mi_X8_puts : tr_MI := (yX8_puts, cX8_puts, 3, none, 2, 0, 0, 8, [], 0)
def mi_X8_wrong : tr_MI := (yX8_wrong, cX8_wrong, 3, none, 2, 0, 0, 8, [], 0)
def mi_X8_sign : tr_MI := (yX8_sign, cX8_sign, 1, (some .int), 2, 0, 0, 8, [], 0)
def mi_X8_isSmall : tr_MI := (yX8_isSmall, cX8_isSmall, 2, (some .boolean), 2, 0, 0, 8, [], 0)
def mi_X8_passes : tr_MI := (yX8_passes, cX8_passes, 3, (some .boolean), 9, 0, 0, 8, [], 0)
def mi_X8_number : tr_MI := (yX8_number, cX8_number, 5, (some .int), 3, 0, 0, 8, [], 0)
def mi_X8_ends : tr_MI := (yX8_ends, cX8_ends, 1, none, 3, 0, 0, 8, [], 0)
def mi_X8_linkBy : tr_MI := (yX8_linkBy, cX8_linkBy, 7, (some .int), 2, 0, 0, 8, [], 0)
def mi_X8_other : tr_MI := (yX8_other, cX8_other, 3, (some .int), 4, 0, 0, 8, [], 0)
def mi_X8_readsLink : tr_MI := (yX8_readsLink, cX8_readsLink, 4, none, 5, 0, 0, 8, [], 0)
def mi_X8_cutTold : tr_MI := (yX8_cutTold, cX8_cutTold, 5, none, 5, 0, 0, 8, [], 0)
def mi_X8_readsRoute : tr_MI := (yX8_readsRoute, cX8_readsRoute, 6, none, 5, 0, 0, 8, [], 0)
def mi_X8_baseTold : tr_MI := (yX8_baseTold, cX8_baseTold, 3, none, 4, 0, 0, 8, [], 0)
def mi_X8_oneLine : tr_MI := (yX8_oneLine, cX8_oneLine, 1, none, 10, 0, 0, 8, [], 0)
def mi_X8_text : tr_MI := (yX8_text, cX8_text, 3, (some .int), 11, 0, 0, 8, [], 0)
def mi_X8_fault : tr_MI := (yX8_fault, cX8_fault, 1, (some .int), 2, 0, 0, 8, [], 0)
def mi_X8_keeps : tr_MI := (yX8_keeps, cX8_keeps, 2, none, 2, 0, 0, 8, [], 0)
def mi_X8_isHop : tr_MI := (yX8_isHop, cX8_isHop, 2, (some .boolean), 3, 0, 0, 8, [], 0)
def mi_X8_isLink : tr_MI := (yX8_isLink, cX8_isLink, 2, (some .boolean), 3, 0, 0, 8, [], 0)
def mi_X8_send : tr_MI := (yX8_send, cX8_send, 9, (some .int), 4, 0, 0, 8, [], 0)
def mi_X8_forget : tr_MI := (yX8_forget, cX8_forget, 3, (some .int), 3, 0, 0, 8, [], 0)
def mi_X8_link : tr_MI := (yX8_link, cX8_link, 4, (some .boolean), 4, 0, 0, 8, [], 0)
def mi_X8_route : tr_MI := (yX8_route, cX8_route, 5, (some .int), 4, 0, 0, 8, [], 0)
def mi_X8_maySet : tr_MI := (yX8_maySet, cX8_maySet, 3, (some .boolean), 3, 0, 0, 8, [], 0)
def mi_X8_set : tr_MI := (yX8_set, cX8_set, 4, (some .int), 4, 0, 0, 8, [], 0)
def mi_X8_undo : tr_MI := (yX8_undo, cX8_undo, 2, (some .int), 2, 0, 0, 8, [], 0)
def mi_X8_chosenMany : tr_MI := (yX8_chosenMany, cX8_chosenMany, 4, (some .int), 6, 0, 0, 8, [], 0)
def mi_X8_counted : tr_MI := (yX8_counted, cX8_counted, 5, (some .int), 7, 0, 0, 8, [], 0)
def mi_X8_clashesBy : tr_MI := (yX8_clashesBy, cX8_clashesBy, 5, (some .int), 6, 0, 0, 8, [], 0)
def mi_X8_told : tr_MI := (yX8_told, cX8_told, 2, (some .int), 8, 0, 0, 8, [], 0)
def mi_X8_linkTold : tr_MI := (yX8_linkTold, cX8_linkTold, 3, (some .int), 4, 0, 0, 8, [], 0)
def mi_X8_routeTold : tr_MI := (yX8_routeTold, cX8_routeTold, 3, (some .int), 4, 0, 0, 8, [], 0)
def mi_X8_isPacket : tr_MI := (yX8_isPacket, cX8_isPacket, 2, (some .boolean), 3, 0, 0, 8, [], 0)
def mi_X8_packet : tr_MI := (yX8_packet, cX8_packet, 3, (some .int), 7, 0, 0, 8, [], 0)
def mi_X8_trail : tr_MI := (yX8_trail, cX8_trail, 4, (some .int), 6, 0, 0, 8, [], 0)
def mi_X8_laysReports : tr_MI := (yX8_laysReports, cX8_laysReports, 4, none, 6, 0, 0, 8, [], 0)
def mi_X8_reports : tr_MI := (yX8_reports, cX8_reports, 4, (some .int), 7, 0, 0, 8, [], 0)
def mi_X8_label : tr_MI := (yX8_label, cX8_label, 4, (some .int), 7, 0, 0, 8, [], 0)
def mi_X8_joins : tr_MI := (yX8_joins, cX8_joins, 2, none, 1151, 0, 0, 8, [], 0)
def mi_X8_beginsWalk : tr_MI := (yX8_beginsWalk, cX8_beginsWalk, 2, none, 1150, 0, 0, 8, [], 0)
def mi_X8_takesSet : tr_MI := (yX8_takesSet, cX8_takesSet, 2, none, 2, 0, 0, 8, [], 0)
def mi_X8_isOver : tr_MI := (yX8_isOver, cX8_isOver, 1, (some .boolean), 2, 0, 0, 8, [], 0)
def mi_X8_goesOn : tr_MI := (yX8_goesOn, cX8_goesOn, 8, none, 1150, 0, 0, 8, [], 0)
def mi_X8_jointsOf : tr_MI := (yX8_jointsOf, cX8_jointsOf, 2, (some .int), 1152, 0, 0, 8, [], 0)
def mi_X8_isLabel : tr_MI := (yX8_isLabel, cX8_isLabel, 2, (some .boolean), 3, 0, 0, 8, [], 0)
def mi_X8_joints : tr_MI := (yX8_joints, cX8_joints, 2, (some .int), 1153, 0, 0, 8, [], 0)
def mi_X8_longAt : tr_MI := (yX8_longAt, cX8_longAt, 2, (some .int), 2, 0, 0, 8, [], 0)
def mi_X8_lastHop : tr_MI := (yX8_lastHop, cX8_lastHop, 2, (some .int), 3, 0, 0, 8, [], 0)
def mi_X8_walk : tr_MI := (yX8_walk, cX8_walk, 5, (some .int), 1153, 0, 0, 8, [], 0)
def mi_X8_walkAt : tr_MI := (yX8_walkAt, cX8_walkAt, 5, (some .int), 1153, 0, 0, 8, [], 0)
def mi_X8_isWalk : tr_MI := (yX8_isWalk, cX8_isWalk, 5, (some .boolean), 4, 0, 0, 8, [], 0)
def mi_X8_isTrue : tr_MI := (yX8_isTrue, cX8_isTrue, 7, (some .boolean), 6, 0, 0, 8, [], 0)
def mi_X8_isAlike : tr_MI := (yX8_isAlike, cX8_isAlike, 5, (some .boolean), 4, 0, 0, 8, [], 0)
def mi_X8_joined : tr_MI := (yX8_joined, cX8_joined, 6, (some .int), 1153, 0, 0, 8, [], 0)
def mi_X8_common : tr_MI := (yX8_common, cX8_common, 10, (some .long), 2, 0, 0, 8, [], 2)
def mi_X8_part : tr_MI := (yX8_part, cX8_part, 7, (some .long), 3, 0, 0, 8, [], 2)
def mi_X8_counts : tr_MI := (yX8_counts, cX8_counts, 9, (some .long), 4, 0, 0, 8, [], 0)
def mi_X8_reckoned : tr_MI := (yX8_reckoned, cX8_reckoned, 17, (some .long), 5, 0, 0, 8, [], 0)
def mi_X8_estimate : tr_MI := (yX8_estimate, cX8_estimate, 4, (some .long), 6, 0, 0, 8, [], 0)
def mi_X8_matrix : tr_MI := (yX8_matrix, cX8_matrix, 8, (some .long), 1153, 0, 0, 8, [], 0)
def mi_X8_fates : tr_MI := (yX8_fates, cX8_fates, 4, (some .int), 3, 0, 0, 8, [], 0)
def mi_X8_leastLabels : tr_MI := (yX8_leastLabels, cX8_leastLabels, 2, (some .int), 7, 0, 0, 8, [], 0)
def mi_X8_unlike : tr_MI := (yX8_unlike, cX8_unlike, 8, (some .long), 4, 0, 0, 8, [], 0)
def mi_X8_clashes : tr_MI := (yX8_clashes, cX8_clashes, 2, (some .int), 7, 0, 0, 8, [], 0)
def mi_X8_bestKey : tr_MI := (yX8_bestKey, cX8_bestKey, 8, (some .int), 8, 0, 0, 8, [], 0)
def mi_X8_unlikeBy : tr_MI := (yX8_unlikeBy, cX8_unlikeBy, 6, (some .int), 4, 0, 0, 8, [], 0)
def mi_X8_bestMask : tr_MI := (yX8_bestMask, cX8_bestMask, 4, (some .int), 5, 0, 0, 8, [], 0)
def mi_X8_print : tr_MI := (yX8_print, cX8_print, 5, (some .long), 6, 0, 0, 8, [], 0)
def mi_X8_status : tr_MI := (yX8_status, cX8_status, 2, (some .int), 3, 0, 0, 8, [], 0)
def mi_J7_fill_53178 : tr_MI := (yJ7_fill_53178, cJ7_fill_53178, 4, none, 2, 0, 0, 10, [], 2)
def mi_L_text : tr_MI := (yL_text, cL_text, 4, (some .int), 13, 10, 243, 9, [(0, 9, 12, 13)], 2)
def mi_L_send : tr_MI := (yL_send, cL_send, 8, (some .int), 11, 13, 239, 9, [(0, 16, 19, 13), (0, 16, 23, 19)], 2)
def mi_L_link : tr_MI := (yL_link, cL_link, 5, (some .int), 11, 8, 191, 9, [(0, 17, 20, 25), (0, 17, 24, 13)], 2)
def mi_L_route : tr_MI := (yL_route, cL_route, 6, (some .int), 11, 10, 203, 9, [(0, 12, 15, 25), (0, 12, 19, 13)], 2)
def mi_L_set : tr_MI := (yL_set, cL_set, 5, (some .int), 11, 9, 197, 9, [(0, 10, 13, 13)], 2)
def mi_L_told : tr_MI := (yL_told, cL_told, 4, (some .int), 11, 1, 6, 9, [(0, 9, 12, 13)], 2)
def mi_L_linkTold : tr_MI := (yL_linkTold, cL_linkTold, 5, (some .int), 11, 2, 12, 9, [(0, 10, 13, 25), (0, 10, 17, 13)], 2)
def mi_L_routeTold : tr_MI := (yL_routeTold, cL_routeTold, 5, (some .int), 11, 1, 6, 9, [(0, 10, 13, 25)], 2)
def mi_L_packet : tr_MI := (yL_packet, cL_packet, 5, (some .int), 11, 2, 12, 9, [(0, 10, 13, 25), (0, 10, 17, 13)], 2)
def mi_L_trail : tr_MI := (yL_trail, cL_trail, 6, (some .int), 11, 3, 18, 9, [(0, 12, 15, 25), (0, 12, 19, 13)], 2)
def mi_L_reports : tr_MI := (yL_reports, cL_reports, 6, (some .int), 11, 4, 24, 9, [(0, 12, 15, 25), (0, 12, 19, 13)], 2)
def mi_L_joints : tr_MI := (yL_joints, cL_joints, 4, (some .int), 11, 1, 6, 9, [(0, 9, 12, 13)], 2)
def mi_L_walk : tr_MI := (yL_walk, cL_walk, 6, (some .int), 11, 3, 18, 9, [(0, 12, 15, 25), (0, 12, 19, 13)], 2)
def mi_L_walkAt : tr_MI := (yL_walkAt, cL_walkAt, 6, (some .int), 11, 3, 18, 9, [(0, 12, 15, 25), (0, 12, 19, 13)], 2)
def mi_L_joined : tr_MI := (yL_joined, cL_joined, 4, (some .int), 11, 1, 6, 9, [(0, 9, 12, 13)], 2)
def mi_L_estimate : tr_MI := (yL_estimate, cL_estimate, 6, (some .int), 11, 3, 18, 9, [(0, 11, 14, 25), (0, 11, 18, 13)], 2)
def mi_L_matrix : tr_MI := (yL_matrix, cL_matrix, 6, (some .int), 11, 2, 12, 9, [(0, 11, 14, 25), (0, 11, 18, 13)], 2)
def mi_L_fates : tr_MI := (yL_fates, cL_fates, 4, (some .int), 11, 1, 6, 9, [(0, 9, 12, 13)], 2)
def mi_L_unlike : tr_MI := (yL_unlike, cL_unlike, 5, (some .int), 11, 1, 6, 9, [(0, 9, 12, 13)], 2)
def mi_L_clashes : tr_MI := (yL_clashes, cL_clashes, 4, (some .int), 11, 1, 6, 9, [(0, 9, 12, 13)], 2)
def mi_L_bestKey : tr_MI := (yL_bestKey, cL_bestKey, 5, (some .int), 11, 2, 12, 9, [(0, 10, 13, 13)], 2)
def mi_L_bestMask : tr_MI := (yL_bestMask, cL_bestMask, 4, (some .int), 11, 1, 6, 9, [(0, 9, 12, 13)], 2)
def mi_L_law : tr_MI := (yL_law, cL_law, 8, (some .boolean), 1154, 0, 0, 9, [], 2)
def tr_ml : List tr_MI := [mi_X0_init, mi_X0_gather, mi_X0_isChosen, mi_X0_chosenBy, mi_X0_clashesBy, mi_X0_unlikeMixes, mi_X0_isFirstOfItsMix, mi_X1_init, mi_X1_gather, mi_X1_gatherOf, mi_X1_hasReports, mi_X1_join, mi_X1_nextMove, mi_X1_stand, mi_X1_openWalk, mi_X1_goOn, mi_X1_endWalk, mi_X1_takeBack, mi_X1_keepSet, mi_X1_linkOfWalk, mi_X1_lastHop, mi_X1_countWalks, mi_X1_releaseWalks, mi_X1_claimWalk, mi_X1_isTrail, mi_X2_init, mi_X2_init_, mi_X2_hasHop, mi_X2_hasLink, mi_X2_addLink, mi_X2_linkBetween, mi_X2_fits, mi_X2_bareMix, mi_X2_mixOf, mi_X2_chooses, mi_X2_countChosen, mi_X2_labelOf, mi_X3_init, mi_X3_follow, mi_X3_fateAt, mi_X3_fieldAt, mi_X3_isCountedAt, mi_X4_init, mi_X4_readAll, mi_X4_isAtEnd, mi_X4_readHops, mi_X4_readLine, mi_X4_readLink, mi_X4_readCut, mi_X4_readRoute, mi_X4_readSetting, mi_X4_readNear, mi_X4_readFar, mi_X4_readNumber, mi_X4_readSemicolon, mi_X4_skipBlanks, mi_X4_skipLetters, mi_X4_isWord, mi_X4_refuse, mi_X5_init, mi_X5_clear, mi_X5_add, mi_X5_chosenBy, mi_X5_sumOverKeys, mi_X6_init, mi_X6_init_, mi_X6_hasPacket, mi_X6_add, mi_X6_countReports, mi_X6_countPartlyChosen, mi_X6_countFates, mi_X6_countTrails, mi_X7_init, mi_X7_feed, mi_X7_text, mi_X7_fault, mi_X7_send, mi_X7_forget, mi_X7_link, mi_X7_route, mi_X7_set, mi_X7_undo, mi_X7_told, mi_X7_linkTold, mi_X7_routeTold, mi_X7_packet, mi_X7_trail, mi_X7_reports, mi_X7_label, mi_X7_joints, mi_X7_walk, mi_X7_walkAt, mi_X7_joined, mi_X7_estimate, mi_X7_matrix, mi_X7_fates, mi_X7_leastLabels, mi_X7_unlike, mi_X7_clashes, mi_X7_bestKey, mi_X7_bestMask, mi_X7_print, mi_X7_status, mi_X7_find, mi_X7_require, mi_X7_refuseWhenFull, mi_X7_putOnTape, mi_X7_keepState, mi_X7_isLabel, mi_X7_chosenAtFirst, mi_X7_clashesAmong, mi_X7_walksOrWhyNone, mi_X7_isJoinedAs, mi_X7_walksAreTrails, mi_X7_sureWalks, mi_X7_isCounted, mi_X7_weigh, mi_X7_reduced, mi_X7_commonDivisor, mi_X8_thrown, mi_X8_isFine, mi_X8_within, mi_X8_init, mi_X8_clears, mi_X8_of, mi_X8_isCut, mi_X8_routeOf, mi_X8_goes, mi_X8_linkAt, mi_X8_hopAt, mi_X8_mixed, mi_X8_mixBy, mi_X8_mixAt, mi_X8_isChosen, mi_X8_hashOf, mi_X8_labelOf, mi_X8_feed, mi_X8_puts, mi_X8_wrong, mi_X8_sign, mi_X8_isSmall, mi_X8_passes, mi_X8_number, mi_X8_ends, mi_X8_linkBy, mi_X8_other, mi_X8_readsLink, mi_X8_cutTold, mi_X8_readsRoute, mi_X8_baseTold, mi_X8_oneLine, mi_X8_text, mi_X8_fault, mi_X8_keeps, mi_X8_isHop, mi_X8_isLink, mi_X8_send, mi_X8_forget, mi_X8_link, mi_X8_route, mi_X8_maySet, mi_X8_set, mi_X8_undo, mi_X8_chosenMany, mi_X8_counted, mi_X8_clashesBy, mi_X8_told, mi_X8_linkTold, mi_X8_routeTold, mi_X8_isPacket, mi_X8_packet, mi_X8_trail, mi_X8_laysReports, mi_X8_reports, mi_X8_label, mi_X8_joins, mi_X8_beginsWalk, mi_X8_takesSet, mi_X8_isOver, mi_X8_goesOn, mi_X8_jointsOf, mi_X8_isLabel, mi_X8_joints, mi_X8_longAt, mi_X8_lastHop, mi_X8_walk, mi_X8_walkAt, mi_X8_isWalk, mi_X8_isTrue, mi_X8_isAlike, mi_X8_joined, mi_X8_common, mi_X8_part, mi_X8_counts, mi_X8_reckoned, mi_X8_estimate, mi_X8_matrix, mi_X8_fates, mi_X8_leastLabels, mi_X8_unlike, mi_X8_clashes, mi_X8_bestKey, mi_X8_unlikeBy, mi_X8_bestMask, mi_X8_print, mi_X8_status, mi_J7_fill_53178, mi_L_text, mi_L_send, mi_L_link, mi_L_route, mi_L_set, mi_L_told, mi_L_linkTold, mi_L_routeTold, mi_L_packet, mi_L_trail, mi_L_reports, mi_L_joints, mi_L_walk, mi_L_walkAt, mi_L_joined, mi_L_estimate, mi_L_matrix, mi_L_fates, mi_L_unlike, mi_L_clashes, mi_L_bestKey, mi_L_bestMask]
def tr_mi (a : Nat) : tr_MI := tr_ml.getD a mi_X0_init
def tr_R (o : Nat) : String := match o with
  | 0 => RX0
  | 1 => RX1
  | 2 => RX2
  | 3 => RX3
  | 4 => RX4
  | 5 => RX5
  | 6 => RX6
  | 7 => RX7
  | 8 => RX8
  | 9 => RL
  | _ => RJ7
def tr_LW : List Cond := lw_tbl.filter goodWord
def tr_chunk (k : Nat) : List Cond := match k with
  | 0 => k2_sels lw_privs
  | 1 => tables_1_1
  | 2 => tables_1_2
  | 3 => tables_1_3
  | 4 => tables_1_4
  | 5 => tables_1_5
  | 6 => tables_1_6
  | _ => tables_1_7
theorem tr_chunk_in {k : Nat} {w : Cond} (h : w ∈ tr_chunk k) : w ∈ lw_tbl := by
  show w ∈ k2_sels lw_privs ++ (tables_1_1 ++ (tables_1_2 ++ (tables_1_3 ++ (tables_1_4 ++ (tables_1_5 ++ (tables_1_6 ++ tables_1_7))))))
  simp only [List.mem_append]
  unfold tr_chunk at h
  split at h <;> simp [h]
theorem tr_inLW (ws : List Cond) (ps : List (Nat × Nat)) (hp : ws = ps.filterMap (fun q => (tr_chunk q.1)[q.2]?)) (hg : ws.all goodWord = true) : ∀ w ∈ ws, w ∈ tr_LW := by
  intro w hw
  have h1 := List.all_eq_true.mp hg w hw
  rw [hp] at hw
  obtain ⟨i, -, hi⟩ := List.mem_filterMap.mp hw
  exact List.mem_filter.mpr ⟨tr_chunk_in (List.mem_of_getElem? hi), h1⟩
def tr_cw (M : tr_MI) : Cond := match mH M with
  | [] => .code (mY M) (mB M) (mL M) (mR M)
  | hh => .codeWith (mY M) (mB M) (mL M) (mR M) hh
def tr_iw (M : tr_MI) : Cond := .initialized (mY M).cls
def tr_kw (M : tr_MI) : Cond := match mK M with
  | 2 => .static (mY M)
  | _ => .instanceMethod (mY M)
def tr_sw (M : tr_MI) : Cond := match mK M with
  | 0 => .selects (mY M).cls (mY M) (mY M)
  | _ => tr_kw M
set_option maxRecDepth 100000 in
theorem tr_cw_in : ∀ w ∈ tr_ml.map tr_cw, w ∈ tr_LW := tr_inLW _ [(1, 177), (2, 99), (2, 109), (4, 68), (2, 104), (5, 82), (5, 86), (1, 115), (2, 62), (2, 71), (2, 91), (4, 133), (4, 145), (4, 141), (4, 137), (4, 161), (4, 153), (4, 149), (4, 157), (4, 180), (4, 176), (5, 38), (4, 207), (4, 211), (4, 215), (1, 37), (2, 38), (3, 106), (4, 9), (3, 118), (3, 114), (3, 137), (2, 83), (2, 79), (2, 75), (4, 59), (2, 67), (3, 174), (3, 229), (3, 233), (2, 87), (4, 239), (2, 203), (3, 4), (3, 89), (3, 8), (3, 93), (3, 98), (3, 123), (3, 128), (3, 133), (3, 102), (3, 110), (3, 77), (3, 85), (3, 12), (3, 16), (3, 21), (3, 73), (1, 202), (4, 234), (5, 4), (5, 8), (5, 18), (1, 87), (2, 34), (4, 101), (3, 237), (4, 55), (4, 72), (5, 50), (5, 30), (1, 27), (2, 12), (2, 127), (2, 20), (3, 148), (2, 24), (4, 5), (4, 36), (4, 43), (2, 54), (4, 51), (4, 83), (4, 90), (4, 97), (4, 110), (4, 118), (2, 58), (4, 129), (4, 168), (4, 187), (4, 195), (4, 222), (5, 26), (5, 46), (2, 95), (5, 57), (5, 64), (5, 71), (5, 78), (2, 113), (2, 119), (4, 13), (2, 131), (3, 153), (2, 16), (2, 28), (4, 122), (4, 64), (4, 76), (4, 172), (4, 199), (4, 203), (5, 34), (4, 226), (4, 230), (5, 11), (5, 14), (5, 90), (5, 230), (5, 226), (5, 95), (5, 99), (6, 81), (6, 89), (6, 85), (6, 77), (6, 184), (6, 180), (6, 144), (6, 141), (6, 137), (6, 133), (6, 152), (6, 172), (5, 215), (5, 219), (6, 9), (5, 239), (6, 4), (5, 235), (6, 13), (6, 19), (6, 36), (6, 32), (6, 28), (6, 41), (6, 46), (6, 51), (6, 23), (5, 223), (6, 61), (6, 73), (6, 69), (6, 101), (6, 65), (6, 93), (6, 97), (6, 105), (6, 113), (6, 109), (6, 117), (6, 129), (6, 125), (6, 148), (6, 121), (6, 156), (6, 160), (6, 168), (6, 164), (6, 176), (6, 192), (6, 188), (6, 196), (6, 212), (6, 216), (6, 220), (6, 228), (6, 224), (6, 208), (6, 204), (6, 200), (6, 236), (7, 0), (6, 232), (7, 4), (7, 20), (7, 12), (7, 16), (7, 8), (7, 38), (7, 35), (7, 32), (7, 28), (7, 24), (7, 42), (7, 46), (7, 50), (7, 54), (7, 58), (7, 62), (7, 70), (7, 66), (7, 74), (7, 79), (1, 41), (2, 122), (3, 143), (4, 0), (4, 32), (4, 39), (4, 47), (4, 79), (4, 86), (4, 93), (4, 106), (4, 114), (4, 125), (4, 164), (4, 183), (4, 191), (4, 218), (5, 22), (5, 42), (5, 53), (5, 60), (5, 67), (5, 74)] rfl (by decide +kernel)
set_option maxRecDepth 100000 in
theorem tr_iw_in : ∀ w ∈ tr_ml.map tr_iw, w ∈ tr_LW := tr_inLW _ [(1, 6), (1, 6), (1, 6), (1, 6), (1, 6), (1, 6), (1, 6), (1, 5), (1, 5), (1, 5), (1, 5), (1, 5), (1, 5), (1, 5), (1, 5), (1, 5), (1, 5), (1, 5), (1, 5), (1, 5), (1, 5), (1, 5), (1, 5), (1, 5), (1, 5), (1, 3), (1, 3), (1, 3), (1, 3), (1, 3), (1, 3), (1, 3), (1, 3), (1, 3), (1, 3), (1, 3), (1, 3), (1, 21), (1, 21), (1, 21), (1, 21), (1, 21), (1, 13), (1, 13), (1, 13), (1, 13), (1, 13), (1, 13), (1, 13), (1, 13), (1, 13), (1, 13), (1, 13), (1, 13), (1, 13), (1, 13), (1, 13), (1, 13), (1, 13), (1, 7), (1, 7), (1, 7), (1, 7), (1, 7), (1, 2), (1, 2), (1, 2), (1, 2), (1, 2), (1, 2), (1, 2), (1, 2), (1, 1), (1, 1), (1, 1), (1, 1), (1, 1), (1, 1), (1, 1), (1, 1), (1, 1), (1, 1), (1, 1), (1, 1), (1, 1), (1, 1), (1, 1), (1, 1), (1, 1), (1, 1), (1, 1), (1, 1), (1, 1), (1, 1), (1, 1), (1, 1), (1, 1), (1, 1), (1, 1), (1, 1), (1, 1), (1, 1), (1, 1), (1, 1), (1, 1), (1, 1), (1, 1), (1, 1), (1, 1), (1, 1), (1, 1), (1, 1), (1, 1), (1, 1), (1, 1), (1, 1), (1, 1), (1, 1), (1, 1), (1, 8), (1, 8), (1, 8), (1, 8), (1, 8), (1, 8), (1, 8), (1, 8), (1, 8), (1, 8), (1, 8), (1, 8), (1, 8), (1, 8), (1, 8), (1, 8), (1, 8), (1, 8), (1, 8), (1, 8), (1, 8), (1, 8), (1, 8), (1, 8), (1, 8), (1, 8), (1, 8), (1, 8), (1, 8), (1, 8), (1, 8), (1, 8), (1, 8), (1, 8), (1, 8), (1, 8), (1, 8), (1, 8), (1, 8), (1, 8), (1, 8), (1, 8), (1, 8), (1, 8), (1, 8), (1, 8), (1, 8), (1, 8), (1, 8), (1, 8), (1, 8), (1, 8), (1, 8), (1, 8), (1, 8), (1, 8), (1, 8), (1, 8), (1, 8), (1, 8), (1, 8), (1, 8), (1, 8), (1, 8), (1, 8), (1, 8), (1, 8), (1, 8), (1, 8), (1, 8), (1, 8), (1, 8), (1, 8), (1, 8), (1, 8), (1, 8), (1, 8), (1, 8), (1, 8), (1, 8), (1, 8), (1, 8), (1, 8), (1, 8), (1, 8), (1, 8), (1, 8), (1, 4), (1, 0), (1, 0), (1, 0), (1, 0), (1, 0), (1, 0), (1, 0), (1, 0), (1, 0), (1, 0), (1, 0), (1, 0), (1, 0), (1, 0), (1, 0), (1, 0), (1, 0), (1, 0), (1, 0), (1, 0), (1, 0), (1, 0)] rfl (by decide +kernel)
set_option maxRecDepth 100000 in
theorem tr_kw_in : ∀ w ∈ tr_ml.map tr_kw, w ∈ tr_LW := tr_inLW _ [(1, 176), (2, 97), (2, 108), (4, 66), (2, 102), (5, 80), (5, 85), (1, 114), (2, 60), (2, 70), (2, 89), (4, 131), (4, 144), (4, 140), (4, 136), (4, 160), (4, 152), (4, 148), (4, 156), (4, 178), (4, 174), (5, 36), (4, 205), (4, 209), (4, 214), (1, 36), (2, 37), (3, 104), (4, 7), (3, 116), (3, 112), (3, 135), (2, 81), (2, 77), (2, 73), (4, 57), (2, 65), (3, 173), (3, 227), (3, 232), (2, 85), (4, 237), (2, 202), (3, 2), (3, 88), (3, 7), (3, 92), (3, 97), (3, 122), (3, 127), (3, 132), (3, 101), (3, 109), (3, 76), (3, 84), (3, 11), (3, 15), (3, 20), (3, 72), (1, 201), (4, 232), (5, 2), (5, 6), (5, 16), (1, 86), (2, 33), (4, 99), (3, 235), (4, 53), (4, 70), (5, 48), (5, 28), (1, 26), (2, 10), (2, 125), (2, 18), (3, 146), (2, 22), (4, 3), (4, 34), (4, 41), (2, 52), (4, 49), (4, 81), (4, 88), (4, 95), (4, 108), (4, 116), (2, 56), (4, 127), (4, 166), (4, 185), (4, 193), (4, 220), (5, 24), (5, 44), (2, 93), (5, 55), (5, 62), (5, 69), (5, 76), (2, 111), (2, 117), (4, 12), (2, 130), (3, 152), (2, 15), (2, 27), (4, 121), (4, 63), (4, 75), (4, 171), (4, 198), (4, 202), (5, 33), (4, 225), (4, 229), (5, 10), (5, 13), (5, 88), (5, 229), (5, 225), (5, 94), (5, 98), (6, 80), (6, 88), (6, 84), (6, 76), (6, 183), (6, 179), (6, 143), (6, 140), (6, 136), (6, 132), (6, 151), (6, 171), (5, 213), (5, 218), (6, 8), (5, 238), (6, 3), (5, 234), (6, 12), (6, 18), (6, 35), (6, 31), (6, 27), (6, 40), (6, 45), (6, 50), (6, 22), (5, 221), (6, 59), (6, 72), (6, 68), (6, 100), (6, 63), (6, 91), (6, 95), (6, 103), (6, 112), (6, 107), (6, 115), (6, 128), (6, 124), (6, 147), (6, 119), (6, 154), (6, 158), (6, 167), (6, 162), (6, 174), (6, 191), (6, 186), (6, 194), (6, 211), (6, 215), (6, 219), (6, 227), (6, 223), (6, 207), (6, 203), (6, 198), (6, 235), (6, 239), (6, 230), (7, 2), (7, 19), (7, 11), (7, 15), (7, 6), (7, 37), (7, 34), (7, 31), (7, 27), (7, 22), (7, 40), (7, 44), (7, 48), (7, 52), (7, 56), (7, 60), (7, 69), (7, 64), (7, 72), (7, 77), (1, 40), (2, 121), (3, 142), (3, 239), (4, 31), (4, 38), (4, 46), (4, 78), (4, 85), (4, 92), (4, 105), (4, 113), (4, 124), (4, 163), (4, 182), (4, 190), (4, 217), (5, 21), (5, 41), (5, 52), (5, 59), (5, 66), (5, 73)] rfl (by decide +kernel)
set_option maxRecDepth 100000 in
theorem tr_sw_in : ∀ w ∈ tr_ml.map tr_sw, w ∈ tr_LW := tr_inLW _ [(1, 176), (2, 98), (0, 3), (4, 67), (2, 103), (5, 81), (0, 41), (1, 114), (2, 61), (0, 2), (2, 90), (4, 132), (0, 29), (0, 28), (0, 27), (0, 33), (0, 31), (0, 30), (0, 32), (4, 179), (4, 175), (5, 37), (4, 206), (4, 210), (0, 37), (1, 36), (2, 37), (3, 105), (4, 8), (3, 117), (3, 113), (3, 136), (2, 82), (2, 78), (2, 74), (4, 58), (2, 66), (3, 173), (3, 228), (0, 22), (2, 86), (4, 238), (2, 202), (3, 3), (0, 13), (0, 6), (0, 14), (0, 15), (0, 18), (0, 19), (0, 20), (0, 16), (0, 17), (0, 11), (0, 12), (0, 7), (0, 8), (0, 9), (0, 10), (1, 201), (4, 233), (5, 3), (5, 7), (5, 17), (1, 86), (2, 33), (4, 100), (3, 236), (4, 54), (4, 71), (5, 49), (5, 29), (1, 26), (2, 11), (2, 126), (2, 19), (3, 147), (2, 23), (4, 4), (4, 35), (4, 42), (2, 53), (4, 50), (4, 82), (4, 89), (4, 96), (4, 109), (4, 117), (2, 57), (4, 128), (4, 167), (4, 186), (4, 194), (4, 221), (5, 25), (5, 45), (2, 94), (5, 56), (5, 63), (5, 70), (5, 77), (2, 112), (2, 118), (0, 23), (0, 4), (0, 21), (0, 0), (0, 1), (0, 26), (0, 24), (0, 25), (0, 34), (0, 35), (0, 36), (0, 40), (0, 38), (0, 39), (5, 10), (5, 13), (5, 89), (0, 43), (5, 225), (5, 94), (5, 98), (0, 60), (0, 62), (0, 61), (0, 59), (0, 75), (0, 74), (6, 143), (0, 69), (0, 68), (0, 67), (0, 71), (0, 73), (5, 214), (0, 42), (0, 47), (0, 45), (0, 46), (0, 44), (0, 48), (0, 49), (0, 53), (0, 52), (0, 51), (0, 54), (0, 55), (0, 56), (0, 50), (5, 222), (6, 60), (0, 58), (0, 57), (0, 63), (6, 64), (6, 92), (6, 96), (6, 104), (0, 64), (6, 108), (6, 116), (0, 66), (0, 65), (0, 70), (6, 120), (6, 155), (6, 159), (0, 72), (6, 163), (6, 175), (0, 76), (6, 187), (6, 195), (0, 79), (0, 80), (0, 81), (0, 83), (0, 82), (0, 78), (0, 77), (6, 199), (0, 84), (0, 85), (6, 231), (7, 3), (0, 88), (0, 86), (0, 87), (7, 7), (7, 37), (7, 34), (0, 90), (0, 89), (7, 23), (7, 41), (7, 45), (7, 49), (7, 53), (7, 57), (7, 61), (0, 91), (7, 65), (7, 73), (7, 78), (1, 40), (2, 121), (3, 142), (3, 239), (4, 31), (4, 38), (4, 46), (4, 78), (4, 85), (4, 92), (4, 105), (4, 113), (4, 124), (4, 163), (4, 182), (4, 190), (4, 217), (5, 21), (5, 41), (5, 52), (5, 59), (5, 66), (5, 73)] rfl (by decide +kernel)
/-- links of fields: the class, the entry, tag, field, kind -/
def tr_ft : List (Nat × Nat × Nat × Nat × Nat) := [(0, 9, 1, 0, 2), (0, 15, 1, 1, 2), (0, 18, 1, 2, 2), (0, 21, 7, 2, 0), (0, 27, 1, 3, 0), (0, 28, 7, 0, 2), (0, 32, 3, 6, 2), (0, 37, 1, 4, 0), (0, 40, 1, 5, 0), (0, 43, 7, 1, 2), (0, 51, 4, 5, 0), (1, 9, 2, 0, 2), (1, 15, 2, 1, 2), (1, 18, 2, 4, 2), (1, 21, 2, 5, 2), (1, 24, 2, 6, 2), (1, 27, 2, 7, 2), (1, 30, 2, 11, 2), (1, 33, 2, 12, 2), (1, 36, 2, 13, 2), (1, 39, 2, 14, 2), (1, 42, 2, 15, 2), (1, 52, 2, 2, 0), (1, 56, 2, 3, 0), (1, 59, 7, 2, 0), (1, 64, 7, 1, 2), (1, 68, 7, 0, 2), (1, 82, 4, 8, 0), (1, 91, 4, 0, 0), (1, 94, 4, 7, 2), (1, 97, 2, 9, 0), (1, 100, 2, 10, 0), (1, 103, 2, 8, 0), (1, 125, 3, 1, 0), (1, 127, 3, 2, 2), (1, 134, 3, 3, 2), (2, 9, 3, 0, 0), (2, 15, 3, 2, 2), (2, 19, 3, 3, 2), (2, 22, 3, 4, 2), (2, 25, 3, 5, 2), (2, 34, 3, 6, 2), (2, 37, 3, 1, 0), (2, 59, 4, 8, 0), (2, 66, 4, 5, 0), (3, 9, 4, 0, 0), (3, 15, 4, 1, 0), (3, 18, 4, 2, 0), (3, 21, 4, 3, 0), (3, 24, 4, 4, 0), (3, 27, 4, 6, 2), (3, 31, 4, 7, 2), (3, 34, 4, 5, 0), (3, 37, 4, 8, 0), (3, 40, 3, 5, 2), (3, 49, 4, 9, 0), (3, 52, 3, 3, 2), (3, 55, 3, 4, 2), (4, 9, 5, 0, 2), (4, 15, 5, 1, 0), (4, 22, 5, 7, 2), (4, 26, 5, 9, 0), (4, 45, 5, 2, 0), (4, 65, 5, 3, 0), (4, 68, 3, 0, 0), (4, 97, 3, 1, 0), (4, 106, 5, 4, 0), (4, 109, 5, 6, 0), (4, 116, 5, 5, 0), (4, 123, 3, 4, 2), (4, 127, 3, 5, 2), (4, 133, 3, 6, 2), (4, 153, 5, 8, 0), (5, 9, 6, 0, 2), (5, 15, 6, 1, 0), (5, 19, 6, 2, 0), (5, 22, 6, 3, 1), (6, 9, 7, 0, 2), (6, 17, 7, 1, 2), (6, 31, 7, 2, 0), (6, 39, 4, 8, 0), (6, 42, 4, 9, 0), (6, 45, 4, 0, 0), (6, 48, 4, 6, 2), (7, 9, 8, 0, 2), (7, 13, 8, 2, 0), (7, 25, 8, 3, 2), (7, 29, 8, 4, 2), (7, 33, 8, 6, 2), (7, 40, 8, 7, 2), (7, 47, 8, 8, 2), (7, 54, 8, 9, 2), (7, 58, 8, 1, 0), (7, 78, 5, 9, 0), (7, 79, 5, 8, 0), (7, 82, 5, 7, 2), (7, 86, 8, 5, 0), (7, 89, 7, 0, 2), (7, 90, 3, 1, 0), (7, 115, 7, 2, 0), (7, 124, 3, 4, 2), (7, 127, 3, 2, 2), (7, 130, 3, 5, 2), (7, 137, 3, 6, 2), (7, 140, 3, 0, 0), (7, 157, 3, 3, 2), (7, 163, 7, 1, 2), (7, 167, 4, 0, 0), (7, 170, 4, 1, 0), (7, 173, 4, 2, 0), (7, 176, 4, 3, 0), (7, 179, 4, 4, 0), (7, 182, 4, 9, 0), (7, 185, 4, 8, 0), (7, 195, 4, 6, 2), (7, 197, 4, 7, 2), (7, 214, 2, 0, 2), (7, 217, 2, 1, 2), (7, 226, 2, 9, 0), (7, 232, 2, 10, 0), (7, 235, 2, 11, 2), (7, 238, 2, 12, 2), (7, 267, 6, 3, 1), (8, 1, 9, 0, 0), (8, 7, 9, 1, 2), (8, 17, 9, 2, 2), (8, 20, 9, 3, 2), (8, 23, 9, 4, 2), (8, 26, 9, 5, 2), (8, 29, 9, 6, 2), (8, 32, 9, 7, 2), (8, 35, 9, 8, 2), (8, 38, 9, 10, 0), (8, 41, 9, 12, 2), (8, 45, 9, 13, 2), (8, 48, 9, 20, 0), (8, 51, 9, 23, 2), (8, 54, 9, 24, 2), (8, 57, 9, 26, 2), (8, 60, 9, 27, 2), (8, 63, 9, 28, 2), (8, 66, 9, 29, 2), (8, 69, 9, 30, 2), (8, 72, 9, 31, 2), (8, 107, 9, 14, 0), (8, 114, 9, 18, 0), (8, 117, 9, 19, 0), (8, 120, 9, 16, 0), (8, 123, 9, 15, 0), (8, 142, 9, 17, 0), (8, 159, 9, 21, 0), (8, 165, 9, 22, 0), (8, 219, 9, 11, 0), (8, 222, 9, 9, 0), (8, 262, 9, 25, 0), (8, 268, 9, 32, 0), (8, 271, 9, 33, 0), (8, 274, 9, 34, 0), (8, 277, 9, 35, 0), (8, 280, 9, 36, 0)]
def tr_fw (q : Nat × Nat × Nat × Nat × Nat) : Cond := match vwCl[q.2.2.1 - 1]? with
  | some r => .fieldLink (tr_R q.1) q.2.1 r.1 (r.2.1 q.2.2.2.1).2.1 (r.2.1 q.2.2.2.1).2.2.1
  | none => .tt
set_option maxRecDepth 100000 in
theorem tr_fw_in : ∀ w ∈ tr_ft.map tr_fw, w ∈ tr_LW := tr_inLW _ [(1, 179), (1, 180), (1, 181), (1, 99), (1, 182), (1, 92), (1, 65), (1, 183), (1, 184), (1, 97), (3, 189), (1, 117), (1, 119), (1, 123), (1, 124), (1, 125), (1, 126), (1, 132), (1, 134), (1, 136), (1, 137), (1, 138), (1, 121), (1, 122), (1, 100), (1, 96), (1, 93), (3, 198), (3, 177), (3, 195), (1, 128), (1, 130), (1, 127), (1, 48), (1, 50), (1, 54), (1, 42), (1, 49), (1, 52), (1, 56), (1, 60), (1, 64), (1, 45), (3, 200), (3, 190), (3, 176), (3, 180), (3, 182), (3, 184), (3, 186), (3, 191), (3, 194), (3, 188), (3, 197), (1, 61), (3, 202), (1, 53), (1, 57), (2, 207), (2, 208), (2, 214), (2, 218), (2, 209), (2, 210), (1, 43), (1, 47), (2, 211), (2, 213), (2, 212), (1, 59), (1, 62), (1, 66), (2, 217), (1, 204), (1, 205), (1, 206), (1, 207), (1, 91), (1, 95), (1, 101), (3, 199), (3, 203), (3, 178), (3, 192), (1, 218), (1, 220), (1, 221), (1, 222), (1, 224), (1, 225), (1, 226), (1, 227), (1, 219), (2, 219), (2, 216), (2, 215), (1, 223), (1, 94), (1, 46), (1, 102), (1, 58), (1, 51), (1, 63), (1, 67), (1, 44), (1, 55), (1, 98), (3, 179), (3, 181), (3, 183), (3, 185), (3, 187), (3, 204), (3, 201), (3, 193), (3, 196), (1, 118), (1, 120), (1, 129), (1, 131), (1, 133), (1, 135), (1, 208), (5, 100), (5, 101), (5, 102), (5, 103), (5, 104), (5, 105), (5, 106), (5, 107), (5, 108), (5, 110), (5, 112), (5, 113), (5, 120), (5, 123), (5, 124), (5, 126), (5, 127), (5, 128), (5, 129), (5, 130), (5, 131), (5, 114), (5, 118), (5, 119), (5, 116), (5, 115), (5, 117), (5, 121), (5, 122), (5, 111), (5, 109), (5, 125), (5, 132), (5, 133), (5, 134), (5, 135), (5, 136)] rfl (by decide +kernel)
/-- links of methods: the class, the entry, the method -/
def tr_mt : List (Nat × Nat × Nat) := [(0, 47, 32), (0, 56, 2), (0, 60, 206), (0, 66, 6), (1, 46, 206), (1, 72, 36), (1, 78, 9), (1, 87, 34), (1, 106, 14), (1, 110, 12), (1, 114, 17), (1, 118, 16), (1, 122, 15), (1, 130, 13), (1, 137, 18), (1, 140, 19), (1, 144, 20), (1, 147, 24), (2, 28, 206), (2, 45, 40), (2, 51, 32), (2, 55, 33), (2, 62, 34), (3, 45, 39), (4, 21, 25), (4, 29, 45), (4, 33, 54), (4, 36, 44), (4, 39, 46), (4, 42, 55), (4, 48, 56), (4, 53, 57), (4, 57, 58), (4, 61, 53), (4, 72, 47), (4, 78, 48), (4, 83, 49), (4, 88, 50), (4, 100, 51), (4, 103, 52), (4, 112, 30), (4, 119, 29), (4, 130, 31), (4, 136, 27), (5, 26, 206), (5, 32, 62), (6, 23, 26), (6, 35, 35), (7, 21, 25), (7, 22, 64), (7, 61, 106), (7, 65, 104), (7, 71, 42), (7, 74, 43), (7, 93, 27), (7, 97, 105), (7, 100, 107), (7, 105, 37), (7, 108, 38), (7, 111, 67), (7, 118, 28), (7, 121, 103), (7, 133, 31), (7, 143, 68), (7, 147, 109), (7, 150, 69), (7, 153, 110), (7, 160, 66), (7, 188, 36), (7, 192, 35), (7, 199, 33), (7, 203, 34), (7, 207, 108), (7, 210, 8), (7, 220, 10), (7, 223, 11), (7, 229, 111), (7, 241, 20), (7, 245, 19), (7, 249, 112), (7, 252, 115), (7, 255, 116), (7, 259, 62), (7, 263, 117), (7, 271, 63), (7, 275, 71), (7, 278, 114), (7, 282, 70), (7, 285, 1), (7, 286, 4), (7, 289, 3), (7, 291, 5), (7, 319, 65), (7, 322, 113), (7, 325, 22), (7, 328, 23), (7, 332, 21), (7, 336, 60), (7, 339, 41), (7, 343, 32), (7, 347, 61), (7, 349, 118), (8, 75, 123), (8, 79, 124), (8, 83, 126), (8, 86, 125), (8, 90, 128), (8, 93, 130), (8, 97, 131), (8, 100, 132), (8, 103, 134), (8, 110, 137), (8, 126, 139), (8, 135, 140), (8, 145, 138), (8, 155, 121), (8, 162, 142), (8, 168, 145), (8, 171, 144), (8, 180, 141), (8, 184, 146), (8, 189, 147), (8, 194, 148), (8, 199, 149), (8, 208, 143), (8, 211, 120), (8, 216, 150), (8, 225, 154), (8, 228, 153), (8, 231, 127), (8, 234, 155), (8, 237, 160), (8, 241, 133), (8, 244, 163), (8, 247, 164), (8, 250, 165), (8, 253, 169), (8, 256, 135), (8, 259, 129), (8, 265, 172), (8, 283, 176), (8, 286, 177), (8, 289, 179), (8, 293, 178), (8, 297, 175), (8, 300, 181), (8, 303, 180), (8, 306, 183), (8, 309, 184), (8, 312, 189), (8, 315, 187), (8, 318, 188), (8, 321, 191), (8, 325, 193), (8, 329, 192), (8, 333, 194), (8, 336, 202), (9, 7, 74), (9, 15, 76), (9, 21, 78), (9, 27, 79), (9, 31, 80), (9, 35, 82), (9, 38, 83), (9, 41, 84), (9, 44, 85), (9, 47, 86), (9, 50, 87), (9, 53, 89), (9, 56, 90), (9, 59, 91), (9, 62, 92), (9, 65, 93), (9, 69, 94), (9, 72, 95), (9, 75, 97), (9, 79, 98), (9, 82, 99), (9, 85, 100), (9, 88, 72), (9, 91, 122), (9, 92, 73), (9, 95, 136), (9, 96, 207), (9, 101, 151), (9, 102, 119), (9, 106, 75), (9, 109, 152), (9, 110, 208), (9, 113, 156), (9, 114, 77), (9, 117, 157), (9, 118, 209), (9, 121, 158), (9, 122, 210), (9, 125, 159), (9, 126, 211), (9, 128, 161), (9, 129, 81), (9, 132, 162), (9, 133, 212), (9, 135, 166), (9, 136, 213), (9, 138, 167), (9, 139, 214), (9, 141, 168), (9, 142, 215), (9, 144, 170), (9, 145, 216), (9, 147, 171), (9, 148, 217), (9, 150, 173), (9, 151, 88), (9, 154, 174), (9, 155, 218), (9, 157, 182), (9, 158, 219), (9, 160, 185), (9, 161, 220), (9, 163, 186), (9, 164, 221), (9, 166, 190), (9, 167, 222), (9, 169, 195), (9, 170, 223), (9, 172, 196), (9, 173, 224), (9, 175, 197), (9, 176, 96), (9, 179, 198), (9, 180, 225), (9, 183, 199), (9, 184, 226), (9, 186, 200), (9, 187, 227), (9, 189, 201), (9, 190, 228), (9, 192, 203), (9, 193, 101), (9, 197, 204), (9, 198, 102), (9, 201, 205)]
def tr_mw (q : Nat × Nat × Nat) : Cond := .methodLink (tr_R q.1) q.2.1 (mY (tr_mi q.2.2))
set_option maxRecDepth 100000 in
theorem tr_mw_in : ∀ w ∈ tr_mt.map tr_mw, w ∈ tr_LW := tr_inLW _ [(2, 100), (2, 106), (2, 105), (5, 83), (2, 63), (2, 64), (2, 68), (2, 72), (4, 134), (4, 142), (4, 146), (4, 150), (4, 158), (4, 138), (4, 154), (4, 177), (5, 39), (4, 212), (1, 39), (2, 84), (2, 80), (2, 76), (4, 60), (3, 230), (2, 206), (3, 5), (3, 82), (3, 86), (3, 90), (3, 9), (3, 13), (3, 18), (3, 70), (3, 74), (3, 95), (3, 120), (3, 125), (3, 130), (3, 99), (3, 107), (3, 111), (3, 115), (3, 134), (3, 103), (4, 235), (5, 19), (2, 36), (4, 56), (1, 35), (1, 85), (2, 13), (2, 128), (2, 201), (3, 1), (3, 149), (3, 150), (2, 25), (3, 172), (3, 226), (3, 234), (4, 6), (4, 10), (4, 44), (4, 52), (4, 61), (4, 69), (4, 73), (4, 98), (4, 102), (4, 103), (4, 111), (2, 115), (4, 119), (2, 59), (2, 88), (4, 130), (4, 169), (4, 173), (4, 188), (4, 196), (4, 223), (4, 227), (5, 5), (5, 9), (5, 15), (5, 27), (5, 31), (5, 47), (2, 96), (2, 101), (4, 65), (5, 79), (2, 32), (4, 200), (4, 204), (4, 208), (5, 35), (4, 231), (4, 236), (5, 0), (5, 1), (5, 12), (5, 97), (6, 78), (6, 82), (6, 86), (6, 181), (6, 142), (6, 138), (6, 134), (6, 149), (5, 216), (5, 236), (6, 1), (6, 6), (5, 224), (6, 10), (6, 29), (6, 33), (5, 232), (6, 25), (6, 38), (6, 43), (6, 48), (6, 16), (5, 227), (6, 20), (6, 66), (6, 70), (6, 74), (6, 98), (6, 110), (6, 130), (6, 126), (6, 122), (6, 145), (6, 165), (6, 169), (6, 177), (6, 189), (6, 213), (6, 217), (6, 221), (6, 225), (6, 209), (6, 201), (6, 205), (6, 233), (6, 237), (7, 13), (7, 17), (7, 9), (7, 36), (7, 29), (7, 33), (7, 25), (7, 67), (2, 124), (3, 145), (4, 2), (4, 33), (4, 40), (4, 48), (4, 80), (4, 87), (4, 94), (4, 107), (4, 115), (4, 126), (4, 165), (4, 184), (4, 192), (4, 219), (5, 23), (5, 43), (5, 54), (5, 61), (5, 68), (5, 75), (1, 25), (5, 93), (2, 9), (5, 212), (2, 120), (5, 220), (5, 87), (2, 17), (6, 58), (3, 141), (6, 62), (2, 21), (6, 90), (3, 238), (6, 94), (4, 30), (6, 102), (4, 37), (6, 106), (2, 51), (6, 114), (4, 45), (6, 118), (4, 77), (6, 153), (4, 84), (6, 157), (4, 91), (6, 161), (4, 104), (6, 173), (4, 112), (6, 185), (2, 55), (6, 193), (4, 123), (6, 197), (4, 162), (6, 229), (4, 181), (7, 1), (4, 189), (7, 5), (4, 216), (7, 21), (5, 20), (7, 39), (5, 40), (7, 43), (2, 92), (7, 47), (5, 51), (7, 51), (5, 58), (7, 55), (5, 65), (7, 59), (5, 72), (7, 63), (2, 110), (7, 71), (2, 116), (7, 76)] rfl (by decide +kernel)
def tr_nt : List (Nat × Nat × Nat) := [(7, 39, 7), (7, 46, 0), (7, 53, 59)]
end
section
/-! THE ABSTRACT MACHINE. Values: an int, a long, a reference (0 is null, r + 1 is the cell r). Heaps: total typed functions; tag 0: nothing known. -/
abbrev tr_V : Type := Int32 ⊕ (Int64 ⊕ Nat)
def tr_o : Nat → Option Nat
  | 0 => none
  | a + 1 => some a
def tr_cv : tr_V → Value
  | .inl x => .int x
  | .inr (.inl x) => .long x
  | .inr (.inr r) => va_rf (tr_o r)
/-- tag, length, ints, longs, references -/
abbrev tr_H : Type := (Nat → Nat) × (Nat → Nat) × (Nat → Nat → Int32) × (Nat → Nat → Int64) × (Nat → Nat → Nat)
def ht (h : tr_H) : Nat → Nat := h.1
def hn (h : tr_H) : Nat → Nat := h.2.1
def hI (h : tr_H) : Nat → Nat → Int32 := h.2.2.1
def hJ (h : tr_H) : Nat → Nat → Int64 := h.2.2.2.1
def hR (h : tr_H) : Nat → Nat → Nat := h.2.2.2.2
def up1 {α : Type} (f : Nat → α) (a : Nat) (v : α) : Nat → α := fun x => if x = a then v else f x
def up2 {α : Type} (f : Nat → Nat → α) (a k : Nat) (v : α) : Nat → Nat → α := fun x j => if x = a then (if j = k then v else f x j) else f x j
def hsI (h : tr_H) (r k : Nat) (v : Int32) : tr_H := (ht h, hn h, up2 (hI h) r k v, hJ h, hR h)
def hsJ (h : tr_H) (r k : Nat) (v : Int64) : tr_H := (ht h, hn h, hI h, up2 (hJ h) r k v, hR h)
def hsR (h : tr_H) (r k : Nat) (v : Nat) : tr_H := (ht h, hn h, hI h, hJ h, up2 (hR h) r k v)
/-- a new cell of a tag and a length -/
def hnw (h : tr_H) (r t n : Nat) : tr_H := (up1 (ht h) r t, up1 (hn h) r n, up1 (hI h) r (fun _ => 0), up1 (hJ h) r (fun _ => 0), up1 (hR h) r (fun _ => 0))
/-- a copy of a cell -/
def hcl (h : tr_H) (r q : Nat) : tr_H := (up1 (ht h) r (ht h q), up1 (hn h) r (hn h q), up1 (hI h) r (hI h q), up1 (hJ h) r (hJ h q), up1 (hR h) r (hR h q))
/-- references copied from one row to another -/
def hcp (h : tr_H) (q sp r dp n : Nat) : tr_H := (ht h, hn h, hI h, hJ h, up1 (hR h) r (va_cpy (hR h q) (hR h r) sp dp n))
def ii (z : Int) : Int32 := Int32.ofInt z
def jj (z : Int) : Int64 := Int64.ofInt z
def ixn (i : Int32) : Nat := i.toNatClampNeg
def ixo (i : Int32) (n : Nat) : Prop := 0 ≤ i.toInt ∧ i.toInt < n
def tr_rem (x y : Int32) : Int32 := x - x / y * y
def tr_lrem (x y : Int64) : Int64 := x - x / y * y
def tr_nb (x : Int32) : Int32 := vp_nar .boolean x
def tr_by (x : Int32) : Int32 := vp_nar .byte x
/-- results: an answer, or the number of what was thrown -/
abbrev tr_Rs : Type := Option tr_V ⊕ Nat
abbrev tr_Q : Type := tr_Rs → tr_H → Prop
def kV (f : tr_H → Prop) (x : Nat → tr_H → Prop) : tr_Q := fun r h => match r with
  | .inl none => f h
  | .inr E => x E h
  | _ => False
def kI (f : Int32 → tr_H → Prop) (x : Nat → tr_H → Prop) : tr_Q := fun r h => match r with
  | .inl (some (.inl v)) => f v h
  | .inr E => x E h
  | _ => False
def kJ (f : Int64 → tr_H → Prop) (x : Nat → tr_H → Prop) : tr_Q := fun r h => match r with
  | .inl (some (.inr (.inl v))) => f v h
  | .inr E => x E h
  | _ => False
/-- pc, instruction, length, what Python has resolved -/
abbrev tr_En : Type := Nat × Instr × Nat × Nat × Nat × Nat × Nat × Nat × Nat
abbrev tr_L : Type := List (Option tr_V)
abbrev tr_K : Type := tr_L → List tr_V → tr_H → Nat → Nat → Prop
def lvg (lv : tr_L) (k : Nat) : Option tr_V := lv.getD k none
def isJ : Option tr_V → Bool
  | some (.inr (.inl _)) => true
  | _ => false
/-- a store: what lay there and a long that reached into it are gone -/
def lvs1 (lv : tr_L) (k : Nat) (v : tr_V) : tr_L := match k with
  | 0 => lv.set 0 (some v)
  | k + 1 => (if isJ (lvg lv k) then lv.set k none else lv).set (k + 1) (some v)
def lvs2 (lv : tr_L) (k : Nat) (v : tr_V) : tr_L := (lvs1 lv k v).set (k + 1) none
/-- the same, laid out -/
def lvn : tr_L → (tr_L → Prop) → Prop
  | [], k => k []
  | v :: lv, k => lvn lv (fun l => k (v :: l))
theorem lvn_eq : ∀ (lv : tr_L) (k : tr_L → Prop), lvn lv k = k lv
  | [], _ => rfl
  | v :: lv, k => lvn_eq lv (fun l => k (v :: l))
/-- only some are kept -/
def lvp : List Bool → tr_L → tr_L
  | true :: bs, v :: lv => v :: lvp bs lv
  | false :: bs, _ :: lv => none :: lvp bs lv
  | _, _ => []
def tr_tsw (jmp : Nat → Prop) (dflt : Nat) (pc : Nat) (x : Int32) : Int → List Int → Prop
  | _, [] => jmp dflt
  | k, o :: os => (x = ii k → jmp ((pc : Int) + o).toNat) ∧ (¬ x = ii k → tr_tsw jmp dflt pc x (k + 1) os)
def tr_lsw (jmp : Nat → Prop) (dflt : Nat) (pc : Nat) (x : Int32) : List (Int × Int) → Prop
  | [] => jmp dflt
  | (k, o) :: os => (x = ii k → jmp ((pc : Int) + o).toNat) ∧ (¬ x = ii k → tr_lsw jmp dflt pc x os)
def tr_if (c : ClassFile.Cond) (x y : Int32) (a b : Prop) : Prop := match c with
  | .eq => (x = y → a) ∧ (¬ x = y → b)
  | .ne => (x = y → b) ∧ (¬ x = y → a)
  | .lt => (x < y → a) ∧ (¬ x < y → b)
  | .ge => (x < y → b) ∧ (¬ x < y → a)
  | .gt => (x ≤ y → b) ∧ (¬ x ≤ y → a)
  | .le => (x ≤ y → a) ∧ (¬ x ≤ y → b)
/-- texts of the constants, by number -/
def tr_tx (h : tr_H) (r : Nat) (cs : List Nat) : Prop := ht h r = 18 ∧ hn h r = cs.length ∧ ∀ k, k < cs.length → hI h r k = ii (cs.getD k 0 : Nat)
def tr_ck (b r : Nat) (P : Prop) : Prop := match Nat.ble b r with
  | true => P
  | false => False
section TRS
variable (C : Nat → List tr_V → tr_H → tr_Q → Prop) (txt : Nat → List Nat) (hdl : Nat → Option Nat) (X : Nat → tr_H → Prop) (jmp : Nat → tr_K) (nxt : tr_K) (Q : tr_Q)
/-- a call of the method a with b things on the stack, its answer's kind c, the tag d of what it is called upon, room for e cells and f slots -/
def tr_call (a b c d e f : Nat) (lv : tr_L) (st : List tr_V) (h : tr_H) (rc rs : Nat) : Prop :=
  let rest := st.drop b
  let thr := fun (E : Nat) (h' : tr_H) => match hdl E with
    | none => X E h'
    | some p => ∀ r, jmp p lv [.inr (.inr r)] h' (rc - e) (rs - f)
  let k : tr_Q := match c with
    | 0 => kV (fun h' => nxt lv rest h' (rc - e) (rs - f)) thr
    | 1 => kI (fun v h' => nxt lv (.inl v :: rest) h' (rc - e) (rs - f)) thr
    | _ => kJ (fun v h' => nxt lv (.inr (.inl v) :: rest) h' (rc - e) (rs - f)) thr
  let args := (st.take b).reverse
  match d with
  | 0 => tr_ck b st.length (tr_ck rest.length 4 (tr_ck e rc (tr_ck f rs (C a args h k))))
  | d => (match args with
    | .inr (.inr r) :: _ => ht h r = d ∧ tr_ck b st.length (tr_ck rest.length 4 (tr_ck e rc (tr_ck f rs (C a args h k))))
    | _ => False)
end TRS
def ts_aload (C : Nat → List tr_V → tr_H → tr_Q → Prop) (txt : Nat → List Nat) (hdl : Nat → Option Nat) (X : Nat → tr_H → Prop) (jmp : Nat → tr_K) (nxt : tr_K) (Q : tr_Q) (pc a b c d e f : Nat) (lv : tr_L) (st : List tr_V) (h : tr_H) (rc rs : Nat) (k : Nat) : Prop :=
  (match lvg lv k with | some (.inr (.inr r)) => nxt lv (.inr (.inr r) :: st) h rc rs | _ => False)
def ts_aload_n (C : Nat → List tr_V → tr_H → tr_Q → Prop) (txt : Nat → List Nat) (hdl : Nat → Option Nat) (X : Nat → tr_H → Prop) (jmp : Nat → tr_K) (nxt : tr_K) (Q : tr_Q) (pc a b c d e f : Nat) (lv : tr_L) (st : List tr_V) (h : tr_H) (rc rs : Nat) (k : Fin 4) : Prop :=
  (match lvg lv k.val with | some (.inr (.inr r)) => nxt lv (.inr (.inr r) :: st) h rc rs | _ => False)
def ts_iload (C : Nat → List tr_V → tr_H → tr_Q → Prop) (txt : Nat → List Nat) (hdl : Nat → Option Nat) (X : Nat → tr_H → Prop) (jmp : Nat → tr_K) (nxt : tr_K) (Q : tr_Q) (pc a b c d e f : Nat) (lv : tr_L) (st : List tr_V) (h : tr_H) (rc rs : Nat) (k : Nat) : Prop :=
  (match lvg lv k with | some (.inl x) => nxt lv (.inl x :: st) h rc rs | _ => False)
def ts_iload_n (C : Nat → List tr_V → tr_H → tr_Q → Prop) (txt : Nat → List Nat) (hdl : Nat → Option Nat) (X : Nat → tr_H → Prop) (jmp : Nat → tr_K) (nxt : tr_K) (Q : tr_Q) (pc a b c d e f : Nat) (lv : tr_L) (st : List tr_V) (h : tr_H) (rc rs : Nat) (k : Fin 4) : Prop :=
  (match lvg lv k.val with | some (.inl x) => nxt lv (.inl x :: st) h rc rs | _ => False)
def ts_lload (C : Nat → List tr_V → tr_H → tr_Q → Prop) (txt : Nat → List Nat) (hdl : Nat → Option Nat) (X : Nat → tr_H → Prop) (jmp : Nat → tr_K) (nxt : tr_K) (Q : tr_Q) (pc a b c d e f : Nat) (lv : tr_L) (st : List tr_V) (h : tr_H) (rc rs : Nat) (k : Nat) : Prop :=
  (match lvg lv k with | some (.inr (.inl x)) => nxt lv (.inr (.inl x) :: st) h rc rs | _ => False)
def ts_lload_n (C : Nat → List tr_V → tr_H → tr_Q → Prop) (txt : Nat → List Nat) (hdl : Nat → Option Nat) (X : Nat → tr_H → Prop) (jmp : Nat → tr_K) (nxt : tr_K) (Q : tr_Q) (pc a b c d e f : Nat) (lv : tr_L) (st : List tr_V) (h : tr_H) (rc rs : Nat) (k : Fin 4) : Prop :=
  (match lvg lv k.val with | some (.inr (.inl x)) => nxt lv (.inr (.inl x) :: st) h rc rs | _ => False)
def ts_istore (C : Nat → List tr_V → tr_H → tr_Q → Prop) (txt : Nat → List Nat) (hdl : Nat → Option Nat) (X : Nat → tr_H → Prop) (jmp : Nat → tr_K) (nxt : tr_K) (Q : tr_Q) (pc a b c d e f : Nat) (lv : tr_L) (st : List tr_V) (h : tr_H) (rc rs : Nat) (k : Nat) : Prop :=
  (match st with | .inl x :: st' => lvn (lvs1 lv k (.inl x)) (fun lv' => nxt lv' st' h rc rs) | _ => False)
def ts_istore_n (C : Nat → List tr_V → tr_H → tr_Q → Prop) (txt : Nat → List Nat) (hdl : Nat → Option Nat) (X : Nat → tr_H → Prop) (jmp : Nat → tr_K) (nxt : tr_K) (Q : tr_Q) (pc a b c d e f : Nat) (lv : tr_L) (st : List tr_V) (h : tr_H) (rc rs : Nat) (k : Fin 4) : Prop :=
  (match st with | .inl x :: st' => lvn (lvs1 lv k.val (.inl x)) (fun lv' => nxt lv' st' h rc rs) | _ => False)
def ts_astore (C : Nat → List tr_V → tr_H → tr_Q → Prop) (txt : Nat → List Nat) (hdl : Nat → Option Nat) (X : Nat → tr_H → Prop) (jmp : Nat → tr_K) (nxt : tr_K) (Q : tr_Q) (pc a b c d e f : Nat) (lv : tr_L) (st : List tr_V) (h : tr_H) (rc rs : Nat) (k : Nat) : Prop :=
  (match st with | .inr (.inr x) :: st' => lvn (lvs1 lv k (.inr (.inr x))) (fun lv' => nxt lv' st' h rc rs) | _ => False)
def ts_astore_n (C : Nat → List tr_V → tr_H → tr_Q → Prop) (txt : Nat → List Nat) (hdl : Nat → Option Nat) (X : Nat → tr_H → Prop) (jmp : Nat → tr_K) (nxt : tr_K) (Q : tr_Q) (pc a b c d e f : Nat) (lv : tr_L) (st : List tr_V) (h : tr_H) (rc rs : Nat) (k : Fin 4) : Prop :=
  (match st with | .inr (.inr x) :: st' => lvn (lvs1 lv k.val (.inr (.inr x))) (fun lv' => nxt lv' st' h rc rs) | _ => False)
def ts_lstore (C : Nat → List tr_V → tr_H → tr_Q → Prop) (txt : Nat → List Nat) (hdl : Nat → Option Nat) (X : Nat → tr_H → Prop) (jmp : Nat → tr_K) (nxt : tr_K) (Q : tr_Q) (pc a b c d e f : Nat) (lv : tr_L) (st : List tr_V) (h : tr_H) (rc rs : Nat) (k : Nat) : Prop :=
  (match st with | .inr (.inl x) :: st' => lvn (lvs2 lv k (.inr (.inl x))) (fun lv' => nxt lv' st' h rc rs) | _ => False)
def ts_lstore_n (C : Nat → List tr_V → tr_H → tr_Q → Prop) (txt : Nat → List Nat) (hdl : Nat → Option Nat) (X : Nat → tr_H → Prop) (jmp : Nat → tr_K) (nxt : tr_K) (Q : tr_Q) (pc a b c d e f : Nat) (lv : tr_L) (st : List tr_V) (h : tr_H) (rc rs : Nat) (k : Fin 4) : Prop :=
  (match st with | .inr (.inl x) :: st' => lvn (lvs2 lv k.val (.inr (.inl x))) (fun lv' => nxt lv' st' h rc rs) | _ => False)
def ts_iinc (C : Nat → List tr_V → tr_H → tr_Q → Prop) (txt : Nat → List Nat) (hdl : Nat → Option Nat) (X : Nat → tr_H → Prop) (jmp : Nat → tr_K) (nxt : tr_K) (Q : tr_Q) (pc a b c d e f : Nat) (lv : tr_L) (st : List tr_V) (h : tr_H) (rc rs : Nat) (k : Nat) (n : Int) : Prop :=
  (match lvg lv k with | some (.inl x) => lvn (lvs1 lv k (.inl (x + ii n))) (fun lv' => nxt lv' st h rc rs) | _ => False)
def ts_iconst (C : Nat → List tr_V → tr_H → tr_Q → Prop) (txt : Nat → List Nat) (hdl : Nat → Option Nat) (X : Nat → tr_H → Prop) (jmp : Nat → tr_K) (nxt : tr_K) (Q : tr_Q) (pc a b c d e f : Nat) (lv : tr_L) (st : List tr_V) (h : tr_H) (rc rs : Nat) (n : Int) : Prop :=
  nxt lv (.inl (ii n) :: st) h rc rs
def ts_bipush (C : Nat → List tr_V → tr_H → tr_Q → Prop) (txt : Nat → List Nat) (hdl : Nat → Option Nat) (X : Nat → tr_H → Prop) (jmp : Nat → tr_K) (nxt : tr_K) (Q : tr_Q) (pc a b c d e f : Nat) (lv : tr_L) (st : List tr_V) (h : tr_H) (rc rs : Nat) (n : Int) : Prop :=
  nxt lv (.inl (ii n) :: st) h rc rs
def ts_sipush (C : Nat → List tr_V → tr_H → tr_Q → Prop) (txt : Nat → List Nat) (hdl : Nat → Option Nat) (X : Nat → tr_H → Prop) (jmp : Nat → tr_K) (nxt : tr_K) (Q : tr_Q) (pc a b c d e f : Nat) (lv : tr_L) (st : List tr_V) (h : tr_H) (rc rs : Nat) (n : Int) : Prop :=
  nxt lv (.inl (ii n) :: st) h rc rs
def ts_lconst (C : Nat → List tr_V → tr_H → tr_Q → Prop) (txt : Nat → List Nat) (hdl : Nat → Option Nat) (X : Nat → tr_H → Prop) (jmp : Nat → tr_K) (nxt : tr_K) (Q : tr_Q) (pc a b c d e f : Nat) (lv : tr_L) (st : List tr_V) (h : tr_H) (rc rs : Nat) (n : Fin 2) : Prop :=
  nxt lv (.inr (.inl (jj (n.val : Nat))) :: st) h rc rs
def ts_ldc (C : Nat → List tr_V → tr_H → tr_Q → Prop) (txt : Nat → List Nat) (hdl : Nat → Option Nat) (X : Nat → tr_H → Prop) (jmp : Nat → tr_K) (nxt : tr_K) (Q : tr_Q) (pc a b c d e f : Nat) (lv : tr_L) (st : List tr_V) (h : tr_H) (rc rs : Nat) : Prop :=
  (match c with
    | 0 => nxt lv (.inl (ii (b : Nat)) :: st) h rc rs
    | _ => ∀ r, tr_tx h r (txt b) → nxt lv (.inr (.inr r) :: st) h rc rs)
def ts_ldc2_w (C : Nat → List tr_V → tr_H → tr_Q → Prop) (txt : Nat → List Nat) (hdl : Nat → Option Nat) (X : Nat → tr_H → Prop) (jmp : Nat → tr_K) (nxt : tr_K) (Q : tr_Q) (pc a b c d e f : Nat) (lv : tr_L) (st : List tr_V) (h : tr_H) (rc rs : Nat) : Prop :=
  nxt lv (.inr (.inl (jj (b : Nat))) :: st) h rc rs
def ts_getfield (C : Nat → List tr_V → tr_H → tr_Q → Prop) (txt : Nat → List Nat) (hdl : Nat → Option Nat) (X : Nat → tr_H → Prop) (jmp : Nat → tr_K) (nxt : tr_K) (Q : tr_Q) (pc a b c d e f : Nat) (lv : tr_L) (st : List tr_V) (h : tr_H) (rc rs : Nat) : Prop :=
  (match st with
    | .inr (.inr r) :: st' => ht h r = a ∧ (match c with
      | 0 => nxt lv (.inl (hI h r b) :: st') h rc rs
      | 1 => nxt lv (.inr (.inl (hJ h r b)) :: st') h rc rs
      | _ => nxt lv (.inr (.inr (hR h r b)) :: st') h rc rs)
    | _ => False)
def ts_putfield (C : Nat → List tr_V → tr_H → tr_Q → Prop) (txt : Nat → List Nat) (hdl : Nat → Option Nat) (X : Nat → tr_H → Prop) (jmp : Nat → tr_K) (nxt : tr_K) (Q : tr_Q) (pc a b c d e f : Nat) (lv : tr_L) (st : List tr_V) (h : tr_H) (rc rs : Nat) : Prop :=
  (match c, st with
    | 0, .inl v :: .inr (.inr r) :: st' => ht h r = a ∧ ∀ h', h' = hsI h r b v → nxt lv st' h' rc rs
    | 1, .inr (.inl v) :: .inr (.inr r) :: st' => ht h r = a ∧ ∀ h', h' = hsJ h r b v → nxt lv st' h' rc rs
    | 2, .inr (.inr v) :: .inr (.inr r) :: st' => ht h r = a ∧ ∀ h', h' = hsR h r b v → nxt lv st' h' rc rs
    | _, _ => False)
def ts_iaload (C : Nat → List tr_V → tr_H → tr_Q → Prop) (txt : Nat → List Nat) (hdl : Nat → Option Nat) (X : Nat → tr_H → Prop) (jmp : Nat → tr_K) (nxt : tr_K) (Q : tr_Q) (pc a b c d e f : Nat) (lv : tr_L) (st : List tr_V) (h : tr_H) (rc rs : Nat) : Prop :=
  (match st with | .inl x :: .inr (.inr r) :: st' => ht h r = a ∧ ixo x (hn h r) ∧ nxt lv (.inl (hI h r (ixn x)) :: st') h rc rs | _ => False)
def ts_baload (C : Nat → List tr_V → tr_H → tr_Q → Prop) (txt : Nat → List Nat) (hdl : Nat → Option Nat) (X : Nat → tr_H → Prop) (jmp : Nat → tr_K) (nxt : tr_K) (Q : tr_Q) (pc a b c d e f : Nat) (lv : tr_L) (st : List tr_V) (h : tr_H) (rc rs : Nat) : Prop :=
  (match st with | .inl x :: .inr (.inr r) :: st' => ht h r = a ∧ ixo x (hn h r) ∧ nxt lv (.inl (hI h r (ixn x)) :: st') h rc rs | _ => False)
def ts_laload (C : Nat → List tr_V → tr_H → tr_Q → Prop) (txt : Nat → List Nat) (hdl : Nat → Option Nat) (X : Nat → tr_H → Prop) (jmp : Nat → tr_K) (nxt : tr_K) (Q : tr_Q) (pc a b c d e f : Nat) (lv : tr_L) (st : List tr_V) (h : tr_H) (rc rs : Nat) : Prop :=
  (match st with | .inl x :: .inr (.inr r) :: st' => ht h r = a ∧ ixo x (hn h r) ∧ nxt lv (.inr (.inl (hJ h r (ixn x))) :: st') h rc rs | _ => False)
def ts_aaload (C : Nat → List tr_V → tr_H → tr_Q → Prop) (txt : Nat → List Nat) (hdl : Nat → Option Nat) (X : Nat → tr_H → Prop) (jmp : Nat → tr_K) (nxt : tr_K) (Q : tr_Q) (pc a b c d e f : Nat) (lv : tr_L) (st : List tr_V) (h : tr_H) (rc rs : Nat) : Prop :=
  (match st with | .inl x :: .inr (.inr r) :: st' => ht h r = a ∧ ixo x (hn h r) ∧ nxt lv (.inr (.inr (hR h r (ixn x))) :: st') h rc rs | _ => False)
def ts_iastore (C : Nat → List tr_V → tr_H → tr_Q → Prop) (txt : Nat → List Nat) (hdl : Nat → Option Nat) (X : Nat → tr_H → Prop) (jmp : Nat → tr_K) (nxt : tr_K) (Q : tr_Q) (pc a b c d e f : Nat) (lv : tr_L) (st : List tr_V) (h : tr_H) (rc rs : Nat) : Prop :=
  (match st with | .inl v :: .inl x :: .inr (.inr r) :: st' => ht h r = a ∧ ixo x (hn h r) ∧ ∀ h', h' = hsI h r (ixn x) v → nxt lv st' h' rc rs | _ => False)
def ts_bastore (C : Nat → List tr_V → tr_H → tr_Q → Prop) (txt : Nat → List Nat) (hdl : Nat → Option Nat) (X : Nat → tr_H → Prop) (jmp : Nat → tr_K) (nxt : tr_K) (Q : tr_Q) (pc a b c d e f : Nat) (lv : tr_L) (st : List tr_V) (h : tr_H) (rc rs : Nat) : Prop :=
  (match st with
    | .inl v :: .inl x :: .inr (.inr r) :: st' => ht h r = a ∧ ixo x (hn h r) ∧ (match c with
      | 0 => ∀ h', h' = hsI h r (ixn x) (tr_by v) → nxt lv st' h' rc rs
      | _ => ∀ h', h' = hsI h r (ixn x) (tr_nb v) → nxt lv st' h' rc rs)
    | _ => False)
def ts_lastore (C : Nat → List tr_V → tr_H → tr_Q → Prop) (txt : Nat → List Nat) (hdl : Nat → Option Nat) (X : Nat → tr_H → Prop) (jmp : Nat → tr_K) (nxt : tr_K) (Q : tr_Q) (pc a b c d e f : Nat) (lv : tr_L) (st : List tr_V) (h : tr_H) (rc rs : Nat) : Prop :=
  (match st with | .inr (.inl v) :: .inl x :: .inr (.inr r) :: st' => ht h r = a ∧ ixo x (hn h r) ∧ ∀ h', h' = hsJ h r (ixn x) v → nxt lv st' h' rc rs | _ => False)
def ts_aastore (C : Nat → List tr_V → tr_H → tr_Q → Prop) (txt : Nat → List Nat) (hdl : Nat → Option Nat) (X : Nat → tr_H → Prop) (jmp : Nat → tr_K) (nxt : tr_K) (Q : tr_Q) (pc a b c d e f : Nat) (lv : tr_L) (st : List tr_V) (h : tr_H) (rc rs : Nat) : Prop :=
  (match st with | .inr (.inr v) :: .inl x :: .inr (.inr r) :: st' => ht h r = a ∧ ixo x (hn h r) ∧ ht h v = b ∧ ∀ h', h' = hsR h r (ixn x) v → nxt lv st' h' rc rs | _ => False)
def ts_arraylength (C : Nat → List tr_V → tr_H → tr_Q → Prop) (txt : Nat → List Nat) (hdl : Nat → Option Nat) (X : Nat → tr_H → Prop) (jmp : Nat → tr_K) (nxt : tr_K) (Q : tr_Q) (pc a b c d e f : Nat) (lv : tr_L) (st : List tr_V) (h : tr_H) (rc rs : Nat) : Prop :=
  (match st with | .inr (.inr r) :: st' => ht h r = a ∧ nxt lv (.inl (ii (hn h r : Nat)) :: st') h rc rs | _ => False)
def ts_new (C : Nat → List tr_V → tr_H → tr_Q → Prop) (txt : Nat → List Nat) (hdl : Nat → Option Nat) (X : Nat → tr_H → Prop) (jmp : Nat → tr_K) (nxt : tr_K) (Q : tr_Q) (pc a b c d e f : Nat) (lv : tr_L) (st : List tr_V) (h : tr_H) (rc rs : Nat) : Prop :=
  (match c with
    | 0 => tr_ck 1 rc (tr_ck b rs (∀ r, r ≠ 0 → ht h r = 0 → ∀ h', h' = hnw h r a 0 → nxt lv (.inr (.inr r) :: st) h' (rc - 1) (rs - b)))
    | _ => tr_ck st.length 4 (tr_ck 1 rc (tr_ck 6 rs (Q (.inr a) h))))
def ts_newarray (C : Nat → List tr_V → tr_H → tr_Q → Prop) (txt : Nat → List Nat) (hdl : Nat → Option Nat) (X : Nat → tr_H → Prop) (jmp : Nat → tr_K) (nxt : tr_K) (Q : tr_Q) (pc a b c d e f : Nat) (lv : tr_L) (st : List tr_V) (h : tr_H) (rc rs : Nat) : Prop :=
  (match st with
    | .inl n :: st' => (match c with
      | 0 => 0 ≤ n.toInt ∧ n.toInt ≤ 20000 ∧ tr_ck 1 rc (ixn n ≤ rs ∧ ∀ r, r ≠ 0 → ht h r = 0 → ∀ h', h' = hnw h r a (ixn n) → nxt lv (.inr (.inr r) :: st') h' (rc - 1) (rs - ixn n))
      | _ => n = ii (b : Nat) ∧ tr_ck 1 rc (tr_ck b rs (∀ r, r ≠ 0 → ht h r = 0 → ∀ h', h' = hnw h r a b → nxt lv (.inr (.inr r) :: st') h' (rc - 1) (rs - b))))
    | _ => False)
def ts_anewarray (C : Nat → List tr_V → tr_H → tr_Q → Prop) (txt : Nat → List Nat) (hdl : Nat → Option Nat) (X : Nat → tr_H → Prop) (jmp : Nat → tr_K) (nxt : tr_K) (Q : tr_Q) (pc a b c d e f : Nat) (lv : tr_L) (st : List tr_V) (h : tr_H) (rc rs : Nat) : Prop :=
  (match st with
    | .inl n :: st' => n = ii (b : Nat) ∧ tr_ck 1 rc (tr_ck b rs (∀ r, r ≠ 0 → ht h r = 0 → ∀ h', h' = hnw h r a b → nxt lv (.inr (.inr r) :: st') h' (rc - 1) (rs - b)))
    | _ => False)
def ts_checkcast (C : Nat → List tr_V → tr_H → tr_Q → Prop) (txt : Nat → List Nat) (hdl : Nat → Option Nat) (X : Nat → tr_H → Prop) (jmp : Nat → tr_K) (nxt : tr_K) (Q : tr_Q) (pc a b c d e f : Nat) (lv : tr_L) (st : List tr_V) (h : tr_H) (rc rs : Nat) : Prop :=
  (match st with | .inr (.inr r) :: _ => ht h r = a ∧ nxt lv st h rc rs | _ => False)
def ts_iadd (C : Nat → List tr_V → tr_H → tr_Q → Prop) (txt : Nat → List Nat) (hdl : Nat → Option Nat) (X : Nat → tr_H → Prop) (jmp : Nat → tr_K) (nxt : tr_K) (Q : tr_Q) (pc a b c d e f : Nat) (lv : tr_L) (st : List tr_V) (h : tr_H) (rc rs : Nat) : Prop :=
  (match st with | .inl y :: .inl x :: st' => nxt lv (.inl (x + y) :: st') h rc rs | _ => False)
def ts_isub (C : Nat → List tr_V → tr_H → tr_Q → Prop) (txt : Nat → List Nat) (hdl : Nat → Option Nat) (X : Nat → tr_H → Prop) (jmp : Nat → tr_K) (nxt : tr_K) (Q : tr_Q) (pc a b c d e f : Nat) (lv : tr_L) (st : List tr_V) (h : tr_H) (rc rs : Nat) : Prop :=
  (match st with | .inl y :: .inl x :: st' => nxt lv (.inl (x - y) :: st') h rc rs | _ => False)
def ts_imul (C : Nat → List tr_V → tr_H → tr_Q → Prop) (txt : Nat → List Nat) (hdl : Nat → Option Nat) (X : Nat → tr_H → Prop) (jmp : Nat → tr_K) (nxt : tr_K) (Q : tr_Q) (pc a b c d e f : Nat) (lv : tr_L) (st : List tr_V) (h : tr_H) (rc rs : Nat) : Prop :=
  (match st with | .inl y :: .inl x :: st' => nxt lv (.inl (x * y) :: st') h rc rs | _ => False)
def ts_irem (C : Nat → List tr_V → tr_H → tr_Q → Prop) (txt : Nat → List Nat) (hdl : Nat → Option Nat) (X : Nat → tr_H → Prop) (jmp : Nat → tr_K) (nxt : tr_K) (Q : tr_Q) (pc a b c d e f : Nat) (lv : tr_L) (st : List tr_V) (h : tr_H) (rc rs : Nat) : Prop :=
  (match st with | .inl y :: .inl x :: st' => ¬ y = ii 0 ∧ nxt lv (.inl (tr_rem x y) :: st') h rc rs | _ => False)
def ts_iand (C : Nat → List tr_V → tr_H → tr_Q → Prop) (txt : Nat → List Nat) (hdl : Nat → Option Nat) (X : Nat → tr_H → Prop) (jmp : Nat → tr_K) (nxt : tr_K) (Q : tr_Q) (pc a b c d e f : Nat) (lv : tr_L) (st : List tr_V) (h : tr_H) (rc rs : Nat) : Prop :=
  (match st with | .inl y :: .inl x :: st' => nxt lv (.inl (x &&& y) :: st') h rc rs | _ => False)
def ts_ior (C : Nat → List tr_V → tr_H → tr_Q → Prop) (txt : Nat → List Nat) (hdl : Nat → Option Nat) (X : Nat → tr_H → Prop) (jmp : Nat → tr_K) (nxt : tr_K) (Q : tr_Q) (pc a b c d e f : Nat) (lv : tr_L) (st : List tr_V) (h : tr_H) (rc rs : Nat) : Prop :=
  (match st with | .inl y :: .inl x :: st' => nxt lv (.inl (x ||| y) :: st') h rc rs | _ => False)
def ts_ixor (C : Nat → List tr_V → tr_H → tr_Q → Prop) (txt : Nat → List Nat) (hdl : Nat → Option Nat) (X : Nat → tr_H → Prop) (jmp : Nat → tr_K) (nxt : tr_K) (Q : tr_Q) (pc a b c d e f : Nat) (lv : tr_L) (st : List tr_V) (h : tr_H) (rc rs : Nat) : Prop :=
  (match st with | .inl y :: .inl x :: st' => nxt lv (.inl (x ^^^ y) :: st') h rc rs | _ => False)
def ts_ishl (C : Nat → List tr_V → tr_H → tr_Q → Prop) (txt : Nat → List Nat) (hdl : Nat → Option Nat) (X : Nat → tr_H → Prop) (jmp : Nat → tr_K) (nxt : tr_K) (Q : tr_Q) (pc a b c d e f : Nat) (lv : tr_L) (st : List tr_V) (h : tr_H) (rc rs : Nat) : Prop :=
  (match st with | .inl y :: .inl x :: st' => nxt lv (.inl (x <<< (y &&& 31)) :: st') h rc rs | _ => False)
def ts_ishr (C : Nat → List tr_V → tr_H → tr_Q → Prop) (txt : Nat → List Nat) (hdl : Nat → Option Nat) (X : Nat → tr_H → Prop) (jmp : Nat → tr_K) (nxt : tr_K) (Q : tr_Q) (pc a b c d e f : Nat) (lv : tr_L) (st : List tr_V) (h : tr_H) (rc rs : Nat) : Prop :=
  (match st with | .inl y :: .inl x :: st' => nxt lv (.inl (x >>> (y &&& 31)) :: st') h rc rs | _ => False)
def ts_ladd (C : Nat → List tr_V → tr_H → tr_Q → Prop) (txt : Nat → List Nat) (hdl : Nat → Option Nat) (X : Nat → tr_H → Prop) (jmp : Nat → tr_K) (nxt : tr_K) (Q : tr_Q) (pc a b c d e f : Nat) (lv : tr_L) (st : List tr_V) (h : tr_H) (rc rs : Nat) : Prop :=
  (match st with | .inr (.inl y) :: .inr (.inl x) :: st' => nxt lv (.inr (.inl (x + y)) :: st') h rc rs | _ => False)
def ts_lsub (C : Nat → List tr_V → tr_H → tr_Q → Prop) (txt : Nat → List Nat) (hdl : Nat → Option Nat) (X : Nat → tr_H → Prop) (jmp : Nat → tr_K) (nxt : tr_K) (Q : tr_Q) (pc a b c d e f : Nat) (lv : tr_L) (st : List tr_V) (h : tr_H) (rc rs : Nat) : Prop :=
  (match st with | .inr (.inl y) :: .inr (.inl x) :: st' => nxt lv (.inr (.inl (x - y)) :: st') h rc rs | _ => False)
def ts_lmul (C : Nat → List tr_V → tr_H → tr_Q → Prop) (txt : Nat → List Nat) (hdl : Nat → Option Nat) (X : Nat → tr_H → Prop) (jmp : Nat → tr_K) (nxt : tr_K) (Q : tr_Q) (pc a b c d e f : Nat) (lv : tr_L) (st : List tr_V) (h : tr_H) (rc rs : Nat) : Prop :=
  (match st with | .inr (.inl y) :: .inr (.inl x) :: st' => nxt lv (.inr (.inl (x * y)) :: st') h rc rs | _ => False)
def ts_ldiv (C : Nat → List tr_V → tr_H → tr_Q → Prop) (txt : Nat → List Nat) (hdl : Nat → Option Nat) (X : Nat → tr_H → Prop) (jmp : Nat → tr_K) (nxt : tr_K) (Q : tr_Q) (pc a b c d e f : Nat) (lv : tr_L) (st : List tr_V) (h : tr_H) (rc rs : Nat) : Prop :=
  (match st with | .inr (.inl y) :: .inr (.inl x) :: st' => ¬ y = jj 0 ∧ nxt lv (.inr (.inl (x / y)) :: st') h rc rs | _ => False)
def ts_lrem (C : Nat → List tr_V → tr_H → tr_Q → Prop) (txt : Nat → List Nat) (hdl : Nat → Option Nat) (X : Nat → tr_H → Prop) (jmp : Nat → tr_K) (nxt : tr_K) (Q : tr_Q) (pc a b c d e f : Nat) (lv : tr_L) (st : List tr_V) (h : tr_H) (rc rs : Nat) : Prop :=
  (match st with | .inr (.inl y) :: .inr (.inl x) :: st' => ¬ y = jj 0 ∧ nxt lv (.inr (.inl (tr_lrem x y)) :: st') h rc rs | _ => False)
def ts_lcmp (C : Nat → List tr_V → tr_H → tr_Q → Prop) (txt : Nat → List Nat) (hdl : Nat → Option Nat) (X : Nat → tr_H → Prop) (jmp : Nat → tr_K) (nxt : tr_K) (Q : tr_Q) (pc a b c d e f : Nat) (lv : tr_L) (st : List tr_V) (h : tr_H) (rc rs : Nat) : Prop :=
  (match st with | .inr (.inl y) :: .inr (.inl x) :: st' => nxt lv (.inl (lg_cmp x y) :: st') h rc rs | _ => False)
def ts_i2l (C : Nat → List tr_V → tr_H → tr_Q → Prop) (txt : Nat → List Nat) (hdl : Nat → Option Nat) (X : Nat → tr_H → Prop) (jmp : Nat → tr_K) (nxt : tr_K) (Q : tr_Q) (pc a b c d e f : Nat) (lv : tr_L) (st : List tr_V) (h : tr_H) (rc rs : Nat) : Prop :=
  (match st with | .inl x :: st' => nxt lv (.inr (.inl x.toInt64) :: st') h rc rs | _ => False)
def ts_i2b (C : Nat → List tr_V → tr_H → tr_Q → Prop) (txt : Nat → List Nat) (hdl : Nat → Option Nat) (X : Nat → tr_H → Prop) (jmp : Nat → tr_K) (nxt : tr_K) (Q : tr_Q) (pc a b c d e f : Nat) (lv : tr_L) (st : List tr_V) (h : tr_H) (rc rs : Nat) : Prop :=
  (match st with | .inl x :: st' => nxt lv (.inl (tr_by x) :: st') h rc rs | _ => False)
def ts_dup (C : Nat → List tr_V → tr_H → tr_Q → Prop) (txt : Nat → List Nat) (hdl : Nat → Option Nat) (X : Nat → tr_H → Prop) (jmp : Nat → tr_K) (nxt : tr_K) (Q : tr_Q) (pc a b c d e f : Nat) (lv : tr_L) (st : List tr_V) (h : tr_H) (rc rs : Nat) : Prop :=
  (match st with
    | .inl x :: st' => nxt lv (.inl x :: .inl x :: st') h rc rs
    | .inr (.inr x) :: st' => nxt lv (.inr (.inr x) :: .inr (.inr x) :: st') h rc rs
    | _ => False)
def ts_dup2 (C : Nat → List tr_V → tr_H → tr_Q → Prop) (txt : Nat → List Nat) (hdl : Nat → Option Nat) (X : Nat → tr_H → Prop) (jmp : Nat → tr_K) (nxt : tr_K) (Q : tr_Q) (pc a b c d e f : Nat) (lv : tr_L) (st : List tr_V) (h : tr_H) (rc rs : Nat) : Prop :=
  (match st with
    | .inl x :: .inr (.inr y) :: st' => nxt lv (.inl x :: .inr (.inr y) :: .inl x :: .inr (.inr y) :: st') h rc rs
    | _ => False)
def ts_pop (C : Nat → List tr_V → tr_H → tr_Q → Prop) (txt : Nat → List Nat) (hdl : Nat → Option Nat) (X : Nat → tr_H → Prop) (jmp : Nat → tr_K) (nxt : tr_K) (Q : tr_Q) (pc a b c d e f : Nat) (lv : tr_L) (st : List tr_V) (h : tr_H) (rc rs : Nat) : Prop :=
  (match st with
    | .inl _ :: st' => nxt lv st' h rc rs
    | .inr (.inr _) :: st' => nxt lv st' h rc rs
    | _ => False)
def ts_ifCond (C : Nat → List tr_V → tr_H → tr_Q → Prop) (txt : Nat → List Nat) (hdl : Nat → Option Nat) (X : Nat → tr_H → Prop) (jmp : Nat → tr_K) (nxt : tr_K) (Q : tr_Q) (pc a b c d e f : Nat) (lv : tr_L) (st : List tr_V) (h : tr_H) (rc rs : Nat) (cd : ClassFile.Cond) : Prop :=
  (match st with | .inl x :: st' => tr_if cd x (ii 0) (jmp a lv st' h rc rs) (nxt lv st' h rc rs) | _ => False)
def ts_if_icmp (C : Nat → List tr_V → tr_H → tr_Q → Prop) (txt : Nat → List Nat) (hdl : Nat → Option Nat) (X : Nat → tr_H → Prop) (jmp : Nat → tr_K) (nxt : tr_K) (Q : tr_Q) (pc a b c d e f : Nat) (lv : tr_L) (st : List tr_V) (h : tr_H) (rc rs : Nat) (cd : ClassFile.Cond) : Prop :=
  (match st with | .inl y :: .inl x :: st' => tr_if cd x y (jmp a lv st' h rc rs) (nxt lv st' h rc rs) | _ => False)
def ts_goto (C : Nat → List tr_V → tr_H → tr_Q → Prop) (txt : Nat → List Nat) (hdl : Nat → Option Nat) (X : Nat → tr_H → Prop) (jmp : Nat → tr_K) (nxt : tr_K) (Q : tr_Q) (pc a b c d e f : Nat) (lv : tr_L) (st : List tr_V) (h : tr_H) (rc rs : Nat) : Prop :=
  jmp a lv st h rc rs
def ts_tableswitch (C : Nat → List tr_V → tr_H → tr_Q → Prop) (txt : Nat → List Nat) (hdl : Nat → Option Nat) (X : Nat → tr_H → Prop) (jmp : Nat → tr_K) (nxt : tr_K) (Q : tr_Q) (pc a b c d e f : Nat) (lv : tr_L) (st : List tr_V) (h : tr_H) (rc rs : Nat) (lo : Int) (offs : Array Int) : Prop :=
  (match st with | .inl x :: st' => tr_tsw (fun t => jmp t lv st' h rc rs) a pc x lo offs.toList | _ => False)
def ts_lookupswitch (C : Nat → List tr_V → tr_H → tr_Q → Prop) (txt : Nat → List Nat) (hdl : Nat → Option Nat) (X : Nat → tr_H → Prop) (jmp : Nat → tr_K) (nxt : tr_K) (Q : tr_Q) (pc a b c d e f : Nat) (lv : tr_L) (st : List tr_V) (h : tr_H) (rc rs : Nat) (ps : Array (Int × Int)) : Prop :=
  (match st with | .inl x :: st' => tr_lsw (fun t => jmp t lv st' h rc rs) a pc x ps.toList | _ => False)
def ts_invokevirtual (C : Nat → List tr_V → tr_H → tr_Q → Prop) (txt : Nat → List Nat) (hdl : Nat → Option Nat) (X : Nat → tr_H → Prop) (jmp : Nat → tr_K) (nxt : tr_K) (Q : tr_Q) (pc a b c d e f : Nat) (lv : tr_L) (st : List tr_V) (h : tr_H) (rc rs : Nat) : Prop :=
  (match a with
    | 1004 => (match st with | .inr (.inr q) :: st' => ht h q = b ∧ hn h q = c ∧ tr_ck st'.length 4 (tr_ck 1 rc (tr_ck c rs (∀ r, r ≠ 0 → ht h r = 0 → ∀ h', h' = hcl h r q → nxt lv (.inr (.inr r) :: st') h' (rc - 1) (rs - c)))) | _ => False)
    | 1005 => (match st with | .inr (.inr q) :: st' => ht h q = 18 ∧ tr_ck st'.length 4 (nxt lv (.inl (ii (hn h q : Nat)) :: st') h rc rs) | _ => False)
    | 1006 => (match st with | .inl x :: .inr (.inr q) :: st' => ht h q = 18 ∧ ixo x (hn h q) ∧ tr_ck st'.length 4 (nxt lv (.inl (hI h q (ixn x)) :: st') h rc rs) | _ => False)
    | a => tr_call C hdl X jmp nxt a b c d e f lv st h rc rs)
def ts_invokespecial (C : Nat → List tr_V → tr_H → tr_Q → Prop) (txt : Nat → List Nat) (hdl : Nat → Option Nat) (X : Nat → tr_H → Prop) (jmp : Nat → tr_K) (nxt : tr_K) (Q : tr_Q) (pc a b c d e f : Nat) (lv : tr_L) (st : List tr_V) (h : tr_H) (rc rs : Nat) : Prop :=
  (match a with
    | 9999 => False
    | 1000 => (match st with | .inr (.inr r) :: st' => ¬ ht h r = 0 ∧ tr_ck st'.length 4 (nxt lv st' h rc rs) | _ => False)
    | a => tr_call C hdl X jmp nxt a b c d e f lv st h rc rs)
def ts_invokestatic (C : Nat → List tr_V → tr_H → tr_Q → Prop) (txt : Nat → List Nat) (hdl : Nat → Option Nat) (X : Nat → tr_H → Prop) (jmp : Nat → tr_K) (nxt : tr_K) (Q : tr_Q) (pc a b c d e f : Nat) (lv : tr_L) (st : List tr_V) (h : tr_H) (rc rs : Nat) : Prop :=
  (match a with
    | 1001 => (match st with | .inl y :: .inl x :: st' => tr_ck st'.length 4 (nxt lv (.inl (if y < x then y else x) :: st') h rc rs) | _ => False)
    | 1002 => (match st with | .inl y :: .inl x :: st' => tr_ck st'.length 4 (nxt lv (.inl (if x < y then y else x) :: st') h rc rs) | _ => False)
    | 1003 => (match st with
      | .inl n :: .inl dp :: .inr (.inr r) :: .inl sp :: .inr (.inr q) :: st' => ht h q = 15 ∧ ht h r = 15 ∧ 0 ≤ sp.toInt ∧ 0 ≤ dp.toInt ∧ 0 ≤ n.toInt ∧ ixn sp + ixn n ≤ hn h q ∧ ixn dp + ixn n ≤ hn h r ∧ (∀ i, i < ixn n → hR h q (ixn sp + i) = 0 ∨ ht h (hR h q (ixn sp + i)) = 7) ∧ tr_ck st'.length 4 (∀ h', h' = hcp h q (ixn sp) r (ixn dp) (ixn n) → nxt lv st' h' rc rs)
      | _ => False)
    | a => tr_call C hdl X jmp nxt a b c 0 e f lv st h rc rs)
def ts_ireturn (C : Nat → List tr_V → tr_H → tr_Q → Prop) (txt : Nat → List Nat) (hdl : Nat → Option Nat) (X : Nat → tr_H → Prop) (jmp : Nat → tr_K) (nxt : tr_K) (Q : tr_Q) (pc a b c d e f : Nat) (lv : tr_L) (st : List tr_V) (h : tr_H) (rc rs : Nat) : Prop :=
  (match st with
    | [.inl x] => (match c with
      | 0 => Q (.inl (some (.inl x))) h
      | _ => Q (.inl (some (.inl (tr_nb x)))) h)
    | _ => False)
def ts_lreturn (C : Nat → List tr_V → tr_H → tr_Q → Prop) (txt : Nat → List Nat) (hdl : Nat → Option Nat) (X : Nat → tr_H → Prop) (jmp : Nat → tr_K) (nxt : tr_K) (Q : tr_Q) (pc a b c d e f : Nat) (lv : tr_L) (st : List tr_V) (h : tr_H) (rc rs : Nat) : Prop :=
  (match st with | [.inr (.inl x)] => Q (.inl (some (.inr (.inl x)))) h | _ => False)
def ts_return_ (C : Nat → List tr_V → tr_H → tr_Q → Prop) (txt : Nat → List Nat) (hdl : Nat → Option Nat) (X : Nat → tr_H → Prop) (jmp : Nat → tr_K) (nxt : tr_K) (Q : tr_Q) (pc a b c d e f : Nat) (lv : tr_L) (st : List tr_V) (h : tr_H) (rc rs : Nat) : Prop :=
  (match st with | [] => Q (.inl none) h | _ => False)
def tr_step (C : Nat → List tr_V → tr_H → tr_Q → Prop) (txt : Nat → List Nat) (hdl : Nat → Option Nat) (X : Nat → tr_H → Prop) (jmp : Nat → tr_K) (nxt : tr_K) (Q : tr_Q) (pc : Nat) (i : Instr) (a b c d e f : Nat) (lv : tr_L) (st : List tr_V) (h : tr_H) (rc rs : Nat) : Prop :=
  match i with
  | .aload k => ts_aload C txt hdl X jmp nxt Q pc a b c d e f lv st h rc rs k
  | .aload_n k => ts_aload_n C txt hdl X jmp nxt Q pc a b c d e f lv st h rc rs k
  | .iload k => ts_iload C txt hdl X jmp nxt Q pc a b c d e f lv st h rc rs k
  | .iload_n k => ts_iload_n C txt hdl X jmp nxt Q pc a b c d e f lv st h rc rs k
  | .lload k => ts_lload C txt hdl X jmp nxt Q pc a b c d e f lv st h rc rs k
  | .lload_n k => ts_lload_n C txt hdl X jmp nxt Q pc a b c d e f lv st h rc rs k
  | .istore k => ts_istore C txt hdl X jmp nxt Q pc a b c d e f lv st h rc rs k
  | .istore_n k => ts_istore_n C txt hdl X jmp nxt Q pc a b c d e f lv st h rc rs k
  | .astore k => ts_astore C txt hdl X jmp nxt Q pc a b c d e f lv st h rc rs k
  | .astore_n k => ts_astore_n C txt hdl X jmp nxt Q pc a b c d e f lv st h rc rs k
  | .lstore k => ts_lstore C txt hdl X jmp nxt Q pc a b c d e f lv st h rc rs k
  | .lstore_n k => ts_lstore_n C txt hdl X jmp nxt Q pc a b c d e f lv st h rc rs k
  | .iinc k n => ts_iinc C txt hdl X jmp nxt Q pc a b c d e f lv st h rc rs k n
  | .iconst n => ts_iconst C txt hdl X jmp nxt Q pc a b c d e f lv st h rc rs n
  | .bipush n => ts_bipush C txt hdl X jmp nxt Q pc a b c d e f lv st h rc rs n
  | .sipush n => ts_sipush C txt hdl X jmp nxt Q pc a b c d e f lv st h rc rs n
  | .lconst n => ts_lconst C txt hdl X jmp nxt Q pc a b c d e f lv st h rc rs n
  | .ldc _ => ts_ldc C txt hdl X jmp nxt Q pc a b c d e f lv st h rc rs
  | .ldc2_w _ => ts_ldc2_w C txt hdl X jmp nxt Q pc a b c d e f lv st h rc rs
  | .getfield _ => ts_getfield C txt hdl X jmp nxt Q pc a b c d e f lv st h rc rs
  | .putfield _ => ts_putfield C txt hdl X jmp nxt Q pc a b c d e f lv st h rc rs
  | .iaload => ts_iaload C txt hdl X jmp nxt Q pc a b c d e f lv st h rc rs
  | .baload => ts_baload C txt hdl X jmp nxt Q pc a b c d e f lv st h rc rs
  | .laload => ts_laload C txt hdl X jmp nxt Q pc a b c d e f lv st h rc rs
  | .aaload => ts_aaload C txt hdl X jmp nxt Q pc a b c d e f lv st h rc rs
  | .iastore => ts_iastore C txt hdl X jmp nxt Q pc a b c d e f lv st h rc rs
  | .bastore => ts_bastore C txt hdl X jmp nxt Q pc a b c d e f lv st h rc rs
  | .lastore => ts_lastore C txt hdl X jmp nxt Q pc a b c d e f lv st h rc rs
  | .aastore => ts_aastore C txt hdl X jmp nxt Q pc a b c d e f lv st h rc rs
  | .arraylength => ts_arraylength C txt hdl X jmp nxt Q pc a b c d e f lv st h rc rs
  | .new _ => ts_new C txt hdl X jmp nxt Q pc a b c d e f lv st h rc rs
  | .newarray _ => ts_newarray C txt hdl X jmp nxt Q pc a b c d e f lv st h rc rs
  | .anewarray _ => ts_anewarray C txt hdl X jmp nxt Q pc a b c d e f lv st h rc rs
  | .checkcast _ => ts_checkcast C txt hdl X jmp nxt Q pc a b c d e f lv st h rc rs
  | .iadd => ts_iadd C txt hdl X jmp nxt Q pc a b c d e f lv st h rc rs
  | .isub => ts_isub C txt hdl X jmp nxt Q pc a b c d e f lv st h rc rs
  | .imul => ts_imul C txt hdl X jmp nxt Q pc a b c d e f lv st h rc rs
  | .irem => ts_irem C txt hdl X jmp nxt Q pc a b c d e f lv st h rc rs
  | .iand => ts_iand C txt hdl X jmp nxt Q pc a b c d e f lv st h rc rs
  | .ior => ts_ior C txt hdl X jmp nxt Q pc a b c d e f lv st h rc rs
  | .ixor => ts_ixor C txt hdl X jmp nxt Q pc a b c d e f lv st h rc rs
  | .ishl => ts_ishl C txt hdl X jmp nxt Q pc a b c d e f lv st h rc rs
  | .ishr => ts_ishr C txt hdl X jmp nxt Q pc a b c d e f lv st h rc rs
  | .ladd => ts_ladd C txt hdl X jmp nxt Q pc a b c d e f lv st h rc rs
  | .lsub => ts_lsub C txt hdl X jmp nxt Q pc a b c d e f lv st h rc rs
  | .lmul => ts_lmul C txt hdl X jmp nxt Q pc a b c d e f lv st h rc rs
  | .ldiv => ts_ldiv C txt hdl X jmp nxt Q pc a b c d e f lv st h rc rs
  | .lrem => ts_lrem C txt hdl X jmp nxt Q pc a b c d e f lv st h rc rs
  | .lcmp => ts_lcmp C txt hdl X jmp nxt Q pc a b c d e f lv st h rc rs
  | .i2l => ts_i2l C txt hdl X jmp nxt Q pc a b c d e f lv st h rc rs
  | .i2b => ts_i2b C txt hdl X jmp nxt Q pc a b c d e f lv st h rc rs
  | .dup => ts_dup C txt hdl X jmp nxt Q pc a b c d e f lv st h rc rs
  | .dup2 => ts_dup2 C txt hdl X jmp nxt Q pc a b c d e f lv st h rc rs
  | .pop => ts_pop C txt hdl X jmp nxt Q pc a b c d e f lv st h rc rs
  | .ifCond cd _ => ts_ifCond C txt hdl X jmp nxt Q pc a b c d e f lv st h rc rs cd
  | .if_icmp cd _ => ts_if_icmp C txt hdl X jmp nxt Q pc a b c d e f lv st h rc rs cd
  | .goto _ => ts_goto C txt hdl X jmp nxt Q pc a b c d e f lv st h rc rs
  | .tableswitch _ lo _ offs => ts_tableswitch C txt hdl X jmp nxt Q pc a b c d e f lv st h rc rs lo offs
  | .lookupswitch _ ps => ts_lookupswitch C txt hdl X jmp nxt Q pc a b c d e f lv st h rc rs ps
  | .invokevirtual _ => ts_invokevirtual C txt hdl X jmp nxt Q pc a b c d e f lv st h rc rs
  | .invokespecial _ => ts_invokespecial C txt hdl X jmp nxt Q pc a b c d e f lv st h rc rs
  | .invokestatic _ => ts_invokestatic C txt hdl X jmp nxt Q pc a b c d e f lv st h rc rs
  | .ireturn => ts_ireturn C txt hdl X jmp nxt Q pc a b c d e f lv st h rc rs
  | .lreturn => ts_lreturn C txt hdl X jmp nxt Q pc a b c d e f lv st h rc rs
  | .return_ => ts_return_ C txt hdl X jmp nxt Q pc a b c d e f lv st h rc rs
  | _ => False
def tr_sfx (t : Nat) : List tr_En → List tr_En
  | [] => []
  | e :: es => if Nat.beq e.1 t then e :: es else tr_sfx t es
def tr_lk {α : Type} (k : Nat) : List (Nat × α) → Option α
  | [] => none
  | q :: qs => if Nat.beq q.1 k then some q.2 else tr_lk k qs
/-- the number of what the law's handlers take, by the entry -/
def tr_hx (ct : Nat) : Nat := match ct with
  | 13 => 1
  | 19 => 2
  | 25 => 0
  | _ => 9
/-- what is known not to be taken by a handler of another -/
def tr_np (E X : Nat) : Bool := (Nat.beq E 1 && Nat.beq X 0) || (Nat.beq E 2 && Nat.beq X 1)
def tr_hd (hs : List (Nat × Nat × Nat × Nat)) (pc E : Nat) : Option Nat := match hs with
  | [] => none
  | (f, t, p, ct) :: hs' => if Nat.ble f pc && Nat.blt pc t then (if Nat.beq (tr_hx ct) E then some p else if tr_np E (tr_hx ct) then tr_hd hs' pc E else none) else tr_hd hs' pc E
def tr_X (hs : List (Nat × Nat × Nat × Nat)) (Q : tr_Q) : Nat → tr_H → Prop := fun E h => match hs with
  | [] => Q (.inr E) h
  | _ => False
section TRW
variable (C : Nat → List tr_V → tr_H → tr_Q → Prop) (txt : Nat → List Nat) (tbl : List tr_En) (hs : List (Nat × Nat × Nat × Nat)) (cuts : List (Nat × List Bool)) (K : Nat → tr_K) (Q : tr_Q)
def tr_at (w : List tr_En → tr_K) (es : List tr_En) : tr_K := fun lv st h rc rs => match es with
  | [] => False
  | e :: _ => (match tr_lk e.1 cuts with
    | some bs => K e.1 (lvp bs lv) st h rc rs
    | none => w es lv st h rc rs)
/-- the weakest start from which the code comes to its cuts or to its end -/
def tr_wp : Nat → List tr_En → tr_K := fun n => Nat.rec (motive := fun _ => List tr_En → tr_K) (fun _ _ _ _ _ _ => False)
  (fun _ w es lv st h rc rs => match es with
    | [] => False
    | e :: es' => tr_step C txt (tr_hd hs e.1) (tr_X hs Q) (fun t => tr_at cuts K w (tr_sfx t tbl)) (tr_at cuts K w es') Q e.1 e.2.1 e.2.2.2.1 e.2.2.2.2.1 e.2.2.2.2.2.1 e.2.2.2.2.2.2.1 e.2.2.2.2.2.2.2.1 e.2.2.2.2.2.2.2.2 lv st h rc rs) n
theorem tr_wp_succ (n : Nat) (e : tr_En) (es : List tr_En) (lv : tr_L) (st : List tr_V) (h : tr_H) (rc rs : Nat) : tr_wp C txt tbl hs cuts K Q (n + 1) (e :: es) lv st h rc rs = tr_step C txt (tr_hd hs e.1) (tr_X hs Q) (fun t => tr_at cuts K (tr_wp C txt tbl hs cuts K Q n) (tr_sfx t tbl)) (tr_at cuts K (tr_wp C txt tbl hs cuts K Q n) es) Q e.1 e.2.1 e.2.2.2.1 e.2.2.2.2.1 e.2.2.2.2.2.1 e.2.2.2.2.2.2.1 e.2.2.2.2.2.2.2.1 e.2.2.2.2.2.2.2.2 lv st h rc rs := rfl
end TRW
end
section
abbrev e0 (p : Nat) (i : Instr) (n : Nat) : tr_En := (p, i, n, 0, 0, 0, 0, 0, 0)
abbrev e1 (p : Nat) (i : Instr) (n a : Nat) : tr_En := (p, i, n, a, 0, 0, 0, 0, 0)
abbrev e3 (p : Nat) (i : Instr) (n a b c : Nat) : tr_En := (p, i, n, a, b, c, 0, 0, 0)
abbrev e6 (p : Nat) (i : Instr) (n a b c d e f : Nat) : tr_En := (p, i, n, a, b, c, d, e, f)
set_option maxRecDepth 100000 in
def tb_X0_init : List tr_En := [e0 0 (.aload_n 0) 1, e1 1 (.invokespecial 3) 3 1000, e0 4 (.aload_n 0) 1, e0 5 (.bipush 40) 2, e3 7 (.newarray .int) 2 11 40 1, e3 9 (.putfield 9) 3 1 0 2, e0 12 (.aload_n 0) 1, e0 13 (.bipush 40) 2, e3 15 (.newarray .int) 2 11 40 1, e3 17 (.putfield 15) 3 1 1 2, e0 20 (.aload_n 0) 1, e0 21 (.bipush 64) 2, e3 23 (.newarray .int) 2 11 64 1, e3 25 (.putfield 18) 3 1 2 2, e0 28 .return_ 1]
set_option maxRecDepth 100000 in
def tb_X0_gather : List tr_En := [e0 0 (.aload_n 0) 1, e0 1 (.aload_n 1) 1, e3 2 (.getfield 21) 3 7 2 0, e3 5 (.putfield 27) 3 1 3 0, e0 8 (.aload_n 0) 1, e0 9 (.aload_n 1) 1, e3 10 (.getfield 28) 3 7 0 2, e3 13 (.getfield 32) 3 3 6 2, e0 16 (.iconst 1) 1, e1 17 .iaload 1 11, e3 18 (.putfield 37) 3 1 4 0, e0 21 (.aload_n 0) 1, e0 22 (.aload_n 1) 1, e3 23 (.getfield 28) 3 7 0 2, e3 26 (.getfield 32) 3 3 6 2, e0 29 (.iconst 2) 1, e1 30 .iaload 1 11, e3 31 (.putfield 40) 3 1 5 0, e0 34 (.iconst 0) 1, e0 35 (.istore_n 3) 1, e0 36 (.iload_n 3) 1, e0 37 (.aload_n 0) 1, e3 38 (.getfield 27) 3 1 3 0, e1 41 (.if_icmp .ge 45) 3 86, e0 44 (.aload_n 0) 1, e3 45 (.getfield 9) 3 1 0 2, e0 48 (.iload_n 3) 1, e0 49 (.aload_n 1) 1, e3 50 (.getfield 28) 3 7 0 2, e0 53 (.aload_n 1) 1, e3 54 (.getfield 43) 3 7 1 2, e0 57 (.iload_n 3) 1, e1 58 .aaload 1 16, e0 59 (.iconst 0) 1, e0 60 (.iload_n 2) 1, e6 61 (.invokevirtual 47) 3 32 4 1 3 0 0, e1 64 .iastore 1 11, e0 65 (.aload_n 0) 1, e3 66 (.getfield 15) 3 1 1 2, e0 69 (.iload_n 3) 1, e0 70 (.aload_n 1) 1, e3 71 (.getfield 43) 3 7 1 2, e0 74 (.iload_n 3) 1, e1 75 .aaload 1 16, e3 76 (.getfield 51) 3 4 5 0, e1 79 .iastore 1 11, e0 80 (.iinc 3 1) 3, e1 83 (.goto (-47)) 3 36, e0 86 .return_ 1]
set_option maxRecDepth 100000 in
def tb_X0_isChosen : List tr_En := [e0 0 (.aload_n 0) 1, e3 1 (.getfield 9) 3 1 0 2, e0 4 (.iload_n 1) 1, e1 5 .iaload 1 11, e0 6 (.iload_n 2) 1, e0 7 .iadd 1, e0 8 (.istore_n 3) 1, e0 9 (.iload_n 3) 1, e0 10 (.aload_n 0) 1, e3 11 (.getfield 37) 3 1 4 0, e1 14 (.if_icmp .ge 7) 3 21, e0 17 (.iload_n 3) 1, e1 18 (.goto 9) 3 27, e0 21 (.iload_n 3) 1, e0 22 (.aload_n 0) 1, e3 23 (.getfield 37) 3 1 4 0, e0 26 .isub 1, e0 27 (.aload_n 0) 1, e3 28 (.getfield 40) 3 1 5 0, e1 31 (.if_icmp .ge 7) 3 38, e0 34 (.iconst 1) 1, e1 35 (.goto 4) 3 39, e0 38 (.iconst 0) 1, e3 39 .ireturn 1 0 0 1]
set_option maxRecDepth 100000 in
def tb_X0_chosenBy : List tr_En := [e0 0 (.iconst 0) 1, e0 1 (.istore_n 2) 1, e0 2 (.iconst 0) 1, e0 3 (.istore_n 3) 1, e0 4 (.iload_n 3) 1, e0 5 (.aload_n 0) 1, e3 6 (.getfield 27) 3 1 3 0, e1 9 (.if_icmp .ge 26) 3 35, e0 12 (.iload_n 2) 1, e0 13 (.aload_n 0) 1, e0 14 (.iload_n 3) 1, e0 15 (.iload_n 1) 1, e6 16 (.invokevirtual 56) 3 2 3 1 1 0 0, e1 19 (.ifCond .eq 7) 3 26, e0 22 (.iconst 1) 1, e1 23 (.goto 4) 3 27, e0 26 (.iconst 0) 1, e0 27 .iadd 1, e0 28 (.istore_n 2) 1, e0 29 (.iinc 3 1) 3, e1 32 (.goto (-28)) 3 4, e0 35 (.iload_n 2) 1, e0 36 .ireturn 1]
set_option maxRecDepth 100000 in
def tb_X0_clashesBy : List tr_En := [e0 0 (.iload_n 2) 1, e0 1 (.iconst 2) 1, e1 2 (.if_icmp .lt 9) 3 11, e0 5 (.iload_n 2) 1, e0 6 (.bipush 64) 2, e1 8 (.if_icmp .le 5) 3 13, e0 11 (.iconst 0) 1, e0 12 .ireturn 1, e0 13 (.aload_n 0) 1, e3 14 (.getfield 18) 3 1 2 2, e0 17 (.iconst 0) 1, e3 18 (.invokestatic 60) 3 206 2 0, e0 21 (.iconst 0) 1, e0 22 (.istore_n 3) 1, e0 23 (.iconst 0) 1, e0 24 (.istore 4) 2, e0 26 (.iload 4) 2, e0 28 (.aload_n 0) 1, e3 29 (.getfield 27) 3 1 3 0, e1 32 (.if_icmp .ge 51) 3 83, e0 35 (.aload_n 0) 1, e0 36 (.iload 4) 2, e0 38 (.iload_n 1) 1, e6 39 (.invokevirtual 56) 3 2 3 1 1 0 0, e1 42 (.ifCond .eq 35) 3 77, e0 45 (.aload_n 0) 1, e3 46 (.getfield 15) 3 1 1 2, e0 49 (.iload 4) 2, e1 51 .iaload 1 11, e0 52 (.iload_n 2) 1, e0 53 .irem 1, e0 54 (.istore 5) 2, e0 56 (.iload_n 3) 1, e0 57 (.aload_n 0) 1, e3 58 (.getfield 18) 3 1 2 2, e0 61 (.iload 5) 2, e1 63 .iaload 1 11, e0 64 .iadd 1, e0 65 (.istore_n 3) 1, e0 66 (.aload_n 0) 1, e3 67 (.getfield 18) 3 1 2 2, e0 70 (.iload 5) 2, e0 72 .dup2 1, e1 73 .iaload 1 11, e0 74 (.iconst 1) 1, e0 75 .iadd 1, e1 76 .iastore 1 11, e0 77 (.iinc 4 1) 3, e1 80 (.goto (-54)) 3 26, e0 83 (.iload_n 3) 1, e0 84 .ireturn 1]
set_option maxRecDepth 100000 in
def tb_X0_unlikeMixes : List tr_En := [e0 0 (.iconst 0) 1, e0 1 (.istore_n 1) 1, e0 2 (.iconst 0) 1, e0 3 (.istore_n 2) 1, e0 4 (.iload_n 2) 1, e0 5 (.aload_n 0) 1, e3 6 (.getfield 27) 3 1 3 0, e1 9 (.if_icmp .ge 25) 3 34, e0 12 (.iload_n 1) 1, e0 13 (.aload_n 0) 1, e0 14 (.iload_n 2) 1, e6 15 (.invokevirtual 66) 3 6 2 1 1 0 0, e1 18 (.ifCond .eq 7) 3 25, e0 21 (.iconst 1) 1, e1 22 (.goto 4) 3 26, e0 25 (.iconst 0) 1, e0 26 .iadd 1, e0 27 (.istore_n 1) 1, e0 28 (.iinc 2 1) 3, e1 31 (.goto (-27)) 3 4, e0 34 (.iload_n 1) 1, e0 35 .ireturn 1]
set_option maxRecDepth 100000 in
def tb_X0_isFirstOfItsMix : List tr_En := [e0 0 (.iconst 0) 1, e0 1 (.istore_n 2) 1, e0 2 (.iload_n 2) 1, e0 3 (.iload_n 1) 1, e1 4 (.if_icmp .ge 26) 3 30, e0 7 (.aload_n 0) 1, e3 8 (.getfield 9) 3 1 0 2, e0 11 (.iload_n 2) 1, e1 12 .iaload 1 11, e0 13 (.aload_n 0) 1, e3 14 (.getfield 9) 3 1 0 2, e0 17 (.iload_n 1) 1, e1 18 .iaload 1 11, e1 19 (.if_icmp .ne 5) 3 24, e0 22 (.iconst 0) 1, e3 23 .ireturn 1 0 0 1, e0 24 (.iinc 2 1) 3, e1 27 (.goto (-25)) 3 2, e0 30 (.iconst 1) 1, e3 31 .ireturn 1 0 0 1]
set_option maxRecDepth 100000 in
def tb_X1_init : List tr_En := [e0 0 (.aload_n 0) 1, e1 1 (.invokespecial 3) 3 1000, e0 4 (.aload_n 0) 1, e0 5 (.bipush 10) 2, e3 7 (.newarray .int) 2 11 10 1, e3 9 (.putfield 9) 3 2 0 2, e0 12 (.aload_n 0) 1, e0 13 (.bipush 24) 2, e3 15 (.newarray .int) 2 11 24 1, e3 17 (.putfield 15) 3 2 1 2, e0 20 (.aload_n 0) 1, e0 21 (.sipush 520) 3, e3 24 (.newarray .int) 2 11 520 1, e3 26 (.putfield 18) 3 2 4 2, e0 29 (.aload_n 0) 1, e0 30 (.sipush 520) 3, e3 33 (.newarray .int) 2 11 520 1, e3 35 (.putfield 21) 3 2 5 2, e0 38 (.aload_n 0) 1, e0 39 (.sipush 520) 3, e3 42 (.newarray .int) 2 11 520 1, e3 44 (.putfield 24) 3 2 6 2, e0 47 (.aload_n 0) 1, e0 48 (.sipush 520) 3, e3 51 (.newarray .int) 2 11 520 1, e3 53 (.putfield 27) 3 2 7 2, e0 56 (.aload_n 0) 1, e0 57 (.bipush 40) 2, e3 59 (.newarray .int) 2 11 40 1, e3 61 (.putfield 30) 3 2 11 2, e0 64 (.aload_n 0) 1, e0 65 (.bipush 40) 2, e3 67 (.newarray .int) 2 11 40 1, e3 69 (.putfield 33) 3 2 12 2, e0 72 (.aload_n 0) 1, e0 73 (.bipush 40) 2, e3 75 (.newarray .int) 2 11 40 1, e3 77 (.putfield 36) 3 2 13 2, e0 80 (.aload_n 0) 1, e0 81 (.sipush 520) 3, e3 84 (.newarray .int) 2 11 520 1, e3 86 (.putfield 39) 3 2 14 2, e0 89 (.aload_n 0) 1, e0 90 (.bipush 40) 2, e3 92 (.newarray .boolean) 2 13 40 1, e3 94 (.putfield 42) 3 2 15 2, e0 97 .return_ 1]
set_option maxRecDepth 100000 in
def tb_X1_gather : List tr_En := [e0 0 (.aload_n 0) 1, e3 1 (.getfield 9) 3 2 0 2, e0 4 (.iconst 0) 1, e3 5 (.invokestatic 46) 3 206 2 0, e0 8 (.aload_n 0) 1, e3 9 (.getfield 15) 3 2 1 2, e0 12 (.iconst 0) 1, e3 13 (.invokestatic 46) 3 206 2 0, e0 16 (.aload_n 0) 1, e0 17 (.iconst 0) 1, e3 18 (.putfield 52) 3 2 2 0, e0 21 (.aload_n 0) 1, e0 22 (.iconst 0) 1, e3 23 (.putfield 56) 3 2 3 0, e0 26 (.iconst 0) 1, e0 27 (.istore_n 3) 1, e0 28 (.iload_n 3) 1, e0 29 (.aload_n 1) 1, e3 30 (.getfield 59) 3 7 2 0, e1 33 (.if_icmp .ge 40) 3 73, e0 36 (.aload_n 1) 1, e3 37 (.getfield 64) 3 7 1 2, e0 40 (.iload_n 3) 1, e1 41 .aaload 1 16, e0 42 (.astore 4) 2, e0 44 (.aload_n 1) 1, e3 45 (.getfield 68) 3 7 0 2, e0 48 (.aload 4) 2, e6 50 (.invokevirtual 72) 3 36 2 1 3 0 0, e0 53 (.iload_n 2) 1, e1 54 (.if_icmp .ne 13) 3 67, e0 57 (.aload_n 0) 1, e0 58 (.aload_n 1) 1, e3 59 (.getfield 68) 3 7 0 2, e0 62 (.aload 4) 2, e6 64 (.invokevirtual 78) 3 9 3 0 2 0 0, e0 67 (.iinc 3 1) 3, e1 70 (.goto (-42)) 3 28, e0 73 .return_ 1]
set_option maxRecDepth 100000 in
def tb_X1_gatherOf : List tr_En := [e0 0 (.iconst 0) 1, e0 1 (.istore_n 3) 1, e0 2 (.iload_n 3) 1, e0 3 (.aload_n 2) 1, e3 4 (.getfield 82) 3 4 8 0, e1 7 (.if_icmp .ge 73) 3 80, e0 10 (.aload_n 1) 1, e0 11 (.aload_n 2) 1, e0 12 (.iload_n 3) 1, e6 13 (.invokevirtual 87) 3 34 3 1 3 0 0, e1 16 (.ifCond .eq 58) 3 74, e0 19 (.iload_n 3) 1, e1 20 (.ifCond .ne 29) 3 49, e0 23 (.aload_n 0) 1, e3 24 (.getfield 9) 3 2 0 2, e0 27 (.aload_n 2) 1, e1 28 (.getfield 91) 3 4, e0 31 .dup2 1, e1 32 .iaload 1 11, e0 33 (.iconst 1) 1, e0 34 .iadd 1, e1 35 .iastore 1 11, e0 36 (.aload_n 0) 1, e0 37 .dup 1, e3 38 (.getfield 52) 3 2 2 0, e0 41 (.iconst 1) 1, e0 42 .iadd 1, e3 43 (.putfield 52) 3 2 2 0, e1 46 (.goto 28) 3 74, e0 49 (.aload_n 0) 1, e3 50 (.getfield 15) 3 2 1 2, e0 53 (.aload_n 2) 1, e3 54 (.getfield 94) 3 4 7 2, e0 57 (.iload_n 3) 1, e1 58 .iaload 1 11, e0 59 .dup2 1, e1 60 .iaload 1 11, e0 61 (.iconst 1) 1, e0 62 .iadd 1, e1 63 .iastore 1 11, e0 64 (.aload_n 0) 1, e0 65 .dup 1, e3 66 (.getfield 56) 3 2 3 0, e0 69 (.iconst 1) 1, e0 70 .iadd 1, e3 71 (.putfield 56) 3 2 3 0, e0 74 (.iinc 3 1) 3, e1 77 (.goto (-75)) 3 2, e0 80 .return_ 1]
set_option maxRecDepth 100000 in
def tb_X1_hasReports : List tr_En := [e0 0 (.aload_n 0) 1, e3 1 (.getfield 52) 3 2 2 0, e0 4 (.aload_n 0) 1, e3 5 (.getfield 56) 3 2 3 0, e0 8 .iadd 1, e1 9 (.ifCond .le 7) 3 16, e0 12 (.iconst 1) 1, e1 13 (.goto 4) 3 17, e0 16 (.iconst 0) 1, e3 17 .ireturn 1 0 0 1]
set_option maxRecDepth 100000 in
def tb_X1_join : List tr_En := [e0 0 (.aload_n 0) 1, e0 1 (.iconst 0) 1, e3 2 (.putfield 97) 3 2 9 0, e0 5 (.aload_n 0) 1, e0 6 (.iconst 0) 1, e3 7 (.putfield 100) 3 2 10 0, e0 10 (.aload_n 0) 1, e0 11 (.iconst 0) 1, e3 12 (.putfield 103) 3 2 8 0, e0 15 (.aload_n 0) 1, e3 16 (.getfield 52) 3 2 2 0, e1 19 (.ifCond .ne 20) 3 39, e0 22 (.aload_n 0) 1, e0 23 (.aload_n 0) 1, e3 24 (.getfield 56) 3 2 3 0, e1 27 (.ifCond .ne 7) 3 34, e0 30 (.iconst 1) 1, e1 31 (.goto 4) 3 35, e0 34 (.iconst 0) 1, e3 35 (.putfield 97) 3 2 9 0, e0 38 .return_ 1, e0 39 (.aload_n 0) 1, e0 40 (.iconst 0) 1, e0 41 (.iconst (-1)) 1, e6 42 (.invokevirtual 106) 3 14 3 0 2 0 0, e0 45 (.iconst 0) 1, e0 46 (.istore_n 2) 1, e0 47 (.iconst 0) 1, e0 48 (.istore_n 3) 1, e0 49 (.iload_n 3) 1, e0 50 (.sipush 10002) 3, e1 53 (.if_icmp .gt 102) 3 155, e0 56 (.iload_n 2) 1, e1 57 (.ifCond .lt 98) 3 155, e0 60 (.iload_n 2) 1, e0 61 (.sipush 520) 3, e1 64 (.if_icmp .ge 91) 3 155, e0 67 (.aload_n 0) 1, e0 68 (.aload_n 1) 1, e0 69 (.iload_n 2) 1, e6 70 (.invokevirtual 110) 3 12 3 1 2 0 0, e0 73 (.istore 4) 2, e0 75 (.iload 4) 2, e0 77 (.bipush (-9)) 2, e1 79 (.if_icmp .ne 14) 3 93, e0 82 (.iinc 2 (-1)) 3, e0 85 (.aload_n 0) 1, e0 86 (.iload_n 2) 1, e6 87 (.invokevirtual 114) 3 17 2 0 2 0 0, e1 90 (.goto 59) 3 149, e0 93 (.aload_n 0) 1, e3 94 (.getfield 103) 3 2 8 0, e0 97 (.sipush 5000) 3, e1 100 (.if_icmp .ne 10) 3 110, e0 103 (.aload_n 0) 1, e0 104 (.bipush (-2)) 2, e3 106 (.putfield 97) 3 2 9 0, e0 109 .return_ 1, e0 110 (.aload_n 0) 1, e0 111 .dup 1, e3 112 (.getfield 103) 3 2 8 0, e0 115 (.iconst 1) 1, e0 116 .iadd 1, e3 117 (.putfield 103) 3 2 8 0, e0 120 (.aload_n 0) 1, e3 121 (.getfield 18) 3 2 4 2, e0 124 (.iload_n 2) 1, e0 125 (.iload 4) 2, e1 127 .iastore 1 11, e0 128 (.iload 4) 2, e0 130 (.iconst (-1)) 1, e1 131 (.if_icmp .ne 11) 3 142, e0 134 (.aload_n 0) 1, e0 135 (.iload_n 2) 1, e6 136 (.invokevirtual 118) 3 16 2 1 2 0 0, e1 139 (.goto 9) 3 148, e0 142 (.aload_n 0) 1, e0 143 (.aload_n 1) 1, e0 144 (.iload_n 2) 1, e6 145 (.invokevirtual 122) 3 15 3 1 2 0 0, e0 148 (.istore_n 2) 1, e0 149 (.iinc 3 1) 3, e1 152 (.goto (-103)) 3 49, e0 155 .return_ 1]
set_option maxRecDepth 100000 in
def tb_X1_nextMove : List tr_En := [e0 0 (.aload_n 0) 1, e3 1 (.getfield 18) 3 2 4 2, e0 4 (.iload_n 2) 1, e1 5 .iaload 1 11, e0 6 (.iconst 1) 1, e0 7 .iadd 1, e0 8 (.istore_n 3) 1, e0 9 (.iload_n 3) 1, e0 10 (.iconst (-1)) 1, e1 11 (.if_icmp .ne 5) 3 16, e0 14 (.iconst (-1)) 1, e0 15 .ireturn 1, e0 16 (.iload_n 3) 1, e0 17 (.istore 4) 2, e0 19 (.iload 4) 2, e0 21 (.aload_n 1) 1, e3 22 (.getfield 125) 3 3 1 0, e1 25 (.if_icmp .ge 38) 3 63, e0 28 (.aload_n 0) 1, e3 29 (.getfield 15) 3 2 1 2, e0 32 (.iload 4) 2, e1 34 .iaload 1 11, e1 35 (.ifCond .le 22) 3 57, e0 38 (.aload_n 1) 1, e3 39 (.getfield 127) 3 3 2 2, e0 42 (.iload 4) 2, e1 44 .iaload 1 11, e0 45 (.aload_n 0) 1, e3 46 (.getfield 21) 3 2 5 2, e0 49 (.iload_n 2) 1, e1 50 .iaload 1 11, e1 51 (.if_icmp .ne 6) 3 57, e0 54 (.iload 4) 2, e0 56 .ireturn 1, e0 57 (.iinc 4 1) 3, e1 60 (.goto (-41)) 3 19, e0 63 (.bipush (-9)) 2, e0 65 .ireturn 1]
set_option maxRecDepth 100000 in
def tb_X1_stand : List tr_En := [e0 0 (.iload_n 1) 1, e0 1 (.sipush 520) 3, e1 4 (.if_icmp .lt 4) 3 8, e0 7 .return_ 1, e0 8 (.aload_n 0) 1, e3 9 (.getfield 21) 3 2 5 2, e0 12 (.iload_n 1) 1, e0 13 (.iload_n 2) 1, e1 14 .iastore 1 11, e0 15 (.aload_n 0) 1, e3 16 (.getfield 24) 3 2 6 2, e0 19 (.iload_n 1) 1, e0 20 (.iload_n 3) 1, e1 21 .iastore 1 11, e0 22 (.aload_n 0) 1, e3 23 (.getfield 27) 3 2 7 2, e0 26 (.iload_n 1) 1, e0 27 (.iload 4) 2, e1 29 .iastore 1 11, e0 30 (.aload_n 0) 1, e3 31 (.getfield 18) 3 2 4 2, e0 34 (.iload_n 1) 1, e0 35 (.iload 4) 2, e0 37 (.iconst (-1)) 1, e1 38 (.if_icmp .ne 7) 3 45, e0 41 (.iconst (-1)) 1, e1 42 (.goto 10) 3 52, e0 45 (.aload_n 0) 1, e3 46 (.getfield 18) 3 2 4 2, e0 49 (.iload 4) 2, e1 51 .iaload 1 11, e0 52 (.iconst 1) 1, e0 53 .isub 1, e1 54 .iastore 1 11, e0 55 .return_ 1]
set_option maxRecDepth 100000 in
def tb_X1_openWalk : List tr_En := [e0 0 (.iconst 0) 1, e0 1 (.istore_n 3) 1, e0 2 (.iload_n 3) 1, e0 3 (.bipush 9) 2, e1 5 (.if_icmp .ge 18) 3 23, e0 8 (.aload_n 0) 1, e3 9 (.getfield 9) 3 2 0 2, e0 12 (.iload_n 3) 1, e1 13 .iaload 1 11, e1 14 (.ifCond .ne 9) 3 23, e0 17 (.iinc 3 1) 3, e1 20 (.goto (-18)) 3 2, e0 23 (.aload_n 0) 1, e3 24 (.getfield 9) 3 2 0 2, e0 27 (.iload_n 3) 1, e0 28 .dup2 1, e1 29 .iaload 1 11, e0 30 (.iconst 1) 1, e0 31 .isub 1, e1 32 .iastore 1 11, e0 33 (.aload_n 0) 1, e0 34 .dup 1, e3 35 (.getfield 52) 3 2 2 0, e0 38 (.iconst 1) 1, e0 39 .isub 1, e3 40 (.putfield 52) 3 2 2 0, e0 43 (.iload_n 2) 1, e0 44 (.iconst (-1)) 1, e1 45 (.if_icmp .eq 17) 3 62, e0 48 (.aload_n 0) 1, e3 49 (.getfield 21) 3 2 5 2, e0 52 (.iload_n 2) 1, e1 53 .iaload 1 11, e0 54 (.iload_n 3) 1, e1 55 (.if_icmp .ne 7) 3 62, e0 58 (.iconst 1) 1, e1 59 (.goto 4) 3 63, e0 62 (.iconst 0) 1, e0 63 (.istore 4) 2, e0 65 (.aload_n 0) 1, e0 66 (.iload_n 1) 1, e0 67 (.iload_n 3) 1, e0 68 (.iload_n 1) 1, e0 69 (.iload 4) 2, e1 71 (.ifCond .eq 7) 3 78, e0 74 (.iload_n 2) 1, e1 75 (.goto 4) 3 79, e0 78 (.iconst (-1)) 1, e6 79 (.invokevirtual 130) 3 13 5 0 2 0 0, e0 82 .return_ 1]
set_option maxRecDepth 100000 in
def tb_X1_goOn : List tr_En := [e0 0 (.aload_n 0) 1, e3 1 (.getfield 18) 3 2 4 2, e0 4 (.iload_n 2) 1, e1 5 .iaload 1 11, e0 6 (.istore_n 3) 1, e0 7 (.aload_n 0) 1, e3 8 (.getfield 15) 3 2 1 2, e0 11 (.iload_n 3) 1, e0 12 .dup2 1, e1 13 .iaload 1 11, e0 14 (.iconst 1) 1, e0 15 .isub 1, e1 16 .iastore 1 11, e0 17 (.aload_n 0) 1, e0 18 .dup 1, e3 19 (.getfield 56) 3 2 3 0, e0 22 (.iconst 1) 1, e0 23 .isub 1, e3 24 (.putfield 56) 3 2 3 0, e0 27 (.aload_n 0) 1, e3 28 (.getfield 27) 3 2 7 2, e0 31 (.iload_n 2) 1, e1 32 .iaload 1 11, e0 33 (.istore 4) 2, e0 35 (.iload 4) 2, e0 37 (.iconst (-1)) 1, e1 38 (.if_icmp .eq 18) 3 56, e0 41 (.aload_n 0) 1, e3 42 (.getfield 18) 3 2 4 2, e0 45 (.iload 4) 2, e1 47 .iaload 1 11, e0 48 (.iload_n 3) 1, e1 49 (.if_icmp .ne 7) 3 56, e0 52 (.iconst 1) 1, e1 53 (.goto 4) 3 57, e0 56 (.iconst 0) 1, e0 57 (.istore 5) 2, e0 59 (.aload_n 0) 1, e0 60 (.iload_n 2) 1, e0 61 (.iconst 1) 1, e0 62 .iadd 1, e0 63 (.aload_n 1) 1, e3 64 (.getfield 134) 3 3 3 2, e0 67 (.iload_n 3) 1, e1 68 .iaload 1 11, e0 69 (.aload_n 0) 1, e3 70 (.getfield 24) 3 2 6 2, e0 73 (.iload_n 2) 1, e1 74 .iaload 1 11, e0 75 (.iload 5) 2, e1 77 (.ifCond .eq 10) 3 87, e0 80 (.iload 4) 2, e0 82 (.iconst 1) 1, e0 83 .iadd 1, e1 84 (.goto 4) 3 88, e0 87 (.iconst (-1)) 1, e6 88 (.invokevirtual 130) 3 13 5 0 2 0 0, e0 91 (.iload_n 2) 1, e0 92 (.iconst 1) 1, e0 93 .iadd 1, e0 94 .ireturn 1]
set_option maxRecDepth 100000 in
def tb_X1_endWalk : List tr_En := [e0 0 (.aload_n 0) 1, e3 1 (.getfield 52) 3 2 2 0, e1 4 (.ifCond .le 20) 3 24, e0 7 (.aload_n 0) 1, e0 8 (.iload_n 1) 1, e0 9 (.iconst 1) 1, e0 10 .iadd 1, e0 11 (.aload_n 0) 1, e3 12 (.getfield 24) 3 2 6 2, e0 15 (.iload_n 1) 1, e1 16 .iaload 1 11, e6 17 (.invokevirtual 106) 3 14 3 0 2 0 0, e0 20 (.iload_n 1) 1, e0 21 (.iconst 1) 1, e0 22 .iadd 1, e0 23 .ireturn 1, e0 24 (.aload_n 0) 1, e3 25 (.getfield 56) 3 2 3 0, e1 28 (.ifCond .ne 27) 3 55, e0 31 (.aload_n 0) 1, e3 32 (.getfield 97) 3 2 9 0, e1 35 (.ifCond .ne 10) 3 45, e0 38 (.aload_n 0) 1, e0 39 (.iload_n 1) 1, e0 40 (.iconst 1) 1, e0 41 .iadd 1, e6 42 (.invokevirtual 137) 3 18 2 0 2 0 0, e0 45 (.aload_n 0) 1, e0 46 .dup 1, e3 47 (.getfield 97) 3 2 9 0, e0 50 (.iconst 1) 1, e0 51 .iadd 1, e3 52 (.putfield 97) 3 2 9 0, e0 55 (.iload_n 1) 1, e0 56 .ireturn 1]
set_option maxRecDepth 100000 in
def tb_X1_takeBack : List tr_En := [e0 0 (.iload_n 1) 1, e1 1 (.ifCond .ge 4) 3 5, e0 4 .return_ 1, e0 5 (.aload_n 0) 1, e3 6 (.getfield 18) 3 2 4 2, e0 9 (.iload_n 1) 1, e1 10 .iaload 1 11, e0 11 (.iconst (-1)) 1, e1 12 (.if_icmp .ne 33) 3 45, e0 15 (.aload_n 0) 1, e3 16 (.getfield 9) 3 2 0 2, e0 19 (.aload_n 0) 1, e3 20 (.getfield 21) 3 2 5 2, e0 23 (.iload_n 1) 1, e0 24 (.iconst 1) 1, e0 25 .iadd 1, e1 26 .iaload 1 11, e0 27 .dup2 1, e1 28 .iaload 1 11, e0 29 (.iconst 1) 1, e0 30 .iadd 1, e1 31 .iastore 1 11, e0 32 (.aload_n 0) 1, e0 33 .dup 1, e3 34 (.getfield 52) 3 2 2 0, e0 37 (.iconst 1) 1, e0 38 .iadd 1, e3 39 (.putfield 52) 3 2 2 0, e1 42 (.goto 28) 3 70, e0 45 (.aload_n 0) 1, e3 46 (.getfield 15) 3 2 1 2, e0 49 (.aload_n 0) 1, e3 50 (.getfield 18) 3 2 4 2, e0 53 (.iload_n 1) 1, e1 54 .iaload 1 11, e0 55 .dup2 1, e1 56 .iaload 1 11, e0 57 (.iconst 1) 1, e0 58 .iadd 1, e1 59 .iastore 1 11, e0 60 (.aload_n 0) 1, e0 61 .dup 1, e3 62 (.getfield 56) 3 2 3 0, e0 65 (.iconst 1) 1, e0 66 .iadd 1, e3 67 (.putfield 56) 3 2 3 0, e0 70 .return_ 1]
set_option maxRecDepth 100000 in
def tb_X1_keepSet : List tr_En := [e0 0 (.iconst 0) 1, e0 1 (.istore_n 2) 1, e0 2 (.iload_n 2) 1, e0 3 (.iload_n 1) 1, e1 4 (.if_icmp .ge 102) 3 106, e0 7 (.aload_n 0) 1, e3 8 (.getfield 39) 3 2 14 2, e0 11 (.iload_n 2) 1, e0 12 (.aload_n 0) 1, e3 13 (.getfield 18) 3 2 4 2, e0 16 (.iload_n 2) 1, e1 17 .iaload 1 11, e1 18 .iastore 1 11, e0 19 (.aload_n 0) 1, e3 20 (.getfield 18) 3 2 4 2, e0 23 (.iload_n 2) 1, e1 24 .iaload 1 11, e0 25 (.iconst (-1)) 1, e1 26 (.if_icmp .ne 74) 3 100, e0 29 (.aload_n 0) 1, e3 30 (.getfield 100) 3 2 10 0, e0 33 (.bipush 40) 2, e1 35 (.if_icmp .ge 65) 3 100, e0 38 (.aload_n 0) 1, e3 39 (.getfield 36) 3 2 13 2, e0 42 (.aload_n 0) 1, e3 43 (.getfield 100) 3 2 10 0, e0 46 (.aload_n 0) 1, e3 47 (.getfield 24) 3 2 6 2, e0 50 (.iload_n 2) 1, e1 51 .iaload 1 11, e1 52 .iastore 1 11, e0 53 (.aload_n 0) 1, e3 54 (.getfield 30) 3 2 11 2, e0 57 (.aload_n 0) 1, e3 58 (.getfield 100) 3 2 10 0, e0 61 (.aload_n 0) 1, e3 62 (.getfield 21) 3 2 5 2, e0 65 (.aload_n 0) 1, e3 66 (.getfield 24) 3 2 6 2, e0 69 (.iload_n 2) 1, e1 70 .iaload 1 11, e1 71 .iaload 1 11, e1 72 .iastore 1 11, e0 73 (.aload_n 0) 1, e3 74 (.getfield 33) 3 2 12 2, e0 77 (.aload_n 0) 1, e3 78 (.getfield 100) 3 2 10 0, e0 81 (.iload_n 2) 1, e0 82 (.aload_n 0) 1, e3 83 (.getfield 24) 3 2 6 2, e0 86 (.iload_n 2) 1, e1 87 .iaload 1 11, e0 88 .isub 1, e1 89 .iastore 1 11, e0 90 (.aload_n 0) 1, e0 91 .dup 1, e3 92 (.getfield 100) 3 2 10 0, e0 95 (.iconst 1) 1, e0 96 .iadd 1, e3 97 (.putfield 100) 3 2 10 0, e0 100 (.iinc 2 1) 3, e1 103 (.goto (-101)) 3 2, e0 106 .return_ 1]
set_option maxRecDepth 100000 in
def tb_X1_linkOfWalk : List tr_En := [e0 0 (.aload_n 0) 1, e3 1 (.getfield 39) 3 2 14 2, e0 4 (.aload_n 0) 1, e3 5 (.getfield 36) 3 2 13 2, e0 8 (.iload_n 1) 1, e1 9 .iaload 1 11, e0 10 (.iload_n 2) 1, e0 11 .iadd 1, e1 12 .iaload 1 11, e0 13 .ireturn 1]
set_option maxRecDepth 100000 in
def tb_X1_lastHop : List tr_En := [e0 0 (.aload_n 0) 1, e3 1 (.getfield 33) 3 2 12 2, e0 4 (.iload_n 2) 1, e1 5 .iaload 1 11, e0 6 (.istore_n 3) 1, e0 7 (.iload_n 3) 1, e1 8 (.ifCond .ne 12) 3 20, e0 11 (.aload_n 0) 1, e3 12 (.getfield 30) 3 2 11 2, e0 15 (.iload_n 2) 1, e1 16 .iaload 1 11, e1 17 (.goto 16) 3 33, e0 20 (.aload_n 1) 1, e3 21 (.getfield 134) 3 3 3 2, e0 24 (.aload_n 0) 1, e0 25 (.iload_n 2) 1, e0 26 (.iload_n 3) 1, e0 27 (.iconst 1) 1, e0 28 .isub 1, e6 29 (.invokevirtual 140) 3 19 3 1 2 0 0, e1 32 .iaload 1 11, e0 33 .ireturn 1]
set_option maxRecDepth 100000 in
def tb_X1_countWalks : List tr_En := [e0 0 (.iconst 0) 1, e0 1 (.istore 4) 2, e0 3 (.iconst 0) 1, e0 4 (.istore 5) 2, e0 6 (.iload 5) 2, e0 8 (.aload_n 0) 1, e3 9 (.getfield 100) 3 2 10 0, e1 12 (.if_icmp .ge 41) 3 53, e0 15 (.iload 4) 2, e0 17 (.aload_n 0) 1, e3 18 (.getfield 30) 3 2 11 2, e0 21 (.iload 5) 2, e1 23 .iaload 1 11, e0 24 (.iload_n 2) 1, e1 25 (.if_icmp .ne 18) 3 43, e0 28 (.aload_n 0) 1, e0 29 (.aload_n 1) 1, e0 30 (.iload 5) 2, e6 32 (.invokevirtual 144) 3 20 3 1 2 0 0, e0 35 (.iload_n 3) 1, e1 36 (.if_icmp .ne 7) 3 43, e0 39 (.iconst 1) 1, e1 40 (.goto 4) 3 44, e0 43 (.iconst 0) 1, e0 44 .iadd 1, e0 45 (.istore 4) 2, e0 47 (.iinc 5 1) 3, e1 50 (.goto (-44)) 3 6, e0 53 (.iload 4) 2, e0 55 .ireturn 1]
set_option maxRecDepth 100000 in
def tb_X1_releaseWalks : List tr_En := [e0 0 (.iconst 0) 1, e0 1 (.istore_n 1) 1, e0 2 (.iload_n 1) 1, e0 3 (.aload_n 0) 1, e3 4 (.getfield 42) 3 2 15 2, e1 7 .arraylength 1 13, e1 8 (.if_icmp .ge 16) 3 24, e0 11 (.aload_n 0) 1, e3 12 (.getfield 42) 3 2 15 2, e0 15 (.iload_n 1) 1, e0 16 (.iconst 0) 1, e3 17 .bastore 1 13 0 1, e0 18 (.iinc 1 1) 3, e1 21 (.goto (-19)) 3 2, e0 24 .return_ 1]
set_option maxRecDepth 100000 in
def tb_X1_claimWalk : List tr_En := [e0 0 (.iconst 0) 1, e0 1 (.istore_n 2) 1, e0 2 (.iload_n 2) 1, e0 3 (.aload_n 0) 1, e3 4 (.getfield 100) 3 2 10 0, e1 7 (.if_icmp .ge 36) 3 43, e0 10 (.aload_n 0) 1, e3 11 (.getfield 42) 3 2 15 2, e0 14 (.iload_n 2) 1, e1 15 .baload 1 13, e1 16 (.ifCond .ne 21) 3 37, e0 19 (.aload_n 0) 1, e0 20 (.iload_n 2) 1, e0 21 (.aload_n 1) 1, e6 22 (.invokevirtual 147) 3 24 3 1 2 0 0, e1 25 (.ifCond .eq 12) 3 37, e0 28 (.aload_n 0) 1, e3 29 (.getfield 42) 3 2 15 2, e0 32 (.iload_n 2) 1, e0 33 (.iconst 1) 1, e3 34 .bastore 1 13 0 1, e0 35 (.iconst 1) 1, e3 36 .ireturn 1 0 0 1, e0 37 (.iinc 2 1) 3, e1 40 (.goto (-38)) 3 2, e0 43 (.iconst 0) 1, e3 44 .ireturn 1 0 0 1]
set_option maxRecDepth 100000 in
def tb_X1_isTrail : List tr_En := [e0 0 (.aload_n 0) 1, e3 1 (.getfield 30) 3 2 11 2, e0 4 (.iload_n 1) 1, e1 5 .iaload 1 11, e0 6 (.aload_n 2) 1, e1 7 (.getfield 91) 3 4, e1 10 (.if_icmp .ne 18) 3 28, e0 13 (.aload_n 0) 1, e3 14 (.getfield 33) 3 2 12 2, e0 17 (.iload_n 1) 1, e1 18 .iaload 1 11, e0 19 (.aload_n 2) 1, e3 20 (.getfield 82) 3 4 8 0, e0 23 (.iconst 1) 1, e0 24 .isub 1, e1 25 (.if_icmp .eq 5) 3 30, e0 28 (.iconst 0) 1, e3 29 .ireturn 1 0 0 1, e0 30 (.iconst 0) 1, e0 31 (.istore_n 3) 1, e0 32 (.iload_n 3) 1, e0 33 (.aload_n 0) 1, e3 34 (.getfield 33) 3 2 12 2, e0 37 (.iload_n 1) 1, e1 38 .iaload 1 11, e1 39 (.if_icmp .ge 28) 3 67, e0 42 (.aload_n 0) 1, e0 43 (.iload_n 1) 1, e0 44 (.iload_n 3) 1, e6 45 (.invokevirtual 140) 3 19 3 1 2 0 0, e0 48 (.aload_n 2) 1, e3 49 (.getfield 94) 3 4 7 2, e0 52 (.iload_n 3) 1, e0 53 (.iconst 1) 1, e0 54 .iadd 1, e1 55 .iaload 1 11, e1 56 (.if_icmp .eq 5) 3 61, e0 59 (.iconst 0) 1, e3 60 .ireturn 1 0 0 1, e0 61 (.iinc 3 1) 3, e1 64 (.goto (-32)) 3 32, e0 67 (.iconst 1) 1, e3 68 .ireturn 1 0 0 1]
set_option maxRecDepth 100000 in
def tb_X2_init : List tr_En := [e0 0 (.aload_n 0) 1, e1 1 (.invokespecial 3) 3 1000, e0 4 (.aload_n 0) 1, e0 5 (.iconst 2) 1, e1 6 (.putfield 9) 3 3, e0 9 (.aload_n 0) 1, e0 10 (.bipush 24) 2, e3 12 (.newarray .int) 2 11 24 1, e3 14 (.putfield 15) 3 3 2 2, e0 17 (.aload_n 0) 1, e0 18 (.bipush 24) 2, e3 20 (.newarray .int) 2 11 24 1, e3 22 (.putfield 19) 3 3 3 2, e0 25 (.aload_n 0) 1, e0 26 (.bipush 24) 2, e3 28 (.newarray .int) 2 11 24 1, e3 30 (.putfield 22) 3 3 4 2, e0 33 (.aload_n 0) 1, e0 34 (.bipush 100) 2, e3 36 (.newarray .int) 2 11 100 1, e3 38 (.putfield 25) 3 3 5 2, e0 41 (.aload_n 0) 1, e3 42 (.getfield 25) 3 3 5 2, e0 45 (.iconst (-1)) 1, e3 46 (.invokestatic 28) 3 206 2 0, e0 49 (.aload_n 0) 1, e0 50 (.iconst 5) 1, e3 51 (.newarray .int) 2 11 5 1, e3 53 (.putfield 34) 3 3 6 2, e0 56 (.aload_n 0) 1, e3 57 (.getfield 34) 3 3 6 2, e0 60 (.iconst 0) 1, e0 61 (.bipush 7) 2, e1 63 .iastore 1 11, e0 64 (.aload_n 0) 1, e3 65 (.getfield 34) 3 3 6 2, e0 68 (.iconst 1) 1, e0 69 (.bipush 101) 2, e1 71 .iastore 1 11, e0 72 (.aload_n 0) 1, e3 73 (.getfield 34) 3 3 6 2, e0 76 (.iconst 2) 1, e0 77 (.bipush 20) 2, e1 79 .iastore 1 11, e0 80 (.aload_n 0) 1, e3 81 (.getfield 34) 3 3 6 2, e0 84 (.iconst 3) 1, e0 85 (.iconst 0) 1, e1 86 .iastore 1 11, e0 87 (.aload_n 0) 1, e3 88 (.getfield 34) 3 3 6 2, e0 91 (.iconst 4) 1, e0 92 (.bipush 16) 2, e1 94 .iastore 1 11, e0 95 .return_ 1]
set_option maxRecDepth 100000 in
def tb_X2_init_ : List tr_En := [e0 0 (.aload_n 0) 1, e1 1 (.invokespecial 3) 3 1000, e0 4 (.aload_n 0) 1, e0 5 (.aload_n 1) 1, e1 6 (.getfield 9) 3 3, e1 9 (.putfield 9) 3 3, e0 12 (.aload_n 0) 1, e0 13 (.aload_n 1) 1, e3 14 (.getfield 37) 3 3 1 0, e3 17 (.putfield 37) 3 3 1 0, e0 20 (.aload_n 0) 1, e0 21 (.aload_n 1) 1, e3 22 (.getfield 15) 3 3 2 2, e3 25 (.putfield 15) 3 3 2 2, e0 28 (.aload_n 0) 1, e0 29 (.aload_n 1) 1, e3 30 (.getfield 19) 3 3 3 2, e3 33 (.putfield 19) 3 3 3 2, e0 36 (.aload_n 0) 1, e0 37 (.aload_n 1) 1, e3 38 (.getfield 22) 3 3 4 2, e3 41 (.invokevirtual 40) 3 1004 11 24, e1 44 (.checkcast 41) 3 11, e3 47 (.putfield 22) 3 3 4 2, e0 50 (.aload_n 0) 1, e0 51 (.aload_n 1) 1, e3 52 (.getfield 25) 3 3 5 2, e3 55 (.invokevirtual 40) 3 1004 11 100, e1 58 (.checkcast 41) 3 11, e3 61 (.putfield 25) 3 3 5 2, e0 64 (.aload_n 0) 1, e0 65 (.aload_n 1) 1, e3 66 (.getfield 34) 3 3 6 2, e3 69 (.invokevirtual 40) 3 1004 11 5, e1 72 (.checkcast 41) 3 11, e3 75 (.putfield 34) 3 3 6 2, e0 78 .return_ 1]
set_option maxRecDepth 100000 in
def tb_X2_hasHop : List tr_En := [e0 0 (.iload_n 1) 1, e1 1 (.ifCond .lt 15) 3 16, e0 4 (.iload_n 1) 1, e0 5 (.aload_n 0) 1, e1 6 (.getfield 9) 3 3, e1 9 (.if_icmp .ge 7) 3 16, e0 12 (.iconst 1) 1, e1 13 (.goto 4) 3 17, e0 16 (.iconst 0) 1, e3 17 .ireturn 1 0 0 1]
set_option maxRecDepth 100000 in
def tb_X2_hasLink : List tr_En := [e0 0 (.iload_n 1) 1, e1 1 (.ifCond .lt 15) 3 16, e0 4 (.iload_n 1) 1, e0 5 (.aload_n 0) 1, e3 6 (.getfield 37) 3 3 1 0, e1 9 (.if_icmp .ge 7) 3 16, e0 12 (.iconst 1) 1, e1 13 (.goto 4) 3 17, e0 16 (.iconst 0) 1, e3 17 .ireturn 1 0 0 1]
set_option maxRecDepth 100000 in
def tb_X2_addLink : List tr_En := [e0 0 (.aload_n 0) 1, e3 1 (.getfield 37) 3 3 1 0, e0 4 (.bipush 24) 2, e1 6 (.if_icmp .ge 43) 3 49, e0 9 (.aload_n 0) 1, e3 10 (.getfield 15) 3 3 2 2, e0 13 (.aload_n 0) 1, e3 14 (.getfield 37) 3 3 1 0, e0 17 (.iload_n 1) 1, e1 18 .iastore 1 11, e0 19 (.aload_n 0) 1, e3 20 (.getfield 19) 3 3 3 2, e0 23 (.aload_n 0) 1, e3 24 (.getfield 37) 3 3 1 0, e0 27 (.iload_n 2) 1, e1 28 .iastore 1 11, e0 29 (.aload_n 0) 1, e3 30 (.getfield 22) 3 3 4 2, e0 33 (.aload_n 0) 1, e3 34 (.getfield 37) 3 3 1 0, e0 37 (.iconst 1) 1, e1 38 .iastore 1 11, e0 39 (.aload_n 0) 1, e0 40 .dup 1, e3 41 (.getfield 37) 3 3 1 0, e0 44 (.iconst 1) 1, e0 45 .iadd 1, e3 46 (.putfield 37) 3 3 1 0, e0 49 .return_ 1]
set_option maxRecDepth 100000 in
def tb_X2_linkBetween : List tr_En := [e0 0 (.iconst 0) 1, e0 1 (.istore_n 3) 1, e0 2 (.iload_n 3) 1, e0 3 (.aload_n 0) 1, e3 4 (.getfield 37) 3 3 1 0, e1 7 (.if_icmp .ge 31) 3 38, e0 10 (.aload_n 0) 1, e3 11 (.getfield 15) 3 3 2 2, e0 14 (.iload_n 3) 1, e1 15 .iaload 1 11, e0 16 (.iload_n 1) 1, e1 17 (.if_icmp .ne 15) 3 32, e0 20 (.aload_n 0) 1, e3 21 (.getfield 19) 3 3 3 2, e0 24 (.iload_n 3) 1, e1 25 .iaload 1 11, e0 26 (.iload_n 2) 1, e1 27 (.if_icmp .ne 5) 3 32, e0 30 (.iload_n 3) 1, e0 31 .ireturn 1, e0 32 (.iinc 3 1) 3, e1 35 (.goto (-33)) 3 2, e0 38 (.iconst (-1)) 1, e0 39 .ireturn 1]
set_option maxRecDepth 100000 in
def tb_X2_fits : List tr_En := [e0 0 (.iload_n 1) 1, e1 1 (.tableswitch 138 0 4 #[35, 52, 80, 101, 121]) 35 139, e0 36 (.iload_n 2) 1, e0 37 (.iconst 1) 1, e1 38 (.if_icmp .lt 13) 3 51, e0 41 (.iload_n 2) 1, e0 42 (.bipush 31) 2, e1 44 (.if_icmp .gt 7) 3 51, e0 47 (.iconst 1) 1, e1 48 (.goto 4) 3 52, e0 51 (.iconst 0) 1, e3 52 .ireturn 1 0 0 1, e0 53 (.iload_n 2) 1, e0 54 (.iconst 2) 1, e1 55 (.if_icmp .lt 24) 3 79, e0 58 (.iload_n 2) 1, e0 59 (.sipush 997) 3, e1 62 (.if_icmp .gt 17) 3 79, e0 65 (.iload_n 2) 1, e0 66 (.aload_n 0) 1, e3 67 (.getfield 34) 3 3 6 2, e0 70 (.iconst 3) 1, e1 71 .iaload 1 11, e1 72 (.if_icmp .le 7) 3 79, e0 75 (.iconst 1) 1, e1 76 (.goto 4) 3 80, e0 79 (.iconst 0) 1, e3 80 .ireturn 1 0 0 1, e0 81 (.iload_n 2) 1, e0 82 (.iconst 1) 1, e1 83 (.if_icmp .lt 17) 3 100, e0 86 (.iload_n 2) 1, e0 87 (.aload_n 0) 1, e3 88 (.getfield 34) 3 3 6 2, e0 91 (.iconst 1) 1, e1 92 .iaload 1 11, e1 93 (.if_icmp .gt 7) 3 100, e0 96 (.iconst 1) 1, e1 97 (.goto 4) 3 101, e0 100 (.iconst 0) 1, e3 101 .ireturn 1 0 0 1, e0 102 (.iload_n 2) 1, e1 103 (.ifCond .lt 17) 3 120, e0 106 (.iload_n 2) 1, e0 107 (.aload_n 0) 1, e3 108 (.getfield 34) 3 3 6 2, e0 111 (.iconst 1) 1, e1 112 .iaload 1 11, e1 113 (.if_icmp .ge 7) 3 120, e0 116 (.iconst 1) 1, e1 117 (.goto 4) 3 121, e0 120 (.iconst 0) 1, e3 121 .ireturn 1 0 0 1, e0 122 (.iload_n 2) 1, e0 123 (.iconst 2) 1, e1 124 (.if_icmp .lt 13) 3 137, e0 127 (.iload_n 2) 1, e0 128 (.bipush 64) 2, e1 130 (.if_icmp .gt 7) 3 137, e0 133 (.iconst 1) 1, e1 134 (.goto 4) 3 138, e0 137 (.iconst 0) 1, e3 138 .ireturn 1 0 0 1, e0 139 (.iconst 0) 1, e3 140 .ireturn 1 0 0 1]
set_option maxRecDepth 100000 in
def tb_X2_bareMix : List tr_En := [e0 0 (.aload_n 0) 1, e3 1 (.getfield 34) 3 3 6 2, e0 4 (.iconst 1) 1, e1 5 .iaload 1 11, e0 6 (.istore 4) 2, e0 8 (.iconst 0) 1, e0 9 (.istore 5) 2, e0 11 (.iconst 0) 1, e0 12 (.istore 6) 2, e0 14 (.iload 6) 2, e0 16 (.iconst 5) 1, e1 17 (.if_icmp .ge 41) 3 58, e0 20 (.iload 4) 2, e1 22 (.ifCond .le 36) 3 58, e0 25 (.iload_n 3) 1, e0 26 (.iconst 1) 1, e0 27 (.iload 6) 2, e0 29 .ishl 1, e0 30 .iand 1, e1 31 (.ifCond .eq 21) 3 52, e0 34 (.bipush 31) 2, e0 36 (.iload 5) 2, e0 38 .imul 1, e0 39 (.aload_n 1) 1, e0 40 (.iload 6) 2, e0 42 (.iload_n 2) 1, e6 43 (.invokevirtual 45) 3 40 3 1 4 0 0, e0 46 .iadd 1, e0 47 (.iload 4) 2, e0 49 .irem 1, e0 50 (.istore 5) 2, e0 52 (.iinc 6 1) 3, e1 55 (.goto (-41)) 3 14, e0 58 (.iload 5) 2, e0 60 .ireturn 1]
set_option maxRecDepth 100000 in
def tb_X2_mixOf : List tr_En := [e0 0 (.aload_n 0) 1, e0 1 (.aload_n 1) 1, e0 2 (.iload_n 2) 1, e0 3 (.aload_n 0) 1, e3 4 (.getfield 34) 3 3 6 2, e0 7 (.iconst 0) 1, e1 8 .iaload 1 11, e6 9 (.invokevirtual 51) 3 32 4 1 3 0 0, e0 12 (.aload_n 0) 1, e3 13 (.getfield 34) 3 3 6 2, e0 16 (.iconst 3) 1, e1 17 .iaload 1 11, e0 18 .iadd 1, e0 19 (.istore_n 3) 1, e0 20 (.iload_n 3) 1, e0 21 (.aload_n 0) 1, e3 22 (.getfield 34) 3 3 6 2, e0 25 (.iconst 1) 1, e1 26 .iaload 1 11, e1 27 (.if_icmp .ge 7) 3 34, e0 30 (.iload_n 3) 1, e1 31 (.goto 11) 3 42, e0 34 (.iload_n 3) 1, e0 35 (.aload_n 0) 1, e3 36 (.getfield 34) 3 3 6 2, e0 39 (.iconst 1) 1, e1 40 .iaload 1 11, e0 41 .isub 1, e0 42 .ireturn 1]
set_option maxRecDepth 100000 in
def tb_X2_chooses : List tr_En := [e0 0 (.aload_n 0) 1, e0 1 (.aload_n 1) 1, e0 2 (.iload_n 2) 1, e6 3 (.invokevirtual 55) 3 33 3 1 3 0 0, e0 6 (.aload_n 0) 1, e3 7 (.getfield 34) 3 3 6 2, e0 10 (.iconst 2) 1, e1 11 .iaload 1 11, e1 12 (.if_icmp .ge 7) 3 19, e0 15 (.iconst 1) 1, e1 16 (.goto 4) 3 20, e0 19 (.iconst 0) 1, e3 20 .ireturn 1 0 0 1]
set_option maxRecDepth 100000 in
def tb_X2_countChosen : List tr_En := [e0 0 (.iconst 0) 1, e0 1 (.istore_n 2) 1, e0 2 (.iconst 0) 1, e0 3 (.istore_n 3) 1, e0 4 (.iload_n 3) 1, e0 5 (.aload_n 1) 1, e3 6 (.getfield 59) 3 4 8 0, e1 9 (.if_icmp .ge 26) 3 35, e0 12 (.iload_n 2) 1, e0 13 (.aload_n 0) 1, e0 14 (.aload_n 1) 1, e0 15 (.iload_n 3) 1, e6 16 (.invokevirtual 62) 3 34 3 1 3 0 0, e1 19 (.ifCond .eq 7) 3 26, e0 22 (.iconst 1) 1, e1 23 (.goto 4) 3 27, e0 26 (.iconst 0) 1, e0 27 .iadd 1, e0 28 (.istore_n 2) 1, e0 29 (.iinc 3 1) 3, e1 32 (.goto (-28)) 3 4, e0 35 (.iload_n 2) 1, e0 36 .ireturn 1]
set_option maxRecDepth 100000 in
def tb_X2_labelOf : List tr_En := [e0 0 (.aload_n 0) 1, e3 1 (.getfield 34) 3 3 6 2, e0 4 (.iconst 4) 1, e1 5 .iaload 1 11, e1 6 (.ifCond .le 17) 3 23, e0 9 (.aload_n 1) 1, e3 10 (.getfield 66) 3 4 5 0, e0 13 (.aload_n 0) 1, e3 14 (.getfield 34) 3 3 6 2, e0 17 (.iconst 4) 1, e1 18 .iaload 1 11, e0 19 .irem 1, e1 20 (.goto 4) 3 24, e0 23 (.iconst 0) 1, e0 24 .ireturn 1]
set_option maxRecDepth 100000 in
def tb_X3_init : List tr_En := [e0 0 (.aload_n 0) 1, e1 1 (.invokespecial 3) 3 1000, e0 4 (.aload_n 0) 1, e0 5 (.iload_n 1) 1, e1 6 (.putfield 9) 3 4, e0 9 (.aload_n 0) 1, e0 10 (.iload_n 2) 1, e3 11 (.putfield 15) 3 4 1 0, e0 14 (.aload_n 0) 1, e0 15 (.iload_n 3) 1, e3 16 (.putfield 18) 3 4 2 0, e0 19 (.aload_n 0) 1, e0 20 (.iload 4) 2, e3 22 (.putfield 21) 3 4 3 0, e0 25 (.aload_n 0) 1, e0 26 (.iload 5) 2, e3 28 (.putfield 24) 3 4 4 0, e0 31 (.iload 5) 2, e1 33 (.ifCond .lt 17) 3 50, e0 36 (.iload 5) 2, e0 38 (.bipush 12) 2, e1 40 (.if_icmp .gt 10) 3 50, e0 43 (.iload 5) 2, e0 45 (.iconst 1) 1, e0 46 .iadd 1, e1 47 (.goto 4) 3 51, e0 50 (.iconst 1) 1, e0 51 (.istore 6) 2, e0 53 (.aload_n 0) 1, e0 54 (.iload 6) 2, e1 56 (.newarray .int) 2 11, e3 58 (.putfield 27) 3 4 6 2, e0 61 (.aload_n 0) 1, e0 62 (.iload 6) 2, e1 64 (.newarray .int) 2 11, e3 66 (.putfield 31) 3 4 7 2, e0 69 (.iload_n 1) 1, e0 70 (.sipush 9973) 3, e0 73 .irem 1, e0 74 (.istore 7) 2, e0 76 (.bipush 37) 2, e0 78 (.iload 7) 2, e0 80 .imul 1, e0 81 (.iload_n 2) 1, e0 82 .iadd 1, e0 83 (.sipush 9973) 3, e0 86 .irem 1, e0 87 (.istore 7) 2, e0 89 (.bipush 37) 2, e0 91 (.iload 7) 2, e0 93 .imul 1, e0 94 (.iload_n 3) 1, e0 95 .iadd 1, e0 96 (.sipush 9973) 3, e0 99 .irem 1, e0 100 (.istore 7) 2, e0 102 (.aload_n 0) 1, e0 103 (.bipush 37) 2, e0 105 (.iload 7) 2, e0 107 .imul 1, e0 108 (.iload 4) 2, e0 110 .iadd 1, e0 111 (.sipush 9973) 3, e0 114 .irem 1, e3 115 (.putfield 34) 3 4 5 0, e0 118 .return_ 1]
set_option maxRecDepth 100000 in
def tb_X3_follow : List tr_En := [e0 0 (.aload_n 0) 1, e1 1 (.getfield 9) 3 4, e0 4 (.istore_n 2) 1, e0 5 (.iconst (-1)) 1, e0 6 (.istore_n 3) 1, e0 7 (.iconst 0) 1, e0 8 (.istore 4) 2, e0 10 (.iload 4) 2, e0 12 (.aload_n 0) 1, e3 13 (.getfield 27) 3 4 6 2, e1 16 .arraylength 1 11, e1 17 (.if_icmp .ge 102) 3 119, e0 20 (.aload_n 0) 1, e3 21 (.getfield 27) 3 4 6 2, e0 24 (.iload 4) 2, e0 26 (.iload_n 2) 1, e1 27 .iastore 1 11, e0 28 (.aload_n 0) 1, e3 29 (.getfield 31) 3 4 7 2, e0 32 (.iload 4) 2, e0 34 (.iload_n 3) 1, e1 35 .iastore 1 11, e0 36 (.aload_n 0) 1, e0 37 (.iload 4) 2, e0 39 (.iconst 1) 1, e0 40 .iadd 1, e3 41 (.putfield 37) 3 4 8 0, e0 44 (.iload_n 2) 1, e0 45 (.aload_n 0) 1, e3 46 (.getfield 15) 3 4 1 0, e1 49 (.if_icmp .ne 7) 3 56, e0 52 (.iconst (-1)) 1, e1 53 (.goto 17) 3 70, e0 56 (.aload_n 1) 1, e3 57 (.getfield 40) 3 3 5 2, e0 60 (.iload_n 2) 1, e0 61 (.bipush 10) 2, e0 63 .imul 1, e0 64 (.aload_n 0) 1, e3 65 (.getfield 15) 3 4 1 0, e0 68 .iadd 1, e1 69 .iaload 1 11, e0 70 (.istore 5) 2, e0 72 (.aload_n 0) 1, e0 73 (.aload_n 0) 1, e0 74 (.aload_n 1) 1, e0 75 (.iload_n 2) 1, e0 76 (.iload 5) 2, e6 78 (.invokevirtual 45) 3 39 4 1 4 0 0, e3 81 (.putfield 49) 3 4 9 0, e0 84 (.aload_n 0) 1, e3 85 (.getfield 49) 3 4 9 0, e0 88 (.iconst 3) 1, e1 89 (.if_icmp .ne 12) 3 101, e0 92 (.iload 4) 2, e0 94 (.aload_n 0) 1, e3 95 (.getfield 24) 3 4 4 0, e1 98 (.if_icmp .ne 4) 3 102, e0 101 .return_ 1, e0 102 (.iload 5) 2, e0 104 (.istore_n 3) 1, e0 105 (.aload_n 1) 1, e3 106 (.getfield 52) 3 3 3 2, e0 109 (.iload 5) 2, e1 111 .iaload 1 11, e0 112 (.istore_n 2) 1, e0 113 (.iinc 4 1) 3, e1 116 (.goto (-106)) 3 10, e0 119 .return_ 1]
set_option maxRecDepth 100000 in
def tb_X3_fateAt : List tr_En := [e0 0 (.iload_n 2) 1, e0 1 (.aload_n 0) 1, e3 2 (.getfield 15) 3 4 1 0, e1 5 (.if_icmp .ne 5) 3 10, e0 8 (.iconst 0) 1, e0 9 .ireturn 1, e0 10 (.iload_n 3) 1, e0 11 (.iconst (-1)) 1, e1 12 (.if_icmp .ne 5) 3 17, e0 15 (.iconst 1) 1, e0 16 .ireturn 1, e0 17 (.aload_n 1) 1, e3 18 (.getfield 55) 3 3 4 2, e0 21 (.iload_n 3) 1, e1 22 .iaload 1 11, e1 23 (.ifCond .ne 7) 3 30, e0 26 (.iconst 2) 1, e1 27 (.goto 4) 3 31, e0 30 (.iconst 3) 1, e0 31 .ireturn 1]
set_option maxRecDepth 100000 in
def tb_X3_fieldAt : List tr_En := [e0 0 (.iload_n 1) 1, e1 1 (.tableswitch 51 0 3 #[31, 36, 41, 46]) 31 52, e0 32 (.aload_n 0) 1, e1 33 (.getfield 9) 3 4, e0 36 .ireturn 1, e0 37 (.aload_n 0) 1, e3 38 (.getfield 15) 3 4 1 0, e0 41 .ireturn 1, e0 42 (.aload_n 0) 1, e3 43 (.getfield 18) 3 4 2 0, e0 46 .ireturn 1, e0 47 (.aload_n 0) 1, e3 48 (.getfield 21) 3 4 3 0, e0 51 .ireturn 1, e0 52 (.aload_n 0) 1, e3 53 (.getfield 24) 3 4 4 0, e0 56 (.iload_n 2) 1, e0 57 .isub 1, e0 58 .ireturn 1]
set_option maxRecDepth 100000 in
def tb_X3_isCountedAt : List tr_En := [e0 0 (.iload_n 2) 1, e1 1 (.lookupswitch 55 #[(0, 27), (3, 45)]) 27 56, e0 28 (.iload_n 1) 1, e1 29 (.ifCond .ne 15) 3 44, e0 32 (.aload_n 0) 1, e1 33 (.getfield 9) 3 4, e0 36 (.iload_n 3) 1, e1 37 (.if_icmp .ne 7) 3 44, e0 40 (.iconst 1) 1, e1 41 (.goto 4) 3 45, e0 44 (.iconst 0) 1, e3 45 .ireturn 1 0 0 1, e0 46 (.iload_n 1) 1, e1 47 (.ifCond .ne 7) 3 54, e0 50 (.iconst 1) 1, e1 51 (.goto 4) 3 55, e0 54 (.iconst 0) 1, e3 55 .ireturn 1 0 0 1, e0 56 (.iload_n 1) 1, e1 57 (.ifCond .le 17) 3 74, e0 60 (.aload_n 0) 1, e3 61 (.getfield 31) 3 4 7 2, e0 64 (.iload_n 1) 1, e1 65 .iaload 1 11, e0 66 (.iload_n 3) 1, e1 67 (.if_icmp .ne 7) 3 74, e0 70 (.iconst 1) 1, e1 71 (.goto 4) 3 75, e0 74 (.iconst 0) 1, e3 75 .ireturn 1 0 0 1]
set_option maxRecDepth 100000 in
def tb_X4_init : List tr_En := [e0 0 (.aload_n 0) 1, e1 1 (.invokespecial 3) 3 1000, e0 4 (.aload_n 0) 1, e0 5 (.aload_n 1) 1, e3 6 (.putfield 9) 3 5 0 2, e0 9 (.aload_n 0) 1, e0 10 (.iload_n 2) 1, e3 11 (.putfield 15) 3 5 1 0, e0 14 (.aload_n 0) 1, e3 15 (.new 19) 3 3 7 0, e0 18 .dup 1, e6 19 (.invokespecial 21) 3 25 1 0 3 5 177, e3 22 (.putfield 22) 3 5 7 2, e0 25 (.aload_n 0) 1, e0 26 (.iconst (-1)) 1, e3 27 (.putfield 26) 3 5 9 0, e0 30 .return_ 1]
set_option maxRecDepth 100000 in
def tb_X4_readAll : List tr_En := [e0 0 (.aload_n 0) 1, e6 1 (.invokevirtual 29) 3 45 1 1 5 0 0, e1 4 (.ifCond .eq 14) 3 18, e0 7 (.aload_n 0) 1, e6 8 (.invokevirtual 33) 3 54 1 1 5 0 0, e1 11 (.ifCond .eq 7) 3 18, e0 14 (.iconst 1) 1, e1 15 (.goto 4) 3 19, e0 18 (.iconst 0) 1, e0 19 (.istore_n 1) 1, e0 20 (.iconst 0) 1, e0 21 (.istore_n 2) 1, e0 22 (.iload_n 2) 1, e0 23 (.sipush 400) 3, e1 26 (.if_icmp .ge 40) 3 66, e0 29 (.iload_n 1) 1, e1 30 (.ifCond .eq 36) 3 66, e0 33 (.aload_n 0) 1, e6 34 (.invokevirtual 36) 3 44 1 1 5 0 0, e1 37 (.ifCond .ne 29) 3 66, e0 40 (.aload_n 0) 1, e6 41 (.invokevirtual 39) 3 46 1 1 5 0 0, e1 44 (.ifCond .eq 14) 3 58, e0 47 (.aload_n 0) 1, e6 48 (.invokevirtual 33) 3 54 1 1 5 0 0, e1 51 (.ifCond .eq 7) 3 58, e0 54 (.iconst 1) 1, e1 55 (.goto 4) 3 59, e0 58 (.iconst 0) 1, e0 59 (.istore_n 1) 1, e0 60 (.iinc 2 1) 3, e1 63 (.goto (-41)) 3 22, e0 66 (.iload_n 1) 1, e3 67 .ireturn 1 0 0 1]
set_option maxRecDepth 100000 in
def tb_X4_isAtEnd : List tr_En := [e0 0 (.aload_n 0) 1, e6 1 (.invokevirtual 42) 3 55 1 0 5 0 0, e0 4 (.aload_n 0) 1, e3 5 (.getfield 45) 3 5 2 0, e0 8 (.aload_n 0) 1, e3 9 (.getfield 15) 3 5 1 0, e1 12 (.if_icmp .lt 7) 3 19, e0 15 (.iconst 1) 1, e1 16 (.goto 4) 3 20, e0 19 (.iconst 0) 1, e3 20 .ireturn 1 0 0 1]
set_option maxRecDepth 100000 in
def tb_X4_readHops : List tr_En := [e0 0 (.aload_n 0) 1, e6 1 (.invokevirtual 42) 3 55 1 0 5 0 0, e0 4 (.aload_n 0) 1, e3 5 (.getfield 45) 3 5 2 0, e0 8 (.istore_n 1) 1, e0 9 (.aload_n 0) 1, e6 10 (.invokevirtual 48) 3 56 1 0 5 0 0, e0 13 (.aload_n 0) 1, e0 14 (.iload_n 1) 1, e3 15 (.ldc 51) 2 0 0 1, e6 17 (.invokevirtual 53) 3 57 3 1 5 0 0, e1 20 (.ifCond .ne 10) 3 30, e0 23 (.aload_n 0) 1, e0 24 (.iconst 1) 1, e0 25 (.iload_n 1) 1, e6 26 (.invokevirtual 57) 3 58 3 1 5 0 0, e3 29 .ireturn 1 0 0 1, e0 30 (.aload_n 0) 1, e6 31 (.invokevirtual 61) 3 53 1 1 5 0 0, e0 34 (.istore_n 2) 1, e0 35 (.iload_n 2) 1, e0 36 (.iconst (-1)) 1, e1 37 (.if_icmp .ne 5) 3 42, e0 40 (.iconst 0) 1, e3 41 .ireturn 1 0 0 1, e0 42 (.iload_n 2) 1, e0 43 (.iconst 2) 1, e1 44 (.if_icmp .lt 9) 3 53, e0 47 (.iload_n 2) 1, e0 48 (.bipush 10) 2, e1 50 (.if_icmp .le 13) 3 63, e0 53 (.aload_n 0) 1, e0 54 (.iconst 2) 1, e0 55 (.aload_n 0) 1, e3 56 (.getfield 65) 3 5 3 0, e6 59 (.invokevirtual 57) 3 58 3 1 5 0 0, e3 62 .ireturn 1 0 0 1, e0 63 (.aload_n 0) 1, e3 64 (.getfield 22) 3 5 7 2, e0 67 (.iload_n 2) 1, e1 68 (.putfield 68) 3 3, e0 71 (.iconst 1) 1, e3 72 .ireturn 1 0 0 1]
set_option maxRecDepth 100000 in
def tb_X4_readLine : List tr_En := [e0 0 (.aload_n 0) 1, e3 1 (.getfield 45) 3 5 2 0, e0 4 (.istore_n 1) 1, e0 5 (.aload_n 0) 1, e6 6 (.invokevirtual 48) 3 56 1 0 5 0 0, e0 9 (.aload_n 0) 1, e0 10 (.iload_n 1) 1, e3 11 (.ldc 70) 2 0 1 1, e6 13 (.invokevirtual 53) 3 57 3 1 5 0 0, e1 16 (.ifCond .eq 9) 3 25, e0 19 (.aload_n 0) 1, e0 20 (.iload_n 1) 1, e6 21 (.invokevirtual 72) 3 47 2 1 5 0 0, e3 24 .ireturn 1 0 0 1, e0 25 (.aload_n 0) 1, e0 26 (.iload_n 1) 1, e3 27 (.ldc 76) 2 0 2 1, e6 29 (.invokevirtual 53) 3 57 3 1 5 0 0, e1 32 (.ifCond .eq 8) 3 40, e0 35 (.aload_n 0) 1, e6 36 (.invokevirtual 78) 3 48 1 1 5 0 0, e3 39 .ireturn 1 0 0 1, e0 40 (.aload_n 0) 1, e0 41 (.iload_n 1) 1, e3 42 (.ldc 81) 2 0 3 1, e6 44 (.invokevirtual 53) 3 57 3 1 5 0 0, e1 47 (.ifCond .eq 8) 3 55, e0 50 (.aload_n 0) 1, e6 51 (.invokevirtual 83) 3 49 1 1 5 0 0, e3 54 .ireturn 1 0 0 1, e0 55 (.aload_n 0) 1, e0 56 (.iload_n 1) 1, e3 57 (.ldc 86) 2 0 4 1, e6 59 (.invokevirtual 53) 3 57 3 1 5 0 0, e1 62 (.ifCond .eq 25) 3 87, e0 65 (.aload_n 0) 1, e0 66 (.iconst 1) 1, e6 67 (.invokevirtual 88) 3 50 2 1 5 0 0, e1 70 (.ifCond .eq 15) 3 85, e0 73 (.aload_n 0) 1, e0 74 (.iconst 2) 1, e6 75 (.invokevirtual 88) 3 50 2 1 5 0 0, e1 78 (.ifCond .eq 7) 3 85, e0 81 (.iconst 1) 1, e1 82 (.goto 4) 3 86, e0 85 (.iconst 0) 1, e3 86 .ireturn 1 0 0 1, e0 87 (.aload_n 0) 1, e0 88 (.iload_n 1) 1, e3 89 (.ldc 91) 2 0 5 1, e6 91 (.invokevirtual 53) 3 57 3 1 5 0 0, e1 94 (.ifCond .eq 9) 3 103, e0 97 (.aload_n 0) 1, e0 98 (.iconst 3) 1, e6 99 (.invokevirtual 88) 3 50 2 1 5 0 0, e3 102 .ireturn 1 0 0 1, e0 103 (.aload_n 0) 1, e0 104 (.iload_n 1) 1, e3 105 (.ldc 93) 2 0 6 1, e6 107 (.invokevirtual 53) 3 57 3 1 5 0 0, e1 110 (.ifCond .eq 9) 3 119, e0 113 (.aload_n 0) 1, e0 114 (.iconst 0) 1, e6 115 (.invokevirtual 88) 3 50 2 1 5 0 0, e3 118 .ireturn 1 0 0 1, e0 119 (.aload_n 0) 1, e0 120 (.iload_n 1) 1, e3 121 (.ldc 95) 2 0 7 1, e6 123 (.invokevirtual 53) 3 57 3 1 5 0 0, e1 126 (.ifCond .eq 9) 3 135, e0 129 (.aload_n 0) 1, e0 130 (.iconst 4) 1, e6 131 (.invokevirtual 88) 3 50 2 1 5 0 0, e3 134 .ireturn 1 0 0 1, e0 135 (.aload_n 0) 1, e0 136 (.iconst 1) 1, e0 137 (.iload_n 1) 1, e6 138 (.invokevirtual 57) 3 58 3 1 5 0 0, e3 141 .ireturn 1 0 0 1]
set_option maxRecDepth 100000 in
def tb_X4_readLink : List tr_En := [e0 0 (.aload_n 0) 1, e3 1 (.getfield 22) 3 5 7 2, e3 4 (.getfield 97) 3 3 1 0, e0 7 (.bipush 24) 2, e1 9 (.if_icmp .lt 10) 3 19, e0 12 (.aload_n 0) 1, e0 13 (.iconst 3) 1, e0 14 (.iload_n 1) 1, e6 15 (.invokevirtual 57) 3 58 3 1 5 0 0, e3 18 .ireturn 1 0 0 1, e0 19 (.aload_n 0) 1, e6 20 (.invokevirtual 100) 3 51 1 1 5 0 0, e1 23 (.ifCond .eq 10) 3 33, e0 26 (.aload_n 0) 1, e6 27 (.invokevirtual 103) 3 52 1 1 5 0 0, e1 30 (.ifCond .ne 5) 3 35, e0 33 (.iconst 0) 1, e3 34 .ireturn 1 0 0 1, e0 35 (.aload_n 0) 1, e3 36 (.getfield 22) 3 5 7 2, e0 39 (.aload_n 0) 1, e3 40 (.getfield 106) 3 5 4 0, e0 43 (.aload_n 0) 1, e3 44 (.getfield 109) 3 5 6 0, e6 47 (.invokevirtual 112) 3 30 3 1 3 0 0, e0 50 (.iconst (-1)) 1, e1 51 (.if_icmp .eq 13) 3 64, e0 54 (.aload_n 0) 1, e0 55 (.iconst 4) 1, e0 56 (.aload_n 0) 1, e3 57 (.getfield 116) 3 5 5 0, e6 60 (.invokevirtual 57) 3 58 3 1 5 0 0, e3 63 .ireturn 1 0 0 1, e0 64 (.aload_n 0) 1, e3 65 (.getfield 22) 3 5 7 2, e0 68 (.aload_n 0) 1, e3 69 (.getfield 106) 3 5 4 0, e0 72 (.aload_n 0) 1, e3 73 (.getfield 109) 3 5 6 0, e6 76 (.invokevirtual 119) 3 29 3 0 3 0 0, e0 79 (.iconst 1) 1, e3 80 .ireturn 1 0 0 1]
set_option maxRecDepth 100000 in
def tb_X4_readCut : List tr_En := [e0 0 (.aload_n 0) 1, e6 1 (.invokevirtual 100) 3 51 1 1 5 0 0, e1 4 (.ifCond .eq 10) 3 14, e0 7 (.aload_n 0) 1, e6 8 (.invokevirtual 103) 3 52 1 1 5 0 0, e1 11 (.ifCond .ne 5) 3 16, e0 14 (.iconst 0) 1, e3 15 .ireturn 1 0 0 1, e0 16 (.aload_n 0) 1, e3 17 (.getfield 22) 3 5 7 2, e0 20 (.aload_n 0) 1, e3 21 (.getfield 106) 3 5 4 0, e0 24 (.aload_n 0) 1, e3 25 (.getfield 109) 3 5 6 0, e6 28 (.invokevirtual 112) 3 30 3 1 3 0 0, e0 31 (.istore_n 1) 1, e0 32 (.iload_n 1) 1, e0 33 (.iconst (-1)) 1, e1 34 (.if_icmp .ne 13) 3 47, e0 37 (.aload_n 0) 1, e0 38 (.iconst 4) 1, e0 39 (.aload_n 0) 1, e3 40 (.getfield 116) 3 5 5 0, e6 43 (.invokevirtual 57) 3 58 3 1 5 0 0, e3 46 .ireturn 1 0 0 1, e0 47 (.aload_n 0) 1, e3 48 (.getfield 22) 3 5 7 2, e3 51 (.getfield 123) 3 3 4 2, e0 54 (.iload_n 1) 1, e0 55 (.iconst 0) 1, e1 56 .iastore 1 11, e0 57 (.iconst 1) 1, e3 58 .ireturn 1 0 0 1]
set_option maxRecDepth 100000 in
def tb_X4_readRoute : List tr_En := [e0 0 (.aload_n 0) 1, e6 1 (.invokevirtual 100) 3 51 1 1 5 0 0, e1 4 (.ifCond .eq 10) 3 14, e0 7 (.aload_n 0) 1, e6 8 (.invokevirtual 103) 3 52 1 1 5 0 0, e1 11 (.ifCond .ne 5) 3 16, e0 14 (.iconst 0) 1, e3 15 .ireturn 1 0 0 1, e0 16 (.aload_n 0) 1, e3 17 (.getfield 109) 3 5 6 0, e0 20 (.istore_n 1) 1, e0 21 (.aload_n 0) 1, e6 22 (.invokevirtual 103) 3 52 1 1 5 0 0, e1 25 (.ifCond .ne 5) 3 30, e0 28 (.iconst 0) 1, e3 29 .ireturn 1 0 0 1, e0 30 (.aload_n 0) 1, e3 31 (.getfield 22) 3 5 7 2, e0 34 (.aload_n 0) 1, e3 35 (.getfield 106) 3 5 4 0, e0 38 (.aload_n 0) 1, e3 39 (.getfield 109) 3 5 6 0, e6 42 (.invokevirtual 112) 3 30 3 1 3 0 0, e0 45 (.istore_n 2) 1, e0 46 (.iload_n 2) 1, e0 47 (.iconst (-1)) 1, e1 48 (.if_icmp .ne 13) 3 61, e0 51 (.aload_n 0) 1, e0 52 (.iconst 4) 1, e0 53 (.aload_n 0) 1, e3 54 (.getfield 116) 3 5 5 0, e6 57 (.invokevirtual 57) 3 58 3 1 5 0 0, e3 60 .ireturn 1 0 0 1, e0 61 (.aload_n 0) 1, e3 62 (.getfield 22) 3 5 7 2, e3 65 (.getfield 127) 3 3 5 2, e0 68 (.aload_n 0) 1, e3 69 (.getfield 106) 3 5 4 0, e0 72 (.bipush 10) 2, e0 74 .imul 1, e0 75 (.iload_n 1) 1, e0 76 .iadd 1, e0 77 (.iload_n 2) 1, e1 78 .iastore 1 11, e0 79 (.iconst 1) 1, e3 80 .ireturn 1 0 0 1]
set_option maxRecDepth 100000 in
def tb_X4_readSetting : List tr_En := [e0 0 (.aload_n 0) 1, e6 1 (.invokevirtual 61) 3 53 1 1 5 0 0, e0 4 (.istore_n 2) 1, e0 5 (.iload_n 2) 1, e0 6 (.iconst (-1)) 1, e1 7 (.if_icmp .ne 5) 3 12, e0 10 (.iconst 0) 1, e3 11 .ireturn 1 0 0 1, e0 12 (.aload_n 0) 1, e3 13 (.getfield 22) 3 5 7 2, e0 16 (.iload_n 1) 1, e0 17 (.iload_n 2) 1, e6 18 (.invokevirtual 130) 3 31 3 1 3 0 0, e1 21 (.ifCond .ne 13) 3 34, e0 24 (.aload_n 0) 1, e0 25 (.iconst 2) 1, e0 26 (.aload_n 0) 1, e3 27 (.getfield 65) 3 5 3 0, e6 30 (.invokevirtual 57) 3 58 3 1 5 0 0, e3 33 .ireturn 1 0 0 1, e0 34 (.aload_n 0) 1, e3 35 (.getfield 22) 3 5 7 2, e3 38 (.getfield 133) 3 3 6 2, e0 41 (.iload_n 1) 1, e0 42 (.iload_n 2) 1, e1 43 .iastore 1 11, e0 44 (.iconst 1) 1, e3 45 .ireturn 1 0 0 1]
set_option maxRecDepth 100000 in
def tb_X4_readNear : List tr_En := [e0 0 (.aload_n 0) 1, e0 1 (.aload_n 0) 1, e6 2 (.invokevirtual 61) 3 53 1 1 5 0 0, e3 5 (.putfield 106) 3 5 4 0, e0 8 (.aload_n 0) 1, e0 9 (.aload_n 0) 1, e3 10 (.getfield 65) 3 5 3 0, e3 13 (.putfield 116) 3 5 5 0, e0 16 (.aload_n 0) 1, e3 17 (.getfield 106) 3 5 4 0, e0 20 (.iconst (-1)) 1, e1 21 (.if_icmp .ne 5) 3 26, e0 24 (.iconst 0) 1, e3 25 .ireturn 1 0 0 1, e0 26 (.aload_n 0) 1, e3 27 (.getfield 22) 3 5 7 2, e0 30 (.aload_n 0) 1, e3 31 (.getfield 106) 3 5 4 0, e6 34 (.invokevirtual 136) 3 27 2 1 3 0 0, e1 37 (.ifCond .ne 15) 3 52, e0 40 (.aload_n 0) 1, e0 41 (.iconst 2) 1, e0 42 (.aload_n 0) 1, e3 43 (.getfield 65) 3 5 3 0, e6 46 (.invokevirtual 57) 3 58 3 1 5 0 0, e1 49 (.ifCond .eq 7) 3 56, e0 52 (.iconst 1) 1, e1 53 (.goto 4) 3 57, e0 56 (.iconst 0) 1, e3 57 .ireturn 1 0 0 1]
set_option maxRecDepth 100000 in
def tb_X4_readFar : List tr_En := [e0 0 (.aload_n 0) 1, e0 1 (.aload_n 0) 1, e6 2 (.invokevirtual 61) 3 53 1 1 5 0 0, e3 5 (.putfield 109) 3 5 6 0, e0 8 (.aload_n 0) 1, e3 9 (.getfield 109) 3 5 6 0, e0 12 (.iconst (-1)) 1, e1 13 (.if_icmp .ne 5) 3 18, e0 16 (.iconst 0) 1, e3 17 .ireturn 1 0 0 1, e0 18 (.aload_n 0) 1, e3 19 (.getfield 22) 3 5 7 2, e0 22 (.aload_n 0) 1, e3 23 (.getfield 109) 3 5 6 0, e6 26 (.invokevirtual 136) 3 27 2 1 3 0 0, e1 29 (.ifCond .eq 14) 3 43, e0 32 (.aload_n 0) 1, e3 33 (.getfield 109) 3 5 6 0, e0 36 (.aload_n 0) 1, e3 37 (.getfield 106) 3 5 4 0, e1 40 (.if_icmp .ne 15) 3 55, e0 43 (.aload_n 0) 1, e0 44 (.iconst 2) 1, e0 45 (.aload_n 0) 1, e3 46 (.getfield 65) 3 5 3 0, e6 49 (.invokevirtual 57) 3 58 3 1 5 0 0, e1 52 (.ifCond .eq 7) 3 59, e0 55 (.iconst 1) 1, e1 56 (.goto 4) 3 60, e0 59 (.iconst 0) 1, e3 60 .ireturn 1 0 0 1]
set_option maxRecDepth 100000 in
def tb_X4_readNumber : List tr_En := [e0 0 (.aload_n 0) 1, e6 1 (.invokevirtual 42) 3 55 1 0 5 0 0, e0 4 (.aload_n 0) 1, e0 5 (.aload_n 0) 1, e3 6 (.getfield 45) 3 5 2 0, e3 9 (.putfield 65) 3 5 3 0, e0 12 (.iconst 0) 1, e0 13 (.istore_n 1) 1, e0 14 (.aload_n 0) 1, e3 15 (.getfield 45) 3 5 2 0, e0 18 (.aload_n 0) 1, e3 19 (.getfield 15) 3 5 1 0, e1 22 (.if_icmp .ge 67) 3 89, e0 25 (.aload_n 0) 1, e3 26 (.getfield 9) 3 5 0 2, e0 29 (.aload_n 0) 1, e3 30 (.getfield 45) 3 5 2 0, e1 33 .baload 1 12, e0 34 (.bipush 48) 2, e1 36 (.if_icmp .lt 53) 3 89, e0 39 (.aload_n 0) 1, e3 40 (.getfield 9) 3 5 0 2, e0 43 (.aload_n 0) 1, e3 44 (.getfield 45) 3 5 2 0, e1 47 .baload 1 12, e0 48 (.bipush 57) 2, e1 50 (.if_icmp .gt 39) 3 89, e0 53 (.bipush 10) 2, e0 55 (.iload_n 1) 1, e0 56 .imul 1, e0 57 (.aload_n 0) 1, e3 58 (.getfield 9) 3 5 0 2, e0 61 (.aload_n 0) 1, e3 62 (.getfield 45) 3 5 2 0, e1 65 .baload 1 12, e0 66 .iadd 1, e0 67 (.bipush 48) 2, e0 69 .isub 1, e3 70 (.ldc 139) 2 0 100000 0, e1 72 (.invokestatic 140) 3 1001, e0 75 (.istore_n 1) 1, e0 76 (.aload_n 0) 1, e0 77 .dup 1, e3 78 (.getfield 45) 3 5 2 0, e0 81 (.iconst 1) 1, e0 82 .iadd 1, e3 83 (.putfield 45) 3 5 2 0, e1 86 (.goto (-72)) 3 14, e0 89 (.aload_n 0) 1, e3 90 (.getfield 45) 3 5 2 0, e0 93 (.aload_n 0) 1, e3 94 (.getfield 65) 3 5 3 0, e1 97 (.if_icmp .ne 15) 3 112, e0 100 (.aload_n 0) 1, e0 101 (.iconst 1) 1, e0 102 (.aload_n 0) 1, e3 103 (.getfield 45) 3 5 2 0, e6 106 (.invokevirtual 57) 3 58 3 1 5 0 0, e0 109 .pop 1, e0 110 (.iconst (-1)) 1, e0 111 .ireturn 1, e0 112 (.iload_n 1) 1, e0 113 .ireturn 1]
set_option maxRecDepth 100000 in
def tb_X4_readSemicolon : List tr_En := [e0 0 (.aload_n 0) 1, e6 1 (.invokevirtual 42) 3 55 1 0 5 0 0, e0 4 (.aload_n 0) 1, e3 5 (.getfield 45) 3 5 2 0, e0 8 (.aload_n 0) 1, e3 9 (.getfield 15) 3 5 1 0, e1 12 (.if_icmp .ge 17) 3 29, e0 15 (.aload_n 0) 1, e3 16 (.getfield 9) 3 5 0 2, e0 19 (.aload_n 0) 1, e3 20 (.getfield 45) 3 5 2 0, e1 23 .baload 1 12, e0 24 (.bipush 59) 2, e1 26 (.if_icmp .eq 13) 3 39, e0 29 (.aload_n 0) 1, e0 30 (.iconst 1) 1, e0 31 (.aload_n 0) 1, e3 32 (.getfield 45) 3 5 2 0, e6 35 (.invokevirtual 57) 3 58 3 1 5 0 0, e3 38 .ireturn 1 0 0 1, e0 39 (.aload_n 0) 1, e0 40 .dup 1, e3 41 (.getfield 45) 3 5 2 0, e0 44 (.iconst 1) 1, e0 45 .iadd 1, e3 46 (.putfield 45) 3 5 2 0, e0 49 (.iconst 1) 1, e3 50 .ireturn 1 0 0 1]
set_option maxRecDepth 100000 in
def tb_X4_skipBlanks : List tr_En := [e0 0 (.aload_n 0) 1, e3 1 (.getfield 45) 3 5 2 0, e0 4 (.aload_n 0) 1, e3 5 (.getfield 15) 3 5 1 0, e1 8 (.if_icmp .ge 30) 3 38, e0 11 (.aload_n 0) 1, e3 12 (.getfield 9) 3 5 0 2, e0 15 (.aload_n 0) 1, e3 16 (.getfield 45) 3 5 2 0, e1 19 .baload 1 12, e0 20 (.bipush 32) 2, e1 22 (.if_icmp .ne 16) 3 38, e0 25 (.aload_n 0) 1, e0 26 .dup 1, e3 27 (.getfield 45) 3 5 2 0, e0 30 (.iconst 1) 1, e0 31 .iadd 1, e3 32 (.putfield 45) 3 5 2 0, e0 35 (.goto (-35)) 3, e0 38 .return_ 1]
set_option maxRecDepth 100000 in
def tb_X4_skipLetters : List tr_En := [e0 0 (.aload_n 0) 1, e3 1 (.getfield 45) 3 5 2 0, e0 4 (.aload_n 0) 1, e3 5 (.getfield 15) 3 5 1 0, e1 8 (.if_icmp .ge 44) 3 52, e0 11 (.aload_n 0) 1, e3 12 (.getfield 9) 3 5 0 2, e0 15 (.aload_n 0) 1, e3 16 (.getfield 45) 3 5 2 0, e1 19 .baload 1 12, e0 20 (.bipush 97) 2, e1 22 (.if_icmp .lt 30) 3 52, e0 25 (.aload_n 0) 1, e3 26 (.getfield 9) 3 5 0 2, e0 29 (.aload_n 0) 1, e3 30 (.getfield 45) 3 5 2 0, e1 33 .baload 1 12, e0 34 (.bipush 122) 2, e1 36 (.if_icmp .gt 16) 3 52, e0 39 (.aload_n 0) 1, e0 40 .dup 1, e3 41 (.getfield 45) 3 5 2 0, e0 44 (.iconst 1) 1, e0 45 .iadd 1, e3 46 (.putfield 45) 3 5 2 0, e0 49 (.goto (-49)) 3, e0 52 .return_ 1]
set_option maxRecDepth 100000 in
def tb_X4_isWord : List tr_En := [e0 0 (.aload_n 0) 1, e3 1 (.getfield 45) 3 5 2 0, e0 4 (.iload_n 1) 1, e0 5 .isub 1, e0 6 (.aload_n 2) 1, e1 7 (.invokevirtual 145) 3 1005, e1 10 (.if_icmp .eq 5) 3 15, e0 13 (.iconst 0) 1, e3 14 .ireturn 1 0 0 1, e0 15 (.iconst 0) 1, e0 16 (.istore_n 3) 1, e0 17 (.iload_n 3) 1, e0 18 (.aload_n 2) 1, e1 19 (.invokevirtual 145) 3 1005, e1 22 (.if_icmp .ge 27) 3 49, e0 25 (.aload_n 0) 1, e3 26 (.getfield 9) 3 5 0 2, e0 29 (.iload_n 1) 1, e0 30 (.iload_n 3) 1, e0 31 .iadd 1, e1 32 .baload 1 12, e0 33 (.aload_n 2) 1, e0 34 (.iload_n 3) 1, e1 35 (.invokevirtual 149) 3 1006, e1 38 (.if_icmp .eq 5) 3 43, e0 41 (.iconst 0) 1, e3 42 .ireturn 1 0 0 1, e0 43 (.iinc 3 1) 3, e1 46 (.goto (-29)) 3 17, e0 49 (.iconst 1) 1, e3 50 .ireturn 1 0 0 1]
set_option maxRecDepth 100000 in
def tb_X4_refuse : List tr_En := [e0 0 (.aload_n 0) 1, e0 1 (.iload_n 1) 1, e3 2 (.putfield 153) 3 5 8 0, e0 5 (.aload_n 0) 1, e0 6 (.iload_n 2) 1, e3 7 (.putfield 26) 3 5 9 0, e0 10 (.iconst 0) 1, e3 11 .ireturn 1 0 0 1]
set_option maxRecDepth 100000 in
def tb_X5_init : List tr_En := [e0 0 (.aload_n 0) 1, e1 1 (.invokespecial 3) 3 1000, e0 4 (.aload_n 0) 1, e0 5 (.sipush 997) 3, e3 8 (.newarray .int) 2 11 997 1, e3 10 (.putfield 9) 3 6 0 2, e0 13 .return_ 1]
set_option maxRecDepth 100000 in
def tb_X5_clear : List tr_En := [e0 0 (.aload_n 0) 1, e0 1 (.iload_n 1) 1, e3 2 (.putfield 15) 3 6 1 0, e0 5 (.aload_n 0) 1, e0 6 (.iload_n 2) 1, e3 7 (.putfield 19) 3 6 2 0, e0 10 (.aload_n 0) 1, e0 11 (.lconst 0) 1, e3 12 (.putfield 22) 3 6 3 1, e0 15 (.aload_n 0) 1, e3 16 (.getfield 9) 3 6 0 2, e0 19 (.iconst 0) 1, e3 20 (.invokestatic 26) 3 206 2 0, e0 23 .return_ 1]
set_option maxRecDepth 100000 in
def tb_X5_add : List tr_En := [e0 0 (.iload_n 1) 1, e1 1 (.ifCond .lt 32) 3 33, e0 4 (.iload_n 1) 1, e0 5 (.aload_n 0) 1, e3 6 (.getfield 15) 3 6 1 0, e1 9 (.if_icmp .ge 24) 3 33, e0 12 (.aload_n 0) 1, e3 13 (.getfield 9) 3 6 0 2, e0 16 (.iload_n 1) 1, e0 17 .dup2 1, e1 18 .iaload 1 11, e0 19 (.iload_n 2) 1, e0 20 .iadd 1, e1 21 .iastore 1 11, e0 22 (.aload_n 0) 1, e0 23 .dup 1, e3 24 (.getfield 22) 3 6 3 1, e0 27 (.iload_n 2) 1, e0 28 .i2l 1, e0 29 .ladd 1, e3 30 (.putfield 22) 3 6 3 1, e0 33 .return_ 1]
set_option maxRecDepth 100000 in
def tb_X5_chosenBy : List tr_En := [e0 0 (.lconst 0) 1, e0 1 (.lstore_n 2) 1, e0 2 (.iload_n 1) 1, e1 3 (.ifCond .ne 7) 3 10, e0 6 (.iconst 0) 1, e1 7 (.goto 9) 3 16, e0 10 (.aload_n 0) 1, e3 11 (.getfield 15) 3 6 1 0, e0 14 (.iload_n 1) 1, e0 15 .isub 1, e0 16 (.istore 4) 2, e0 18 (.iconst 0) 1, e0 19 (.istore 5) 2, e0 21 (.iload 5) 2, e0 23 (.aload_n 0) 1, e3 24 (.getfield 19) 3 6 2 0, e1 27 (.if_icmp .ge 41) 3 68, e0 30 (.lload_n 2) 1, e0 31 (.aload_n 0) 1, e3 32 (.getfield 9) 3 6 0 2, e0 35 (.iload 4) 2, e1 37 .iaload 1 11, e0 38 .i2l 1, e0 39 .ladd 1, e0 40 (.lstore_n 2) 1, e0 41 (.iload 4) 2, e0 43 (.iconst 1) 1, e0 44 .iadd 1, e0 45 (.aload_n 0) 1, e3 46 (.getfield 15) 3 6 1 0, e1 49 (.if_icmp .ge 10) 3 59, e0 52 (.iload 4) 2, e0 54 (.iconst 1) 1, e0 55 .iadd 1, e1 56 (.goto 4) 3 60, e0 59 (.iconst 0) 1, e0 60 (.istore 4) 2, e0 62 (.iinc 5 1) 3, e1 65 (.goto (-44)) 3 21, e0 68 (.lload_n 2) 1, e0 69 .lreturn 1]
set_option maxRecDepth 100000 in
def tb_X5_sumOverKeys : List tr_En := [e0 0 (.lconst 0) 1, e0 1 (.lstore_n 2) 1, e0 2 (.aload_n 0) 1, e0 3 (.iconst 0) 1, e6 4 (.invokevirtual 32) 3 62 2 2 6 0 0, e0 7 (.lstore 4) 2, e0 9 (.aload_n 0) 1, e3 10 (.getfield 19) 3 6 2 0, e0 13 (.aload_n 0) 1, e3 14 (.getfield 15) 3 6 1 0, e1 17 (.if_icmp .ge 10) 3 27, e0 20 (.aload_n 0) 1, e3 21 (.getfield 19) 3 6 2 0, e1 24 (.goto 4) 3 28, e0 27 (.iconst 0) 1, e0 28 (.istore 6) 2, e0 30 (.iconst 0) 1, e0 31 (.istore 7) 2, e0 33 (.iload 7) 2, e0 35 (.aload_n 0) 1, e3 36 (.getfield 15) 3 6 1 0, e1 39 (.if_icmp .ge 89) 3 128, e0 42 (.aload_n 0) 1, e3 43 (.getfield 15) 3 6 1 0, e0 46 .i2l 1, e0 47 (.lload 4) 2, e0 49 .lmul 1, e0 50 (.aload_n 0) 1, e3 51 (.getfield 19) 3 6 2 0, e0 54 .i2l 1, e0 55 (.aload_n 0) 1, e3 56 (.getfield 22) 3 6 3 1, e0 59 .lmul 1, e0 60 .lsub 1, e0 61 (.lstore 8) 2, e0 63 (.lload_n 2) 1, e0 64 (.iload_n 1) 1, e1 65 (.ifCond .eq 11) 3 76, e0 68 (.lload 8) 2, e0 70 (.lload 8) 2, e0 72 .lmul 1, e1 73 (.goto 5) 3 78, e0 76 (.lload 4) 2, e0 78 .ladd 1, e0 79 (.lstore_n 2) 1, e0 80 (.lload 4) 2, e0 82 (.aload_n 0) 1, e3 83 (.getfield 9) 3 6 0 2, e0 86 (.iload 6) 2, e1 88 .iaload 1 11, e0 89 (.aload_n 0) 1, e3 90 (.getfield 9) 3 6 0 2, e0 93 (.iload 7) 2, e1 95 .iaload 1 11, e0 96 .isub 1, e0 97 .i2l 1, e0 98 .ladd 1, e0 99 (.lstore 4) 2, e0 101 (.iload 6) 2, e0 103 (.iconst 1) 1, e0 104 .iadd 1, e0 105 (.aload_n 0) 1, e3 106 (.getfield 15) 3 6 1 0, e1 109 (.if_icmp .ge 10) 3 119, e0 112 (.iload 6) 2, e0 114 (.iconst 1) 1, e0 115 .iadd 1, e1 116 (.goto 4) 3 120, e0 119 (.iconst 0) 1, e0 120 (.istore 6) 2, e0 122 (.iinc 7 1) 3, e1 125 (.goto (-92)) 3 33, e0 128 (.lload_n 2) 1, e0 129 .lreturn 1]
set_option maxRecDepth 100000 in
def tb_X6_init : List tr_En := [e0 0 (.aload_n 0) 1, e1 1 (.invokespecial 3) 3 1000, e0 4 (.aload_n 0) 1, e0 5 (.aload_n 1) 1, e3 6 (.putfield 9) 3 7 0 2, e0 9 (.aload_n 0) 1, e0 10 (.bipush 40) 2, e3 12 (.anewarray 15) 3 16 40 1, e3 15 (.putfield 17) 3 7 1 2, e0 18 .return_ 1]
set_option maxRecDepth 100000 in
def tb_X6_init_ : List tr_En := [e0 0 (.aload_n 0) 1, e1 1 (.invokespecial 3) 3 1000, e0 4 (.aload_n 0) 1, e3 5 (.new 21) 3 3 7 0, e0 8 .dup 1, e0 9 (.aload_n 1) 1, e3 10 (.getfield 9) 3 7 0 2, e6 13 (.invokespecial 23) 3 26 2 0 3 3 129, e3 16 (.putfield 9) 3 7 0 2, e0 19 (.aload_n 0) 1, e0 20 (.aload_n 1) 1, e3 21 (.getfield 17) 3 7 1 2, e3 24 (.invokevirtual 26) 3 1004 16 40, e1 27 (.checkcast 27) 3 16, e3 30 (.putfield 17) 3 7 1 2, e0 33 (.aload_n 0) 1, e0 34 (.aload_n 1) 1, e3 35 (.getfield 31) 3 7 2 0, e3 38 (.putfield 31) 3 7 2 0, e0 41 .return_ 1]
set_option maxRecDepth 100000 in
def tb_X6_hasPacket : List tr_En := [e0 0 (.iload_n 1) 1, e1 1 (.ifCond .lt 15) 3 16, e0 4 (.iload_n 1) 1, e0 5 (.aload_n 0) 1, e3 6 (.getfield 31) 3 7 2 0, e1 9 (.if_icmp .ge 7) 3 16, e0 12 (.iconst 1) 1, e1 13 (.goto 4) 3 17, e0 16 (.iconst 0) 1, e3 17 .ireturn 1 0 0 1]
set_option maxRecDepth 100000 in
def tb_X6_add : List tr_En := [e0 0 (.aload_n 0) 1, e3 1 (.getfield 31) 3 7 2 0, e0 4 (.bipush 40) 2, e1 6 (.if_icmp .ge 23) 3 29, e0 9 (.aload_n 0) 1, e3 10 (.getfield 17) 3 7 1 2, e0 13 (.aload_n 0) 1, e3 14 (.getfield 31) 3 7 2 0, e0 17 (.aload_n 1) 1, e3 18 .aastore 1 16 4 0, e0 19 (.aload_n 0) 1, e0 20 .dup 1, e3 21 (.getfield 31) 3 7 2 0, e0 24 (.iconst 1) 1, e0 25 .iadd 1, e3 26 (.putfield 31) 3 7 2 0, e0 29 .return_ 1]
set_option maxRecDepth 100000 in
def tb_X6_countReports : List tr_En := [e0 0 (.iconst 0) 1, e0 1 (.istore_n 1) 1, e0 2 (.iconst 0) 1, e0 3 (.istore_n 2) 1, e0 4 (.iload_n 2) 1, e0 5 (.aload_n 0) 1, e3 6 (.getfield 31) 3 7 2 0, e1 9 (.if_icmp .ge 25) 3 34, e0 12 (.iload_n 1) 1, e0 13 (.aload_n 0) 1, e3 14 (.getfield 9) 3 7 0 2, e0 17 (.aload_n 0) 1, e3 18 (.getfield 17) 3 7 1 2, e0 21 (.iload_n 2) 1, e1 22 .aaload 1 16, e6 23 (.invokevirtual 35) 3 35 2 1 3 0 0, e0 26 .iadd 1, e0 27 (.istore_n 1) 1, e0 28 (.iinc 2 1) 3, e1 31 (.goto (-27)) 3 4, e0 34 (.iload_n 1) 1, e0 35 .ireturn 1]
set_option maxRecDepth 100000 in
def tb_X6_countPartlyChosen : List tr_En := [e0 0 (.iconst 0) 1, e0 1 (.istore_n 1) 1, e0 2 (.iconst 0) 1, e0 3 (.istore_n 2) 1, e0 4 (.iload_n 2) 1, e0 5 (.aload_n 0) 1, e3 6 (.getfield 31) 3 7 2 0, e1 9 (.if_icmp .ge 48) 3 57, e0 12 (.aload_n 0) 1, e3 13 (.getfield 9) 3 7 0 2, e0 16 (.aload_n 0) 1, e3 17 (.getfield 17) 3 7 1 2, e0 20 (.iload_n 2) 1, e1 21 .aaload 1 16, e6 22 (.invokevirtual 35) 3 35 2 1 3 0 0, e0 25 (.istore_n 3) 1, e0 26 (.iload_n 1) 1, e0 27 (.iload_n 3) 1, e1 28 (.ifCond .le 20) 3 48, e0 31 (.iload_n 3) 1, e0 32 (.aload_n 0) 1, e3 33 (.getfield 17) 3 7 1 2, e0 36 (.iload_n 2) 1, e1 37 .aaload 1 16, e3 38 (.getfield 39) 3 4 8 0, e1 41 (.if_icmp .ge 7) 3 48, e0 44 (.iconst 1) 1, e1 45 (.goto 4) 3 49, e0 48 (.iconst 0) 1, e0 49 .iadd 1, e0 50 (.istore_n 1) 1, e0 51 (.iinc 2 1) 3, e1 54 (.goto (-50)) 3 4, e0 57 (.iload_n 1) 1, e0 58 .ireturn 1]
set_option maxRecDepth 100000 in
def tb_X6_countFates : List tr_En := [e0 0 (.iconst 0) 1, e0 1 (.istore_n 2) 1, e0 2 (.iconst 0) 1, e0 3 (.istore_n 3) 1, e0 4 (.iload_n 3) 1, e0 5 (.aload_n 0) 1, e3 6 (.getfield 31) 3 7 2 0, e1 9 (.if_icmp .ge 30) 3 39, e0 12 (.iload_n 2) 1, e0 13 (.aload_n 0) 1, e3 14 (.getfield 17) 3 7 1 2, e0 17 (.iload_n 3) 1, e1 18 .aaload 1 16, e3 19 (.getfield 42) 3 4 9 0, e0 22 (.iload_n 1) 1, e1 23 (.if_icmp .ne 7) 3 30, e0 26 (.iconst 1) 1, e1 27 (.goto 4) 3 31, e0 30 (.iconst 0) 1, e0 31 .iadd 1, e0 32 (.istore_n 2) 1, e0 33 (.iinc 3 1) 3, e1 36 (.goto (-32)) 3 4, e0 39 (.iload_n 2) 1, e0 40 .ireturn 1]
set_option maxRecDepth 100000 in
def tb_X6_countTrails : List tr_En := [e0 0 (.iconst 0) 1, e0 1 (.istore_n 3) 1, e0 2 (.iconst 0) 1, e0 3 (.istore 4) 2, e0 5 (.iload 4) 2, e0 7 (.aload_n 0) 1, e3 8 (.getfield 31) 3 7 2 0, e1 11 (.if_icmp .ge 52) 3 63, e0 14 (.aload_n 0) 1, e3 15 (.getfield 17) 3 7 1 2, e0 18 (.iload 4) 2, e1 20 .aaload 1 16, e0 21 (.astore 5) 2, e0 23 (.iload_n 3) 1, e0 24 (.aload 5) 2, e1 26 (.getfield 45) 3 4, e0 29 (.iload_n 1) 1, e1 30 (.if_icmp .ne 24) 3 54, e0 33 (.aload 5) 2, e3 35 (.getfield 48) 3 4 6 2, e0 38 (.aload 5) 2, e3 40 (.getfield 39) 3 4 8 0, e0 43 (.iconst 1) 1, e0 44 .isub 1, e1 45 .iaload 1 11, e0 46 (.iload_n 2) 1, e1 47 (.if_icmp .ne 7) 3 54, e0 50 (.iconst 1) 1, e1 51 (.goto 4) 3 55, e0 54 (.iconst 0) 1, e0 55 .iadd 1, e0 56 (.istore_n 3) 1, e0 57 (.iinc 4 1) 3, e1 60 (.goto (-55)) 3 5, e0 63 (.iload_n 3) 1, e0 64 .ireturn 1]
set_option maxRecDepth 100000 in
def tb_X7_init : List tr_En := [e0 0 (.aload_n 0) 1, e1 1 (.invokespecial 3) 3 1000, e0 4 (.aload_n 0) 1, e0 5 (.sipush 400) 3, e3 8 (.newarray .byte) 2 12 400 1, e3 10 (.putfield 9) 3 8 0 2, e0 13 (.aload_n 0) 1, e0 14 (.iconst (-1)) 1, e3 15 (.putfield 13) 3 8 2 0, e0 18 (.aload_n 0) 1, e3 19 (.new 17) 3 7 3 0, e0 22 .dup 1, e3 23 (.new 19) 3 3 7 0, e0 26 .dup 1, e6 27 (.invokespecial 21) 3 25 1 0 3 5 177, e6 30 (.invokespecial 22) 3 64 2 0 7 1 40, e3 33 (.putfield 25) 3 8 3 2, e0 36 (.aload_n 0) 1, e0 37 (.bipush 12) 2, e3 39 (.anewarray 17) 3 15 12 1, e3 42 (.putfield 29) 3 8 4 2, e0 45 (.aload_n 0) 1, e0 46 (.iconst 3) 1, e3 47 (.newarray .int) 2 11 3 1, e3 49 (.putfield 33) 3 8 6 2, e0 52 (.aload_n 0) 1, e3 53 (.new 37) 3 2 16 0, e0 56 .dup 1, e6 57 (.invokespecial 39) 3 7 1 0 2 11 2794, e3 60 (.putfield 40) 3 8 7 2, e0 63 (.aload_n 0) 1, e3 64 (.new 44) 3 1 6 0, e0 67 .dup 1, e6 68 (.invokespecial 46) 3 0 1 0 1 3 144, e3 71 (.putfield 47) 3 8 8 2, e0 74 (.aload_n 0) 1, e3 75 (.new 51) 3 6 4 0, e0 78 .dup 1, e6 79 (.invokespecial 53) 3 59 1 0 6 1 997, e3 82 (.putfield 54) 3 8 9 2, e0 85 .return_ 1]
set_option maxRecDepth 100000 in
def tb_X7_feed : List tr_En := [e0 0 (.aload_n 0) 1, e3 1 (.getfield 58) 3 8 1 0, e0 4 (.bipush 20) 2, e0 6 .iadd 1, e0 7 (.sipush 400) 3, e1 10 (.if_icmp .le 5) 3 15, e0 13 (.iconst (-1)) 1, e0 14 .ireturn 1, e0 15 (.aload_n 0) 1, e0 16 (.iload_n 1) 1, e6 17 (.invokevirtual 61) 3 106 2 0 8 0 0, e0 20 (.aload_n 0) 1, e0 21 (.iload_n 2) 1, e6 22 (.invokevirtual 61) 3 106 2 0 8 0 0, e0 25 (.aload_n 0) 1, e0 26 (.iload_n 3) 1, e6 27 (.invokevirtual 61) 3 106 2 0 8 0 0, e0 30 (.aload_n 0) 1, e0 31 (.iload 4) 2, e6 33 (.invokevirtual 61) 3 106 2 0 8 0 0, e0 36 (.aload_n 0) 1, e0 37 (.iload 5) 2, e6 39 (.invokevirtual 61) 3 106 2 0 8 0 0, e0 42 (.aload_n 0) 1, e3 43 (.getfield 58) 3 8 1 0, e0 46 .ireturn 1]
set_option maxRecDepth 100000 in
def tb_X7_text : List tr_En := [e0 0 (.aload_n 0) 1, e0 1 (.iload_n 1) 1, e1 2 (.ifCond .lt 15) 3 17, e0 5 (.iload_n 1) 1, e0 6 (.aload_n 0) 1, e3 7 (.getfield 58) 3 8 1 0, e1 10 (.if_icmp .gt 7) 3 17, e0 13 (.iconst 1) 1, e1 14 (.goto 4) 3 18, e0 17 (.iconst 0) 1, e6 18 (.invokevirtual 65) 3 104 2 0 8 1 6, e3 21 (.new 69) 3 5 10 0, e0 24 .dup 1, e0 25 (.aload_n 0) 1, e3 26 (.getfield 9) 3 8 0 2, e0 29 (.iload_n 1) 1, e6 30 (.invokespecial 71) 3 42 3 0 5 6 184, e0 33 (.astore_n 2) 1, e0 34 (.aload_n 2) 1, e6 35 (.invokevirtual 74) 3 43 1 1 5 0 0, e0 38 (.istore_n 3) 1, e0 39 (.aload_n 0) 1, e0 40 (.iconst 0) 1, e3 41 (.putfield 58) 3 8 1 0, e0 44 (.aload_n 0) 1, e0 45 (.aload_n 2) 1, e3 46 (.getfield 78) 3 5 9 0, e3 49 (.putfield 13) 3 8 2 0, e0 52 (.iload_n 3) 1, e1 53 (.ifCond .ne 11) 3 64, e0 56 (.aload_n 2) 1, e3 57 (.getfield 79) 3 5 8 0, e0 60 (.bipush 10) 2, e0 62 .isub 1, e0 63 .ireturn 1, e0 64 (.aload_n 0) 1, e3 65 (.new 17) 3 7 3 0, e0 68 .dup 1, e0 69 (.aload_n 2) 1, e3 70 (.getfield 82) 3 5 7 2, e6 73 (.invokespecial 22) 3 64 2 0 7 1 40, e3 76 (.putfield 25) 3 8 3 2, e0 79 (.aload_n 0) 1, e0 80 (.iconst 0) 1, e3 81 (.putfield 86) 3 8 5 0, e0 84 (.aload_n 0) 1, e3 85 (.getfield 25) 3 8 3 2, e3 88 (.getfield 89) 3 7 0 2, e3 91 (.getfield 90) 3 3 1 0, e0 94 .ireturn 1]
set_option maxRecDepth 100000 in
def tb_X7_fault : List tr_En := [e0 0 (.aload_n 0) 1, e3 1 (.getfield 13) 3 8 2 0, e0 4 .ireturn 1]
set_option maxRecDepth 100000 in
def tb_X7_send : List tr_En := [e0 0 (.aload_n 0) 1, e0 1 (.aload_n 0) 1, e3 2 (.getfield 25) 3 8 3 2, e3 5 (.getfield 89) 3 7 0 2, e0 8 (.iload_n 1) 1, e6 9 (.invokevirtual 93) 3 27 2 1 3 0 0, e1 12 (.ifCond .eq 21) 3 33, e0 15 (.aload_n 0) 1, e3 16 (.getfield 25) 3 8 3 2, e3 19 (.getfield 89) 3 7 0 2, e0 22 (.iload_n 2) 1, e6 23 (.invokevirtual 93) 3 27 2 1 3 0 0, e1 26 (.ifCond .eq 7) 3 33, e0 29 (.iconst 1) 1, e1 30 (.goto 4) 3 34, e0 33 (.iconst 0) 1, e6 34 (.invokevirtual 65) 3 104 2 0 8 1 6, e0 37 (.aload_n 0) 1, e0 38 (.iload_n 3) 1, e1 39 (.ifCond .lt 28) 3 67, e0 42 (.iload_n 3) 1, e0 43 (.sipush 9999) 3, e1 46 (.if_icmp .gt 21) 3 67, e0 49 (.iload 4) 2, e0 51 (.iconst 1) 1, e1 52 (.if_icmp .lt 15) 3 67, e0 55 (.iload 4) 2, e0 57 (.sipush 200) 3, e1 60 (.if_icmp .gt 7) 3 67, e0 63 (.iconst 1) 1, e1 64 (.goto 4) 3 68, e0 67 (.iconst 0) 1, e6 68 (.invokevirtual 65) 3 104 2 0 8 1 6, e0 71 (.aload_n 0) 1, e0 72 (.iload 5) 2, e1 74 (.ifCond .lt 14) 3 88, e0 77 (.iload 5) 2, e0 79 (.bipush 12) 2, e1 81 (.if_icmp .gt 7) 3 88, e0 84 (.iconst 1) 1, e1 85 (.goto 4) 3 89, e0 88 (.iconst 0) 1, e6 89 (.invokevirtual 65) 3 104 2 0 8 1 6, e0 92 (.aload_n 0) 1, e6 93 (.invokevirtual 97) 3 105 1 0 8 1 6, e0 96 (.aload_n 0) 1, e6 97 (.invokevirtual 100) 3 107 1 0 8 6 179, e3 100 (.new 103) 3 4 10 0, e0 103 .dup 1, e0 104 (.iload_n 1) 1, e0 105 (.iload_n 2) 1, e0 106 (.iload_n 3) 1, e0 107 (.iload 4) 2, e0 109 (.iload 5) 2, e6 111 (.invokespecial 105) 3 37 6 0 4 2 26, e0 114 (.astore 6) 2, e0 116 (.aload 6) 2, e0 118 (.aload_n 0) 1, e3 119 (.getfield 25) 3 8 3 2, e3 122 (.getfield 89) 3 7 0 2, e6 125 (.invokevirtual 108) 3 38 2 0 4 0 0, e0 128 (.aload_n 0) 1, e3 129 (.getfield 25) 3 8 3 2, e0 132 (.aload 6) 2, e6 134 (.invokevirtual 111) 3 67 2 0 7 0 0, e0 137 (.aload_n 0) 1, e3 138 (.getfield 25) 3 8 3 2, e3 141 (.getfield 115) 3 7 2 0, e0 144 (.iconst 1) 1, e0 145 .isub 1, e0 146 .ireturn 1]
set_option maxRecDepth 100000 in
def tb_X7_forget : List tr_En := [e0 0 (.aload_n 0) 1, e3 1 (.getfield 25) 3 8 3 2, e3 4 (.getfield 115) 3 7 2 0, e0 7 (.istore_n 1) 1, e0 8 (.aload_n 0) 1, e6 9 (.invokevirtual 100) 3 107 1 0 8 6 179, e0 12 (.aload_n 0) 1, e3 13 (.getfield 25) 3 8 3 2, e0 16 (.iconst 0) 1, e3 17 (.putfield 115) 3 7 2 0, e0 20 (.iload_n 1) 1, e0 21 .ireturn 1]
set_option maxRecDepth 100000 in
def tb_X7_link : List tr_En := [e0 0 (.aload_n 0) 1, e0 1 (.aload_n 0) 1, e3 2 (.getfield 25) 3 8 3 2, e3 5 (.getfield 89) 3 7 0 2, e0 8 (.iload_n 1) 1, e6 9 (.invokevirtual 118) 3 28 2 1 3 0 0, e6 12 (.invokevirtual 121) 3 103 2 0 8 1 6, e0 15 (.aload_n 0) 1, e0 16 (.iload_n 2) 1, e1 17 (.ifCond .eq 8) 3 25, e0 20 (.iload_n 2) 1, e0 21 (.iconst 1) 1, e1 22 (.if_icmp .ne 7) 3 29, e0 25 (.iconst 1) 1, e1 26 (.goto 4) 3 30, e0 29 (.iconst 0) 1, e6 30 (.invokevirtual 65) 3 104 2 0 8 1 6, e0 33 (.aload_n 0) 1, e6 34 (.invokevirtual 100) 3 107 1 0 8 6 179, e0 37 (.aload_n 0) 1, e3 38 (.getfield 25) 3 8 3 2, e3 41 (.getfield 89) 3 7 0 2, e3 44 (.getfield 124) 3 3 4 2, e0 47 (.iload_n 1) 1, e1 48 .iaload 1 11, e0 49 (.iload_n 2) 1, e1 50 (.if_icmp .eq 7) 3 57, e0 53 (.iconst 1) 1, e1 54 (.goto 4) 3 58, e0 57 (.iconst 0) 1, e0 58 (.istore_n 3) 1, e0 59 (.aload_n 0) 1, e3 60 (.getfield 25) 3 8 3 2, e3 63 (.getfield 89) 3 7 0 2, e3 66 (.getfield 124) 3 3 4 2, e0 69 (.iload_n 1) 1, e0 70 (.iload_n 2) 1, e1 71 .iastore 1 11, e0 72 (.iload_n 3) 1, e3 73 .ireturn 1 0 0 1]
set_option maxRecDepth 100000 in
def tb_X7_route : List tr_En := [e0 0 (.aload_n 0) 1, e0 1 (.aload_n 0) 1, e3 2 (.getfield 25) 3 8 3 2, e3 5 (.getfield 89) 3 7 0 2, e0 8 (.iload_n 1) 1, e6 9 (.invokevirtual 93) 3 27 2 1 3 0 0, e1 12 (.ifCond .eq 21) 3 33, e0 15 (.aload_n 0) 1, e3 16 (.getfield 25) 3 8 3 2, e3 19 (.getfield 89) 3 7 0 2, e0 22 (.iload_n 2) 1, e6 23 (.invokevirtual 93) 3 27 2 1 3 0 0, e1 26 (.ifCond .eq 7) 3 33, e0 29 (.iconst 1) 1, e1 30 (.goto 4) 3 34, e0 33 (.iconst 0) 1, e6 34 (.invokevirtual 121) 3 103 2 0 8 1 6, e0 37 (.aload_n 0) 1, e0 38 (.iload_n 3) 1, e0 39 (.iconst (-1)) 1, e1 40 (.if_icmp .eq 17) 3 57, e0 43 (.aload_n 0) 1, e3 44 (.getfield 25) 3 8 3 2, e3 47 (.getfield 89) 3 7 0 2, e0 50 (.iload_n 3) 1, e6 51 (.invokevirtual 118) 3 28 2 1 3 0 0, e1 54 (.ifCond .eq 7) 3 61, e0 57 (.iconst 1) 1, e1 58 (.goto 4) 3 62, e0 61 (.iconst 0) 1, e6 62 (.invokevirtual 121) 3 103 2 0 8 1 6, e0 65 (.aload_n 0) 1, e0 66 (.iload_n 1) 1, e0 67 (.iload_n 2) 1, e1 68 (.if_icmp .eq 7) 3 75, e0 71 (.iconst 1) 1, e1 72 (.goto 4) 3 76, e0 75 (.iconst 0) 1, e6 76 (.invokevirtual 65) 3 104 2 0 8 1 6, e0 79 (.aload_n 0) 1, e0 80 (.iload_n 3) 1, e0 81 (.iconst (-1)) 1, e1 82 (.if_icmp .eq 19) 3 101, e0 85 (.aload_n 0) 1, e3 86 (.getfield 25) 3 8 3 2, e3 89 (.getfield 89) 3 7 0 2, e3 92 (.getfield 127) 3 3 2 2, e0 95 (.iload_n 3) 1, e1 96 .iaload 1 11, e0 97 (.iload_n 1) 1, e1 98 (.if_icmp .ne 7) 3 105, e0 101 (.iconst 1) 1, e1 102 (.goto 4) 3 106, e0 105 (.iconst 0) 1, e6 106 (.invokevirtual 65) 3 104 2 0 8 1 6, e0 109 (.aload_n 0) 1, e6 110 (.invokevirtual 100) 3 107 1 0 8 6 179, e0 113 (.iload_n 1) 1, e0 114 (.bipush 10) 2, e0 116 .imul 1, e0 117 (.iload_n 2) 1, e0 118 .iadd 1, e0 119 (.istore 4) 2, e0 121 (.aload_n 0) 1, e3 122 (.getfield 25) 3 8 3 2, e3 125 (.getfield 89) 3 7 0 2, e3 128 (.getfield 130) 3 3 5 2, e0 131 (.iload 4) 2, e1 133 .iaload 1 11, e0 134 (.istore 5) 2, e0 136 (.aload_n 0) 1, e3 137 (.getfield 25) 3 8 3 2, e3 140 (.getfield 89) 3 7 0 2, e3 143 (.getfield 130) 3 3 5 2, e0 146 (.iload 4) 2, e0 148 (.iload_n 3) 1, e1 149 .iastore 1 11, e0 150 (.iload 5) 2, e0 152 .ireturn 1]
set_option maxRecDepth 100000 in
def tb_X7_set : List tr_En := [e0 0 (.aload_n 0) 1, e0 1 (.iload_n 1) 1, e1 2 (.ifCond .lt 12) 3 14, e0 5 (.iload_n 1) 1, e0 6 (.iconst 5) 1, e1 7 (.if_icmp .ge 7) 3 14, e0 10 (.iconst 1) 1, e1 11 (.goto 4) 3 15, e0 14 (.iconst 0) 1, e6 15 (.invokevirtual 65) 3 104 2 0 8 1 6, e0 18 (.aload_n 0) 1, e0 19 (.aload_n 0) 1, e3 20 (.getfield 25) 3 8 3 2, e3 23 (.getfield 89) 3 7 0 2, e0 26 (.iload_n 1) 1, e0 27 (.iload_n 2) 1, e6 28 (.invokevirtual 133) 3 31 3 1 3 0 0, e6 31 (.invokevirtual 65) 3 104 2 0 8 1 6, e0 34 (.aload_n 0) 1, e0 35 (.iload_n 1) 1, e0 36 (.iconst 1) 1, e1 37 (.if_icmp .ne 19) 3 56, e0 40 (.iload_n 2) 1, e0 41 (.aload_n 0) 1, e3 42 (.getfield 25) 3 8 3 2, e3 45 (.getfield 89) 3 7 0 2, e3 48 (.getfield 137) 3 3 6 2, e0 51 (.iconst 2) 1, e1 52 .iaload 1 11, e1 53 (.if_icmp .lt 7) 3 60, e0 56 (.iconst 1) 1, e1 57 (.goto 4) 3 61, e0 60 (.iconst 0) 1, e6 61 (.invokevirtual 65) 3 104 2 0 8 1 6, e0 64 (.aload_n 0) 1, e6 65 (.invokevirtual 100) 3 107 1 0 8 6 179, e0 68 (.aload_n 0) 1, e3 69 (.getfield 25) 3 8 3 2, e3 72 (.getfield 89) 3 7 0 2, e3 75 (.getfield 137) 3 3 6 2, e0 78 (.iload_n 1) 1, e1 79 .iaload 1 11, e0 80 (.istore_n 3) 1, e0 81 (.aload_n 0) 1, e3 82 (.getfield 25) 3 8 3 2, e3 85 (.getfield 89) 3 7 0 2, e3 88 (.getfield 137) 3 3 6 2, e0 91 (.iload_n 1) 1, e0 92 (.iload_n 2) 1, e1 93 .iastore 1 11, e0 94 (.iload_n 3) 1, e0 95 .ireturn 1]
set_option maxRecDepth 100000 in
def tb_X7_undo : List tr_En := [e0 0 (.aload_n 0) 1, e3 1 (.getfield 86) 3 8 5 0, e1 4 (.ifCond .ne 5) 3 9, e0 7 (.iconst (-1)) 1, e0 8 .ireturn 1, e0 9 (.aload_n 0) 1, e0 10 .dup 1, e3 11 (.getfield 86) 3 8 5 0, e0 14 (.iconst 1) 1, e0 15 .isub 1, e3 16 (.putfield 86) 3 8 5 0, e0 19 (.aload_n 0) 1, e0 20 (.aload_n 0) 1, e3 21 (.getfield 29) 3 8 4 2, e0 24 (.aload_n 0) 1, e3 25 (.getfield 86) 3 8 5 0, e1 28 .aaload 1 15, e3 29 (.putfield 25) 3 8 3 2, e0 32 (.aload_n 0) 1, e3 33 (.getfield 86) 3 8 5 0, e0 36 .ireturn 1]
set_option maxRecDepth 100000 in
def tb_X7_told : List tr_En := [e0 0 (.aload_n 0) 1, e0 1 (.iload_n 1) 1, e1 2 (.ifCond .lt 13) 3 15, e0 5 (.iload_n 1) 1, e0 6 (.bipush 13) 2, e1 8 (.if_icmp .gt 7) 3 15, e0 11 (.iconst 1) 1, e1 12 (.goto 4) 3 16, e0 15 (.iconst 0) 1, e6 16 (.invokevirtual 65) 3 104 2 0 8 1 6, e0 19 (.aload_n 0) 1, e3 20 (.getfield 25) 3 8 3 2, e3 23 (.getfield 89) 3 7 0 2, e0 26 (.astore_n 2) 1, e0 27 (.iload_n 1) 1, e1 28 (.tableswitch 152 0 12 #[68, 73, 78, 86, 93, 100, 107, 114, 121, 126, 131, 139, 144]) 68 180, e0 96 (.aload_n 2) 1, e1 97 (.getfield 140) 3 3, e0 100 .ireturn 1, e0 101 (.aload_n 2) 1, e3 102 (.getfield 90) 3 3 1 0, e0 105 .ireturn 1, e0 106 (.aload_n 0) 1, e3 107 (.getfield 25) 3 8 3 2, e3 110 (.getfield 115) 3 7 2 0, e0 113 .ireturn 1, e0 114 (.aload_n 2) 1, e3 115 (.getfield 137) 3 3 6 2, e0 118 (.iconst 0) 1, e1 119 .iaload 1 11, e0 120 .ireturn 1, e0 121 (.aload_n 2) 1, e3 122 (.getfield 137) 3 3 6 2, e0 125 (.iconst 1) 1, e1 126 .iaload 1 11, e0 127 .ireturn 1, e0 128 (.aload_n 2) 1, e3 129 (.getfield 137) 3 3 6 2, e0 132 (.iconst 2) 1, e1 133 .iaload 1 11, e0 134 .ireturn 1, e0 135 (.aload_n 2) 1, e3 136 (.getfield 137) 3 3 6 2, e0 139 (.iconst 3) 1, e1 140 .iaload 1 11, e0 141 .ireturn 1, e0 142 (.aload_n 2) 1, e3 143 (.getfield 137) 3 3 6 2, e0 146 (.iconst 4) 1, e1 147 .iaload 1 11, e0 148 .ireturn 1, e0 149 (.aload_n 0) 1, e3 150 (.getfield 86) 3 8 5 0, e0 153 .ireturn 1, e0 154 (.aload_n 0) 1, e3 155 (.getfield 58) 3 8 1 0, e0 158 .ireturn 1, e0 159 (.aload_n 0) 1, e3 160 (.getfield 25) 3 8 3 2, e6 163 (.invokevirtual 143) 3 68 1 1 7 0 0, e0 166 .ireturn 1, e0 167 (.aload_n 0) 1, e6 168 (.invokevirtual 147) 3 109 1 1 8 0 0, e0 171 .ireturn 1, e0 172 (.aload_n 0) 1, e3 173 (.getfield 25) 3 8 3 2, e6 176 (.invokevirtual 150) 3 69 1 1 7 0 0, e0 179 .ireturn 1, e0 180 (.aload_n 0) 1, e0 181 (.aload_n 2) 1, e3 182 (.getfield 137) 3 3 6 2, e0 185 (.iconst 4) 1, e1 186 .iaload 1 11, e6 187 (.invokevirtual 153) 3 110 2 1 8 0 0, e0 190 .ireturn 1]
set_option maxRecDepth 100000 in
def tb_X7_linkTold : List tr_En := [e0 0 (.aload_n 0) 1, e0 1 (.aload_n 0) 1, e3 2 (.getfield 25) 3 8 3 2, e3 5 (.getfield 89) 3 7 0 2, e0 8 (.iload_n 1) 1, e6 9 (.invokevirtual 118) 3 28 2 1 3 0 0, e6 12 (.invokevirtual 121) 3 103 2 0 8 1 6, e0 15 (.aload_n 0) 1, e0 16 (.iload_n 2) 1, e1 17 (.ifCond .lt 12) 3 29, e0 20 (.iload_n 2) 1, e0 21 (.iconst 2) 1, e1 22 (.if_icmp .gt 7) 3 29, e0 25 (.iconst 1) 1, e1 26 (.goto 4) 3 30, e0 29 (.iconst 0) 1, e6 30 (.invokevirtual 65) 3 104 2 0 8 1 6, e0 33 (.iload_n 2) 1, e1 34 (.lookupswitch 52 #[(0, 26), (1, 39)]) 26 86, e0 60 (.aload_n 0) 1, e3 61 (.getfield 25) 3 8 3 2, e3 64 (.getfield 89) 3 7 0 2, e3 67 (.getfield 127) 3 3 2 2, e0 70 (.iload_n 1) 1, e1 71 .iaload 1 11, e0 72 .ireturn 1, e0 73 (.aload_n 0) 1, e3 74 (.getfield 25) 3 8 3 2, e3 77 (.getfield 89) 3 7 0 2, e3 80 (.getfield 157) 3 3 3 2, e0 83 (.iload_n 1) 1, e1 84 .iaload 1 11, e0 85 .ireturn 1, e0 86 (.aload_n 0) 1, e3 87 (.getfield 25) 3 8 3 2, e3 90 (.getfield 89) 3 7 0 2, e3 93 (.getfield 124) 3 3 4 2, e0 96 (.iload_n 1) 1, e1 97 .iaload 1 11, e0 98 .ireturn 1]
set_option maxRecDepth 100000 in
def tb_X7_routeTold : List tr_En := [e0 0 (.aload_n 0) 1, e0 1 (.aload_n 0) 1, e3 2 (.getfield 25) 3 8 3 2, e3 5 (.getfield 89) 3 7 0 2, e0 8 (.iload_n 1) 1, e6 9 (.invokevirtual 93) 3 27 2 1 3 0 0, e1 12 (.ifCond .eq 21) 3 33, e0 15 (.aload_n 0) 1, e3 16 (.getfield 25) 3 8 3 2, e3 19 (.getfield 89) 3 7 0 2, e0 22 (.iload_n 2) 1, e6 23 (.invokevirtual 93) 3 27 2 1 3 0 0, e1 26 (.ifCond .eq 7) 3 33, e0 29 (.iconst 1) 1, e1 30 (.goto 4) 3 34, e0 33 (.iconst 0) 1, e6 34 (.invokevirtual 121) 3 103 2 0 8 1 6, e0 37 (.aload_n 0) 1, e3 38 (.getfield 25) 3 8 3 2, e3 41 (.getfield 89) 3 7 0 2, e3 44 (.getfield 130) 3 3 5 2, e0 47 (.iload_n 1) 1, e0 48 (.bipush 10) 2, e0 50 .imul 1, e0 51 (.iload_n 2) 1, e0 52 .iadd 1, e1 53 .iaload 1 11, e0 54 .ireturn 1]
set_option maxRecDepth 100000 in
def tb_X7_packet : List tr_En := [e0 0 (.aload_n 0) 1, e0 1 (.aload_n 0) 1, e3 2 (.getfield 25) 3 8 3 2, e0 5 (.iload_n 1) 1, e6 6 (.invokevirtual 160) 3 66 2 1 7 0 0, e6 9 (.invokevirtual 121) 3 103 2 0 8 1 6, e0 12 (.aload_n 0) 1, e0 13 (.iload_n 2) 1, e1 14 (.ifCond .lt 13) 3 27, e0 17 (.iload_n 2) 1, e0 18 (.bipush 8) 2, e1 20 (.if_icmp .gt 7) 3 27, e0 23 (.iconst 1) 1, e1 24 (.goto 4) 3 28, e0 27 (.iconst 0) 1, e6 28 (.invokevirtual 65) 3 104 2 0 8 1 6, e0 31 (.aload_n 0) 1, e3 32 (.getfield 25) 3 8 3 2, e3 35 (.getfield 163) 3 7 1 2, e0 38 (.iload_n 1) 1, e1 39 .aaload 1 16, e0 40 (.astore_n 3) 1, e0 41 (.iload_n 2) 1, e1 42 (.tableswitch 93 0 7 #[46, 51, 56, 61, 66, 71, 76, 81]) 46 135, e0 88 (.aload_n 3) 1, e1 89 (.getfield 167) 3 4, e0 92 .ireturn 1, e0 93 (.aload_n 3) 1, e3 94 (.getfield 170) 3 4 1 0, e0 97 .ireturn 1, e0 98 (.aload_n 3) 1, e3 99 (.getfield 173) 3 4 2 0, e0 102 .ireturn 1, e0 103 (.aload_n 3) 1, e3 104 (.getfield 176) 3 4 3 0, e0 107 .ireturn 1, e0 108 (.aload_n 3) 1, e3 109 (.getfield 179) 3 4 4 0, e0 112 .ireturn 1, e0 113 (.aload_n 3) 1, e3 114 (.getfield 182) 3 4 9 0, e0 117 .ireturn 1, e0 118 (.aload_n 3) 1, e3 119 (.getfield 185) 3 4 8 0, e0 122 .ireturn 1, e0 123 (.aload_n 0) 1, e3 124 (.getfield 25) 3 8 3 2, e3 127 (.getfield 89) 3 7 0 2, e0 130 (.aload_n 3) 1, e6 131 (.invokevirtual 188) 3 36 2 1 3 0 0, e0 134 .ireturn 1, e0 135 (.aload_n 0) 1, e3 136 (.getfield 25) 3 8 3 2, e3 139 (.getfield 89) 3 7 0 2, e0 142 (.aload_n 3) 1, e6 143 (.invokevirtual 192) 3 35 2 1 3 0 0, e0 146 .ireturn 1]
set_option maxRecDepth 100000 in
def tb_X7_trail : List tr_En := [e0 0 (.aload_n 0) 1, e0 1 (.aload_n 0) 1, e3 2 (.getfield 25) 3 8 3 2, e0 5 (.iload_n 1) 1, e6 6 (.invokevirtual 160) 3 66 2 1 7 0 0, e6 9 (.invokevirtual 121) 3 103 2 0 8 1 6, e0 12 (.aload_n 0) 1, e3 13 (.getfield 25) 3 8 3 2, e3 16 (.getfield 163) 3 7 1 2, e0 19 (.iload_n 1) 1, e1 20 .aaload 1 16, e0 21 (.astore 4) 2, e0 23 (.aload_n 0) 1, e0 24 (.iload_n 2) 1, e1 25 (.ifCond .lt 16) 3 41, e0 28 (.iload_n 2) 1, e0 29 (.aload 4) 2, e3 31 (.getfield 185) 3 4 8 0, e1 34 (.if_icmp .ge 7) 3 41, e0 37 (.iconst 1) 1, e1 38 (.goto 4) 3 42, e0 41 (.iconst 0) 1, e6 42 (.invokevirtual 121) 3 103 2 0 8 1 6, e0 45 (.aload_n 0) 1, e0 46 (.iload_n 3) 1, e1 47 (.ifCond .lt 12) 3 59, e0 50 (.iload_n 3) 1, e0 51 (.iconst 4) 1, e1 52 (.if_icmp .gt 7) 3 59, e0 55 (.iconst 1) 1, e1 56 (.goto 4) 3 60, e0 59 (.iconst 0) 1, e6 60 (.invokevirtual 65) 3 104 2 0 8 1 6, e0 63 (.iload_n 3) 1, e1 64 (.tableswitch 70 0 3 #[32, 40, 48, 56]) 32 134, e0 96 (.aload 4) 2, e3 98 (.getfield 195) 3 4 6 2, e0 101 (.iload_n 2) 1, e1 102 .iaload 1 11, e0 103 .ireturn 1, e0 104 (.aload 4) 2, e3 106 (.getfield 197) 3 4 7 2, e0 109 (.iload_n 2) 1, e1 110 .iaload 1 11, e0 111 .ireturn 1, e0 112 (.aload 4) 2, e3 114 (.getfield 179) 3 4 4 0, e0 117 (.iload_n 2) 1, e0 118 .isub 1, e0 119 .ireturn 1, e0 120 (.aload_n 0) 1, e3 121 (.getfield 25) 3 8 3 2, e3 124 (.getfield 89) 3 7 0 2, e0 127 (.aload 4) 2, e0 129 (.iload_n 2) 1, e6 130 (.invokevirtual 199) 3 33 3 1 3 0 0, e0 133 .ireturn 1, e0 134 (.aload_n 0) 1, e3 135 (.getfield 25) 3 8 3 2, e3 138 (.getfield 89) 3 7 0 2, e0 141 (.aload 4) 2, e0 143 (.iload_n 2) 1, e6 144 (.invokevirtual 203) 3 34 3 1 3 0 0, e1 147 (.ifCond .eq 7) 3 154, e0 150 (.iconst 1) 1, e1 151 (.goto 4) 3 155, e0 154 (.iconst 0) 1, e0 155 .ireturn 1]
set_option maxRecDepth 100000 in
def tb_X7_reports : List tr_En := [e0 0 (.aload_n 0) 1, e0 1 (.aload_n 0) 1, e3 2 (.getfield 25) 3 8 3 2, e3 5 (.getfield 89) 3 7 0 2, e0 8 (.iload_n 2) 1, e6 9 (.invokevirtual 93) 3 27 2 1 3 0 0, e6 12 (.invokevirtual 121) 3 103 2 0 8 1 6, e0 15 (.aload_n 0) 1, e0 16 (.iload_n 3) 1, e0 17 (.iconst (-1)) 1, e1 18 (.if_icmp .eq 17) 3 35, e0 21 (.aload_n 0) 1, e3 22 (.getfield 25) 3 8 3 2, e3 25 (.getfield 89) 3 7 0 2, e0 28 (.iload_n 3) 1, e6 29 (.invokevirtual 118) 3 28 2 1 3 0 0, e1 32 (.ifCond .eq 7) 3 39, e0 35 (.iconst 1) 1, e1 36 (.goto 4) 3 40, e0 39 (.iconst 0) 1, e6 40 (.invokevirtual 121) 3 103 2 0 8 1 6, e0 43 (.aload_n 0) 1, e0 44 (.aload_n 0) 1, e0 45 (.iload_n 1) 1, e6 46 (.invokevirtual 207) 3 108 2 1 8 0 0, e6 49 (.invokevirtual 65) 3 104 2 0 8 1 6, e0 52 (.aload_n 0) 1, e0 53 (.iload_n 3) 1, e0 54 (.iconst (-1)) 1, e1 55 (.if_icmp .eq 19) 3 74, e0 58 (.aload_n 0) 1, e3 59 (.getfield 25) 3 8 3 2, e3 62 (.getfield 89) 3 7 0 2, e3 65 (.getfield 157) 3 3 3 2, e0 68 (.iload_n 3) 1, e1 69 .iaload 1 11, e0 70 (.iload_n 2) 1, e1 71 (.if_icmp .ne 7) 3 78, e0 74 (.iconst 1) 1, e1 75 (.goto 4) 3 79, e0 78 (.iconst 0) 1, e6 79 (.invokevirtual 65) 3 104 2 0 8 1 6, e0 82 (.aload_n 0) 1, e3 83 (.getfield 40) 3 8 7 2, e0 86 (.aload_n 0) 1, e3 87 (.getfield 25) 3 8 3 2, e0 90 (.iload_n 1) 1, e6 91 (.invokevirtual 210) 3 8 3 0 2 0 0, e0 94 (.iload_n 3) 1, e0 95 (.iconst (-1)) 1, e1 96 (.if_icmp .ne 15) 3 111, e0 99 (.aload_n 0) 1, e3 100 (.getfield 40) 3 8 7 2, e3 103 (.getfield 214) 3 2 0 2, e0 106 (.iload_n 2) 1, e1 107 .iaload 1 11, e1 108 (.goto 12) 3 120, e0 111 (.aload_n 0) 1, e3 112 (.getfield 40) 3 8 7 2, e3 115 (.getfield 217) 3 2 1 2, e0 118 (.iload_n 3) 1, e1 119 .iaload 1 11, e0 120 .ireturn 1]
set_option maxRecDepth 100000 in
def tb_X7_label : List tr_En := [e0 0 (.iconst 0) 1, e0 1 (.istore_n 2) 1, e0 2 (.iconst 0) 1, e0 3 (.istore_n 3) 1, e0 4 (.iload_n 3) 1, e0 5 (.aload_n 0) 1, e3 6 (.getfield 25) 3 8 3 2, e3 9 (.getfield 89) 3 7 0 2, e3 12 (.getfield 137) 3 3 6 2, e0 15 (.iconst 4) 1, e1 16 .iaload 1 11, e1 17 (.if_icmp .ge 41) 3 58, e0 20 (.aload_n 0) 1, e3 21 (.getfield 40) 3 8 7 2, e0 24 (.aload_n 0) 1, e3 25 (.getfield 25) 3 8 3 2, e0 28 (.iload_n 3) 1, e6 29 (.invokevirtual 210) 3 8 3 0 2 0 0, e0 32 (.aload_n 0) 1, e3 33 (.getfield 40) 3 8 7 2, e6 36 (.invokevirtual 220) 3 10 1 1 2 0 0, e1 39 (.ifCond .eq 13) 3 52, e0 42 (.iload_n 2) 1, e0 43 (.iload_n 1) 1, e1 44 (.if_icmp .ne 5) 3 49, e0 47 (.iload_n 3) 1, e0 48 .ireturn 1, e0 49 (.iinc 2 1) 3, e0 52 (.iinc 3 1) 3, e1 55 (.goto (-51)) 3 4, e0 58 (.iconst (-1)) 1, e0 59 .ireturn 1]
set_option maxRecDepth 100000 in
def tb_X7_joints : List tr_En := [e0 0 (.aload_n 0) 1, e0 1 (.aload_n 0) 1, e0 2 (.iload_n 1) 1, e6 3 (.invokevirtual 207) 3 108 2 1 8 0 0, e6 6 (.invokevirtual 65) 3 104 2 0 8 1 6, e0 9 (.aload_n 0) 1, e3 10 (.getfield 40) 3 8 7 2, e0 13 (.aload_n 0) 1, e3 14 (.getfield 25) 3 8 3 2, e0 17 (.iload_n 1) 1, e6 18 (.invokevirtual 210) 3 8 3 0 2 0 0, e0 21 (.aload_n 0) 1, e3 22 (.getfield 40) 3 8 7 2, e0 25 (.aload_n 0) 1, e3 26 (.getfield 25) 3 8 3 2, e3 29 (.getfield 89) 3 7 0 2, e6 32 (.invokevirtual 223) 3 11 2 0 2 0 0, e0 35 (.aload_n 0) 1, e3 36 (.getfield 40) 3 8 7 2, e3 39 (.getfield 226) 3 2 9 0, e0 42 .ireturn 1]
set_option maxRecDepth 100000 in
def tb_X7_walk : List tr_En := [e0 0 (.aload_n 0) 1, e0 1 (.aload_n 0) 1, e0 2 (.iload_n 1) 1, e6 3 (.invokevirtual 207) 3 108 2 1 8 0 0, e6 6 (.invokevirtual 65) 3 104 2 0 8 1 6, e0 9 (.aload_n 0) 1, e0 10 (.iload_n 3) 1, e1 11 (.ifCond .lt 12) 3 23, e0 14 (.iload_n 3) 1, e0 15 (.iconst 3) 1, e1 16 (.if_icmp .gt 7) 3 23, e0 19 (.iconst 1) 1, e1 20 (.goto 4) 3 24, e0 23 (.iconst 0) 1, e6 24 (.invokevirtual 65) 3 104 2 0 8 1 6, e0 27 (.aload_n 0) 1, e3 28 (.getfield 40) 3 8 7 2, e0 31 (.aload_n 0) 1, e3 32 (.getfield 25) 3 8 3 2, e0 35 (.iload_n 1) 1, e6 36 (.invokevirtual 210) 3 8 3 0 2 0 0, e0 39 (.aload_n 0) 1, e3 40 (.getfield 40) 3 8 7 2, e0 43 (.aload_n 0) 1, e3 44 (.getfield 25) 3 8 3 2, e3 47 (.getfield 89) 3 7 0 2, e6 50 (.invokevirtual 223) 3 11 2 0 2 0 0, e0 53 (.iload_n 3) 1, e1 54 (.ifCond .ne 8) 3 62, e0 57 (.aload_n 0) 1, e6 58 (.invokevirtual 229) 3 111 1 1 8 0 0, e0 61 .ireturn 1, e0 62 (.aload_n 0) 1, e0 63 (.aload_n 0) 1, e3 64 (.getfield 40) 3 8 7 2, e3 67 (.getfield 226) 3 2 9 0, e1 70 (.ifCond .le 22) 3 92, e0 73 (.iload_n 2) 1, e1 74 (.ifCond .lt 18) 3 92, e0 77 (.iload_n 2) 1, e0 78 (.aload_n 0) 1, e3 79 (.getfield 40) 3 8 7 2, e3 82 (.getfield 232) 3 2 10 0, e1 85 (.if_icmp .ge 7) 3 92, e0 88 (.iconst 1) 1, e1 89 (.goto 4) 3 93, e0 92 (.iconst 0) 1, e6 93 (.invokevirtual 121) 3 103 2 0 8 1 6, e0 96 (.iload_n 3) 1, e1 97 (.lookupswitch 47 #[(1, 27), (2, 37)]) 27 144, e0 124 (.aload_n 0) 1, e3 125 (.getfield 40) 3 8 7 2, e3 128 (.getfield 235) 3 2 11 2, e0 131 (.iload_n 2) 1, e1 132 .iaload 1 11, e0 133 .ireturn 1, e0 134 (.aload_n 0) 1, e3 135 (.getfield 40) 3 8 7 2, e3 138 (.getfield 238) 3 2 12 2, e0 141 (.iload_n 2) 1, e1 142 .iaload 1 11, e0 143 .ireturn 1, e0 144 (.aload_n 0) 1, e3 145 (.getfield 40) 3 8 7 2, e0 148 (.aload_n 0) 1, e3 149 (.getfield 25) 3 8 3 2, e3 152 (.getfield 89) 3 7 0 2, e0 155 (.iload_n 2) 1, e6 156 (.invokevirtual 241) 3 20 3 1 2 0 0, e0 159 .ireturn 1]
set_option maxRecDepth 100000 in
def tb_X7_walkAt : List tr_En := [e0 0 (.aload_n 0) 1, e0 1 (.aload_n 0) 1, e0 2 (.iload_n 1) 1, e6 3 (.invokevirtual 207) 3 108 2 1 8 0 0, e6 6 (.invokevirtual 65) 3 104 2 0 8 1 6, e0 9 (.aload_n 0) 1, e3 10 (.getfield 40) 3 8 7 2, e0 13 (.aload_n 0) 1, e3 14 (.getfield 25) 3 8 3 2, e0 17 (.iload_n 1) 1, e6 18 (.invokevirtual 210) 3 8 3 0 2 0 0, e0 21 (.aload_n 0) 1, e3 22 (.getfield 40) 3 8 7 2, e0 25 (.aload_n 0) 1, e3 26 (.getfield 25) 3 8 3 2, e3 29 (.getfield 89) 3 7 0 2, e6 32 (.invokevirtual 223) 3 11 2 0 2 0 0, e0 35 (.aload_n 0) 1, e0 36 (.aload_n 0) 1, e3 37 (.getfield 40) 3 8 7 2, e3 40 (.getfield 226) 3 2 9 0, e1 43 (.ifCond .le 22) 3 65, e0 46 (.iload_n 2) 1, e1 47 (.ifCond .lt 18) 3 65, e0 50 (.iload_n 2) 1, e0 51 (.aload_n 0) 1, e3 52 (.getfield 40) 3 8 7 2, e3 55 (.getfield 232) 3 2 10 0, e1 58 (.if_icmp .ge 7) 3 65, e0 61 (.iconst 1) 1, e1 62 (.goto 4) 3 66, e0 65 (.iconst 0) 1, e6 66 (.invokevirtual 121) 3 103 2 0 8 1 6, e0 69 (.aload_n 0) 1, e0 70 (.iload_n 3) 1, e1 71 (.ifCond .lt 20) 3 91, e0 74 (.iload_n 3) 1, e0 75 (.aload_n 0) 1, e3 76 (.getfield 40) 3 8 7 2, e3 79 (.getfield 238) 3 2 12 2, e0 82 (.iload_n 2) 1, e1 83 .iaload 1 11, e1 84 (.if_icmp .ge 7) 3 91, e0 87 (.iconst 1) 1, e1 88 (.goto 4) 3 92, e0 91 (.iconst 0) 1, e6 92 (.invokevirtual 121) 3 103 2 0 8 1 6, e0 95 (.aload_n 0) 1, e3 96 (.getfield 40) 3 8 7 2, e0 99 (.iload_n 2) 1, e0 100 (.iload_n 3) 1, e6 101 (.invokevirtual 245) 3 19 3 1 2 0 0, e0 104 .ireturn 1]
set_option maxRecDepth 100000 in
def tb_X7_joined : List tr_En := [e0 0 (.aload_n 0) 1, e0 1 (.iload_n 1) 1, e1 2 (.ifCond .lt 12) 3 14, e0 5 (.iload_n 1) 1, e0 6 (.iconst 4) 1, e1 7 (.if_icmp .gt 7) 3 14, e0 10 (.iconst 1) 1, e1 11 (.goto 4) 3 15, e0 14 (.iconst 0) 1, e6 15 (.invokevirtual 65) 3 104 2 0 8 1 6, e0 18 (.iconst 0) 1, e0 19 (.istore_n 2) 1, e0 20 (.iconst 0) 1, e0 21 (.istore_n 3) 1, e0 22 (.iload_n 3) 1, e0 23 (.aload_n 0) 1, e3 24 (.getfield 25) 3 8 3 2, e3 27 (.getfield 89) 3 7 0 2, e3 30 (.getfield 137) 3 3 6 2, e0 33 (.iconst 4) 1, e1 34 .iaload 1 11, e1 35 (.if_icmp .ge 62) 3 97, e0 38 (.aload_n 0) 1, e3 39 (.getfield 40) 3 8 7 2, e0 42 (.aload_n 0) 1, e3 43 (.getfield 25) 3 8 3 2, e0 46 (.iload_n 3) 1, e6 47 (.invokevirtual 210) 3 8 3 0 2 0 0, e0 50 (.aload_n 0) 1, e3 51 (.getfield 40) 3 8 7 2, e6 54 (.invokevirtual 220) 3 10 1 1 2 0 0, e1 57 (.ifCond .eq 34) 3 91, e0 60 (.aload_n 0) 1, e3 61 (.getfield 40) 3 8 7 2, e0 64 (.aload_n 0) 1, e3 65 (.getfield 25) 3 8 3 2, e3 68 (.getfield 89) 3 7 0 2, e6 71 (.invokevirtual 223) 3 11 2 0 2 0 0, e0 74 (.iload_n 2) 1, e0 75 (.aload_n 0) 1, e0 76 (.iload_n 1) 1, e0 77 (.iload_n 3) 1, e6 78 (.invokevirtual 249) 3 112 3 1 8 0 0, e1 81 (.ifCond .eq 7) 3 88, e0 84 (.iconst 1) 1, e1 85 (.goto 4) 3 89, e0 88 (.iconst 0) 1, e0 89 .iadd 1, e0 90 (.istore_n 2) 1, e0 91 (.iinc 3 1) 3, e1 94 (.goto (-72)) 3 22, e0 97 (.iload_n 2) 1, e0 98 .ireturn 1]
set_option maxRecDepth 100000 in
def tb_X7_estimate : List tr_En := [e0 0 (.aload_n 0) 1, e0 1 (.iload_n 1) 1, e1 2 (.ifCond .lt 12) 3 14, e0 5 (.iload_n 1) 1, e0 6 (.iconst 3) 1, e1 7 (.if_icmp .gt 7) 3 14, e0 10 (.iconst 1) 1, e1 11 (.goto 4) 3 15, e0 14 (.iconst 0) 1, e6 15 (.invokevirtual 65) 3 104 2 0 8 1 6, e0 18 (.aload_n 0) 1, e0 19 (.iload_n 3) 1, e1 20 (.ifCond .lt 13) 3 33, e0 23 (.iload_n 3) 1, e0 24 (.bipush 6) 2, e1 26 (.if_icmp .gt 7) 3 33, e0 29 (.iconst 1) 1, e1 30 (.goto 4) 3 34, e0 33 (.iconst 0) 1, e6 34 (.invokevirtual 65) 3 104 2 0 8 1 6, e0 37 (.aload_n 0) 1, e0 38 (.aload_n 0) 1, e0 39 (.iload_n 1) 1, e0 40 (.iload_n 2) 1, e6 41 (.invokevirtual 252) 3 115 3 1 8 0 0, e6 44 (.invokevirtual 121) 3 103 2 0 8 1 6, e0 47 (.aload_n 0) 1, e0 48 (.iload_n 1) 1, e0 49 (.iload_n 2) 1, e6 50 (.invokevirtual 255) 3 116 3 0 8 0 0, e0 53 (.aload_n 0) 1, e3 54 (.getfield 25) 3 8 3 2, e3 57 (.getfield 89) 3 7 0 2, e3 60 (.getfield 137) 3 3 6 2, e0 63 (.iconst 1) 1, e1 64 .iaload 1 11, e0 65 .i2l 1, e0 66 (.lstore 4) 2, e0 68 (.aload_n 0) 1, e3 69 (.getfield 25) 3 8 3 2, e3 72 (.getfield 89) 3 7 0 2, e3 75 (.getfield 137) 3 3 6 2, e0 78 (.iconst 2) 1, e1 79 .iaload 1 11, e0 80 .i2l 1, e0 81 (.lstore 6) 2, e0 83 (.iload_n 3) 1, e1 84 (.tableswitch 106 0 4 #[36, 36, 74, 82, 82]) 36 190, e0 120 (.lload 4) 2, e0 122 (.aload_n 0) 1, e3 123 (.getfield 54) 3 8 9 2, e0 126 (.aload_n 0) 1, e3 127 (.getfield 25) 3 8 3 2, e3 130 (.getfield 89) 3 7 0 2, e3 133 (.getfield 137) 3 3 6 2, e0 136 (.iconst 3) 1, e1 137 .iaload 1 11, e6 138 (.invokevirtual 259) 3 62 2 2 6 0 0, e0 141 .lmul 1, e0 142 (.lload 6) 2, e0 144 (.iload_n 3) 1, e0 145 (.iconst 1) 1, e1 146 (.if_icmp .ne 7) 3 153, e0 149 (.iconst 1) 1, e1 150 (.goto 4) 3 154, e0 153 (.iconst 0) 1, e3 154 (.invokestatic 263) 3 117 3 2, e0 157 .lreturn 1, e0 158 (.aload_n 0) 1, e3 159 (.getfield 54) 3 8 9 2, e3 162 (.getfield 267) 3 6 3 1, e0 165 .lreturn 1, e0 166 (.aload_n 0) 1, e3 167 (.getfield 54) 3 8 9 2, e0 170 (.iconst 0) 1, e6 171 (.invokevirtual 271) 3 63 2 2 6 0 0, e0 174 (.lload 6) 2, e0 176 (.iload_n 3) 1, e0 177 (.iconst 4) 1, e1 178 (.if_icmp .ne 7) 3 185, e0 181 (.iconst 1) 1, e1 182 (.goto 4) 3 186, e0 185 (.iconst 0) 1, e3 186 (.invokestatic 263) 3 117 3 2, e0 189 .lreturn 1, e0 190 (.aload_n 0) 1, e3 191 (.getfield 54) 3 8 9 2, e0 194 (.iconst 1) 1, e6 195 (.invokevirtual 271) 3 63 2 2 6 0 0, e0 198 (.lload 4) 2, e0 200 (.lload 6) 2, e0 202 .lmul 1, e0 203 (.lload 6) 2, e0 205 .lmul 1, e0 206 (.iload_n 3) 1, e0 207 (.bipush 6) 2, e1 209 (.if_icmp .ne 7) 3 216, e0 212 (.iconst 1) 1, e1 213 (.goto 4) 3 217, e0 216 (.iconst 0) 1, e3 217 (.invokestatic 263) 3 117 3 2, e0 220 .lreturn 1]
set_option maxRecDepth 100000 in
def tb_X7_matrix : List tr_En := [e0 0 (.aload_n 0) 1, e0 1 (.aload_n 0) 1, e3 2 (.getfield 25) 3 8 3 2, e3 5 (.getfield 89) 3 7 0 2, e0 8 (.iload_n 1) 1, e6 9 (.invokevirtual 93) 3 27 2 1 3 0 0, e1 12 (.ifCond .eq 21) 3 33, e0 15 (.aload_n 0) 1, e3 16 (.getfield 25) 3 8 3 2, e3 19 (.getfield 89) 3 7 0 2, e0 22 (.iload_n 2) 1, e6 23 (.invokevirtual 93) 3 27 2 1 3 0 0, e1 26 (.ifCond .eq 7) 3 33, e0 29 (.iconst 1) 1, e1 30 (.goto 4) 3 34, e0 33 (.iconst 0) 1, e6 34 (.invokevirtual 121) 3 103 2 0 8 1 6, e0 37 (.aload_n 0) 1, e0 38 (.iload_n 3) 1, e1 39 (.ifCond .lt 12) 3 51, e0 42 (.iload_n 3) 1, e0 43 (.iconst 2) 1, e1 44 (.if_icmp .gt 7) 3 51, e0 47 (.iconst 1) 1, e1 48 (.goto 4) 3 52, e0 51 (.iconst 0) 1, e6 52 (.invokevirtual 65) 3 104 2 0 8 1 6, e0 55 (.iload_n 3) 1, e0 56 (.iconst 2) 1, e1 57 (.if_icmp .ne 14) 3 71, e0 60 (.aload_n 0) 1, e3 61 (.getfield 25) 3 8 3 2, e0 64 (.iload_n 1) 1, e0 65 (.iload_n 2) 1, e6 66 (.invokevirtual 275) 3 71 3 1 7 0 0, e0 69 .i2l 1, e0 70 .lreturn 1, e0 71 (.aload_n 0) 1, e0 72 (.iload_n 1) 1, e0 73 (.iload_n 2) 1, e6 74 (.invokevirtual 278) 3 114 3 2 8 0 0, e0 77 (.lstore 4) 2, e0 79 (.aload_n 0) 1, e3 80 (.getfield 25) 3 8 3 2, e3 83 (.getfield 89) 3 7 0 2, e3 86 (.getfield 137) 3 3 6 2, e0 89 (.iconst 1) 1, e1 90 .iaload 1 11, e0 91 .i2l 1, e0 92 (.lload 4) 2, e0 94 .lmul 1, e0 95 (.aload_n 0) 1, e3 96 (.getfield 25) 3 8 3 2, e3 99 (.getfield 89) 3 7 0 2, e3 102 (.getfield 137) 3 3 6 2, e0 105 (.iconst 2) 1, e1 106 .iaload 1 11, e0 107 .i2l 1, e0 108 (.iload_n 3) 1, e0 109 (.iconst 1) 1, e1 110 (.if_icmp .ne 7) 3 117, e0 113 (.iconst 1) 1, e1 114 (.goto 4) 3 118, e0 117 (.iconst 0) 1, e3 118 (.invokestatic 263) 3 117 3 2, e0 121 .lreturn 1]
set_option maxRecDepth 100000 in
def tb_X7_fates : List tr_En := [e0 0 (.aload_n 0) 1, e0 1 (.iload_n 1) 1, e1 2 (.ifCond .lt 12) 3 14, e0 5 (.iload_n 1) 1, e0 6 (.iconst 3) 1, e1 7 (.if_icmp .gt 7) 3 14, e0 10 (.iconst 1) 1, e1 11 (.goto 4) 3 15, e0 14 (.iconst 0) 1, e6 15 (.invokevirtual 65) 3 104 2 0 8 1 6, e0 18 (.aload_n 0) 1, e3 19 (.getfield 25) 3 8 3 2, e0 22 (.iload_n 1) 1, e6 23 (.invokevirtual 282) 3 70 2 1 7 0 0, e0 26 .ireturn 1]
set_option maxRecDepth 100000 in
def tb_X7_leastLabels : List tr_En := [e0 0 (.aload_n 0) 1, e3 1 (.getfield 47) 3 8 8 2, e0 4 (.aload_n 0) 1, e3 5 (.getfield 25) 3 8 3 2, e0 8 (.aload_n 0) 1, e3 9 (.getfield 25) 3 8 3 2, e3 12 (.getfield 89) 3 7 0 2, e3 15 (.getfield 137) 3 3 6 2, e0 18 (.iconst 0) 1, e1 19 .iaload 1 11, e6 20 (.invokevirtual 285) 3 1 3 0 1 0 0, e0 23 (.iconst 2) 1, e0 24 (.istore_n 1) 1, e0 25 (.iload_n 1) 1, e0 26 (.bipush 64) 2, e1 28 (.if_icmp .gt 34) 3 62, e0 31 (.aload_n 0) 1, e3 32 (.getfield 47) 3 8 8 2, e0 35 (.aload_n 0) 1, e3 36 (.getfield 25) 3 8 3 2, e3 39 (.getfield 89) 3 7 0 2, e3 42 (.getfield 137) 3 3 6 2, e0 45 (.iconst 3) 1, e1 46 .iaload 1 11, e0 47 (.iload_n 1) 1, e6 48 (.invokevirtual 286) 3 4 3 1 1 0 0, e1 51 (.ifCond .ne 5) 3 56, e0 54 (.iload_n 1) 1, e0 55 .ireturn 1, e0 56 (.iinc 1 1) 3, e1 59 (.goto (-34)) 3 25, e0 62 (.iconst (-1)) 1, e0 63 .ireturn 1]
set_option maxRecDepth 100000 in
def tb_X7_unlike : List tr_En := [e0 0 (.aload_n 0) 1, e0 1 (.iload_n 1) 1, e1 2 (.ifCond .lt 13) 3 15, e0 5 (.iload_n 1) 1, e0 6 (.bipush 10) 2, e1 8 (.if_icmp .gt 7) 3 15, e0 11 (.iconst 1) 1, e1 12 (.goto 4) 3 16, e0 15 (.iconst 0) 1, e6 16 (.invokevirtual 65) 3 104 2 0 8 1 6, e0 19 (.aload_n 0) 1, e3 20 (.getfield 25) 3 8 3 2, e3 23 (.getfield 89) 3 7 0 2, e3 26 (.getfield 137) 3 3 6 2, e0 29 (.iconst 4) 1, e1 30 .iaload 1 11, e0 31 .i2l 1, e0 32 (.lstore_n 3) 1, e0 33 (.lconst 1) 1, e0 34 (.lstore 5) 2, e0 36 (.lconst 1) 1, e0 37 (.lstore 7) 2, e0 39 (.iconst 0) 1, e0 40 (.istore 9) 2, e0 42 (.iload 9) 2, e0 44 (.iload_n 1) 1, e1 45 (.if_icmp .ge 25) 3 70, e0 48 (.lload 5) 2, e0 50 (.lload_n 3) 1, e0 51 (.iload 9) 2, e0 53 .i2l 1, e0 54 .lsub 1, e0 55 .lmul 1, e0 56 (.lstore 5) 2, e0 58 (.lload 7) 2, e0 60 (.lload_n 3) 1, e0 61 .lmul 1, e0 62 (.lstore 7) 2, e0 64 (.iinc 9 1) 3, e1 67 (.goto (-25)) 3 42, e0 70 (.lload 5) 2, e0 72 (.lload 7) 2, e0 74 (.iload_n 2) 1, e3 75 (.invokestatic 263) 3 117 3 2, e0 78 .lreturn 1]
set_option maxRecDepth 100000 in
def tb_X7_clashes : List tr_En := [e0 0 (.aload_n 0) 1, e0 1 (.iload_n 1) 1, e0 2 (.iconst 2) 1, e1 3 (.if_icmp .lt 13) 3 16, e0 6 (.iload_n 1) 1, e0 7 (.bipush 64) 2, e1 9 (.if_icmp .gt 7) 3 16, e0 12 (.iconst 1) 1, e1 13 (.goto 4) 3 17, e0 16 (.iconst 0) 1, e6 17 (.invokevirtual 65) 3 104 2 0 8 1 6, e0 20 (.aload_n 0) 1, e0 21 (.iload_n 1) 1, e6 22 (.invokevirtual 153) 3 110 2 1 8 0 0, e0 25 .ireturn 1]
set_option maxRecDepth 100000 in
def tb_X7_bestKey : List tr_En := [e0 0 (.aload_n 0) 1, e0 1 (.iload_n 1) 1, e1 2 (.ifCond .lt 13) 3 15, e0 5 (.iload_n 1) 1, e0 6 (.bipush 40) 2, e1 8 (.if_icmp .gt 7) 3 15, e0 11 (.iconst 1) 1, e1 12 (.goto 4) 3 16, e0 15 (.iconst 0) 1, e6 16 (.invokevirtual 65) 3 104 2 0 8 1 6, e0 19 (.aload_n 0) 1, e0 20 (.iload_n 2) 1, e1 21 (.ifCond .eq 8) 3 29, e0 24 (.iload_n 2) 1, e0 25 (.iconst 1) 1, e1 26 (.if_icmp .ne 7) 3 33, e0 29 (.iconst 1) 1, e1 30 (.goto 4) 3 34, e0 33 (.iconst 0) 1, e6 34 (.invokevirtual 65) 3 104 2 0 8 1 6, e0 37 (.aload_n 0) 1, e3 38 (.getfield 47) 3 8 8 2, e0 41 (.aload_n 0) 1, e3 42 (.getfield 25) 3 8 3 2, e0 45 (.aload_n 0) 1, e3 46 (.getfield 25) 3 8 3 2, e3 49 (.getfield 89) 3 7 0 2, e3 52 (.getfield 137) 3 3 6 2, e0 55 (.iconst 0) 1, e1 56 .iaload 1 11, e6 57 (.invokevirtual 285) 3 1 3 0 1 0 0, e0 60 (.iconst (-1)) 1, e0 61 (.istore_n 3) 1, e0 62 (.iconst (-1)) 1, e0 63 (.istore 4) 2, e0 65 (.iconst 0) 1, e0 66 (.istore 5) 2, e0 68 (.iload 5) 2, e0 70 (.aload_n 0) 1, e3 71 (.getfield 25) 3 8 3 2, e3 74 (.getfield 89) 3 7 0 2, e3 77 (.getfield 137) 3 3 6 2, e0 80 (.iconst 1) 1, e1 81 .iaload 1 11, e1 82 (.if_icmp .ge 64) 3 146, e0 85 (.aload_n 0) 1, e3 86 (.getfield 47) 3 8 8 2, e0 89 (.iload 5) 2, e6 91 (.invokevirtual 289) 3 3 2 1 1 0 0, e0 94 (.iload_n 1) 1, e1 95 (.if_icmp .lt 45) 3 140, e0 98 (.aload_n 0) 1, e3 99 (.getfield 47) 3 8 8 2, e0 102 (.iload 5) 2, e0 104 (.aload_n 0) 1, e3 105 (.getfield 25) 3 8 3 2, e3 108 (.getfield 89) 3 7 0 2, e3 111 (.getfield 137) 3 3 6 2, e0 114 (.iconst 4) 1, e1 115 .iaload 1 11, e6 116 (.invokevirtual 286) 3 4 3 1 1 0 0, e0 119 (.istore 6) 2, e0 121 (.iload_n 3) 1, e0 122 (.iconst (-1)) 1, e1 123 (.if_icmp .eq 10) 3 133, e0 126 (.iload 6) 2, e0 128 (.iload 4) 2, e1 130 (.if_icmp .ge 10) 3 140, e0 133 (.iload 5) 2, e0 135 (.istore_n 3) 1, e0 136 (.iload 6) 2, e0 138 (.istore 4) 2, e0 140 (.iinc 5 1) 3, e1 143 (.goto (-75)) 3 68, e0 146 (.iload_n 2) 1, e1 147 (.ifCond .ne 7) 3 154, e0 150 (.iload_n 3) 1, e1 151 (.goto 5) 3 156, e0 154 (.iload 4) 2, e0 156 .ireturn 1]
set_option maxRecDepth 100000 in
def tb_X7_bestMask : List tr_En := [e0 0 (.aload_n 0) 1, e0 1 (.iload_n 1) 1, e1 2 (.ifCond .eq 8) 3 10, e0 5 (.iload_n 1) 1, e0 6 (.iconst 1) 1, e1 7 (.if_icmp .ne 7) 3 14, e0 10 (.iconst 1) 1, e1 11 (.goto 4) 3 15, e0 14 (.iconst 0) 1, e6 15 (.invokevirtual 65) 3 104 2 0 8 1 6, e0 18 (.iconst (-1)) 1, e0 19 (.istore_n 2) 1, e0 20 (.iconst (-1)) 1, e0 21 (.istore_n 3) 1, e0 22 (.iconst 1) 1, e0 23 (.istore 4) 2, e0 25 (.iload 4) 2, e0 27 (.bipush 15) 2, e1 29 (.if_icmp .gt 43) 3 72, e0 32 (.aload_n 0) 1, e3 33 (.getfield 47) 3 8 8 2, e0 36 (.aload_n 0) 1, e3 37 (.getfield 25) 3 8 3 2, e0 40 (.iload 4) 2, e6 42 (.invokevirtual 285) 3 1 3 0 1 0 0, e0 45 (.aload_n 0) 1, e3 46 (.getfield 47) 3 8 8 2, e6 49 (.invokevirtual 291) 3 5 1 1 1 0 0, e0 52 (.istore 5) 2, e0 54 (.iload 5) 2, e0 56 (.iload_n 3) 1, e1 57 (.if_icmp .le 9) 3 66, e0 60 (.iload 4) 2, e0 62 (.istore_n 2) 1, e0 63 (.iload 5) 2, e0 65 (.istore_n 3) 1, e0 66 (.iinc 4 1) 3, e1 69 (.goto (-44)) 3 25, e0 72 (.iload_n 1) 1, e1 73 (.ifCond .ne 7) 3 80, e0 76 (.iload_n 2) 1, e1 77 (.goto 4) 3 81, e0 80 (.iload_n 3) 1, e0 81 .ireturn 1]
set_option maxRecDepth 100000 in
def tb_X7_print : List tr_En := [e0 0 (.lconst 0) 1, e0 1 (.lstore_n 1) 1, e0 2 (.iconst 0) 1, e0 3 (.istore_n 3) 1, e0 4 (.iload_n 3) 1, e0 5 (.aload_n 0) 1, e3 6 (.getfield 25) 3 8 3 2, e3 9 (.getfield 115) 3 7 2 0, e1 12 (.if_icmp .ge 97) 3 109, e0 15 (.aload_n 0) 1, e3 16 (.getfield 25) 3 8 3 2, e3 19 (.getfield 163) 3 7 1 2, e0 22 (.iload_n 3) 1, e1 23 .aaload 1 16, e0 24 (.astore 4) 2, e3 26 (.ldc2_w 294) 3 0 31 0, e0 29 (.lload_n 1) 1, e0 30 .lmul 1, e0 31 (.aload 4) 2, e3 33 (.getfield 182) 3 4 9 0, e0 36 .i2l 1, e0 37 .ladd 1, e0 38 (.lstore_n 1) 1, e0 39 (.iconst 0) 1, e0 40 (.istore 5) 2, e0 42 (.iload 5) 2, e0 44 (.aload 4) 2, e3 46 (.getfield 185) 3 4 8 0, e1 49 (.if_icmp .ge 54) 3 103, e0 52 (.aload_n 0) 1, e3 53 (.getfield 25) 3 8 3 2, e3 56 (.getfield 89) 3 7 0 2, e0 59 (.aload 4) 2, e0 61 (.iload 5) 2, e6 63 (.invokevirtual 203) 3 34 3 1 3 0 0, e1 66 (.ifCond .eq 8) 3 74, e0 69 (.bipush 16) 2, e1 71 (.goto 4) 3 75, e0 74 (.iconst 0) 1, e0 75 (.istore 6) 2, e3 77 (.ldc2_w 294) 3 0 31 0, e0 80 (.lload_n 1) 1, e0 81 .lmul 1, e0 82 (.aload 4) 2, e3 84 (.getfield 195) 3 4 6 2, e0 87 (.iload 5) 2, e1 89 .iaload 1 11, e0 90 .i2l 1, e0 91 .ladd 1, e0 92 (.iload 6) 2, e0 94 .i2l 1, e0 95 .ladd 1, e0 96 (.lstore_n 1) 1, e0 97 (.iinc 5 1) 3, e1 100 (.goto (-58)) 3 42, e0 103 (.iinc 3 1) 3, e1 106 (.goto (-102)) 3 4, e0 109 (.lload_n 1) 1, e0 110 .lreturn 1]
set_option maxRecDepth 100000 in
def tb_X7_status : List tr_En := [e0 0 (.iload_n 1) 1, e1 1 (.ifCond .lt 21) 3 22, e0 4 (.iload_n 1) 1, e0 5 (.aload_n 0) 1, e3 6 (.getfield 33) 3 8 6 2, e1 9 .arraylength 1 11, e1 10 (.if_icmp .ge 12) 3 22, e0 13 (.aload_n 0) 1, e3 14 (.getfield 33) 3 8 6 2, e0 17 (.iload_n 1) 1, e1 18 .iaload 1 11, e1 19 (.goto 4) 3 23, e0 22 (.iconst (-1)) 1, e0 23 .ireturn 1]
set_option maxRecDepth 100000 in
def tb_X7_find : List tr_En := [e0 0 (.iload_n 1) 1, e1 1 (.ifCond .ne 24) 3 25, e0 4 (.aload_n 0) 1, e3 5 (.getfield 33) 3 8 6 2, e0 8 (.iconst 0) 1, e0 9 .dup2 1, e1 10 .iaload 1 11, e0 11 (.iconst 1) 1, e0 12 .iadd 1, e1 13 .iastore 1 11, e3 14 (.new 296) 3 0 0 1, e0 17 .dup 1, e3 18 (.ldc_w 298) 3 0 99 1, e1 21 (.invokespecial 300) 3 9999, e0 24 .athrow 1, e0 25 .return_ 1]
set_option maxRecDepth 100000 in
def tb_X7_require : List tr_En := [e0 0 (.iload_n 1) 1, e1 1 (.ifCond .ne 24) 3 25, e0 4 (.aload_n 0) 1, e3 5 (.getfield 33) 3 8 6 2, e0 8 (.iconst 1) 1, e0 9 .dup2 1, e1 10 .iaload 1 11, e0 11 (.iconst 1) 1, e0 12 .iadd 1, e1 13 .iastore 1 11, e3 14 (.new 303) 3 1 0 1, e0 17 .dup 1, e3 18 (.ldc_w 305) 3 0 99 1, e1 21 (.invokespecial 307) 3 9999, e0 24 .athrow 1, e0 25 .return_ 1]
set_option maxRecDepth 100000 in
def tb_X7_refuseWhenFull : List tr_En := [e0 0 (.aload_n 0) 1, e3 1 (.getfield 25) 3 8 3 2, e3 4 (.getfield 115) 3 7 2 0, e0 7 (.bipush 40) 2, e1 9 (.if_icmp .lt 24) 3 33, e0 12 (.aload_n 0) 1, e3 13 (.getfield 33) 3 8 6 2, e0 16 (.iconst 2) 1, e0 17 .dup2 1, e1 18 .iaload 1 11, e0 19 (.iconst 1) 1, e0 20 .iadd 1, e1 21 .iastore 1 11, e3 22 (.new 308) 3 2 0 1, e0 25 .dup 1, e3 26 (.ldc_w 310) 3 0 99 1, e1 29 (.invokespecial 312) 3 9999, e0 32 .athrow 1, e0 33 .return_ 1]
set_option maxRecDepth 100000 in
def tb_X7_putOnTape : List tr_En := [e0 0 (.bipush 24) 2, e0 2 (.istore_n 2) 1, e0 3 (.iload_n 2) 1, e1 4 (.ifCond .lt 42) 3 46, e0 7 (.aload_n 0) 1, e3 8 (.getfield 58) 3 8 1 0, e0 11 (.sipush 400) 3, e1 14 (.if_icmp .ge 32) 3 46, e0 17 (.aload_n 0) 1, e3 18 (.getfield 9) 3 8 0 2, e0 21 (.aload_n 0) 1, e3 22 (.getfield 58) 3 8 1 0, e0 25 (.iload_n 1) 1, e0 26 (.iload_n 2) 1, e0 27 .ishr 1, e0 28 .i2b 1, e1 29 .bastore 1 12, e0 30 (.aload_n 0) 1, e0 31 .dup 1, e3 32 (.getfield 58) 3 8 1 0, e0 35 (.iconst 1) 1, e0 36 .iadd 1, e3 37 (.putfield 58) 3 8 1 0, e0 40 (.iinc 2 (-8)) 3, e1 43 (.goto (-40)) 3 3, e0 46 .return_ 1]
set_option maxRecDepth 100000 in
def tb_X7_keepState : List tr_En := [e0 0 (.aload_n 0) 1, e3 1 (.getfield 86) 3 8 5 0, e0 4 (.bipush 12) 2, e1 6 (.if_icmp .ne 28) 3 34, e0 9 (.aload_n 0) 1, e3 10 (.getfield 29) 3 8 4 2, e0 13 (.iconst 1) 1, e0 14 (.aload_n 0) 1, e3 15 (.getfield 29) 3 8 4 2, e0 18 (.iconst 0) 1, e0 19 (.bipush 11) 2, e1 21 (.invokestatic 313) 3 1003, e0 24 (.aload_n 0) 1, e0 25 .dup 1, e3 26 (.getfield 86) 3 8 5 0, e0 29 (.iconst 1) 1, e0 30 .isub 1, e3 31 (.putfield 86) 3 8 5 0, e0 34 (.aload_n 0) 1, e3 35 (.getfield 29) 3 8 4 2, e0 38 (.aload_n 0) 1, e3 39 (.getfield 86) 3 8 5 0, e0 42 (.aload_n 0) 1, e3 43 (.getfield 25) 3 8 3 2, e3 46 .aastore 1 15 7 0, e0 47 (.aload_n 0) 1, e0 48 .dup 1, e3 49 (.getfield 86) 3 8 5 0, e0 52 (.iconst 1) 1, e0 53 .iadd 1, e3 54 (.putfield 86) 3 8 5 0, e0 57 (.aload_n 0) 1, e3 58 (.new 17) 3 7 3 0, e0 61 .dup 1, e0 62 (.aload_n 0) 1, e3 63 (.getfield 25) 3 8 3 2, e6 66 (.invokespecial 319) 3 65 2 0 7 5 176, e3 69 (.putfield 25) 3 8 3 2, e0 72 .return_ 1]
set_option maxRecDepth 100000 in
def tb_X7_isLabel : List tr_En := [e0 0 (.iload_n 1) 1, e1 1 (.ifCond .lt 23) 3 24, e0 4 (.iload_n 1) 1, e0 5 (.aload_n 0) 1, e3 6 (.getfield 25) 3 8 3 2, e3 9 (.getfield 89) 3 7 0 2, e3 12 (.getfield 137) 3 3 6 2, e0 15 (.iconst 4) 1, e1 16 .iaload 1 11, e1 17 (.if_icmp .ge 7) 3 24, e0 20 (.iconst 1) 1, e1 21 (.goto 4) 3 25, e0 24 (.iconst 0) 1, e3 25 .ireturn 1 0 0 1]
set_option maxRecDepth 100000 in
def tb_X7_chosenAtFirst : List tr_En := [e0 0 (.aload_n 0) 1, e3 1 (.getfield 47) 3 8 8 2, e0 4 (.aload_n 0) 1, e3 5 (.getfield 25) 3 8 3 2, e0 8 (.aload_n 0) 1, e3 9 (.getfield 25) 3 8 3 2, e3 12 (.getfield 89) 3 7 0 2, e3 15 (.getfield 137) 3 3 6 2, e0 18 (.iconst 0) 1, e1 19 .iaload 1 11, e6 20 (.invokevirtual 285) 3 1 3 0 1 0 0, e0 23 (.aload_n 0) 1, e3 24 (.getfield 47) 3 8 8 2, e0 27 (.aload_n 0) 1, e3 28 (.getfield 25) 3 8 3 2, e3 31 (.getfield 89) 3 7 0 2, e3 34 (.getfield 137) 3 3 6 2, e0 37 (.iconst 3) 1, e1 38 .iaload 1 11, e6 39 (.invokevirtual 289) 3 3 2 1 1 0 0, e0 42 .ireturn 1]
set_option maxRecDepth 100000 in
def tb_X7_clashesAmong : List tr_En := [e0 0 (.aload_n 0) 1, e3 1 (.getfield 47) 3 8 8 2, e0 4 (.aload_n 0) 1, e3 5 (.getfield 25) 3 8 3 2, e0 8 (.aload_n 0) 1, e3 9 (.getfield 25) 3 8 3 2, e3 12 (.getfield 89) 3 7 0 2, e3 15 (.getfield 137) 3 3 6 2, e0 18 (.iconst 0) 1, e1 19 .iaload 1 11, e6 20 (.invokevirtual 285) 3 1 3 0 1 0 0, e0 23 (.aload_n 0) 1, e3 24 (.getfield 47) 3 8 8 2, e0 27 (.aload_n 0) 1, e3 28 (.getfield 25) 3 8 3 2, e3 31 (.getfield 89) 3 7 0 2, e3 34 (.getfield 137) 3 3 6 2, e0 37 (.iconst 3) 1, e1 38 .iaload 1 11, e0 39 (.iload_n 1) 1, e6 40 (.invokevirtual 286) 3 4 3 1 1 0 0, e0 43 .ireturn 1]
set_option maxRecDepth 100000 in
def tb_X7_walksOrWhyNone : List tr_En := [e0 0 (.aload_n 0) 1, e3 1 (.getfield 40) 3 8 7 2, e3 4 (.getfield 226) 3 2 9 0, e0 7 (.bipush (-2)) 2, e1 9 (.if_icmp .ne 6) 3 15, e0 12 (.bipush (-2)) 2, e0 14 .ireturn 1, e0 15 (.aload_n 0) 1, e3 16 (.getfield 40) 3 8 7 2, e3 19 (.getfield 226) 3 2 9 0, e1 22 (.ifCond .ne 8) 3 30, e0 25 (.bipush (-3)) 2, e1 27 (.goto 10) 3 37, e0 30 (.aload_n 0) 1, e3 31 (.getfield 40) 3 8 7 2, e3 34 (.getfield 232) 3 2 10 0, e0 37 .ireturn 1]
set_option maxRecDepth 100000 in
def tb_X7_isJoinedAs : List tr_En := [e0 0 (.iload_n 1) 1, e1 1 (.tableswitch 99 0 3 #[31, 48, 65, 81]) 31 100, e0 32 (.aload_n 0) 1, e3 33 (.getfield 40) 3 8 7 2, e3 36 (.getfield 226) 3 2 9 0, e0 39 (.iconst 1) 1, e1 40 (.if_icmp .ne 7) 3 47, e0 43 (.iconst 1) 1, e1 44 (.goto 4) 3 48, e0 47 (.iconst 0) 1, e3 48 .ireturn 1 0 0 1, e0 49 (.aload_n 0) 1, e3 50 (.getfield 40) 3 8 7 2, e3 53 (.getfield 226) 3 2 9 0, e0 56 (.iconst 1) 1, e1 57 (.if_icmp .le 7) 3 64, e0 60 (.iconst 1) 1, e1 61 (.goto 4) 3 65, e0 64 (.iconst 0) 1, e3 65 .ireturn 1 0 0 1, e0 66 (.aload_n 0) 1, e3 67 (.getfield 40) 3 8 7 2, e3 70 (.getfield 226) 3 2 9 0, e1 73 (.ifCond .ne 7) 3 80, e0 76 (.iconst 1) 1, e1 77 (.goto 4) 3 81, e0 80 (.iconst 0) 1, e3 81 .ireturn 1 0 0 1, e0 82 (.aload_n 0) 1, e3 83 (.getfield 40) 3 8 7 2, e3 86 (.getfield 226) 3 2 9 0, e0 89 (.bipush (-2)) 2, e1 91 (.if_icmp .ne 7) 3 98, e0 94 (.iconst 1) 1, e1 95 (.goto 4) 3 99, e0 98 (.iconst 0) 1, e3 99 .ireturn 1 0 0 1, e0 100 (.aload_n 0) 1, e3 101 (.getfield 40) 3 8 7 2, e3 104 (.getfield 226) 3 2 9 0, e0 107 (.iconst 1) 1, e1 108 (.if_icmp .ne 15) 3 123, e0 111 (.aload_n 0) 1, e0 112 (.iload_n 2) 1, e6 113 (.invokevirtual 322) 3 113 2 1 8 0 0, e1 116 (.ifCond .eq 7) 3 123, e0 119 (.iconst 1) 1, e1 120 (.goto 4) 3 124, e0 123 (.iconst 0) 1, e3 124 .ireturn 1 0 0 1]
set_option maxRecDepth 100000 in
def tb_X7_walksAreTrails : List tr_En := [e0 0 (.aload_n 0) 1, e3 1 (.getfield 40) 3 8 7 2, e6 4 (.invokevirtual 325) 3 22 1 0 2 0 0, e0 7 (.iconst 0) 1, e0 8 (.istore_n 2) 1, e0 9 (.iload_n 2) 1, e0 10 (.aload_n 0) 1, e3 11 (.getfield 25) 3 8 3 2, e3 14 (.getfield 115) 3 7 2 0, e1 17 (.if_icmp .ge 74) 3 91, e0 20 (.aload_n 0) 1, e3 21 (.getfield 25) 3 8 3 2, e3 24 (.getfield 163) 3 7 1 2, e0 27 (.iload_n 2) 1, e1 28 .aaload 1 16, e0 29 (.astore_n 3) 1, e0 30 (.aload_n 0) 1, e3 31 (.getfield 25) 3 8 3 2, e3 34 (.getfield 89) 3 7 0 2, e0 37 (.aload_n 3) 1, e6 38 (.invokevirtual 188) 3 36 2 1 3 0 0, e0 41 (.iload_n 1) 1, e1 42 (.if_icmp .ne 22) 3 64, e0 45 (.aload_n 0) 1, e3 46 (.getfield 25) 3 8 3 2, e3 49 (.getfield 89) 3 7 0 2, e0 52 (.aload_n 3) 1, e0 53 (.iconst 0) 1, e6 54 (.invokevirtual 203) 3 34 3 1 3 0 0, e1 57 (.ifCond .eq 7) 3 64, e0 60 (.iconst 1) 1, e1 61 (.goto 4) 3 65, e0 64 (.iconst 0) 1, e0 65 (.istore 4) 2, e0 67 (.iload 4) 2, e1 69 (.ifCond .eq 16) 3 85, e0 72 (.aload_n 0) 1, e3 73 (.getfield 40) 3 8 7 2, e0 76 (.aload_n 3) 1, e6 77 (.invokevirtual 328) 3 23 2 1 2 0 0, e1 80 (.ifCond .ne 5) 3 85, e0 83 (.iconst 0) 1, e3 84 .ireturn 1 0 0 1, e0 85 (.iinc 2 1) 3, e1 88 (.goto (-79)) 3 9, e0 91 (.iconst 1) 1, e3 92 .ireturn 1 0 0 1]
set_option maxRecDepth 100000 in
def tb_X7_sureWalks : List tr_En := [e0 0 (.lconst 0) 1, e0 1 (.lstore_n 3) 1, e0 2 (.iconst 0) 1, e0 3 (.istore 5) 2, e0 5 (.iload 5) 2, e0 7 (.aload_n 0) 1, e3 8 (.getfield 25) 3 8 3 2, e3 11 (.getfield 89) 3 7 0 2, e3 14 (.getfield 137) 3 3 6 2, e0 17 (.iconst 4) 1, e1 18 .iaload 1 11, e1 19 (.if_icmp .ge 67) 3 86, e0 22 (.aload_n 0) 1, e3 23 (.getfield 40) 3 8 7 2, e0 26 (.aload_n 0) 1, e3 27 (.getfield 25) 3 8 3 2, e0 30 (.iload 5) 2, e6 32 (.invokevirtual 210) 3 8 3 0 2 0 0, e0 35 (.aload_n 0) 1, e3 36 (.getfield 40) 3 8 7 2, e0 39 (.aload_n 0) 1, e3 40 (.getfield 25) 3 8 3 2, e3 43 (.getfield 89) 3 7 0 2, e6 46 (.invokevirtual 223) 3 11 2 0 2 0 0, e0 49 (.aload_n 0) 1, e3 50 (.getfield 40) 3 8 7 2, e3 53 (.getfield 226) 3 2 9 0, e0 56 (.iconst 1) 1, e1 57 (.if_icmp .ne 23) 3 80, e0 60 (.lload_n 3) 1, e0 61 (.aload_n 0) 1, e3 62 (.getfield 40) 3 8 7 2, e0 65 (.aload_n 0) 1, e3 66 (.getfield 25) 3 8 3 2, e3 69 (.getfield 89) 3 7 0 2, e0 72 (.iload_n 1) 1, e0 73 (.iload_n 2) 1, e6 74 (.invokevirtual 332) 3 21 4 1 2 0 0, e0 77 .i2l 1, e0 78 .ladd 1, e0 79 (.lstore_n 3) 1, e0 80 (.iinc 5 1) 3, e1 83 (.goto (-78)) 3 5, e0 86 (.lload_n 3) 1, e0 87 .lreturn 1]
set_option maxRecDepth 100000 in
def tb_X7_isCounted : List tr_En := [e0 0 (.iload_n 1) 1, e1 1 (.lookupswitch 49 #[(0, 27), (3, 39)]) 27 50, e0 28 (.aload_n 0) 1, e3 29 (.getfield 25) 3 8 3 2, e3 32 (.getfield 89) 3 7 0 2, e0 35 (.iload_n 2) 1, e6 36 (.invokevirtual 93) 3 27 2 1 3 0 0, e3 39 .ireturn 1 0 0 1, e0 40 (.iload_n 2) 1, e1 41 (.ifCond .ne 7) 3 48, e0 44 (.iconst 1) 1, e1 45 (.goto 4) 3 49, e0 48 (.iconst 0) 1, e3 49 .ireturn 1 0 0 1, e0 50 (.aload_n 0) 1, e3 51 (.getfield 25) 3 8 3 2, e3 54 (.getfield 89) 3 7 0 2, e0 57 (.iload_n 2) 1, e6 58 (.invokevirtual 118) 3 28 2 1 3 0 0, e3 61 .ireturn 1 0 0 1]
set_option maxRecDepth 100000 in
def tb_X7_weigh : List tr_En := [e0 0 (.aload_n 0) 1, e3 1 (.getfield 25) 3 8 3 2, e3 4 (.getfield 89) 3 7 0 2, e0 7 (.astore_n 3) 1, e0 8 (.aload_n 0) 1, e3 9 (.getfield 54) 3 8 9 2, e0 12 (.aload_n 3) 1, e3 13 (.getfield 137) 3 3 6 2, e0 16 (.iconst 1) 1, e1 17 .iaload 1 11, e0 18 (.aload_n 3) 1, e3 19 (.getfield 137) 3 3 6 2, e0 22 (.iconst 2) 1, e1 23 .iaload 1 11, e6 24 (.invokevirtual 336) 3 60 3 0 6 0 0, e0 27 (.iconst 0) 1, e0 28 (.istore 4) 2, e0 30 (.iload 4) 2, e0 32 (.aload_n 0) 1, e3 33 (.getfield 25) 3 8 3 2, e3 36 (.getfield 115) 3 7 2 0, e1 39 (.if_icmp .ge 91) 3 130, e0 42 (.aload_n 0) 1, e3 43 (.getfield 25) 3 8 3 2, e3 46 (.getfield 163) 3 7 1 2, e0 49 (.iload 4) 2, e1 51 .aaload 1 16, e0 52 (.astore 5) 2, e0 54 (.iload_n 1) 1, e0 55 (.iconst 2) 1, e1 56 (.if_icmp .ne 11) 3 67, e0 59 (.aload 5) 2, e3 61 (.getfield 176) 3 4 3 0, e1 64 (.goto 4) 3 68, e0 67 (.iconst 1) 1, e0 68 (.istore 6) 2, e0 70 (.iconst 0) 1, e0 71 (.istore 7) 2, e0 73 (.iload 7) 2, e0 75 (.aload 5) 2, e3 77 (.getfield 185) 3 4 8 0, e1 80 (.if_icmp .ge 44) 3 124, e0 83 (.aload 5) 2, e0 85 (.iload 7) 2, e0 87 (.iload_n 1) 1, e0 88 (.iload_n 2) 1, e6 89 (.invokevirtual 339) 3 41 4 1 4 0 0, e1 92 (.ifCond .eq 26) 3 118, e0 95 (.aload_n 0) 1, e3 96 (.getfield 54) 3 8 9 2, e0 99 (.aload_n 3) 1, e0 100 (.aload 5) 2, e0 102 (.iload 7) 2, e0 104 (.aload_n 3) 1, e3 105 (.getfield 137) 3 3 6 2, e0 108 (.iconst 0) 1, e1 109 .iaload 1 11, e6 110 (.invokevirtual 343) 3 32 4 1 3 0 0, e0 113 (.iload 6) 2, e6 115 (.invokevirtual 347) 3 61 3 0 6 0 0, e0 118 (.iinc 7 1) 3, e1 121 (.goto (-48)) 3 73, e0 124 (.iinc 4 1) 3, e1 127 (.goto (-97)) 3 30, e0 130 .return_ 1]
set_option maxRecDepth 100000 in
def tb_X7_reduced : List tr_En := [e0 0 (.lload_n 0) 1, e0 1 (.lload_n 2) 1, e3 2 (.invokestatic 349) 3 118 2 2, e0 5 (.lstore 5) 2, e0 7 (.lload 5) 2, e0 9 (.lconst 0) 1, e0 10 .lcmp 1, e1 11 (.ifCond .ne 5) 3 16, e0 14 (.lconst 0) 1, e0 15 .lreturn 1, e0 16 (.iload 4) 2, e1 18 (.ifCond .eq 7) 3 25, e0 21 (.lload_n 2) 1, e1 22 (.goto 4) 3 26, e0 25 (.lload_n 0) 1, e0 26 (.lload 5) 2, e0 28 .ldiv 1, e0 29 .lreturn 1]
set_option maxRecDepth 100000 in
def tb_X7_commonDivisor : List tr_En := [e0 0 (.lload_n 0) 1, e0 1 (.lstore 4) 2, e0 3 (.lload_n 2) 1, e0 4 (.lstore 6) 2, e0 6 (.iconst 0) 1, e0 7 (.istore 8) 2, e0 9 (.iload 8) 2, e0 11 (.bipush 100) 2, e1 13 (.if_icmp .ge 31) 3 44, e0 16 (.lload 6) 2, e0 18 (.lconst 0) 1, e0 19 .lcmp 1, e1 20 (.ifCond .eq 24) 3 44, e0 23 (.lload 4) 2, e0 25 (.lload 6) 2, e0 27 .lrem 1, e0 28 (.lstore 9) 2, e0 30 (.lload 6) 2, e0 32 (.lstore 4) 2, e0 34 (.lload 9) 2, e0 36 (.lstore 6) 2, e0 38 (.iinc 8 1) 3, e1 41 (.goto (-32)) 3 9, e0 44 (.lload 4) 2, e0 46 .lreturn 1]
set_option maxRecDepth 100000 in
def tb_X8_thrown : List tr_En := [e0 0 (.aload_n 0) 1, e1 1 (.getfield 1) 3 9, e0 4 .ireturn 1]
set_option maxRecDepth 100000 in
def tb_X8_isFine : List tr_En := [e0 0 (.iload_n 1) 1, e1 1 (.ifCond .ne 25) 3 26, e0 4 (.aload_n 0) 1, e1 5 (.getfield 1) 3 9, e1 8 (.ifCond .ne 18) 3 26, e0 11 (.aload_n 0) 1, e0 12 (.iload_n 2) 1, e1 13 (.putfield 1) 3 9, e0 16 (.aload_n 0) 1, e3 17 (.getfield 7) 3 9 1 2, e0 20 (.iload_n 3) 1, e0 21 .dup2 1, e1 22 .iaload 1 11, e0 23 (.iconst 1) 1, e0 24 .iadd 1, e1 25 .iastore 1 11, e0 26 (.aload_n 0) 1, e1 27 (.getfield 1) 3 9, e1 30 (.ifCond .ne 7) 3 37, e0 33 (.iconst 1) 1, e1 34 (.goto 4) 3 38, e0 37 (.iconst 0) 1, e3 38 .ireturn 1 0 0 1]
set_option maxRecDepth 100000 in
def tb_X8_within : List tr_En := [e0 0 (.iload_n 0) 1, e0 1 (.iload_n 1) 1, e1 2 (.if_icmp .lt 12) 3 14, e0 5 (.iload_n 0) 1, e0 6 (.iload_n 2) 1, e1 7 (.if_icmp .gt 7) 3 14, e0 10 (.iconst 1) 1, e1 11 (.goto 4) 3 15, e0 14 (.iconst 0) 1, e3 15 .ireturn 1 0 0 1]
set_option maxRecDepth 100000 in
def tb_X8_init : List tr_En := [e0 0 (.aload_n 0) 1, e1 1 (.invokespecial 11) 3 1000, e0 4 (.aload_n 0) 1, e0 5 (.iconst 3) 1, e3 6 (.newarray .int) 2 11 3 1, e3 8 (.putfield 7) 3 9 1 2, e0 11 (.aload_n 0) 1, e0 12 (.sipush 867) 3, e3 15 (.newarray .int) 2 11 867 1, e3 17 (.putfield 17) 3 9 2 2, e0 20 (.aload_n 0) 1, e0 21 (.sipush 867) 3, e3 24 (.newarray .int) 2 11 867 1, e3 26 (.putfield 20) 3 9 3 2, e0 29 (.aload_n 0) 1, e0 30 (.sipush 10404) 3, e3 33 (.newarray .int) 2 11 10404 1, e3 35 (.putfield 23) 3 9 4 2, e0 38 (.aload_n 0) 1, e0 39 (.bipush 24) 2, e3 41 (.newarray .int) 2 11 24 1, e3 43 (.putfield 26) 3 9 5 2, e0 46 (.aload_n 0) 1, e0 47 (.bipush 24) 2, e3 49 (.newarray .int) 2 11 24 1, e3 51 (.putfield 29) 3 9 6 2, e0 54 (.aload_n 0) 1, e0 55 (.bipush 24) 2, e3 57 (.newarray .int) 2 11 24 1, e3 59 (.putfield 32) 3 9 7 2, e0 62 (.aload_n 0) 1, e0 63 (.bipush 24) 2, e3 65 (.newarray .int) 2 11 24 1, e3 67 (.putfield 35) 3 9 8 2, e0 70 (.aload_n 0) 1, e0 71 (.iconst 2) 1, e3 72 (.putfield 38) 3 9 10 0, e0 75 (.aload_n 0) 1, e0 76 (.sipush 400) 3, e3 79 (.newarray .byte) 2 12 400 1, e3 81 (.putfield 41) 3 9 12 2, e0 84 (.aload_n 0) 1, e0 85 (.sipush 400) 3, e3 88 (.newarray .byte) 2 12 400 1, e3 90 (.putfield 45) 3 9 13 2, e0 93 (.aload_n 0) 1, e0 94 (.iconst (-1)) 1, e3 95 (.putfield 48) 3 9 20 0, e0 98 (.aload_n 0) 1, e0 99 (.bipush 10) 2, e3 101 (.newarray .int) 2 11 10 1, e3 103 (.putfield 51) 3 9 23 2, e0 106 (.aload_n 0) 1, e0 107 (.bipush 24) 2, e3 109 (.newarray .int) 2 11 24 1, e3 111 (.putfield 54) 3 9 24 2, e0 114 (.aload_n 0) 1, e0 115 (.bipush 41) 2, e3 117 (.newarray .int) 2 11 41 1, e3 119 (.putfield 57) 3 9 26 2, e0 122 (.aload_n 0) 1, e0 123 (.bipush 42) 2, e3 125 (.newarray .int) 2 11 42 1, e3 127 (.putfield 60) 3 9 27 2, e0 130 (.aload_n 0) 1, e0 131 (.sipush 520) 3, e3 134 (.newarray .int) 2 11 520 1, e3 136 (.putfield 63) 3 9 28 2, e0 139 (.aload_n 0) 1, e0 140 (.bipush 41) 2, e3 142 (.newarray .int) 2 11 41 1, e3 144 (.putfield 66) 3 9 29 2, e0 147 (.aload_n 0) 1, e0 148 (.bipush 42) 2, e3 150 (.newarray .int) 2 11 42 1, e3 152 (.putfield 69) 3 9 30 2, e0 155 (.aload_n 0) 1, e0 156 (.sipush 520) 3, e3 159 (.newarray .int) 2 11 520 1, e3 161 (.putfield 72) 3 9 31 2, e0 164 (.aload_n 0) 1, e3 165 (.getfield 17) 3 9 2 2, e3 168 (.invokestatic 75) 3 123 1 0, e0 171 .return_ 1]
set_option maxRecDepth 100000 in
def tb_X8_clears : List tr_En := [e0 0 (.iconst 0) 1, e0 1 (.istore_n 1) 1, e0 2 (.iload_n 1) 1, e0 3 (.sipush 867) 3, e1 6 (.if_icmp .ge 13) 3 19, e0 9 (.aload_n 0) 1, e0 10 (.iload_n 1) 1, e0 11 (.iconst 0) 1, e1 12 .iastore 1 11, e0 13 (.iinc 1 1) 3, e1 16 (.goto (-14)) 3 2, e0 19 (.aload_n 0) 1, e0 20 (.iconst 1) 1, e0 21 (.bipush 7) 2, e1 23 .iastore 1 11, e0 24 (.aload_n 0) 1, e0 25 (.iconst 2) 1, e0 26 (.bipush 101) 2, e1 28 .iastore 1 11, e0 29 (.aload_n 0) 1, e0 30 (.iconst 3) 1, e0 31 (.bipush 20) 2, e1 33 .iastore 1 11, e0 34 (.aload_n 0) 1, e0 35 (.iconst 5) 1, e0 36 (.bipush 16) 2, e1 38 .iastore 1 11, e0 39 (.iconst 0) 1, e0 40 (.istore_n 1) 1, e0 41 (.iload_n 1) 1, e0 42 (.bipush 100) 2, e1 44 (.if_icmp .ge 16) 3 60, e0 47 (.aload_n 0) 1, e0 48 (.bipush 6) 2, e0 50 (.iload_n 1) 1, e0 51 .iadd 1, e0 52 (.iconst (-1)) 1, e1 53 .iastore 1 11, e0 54 (.iinc 1 1) 3, e1 57 (.goto (-16)) 3 41, e0 60 .return_ 1]
set_option maxRecDepth 100000 in
def tb_X8_of : List tr_En := [e0 0 (.aload_n 0) 1, e3 1 (.getfield 17) 3 9 2 2, e0 4 (.bipush 107) 2, e0 6 (.bipush 19) 2, e0 8 (.iload_n 1) 1, e0 9 .imul 1, e0 10 .iadd 1, e0 11 (.iload_n 2) 1, e0 12 .iadd 1, e1 13 .iaload 1 11, e0 14 .ireturn 1]
set_option maxRecDepth 100000 in
def tb_X8_isCut : List tr_En := [e0 0 (.aload_n 0) 1, e3 1 (.getfield 17) 3 9 2 2, e0 4 (.iconst 0) 1, e1 5 .iaload 1 11, e0 6 (.iload_n 1) 1, e0 7 .ishr 1, e0 8 (.iconst 1) 1, e0 9 .iand 1, e0 10 (.iconst 1) 1, e1 11 (.if_icmp .ne 7) 3 18, e0 14 (.iconst 1) 1, e1 15 (.goto 4) 3 19, e0 18 (.iconst 0) 1, e3 19 .ireturn 1 0 0 1]
set_option maxRecDepth 100000 in
def tb_X8_routeOf : List tr_En := [e0 0 (.aload_n 0) 1, e3 1 (.getfield 17) 3 9 2 2, e0 4 (.bipush 6) 2, e0 6 (.bipush 10) 2, e0 8 (.iload_n 1) 1, e0 9 .imul 1, e0 10 .iadd 1, e0 11 (.iload_n 2) 1, e0 12 .iadd 1, e1 13 .iaload 1 11, e0 14 .ireturn 1]
set_option maxRecDepth 100000 in
def tb_X8_goes : List tr_En := [e0 0 (.aload_n 0) 1, e0 1 (.iload_n 1) 1, e0 2 (.iconst 0) 1, e6 3 (.invokevirtual 79) 3 124 3 1 9 0 0, e0 6 (.istore_n 2) 1, e0 7 (.aload_n 0) 1, e0 8 (.iload_n 1) 1, e0 9 (.iconst 4) 1, e6 10 (.invokevirtual 79) 3 124 3 1 9 0 0, e0 13 (.istore_n 3) 1, e0 14 (.iconst 0) 1, e0 15 (.istore 4) 2, e0 17 (.iconst (-1)) 1, e0 18 (.istore 5) 2, e0 20 (.iload 5) 2, e0 22 (.iconst (-1)) 1, e1 23 (.if_icmp .ne 120) 3 143, e0 26 (.iload_n 2) 1, e0 27 (.aload_n 0) 1, e0 28 (.iload_n 1) 1, e0 29 (.iconst 1) 1, e6 30 (.invokevirtual 79) 3 124 3 1 9 0 0, e1 33 (.if_icmp .ne 7) 3 40, e0 36 (.iconst (-1)) 1, e1 37 (.goto 14) 3 51, e0 40 (.aload_n 0) 1, e0 41 (.iload_n 2) 1, e0 42 (.aload_n 0) 1, e0 43 (.iload_n 1) 1, e0 44 (.iconst 1) 1, e6 45 (.invokevirtual 79) 3 124 3 1 9 0 0, e6 48 (.invokevirtual 83) 3 126 3 1 9 0 0, e0 51 (.istore 6) 2, e0 53 (.iload_n 2) 1, e0 54 (.aload_n 0) 1, e0 55 (.iload_n 1) 1, e0 56 (.iconst 1) 1, e6 57 (.invokevirtual 79) 3 124 3 1 9 0 0, e1 60 (.if_icmp .ne 9) 3 69, e0 63 (.iconst 0) 1, e0 64 (.istore 5) 2, e1 66 (.goto 74) 3 140, e0 69 (.iload 6) 2, e0 71 (.iconst (-1)) 1, e1 72 (.if_icmp .ne 9) 3 81, e0 75 (.iconst 1) 1, e0 76 (.istore 5) 2, e1 78 (.goto 62) 3 140, e0 81 (.aload_n 0) 1, e0 82 (.iload 6) 2, e6 84 (.invokevirtual 86) 3 125 2 1 9 0 0, e1 87 (.ifCond .eq 9) 3 96, e0 90 (.iconst 2) 1, e0 91 (.istore 5) 2, e1 93 (.goto 47) 3 140, e0 96 (.iload_n 3) 1, e1 97 (.ifCond .ne 9) 3 106, e0 100 (.iconst 3) 1, e0 101 (.istore 5) 2, e1 103 (.goto 37) 3 140, e0 106 (.aload_n 0) 1, e3 107 (.getfield 17) 3 9 2 2, e0 110 (.bipush 107) 2, e0 112 (.bipush 19) 2, e0 114 (.iload_n 1) 1, e0 115 .imul 1, e0 116 .iadd 1, e0 117 (.bipush 7) 2, e0 119 .iadd 1, e0 120 (.iload 4) 2, e0 122 .iadd 1, e0 123 (.iload 6) 2, e1 125 .iastore 1 11, e0 126 (.aload_n 0) 1, e3 127 (.getfield 29) 3 9 6 2, e0 130 (.iload 6) 2, e1 132 .iaload 1 11, e0 133 (.istore_n 2) 1, e0 134 (.iinc 3 (-1)) 3, e0 137 (.iinc 4 1) 3, e1 140 (.goto (-120)) 3 20, e0 143 (.aload_n 0) 1, e3 144 (.getfield 17) 3 9 2 2, e0 147 (.bipush 107) 2, e0 149 (.bipush 19) 2, e0 151 (.iload_n 1) 1, e0 152 .imul 1, e0 153 .iadd 1, e0 154 (.iconst 5) 1, e0 155 .iadd 1, e0 156 (.iload 5) 2, e1 158 .iastore 1 11, e0 159 (.aload_n 0) 1, e3 160 (.getfield 17) 3 9 2 2, e0 163 (.bipush 107) 2, e0 165 (.bipush 19) 2, e0 167 (.iload_n 1) 1, e0 168 .imul 1, e0 169 .iadd 1, e0 170 (.bipush 6) 2, e0 172 .iadd 1, e0 173 (.iload 4) 2, e1 175 .iastore 1 11, e0 176 .return_ 1]
set_option maxRecDepth 100000 in
def tb_X8_linkAt : List tr_En := [e0 0 (.aload_n 0) 1, e0 1 (.iload_n 1) 1, e0 2 (.bipush 7) 2, e0 4 (.iload_n 2) 1, e0 5 .iadd 1, e6 6 (.invokevirtual 79) 3 124 3 1 9 0 0, e0 9 .ireturn 1]
set_option maxRecDepth 100000 in
def tb_X8_hopAt : List tr_En := [e0 0 (.iload_n 2) 1, e1 1 (.ifCond .ne 12) 3 13, e0 4 (.aload_n 0) 1, e0 5 (.iload_n 1) 1, e0 6 (.iconst 0) 1, e6 7 (.invokevirtual 79) 3 124 3 1 9 0 0, e1 10 (.goto 16) 3 26, e0 13 (.aload_n 0) 1, e3 14 (.getfield 29) 3 9 6 2, e0 17 (.aload_n 0) 1, e0 18 (.iload_n 1) 1, e0 19 (.iload_n 2) 1, e0 20 (.iconst 1) 1, e0 21 .isub 1, e6 22 (.invokevirtual 90) 3 128 3 1 9 0 0, e1 25 .iaload 1 11, e0 26 .ireturn 1]
set_option maxRecDepth 100000 in
def tb_X8_mixed : List tr_En := [e0 0 (.bipush 31) 2, e0 2 (.iload_n 0) 1, e0 3 .imul 1, e0 4 (.iload_n 1) 1, e0 5 .iadd 1, e0 6 (.iload_n 2) 1, e0 7 .irem 1, e0 8 .ireturn 1]
set_option maxRecDepth 100000 in
def tb_X8_mixBy : List tr_En := [e0 0 (.iconst 0) 1, e0 1 (.istore 4) 2, e0 3 (.iconst 0) 1, e0 4 (.istore 5) 2, e0 6 (.iload 5) 2, e0 8 (.iconst 5) 1, e1 9 (.if_icmp .ge 56) 3 65, e0 12 (.iload_n 3) 1, e0 13 (.iload 5) 2, e0 15 .ishr 1, e0 16 (.iconst 1) 1, e0 17 .iand 1, e0 18 (.iconst 1) 1, e1 19 (.if_icmp .ne 40) 3 59, e0 22 (.iload 4) 2, e0 24 (.iload 5) 2, e0 26 (.iconst 4) 1, e1 27 (.if_icmp .ge 13) 3 40, e0 30 (.aload_n 0) 1, e0 31 (.iload_n 1) 1, e0 32 (.iload 5) 2, e6 34 (.invokevirtual 79) 3 124 3 1 9 0 0, e1 37 (.goto 11) 3 48, e0 40 (.aload_n 0) 1, e0 41 (.iload_n 1) 1, e0 42 (.iconst 4) 1, e6 43 (.invokevirtual 79) 3 124 3 1 9 0 0, e0 46 (.iload_n 2) 1, e0 47 .isub 1, e0 48 (.aload_n 0) 1, e3 49 (.getfield 17) 3 9 2 2, e0 52 (.iconst 2) 1, e1 53 .iaload 1 11, e3 54 (.invokestatic 93) 3 130 3 1, e0 57 (.istore 4) 2, e0 59 (.iinc 5 1) 3, e1 62 (.goto (-56)) 3 6, e0 65 (.iload 4) 2, e0 67 .ireturn 1]
set_option maxRecDepth 100000 in
def tb_X8_mixAt : List tr_En := [e0 0 (.aload_n 0) 1, e0 1 (.iload_n 1) 1, e0 2 (.iload_n 2) 1, e0 3 (.aload_n 0) 1, e3 4 (.getfield 17) 3 9 2 2, e0 7 (.iconst 1) 1, e1 8 .iaload 1 11, e6 9 (.invokevirtual 97) 3 131 4 1 9 0 0, e0 12 (.aload_n 0) 1, e3 13 (.getfield 17) 3 9 2 2, e0 16 (.iconst 4) 1, e1 17 .iaload 1 11, e0 18 .iadd 1, e0 19 (.aload_n 0) 1, e3 20 (.getfield 17) 3 9 2 2, e0 23 (.iconst 2) 1, e1 24 .iaload 1 11, e0 25 .irem 1, e0 26 .ireturn 1]
set_option maxRecDepth 100000 in
def tb_X8_isChosen : List tr_En := [e0 0 (.aload_n 0) 1, e0 1 (.iload_n 1) 1, e0 2 (.iload_n 2) 1, e6 3 (.invokevirtual 100) 3 132 3 1 9 0 0, e0 6 (.aload_n 0) 1, e3 7 (.getfield 17) 3 9 2 2, e0 10 (.iconst 3) 1, e1 11 .iaload 1 11, e1 12 (.if_icmp .ge 7) 3 19, e0 15 (.iconst 1) 1, e1 16 (.goto 4) 3 20, e0 19 (.iconst 0) 1, e3 20 .ireturn 1 0 0 1]
set_option maxRecDepth 100000 in
def tb_X8_hashOf : List tr_En := [e0 0 (.iconst 0) 1, e0 1 (.istore_n 2) 1, e0 2 (.iconst 0) 1, e0 3 (.istore_n 3) 1, e0 4 (.iload_n 3) 1, e0 5 (.iconst 4) 1, e1 6 (.if_icmp .ge 25) 3 31, e0 9 (.bipush 37) 2, e0 11 (.iload_n 2) 1, e0 12 .imul 1, e0 13 (.aload_n 0) 1, e0 14 (.iload_n 1) 1, e0 15 (.iload_n 3) 1, e6 16 (.invokevirtual 79) 3 124 3 1 9 0 0, e0 19 .iadd 1, e0 20 (.sipush 9973) 3, e0 23 .irem 1, e0 24 (.istore_n 2) 1, e0 25 (.iinc 3 1) 3, e1 28 (.goto (-24)) 3 4, e0 31 (.iload_n 2) 1, e0 32 .ireturn 1]
set_option maxRecDepth 100000 in
def tb_X8_labelOf : List tr_En := [e0 0 (.aload_n 0) 1, e0 1 (.iload_n 1) 1, e6 2 (.invokevirtual 103) 3 134 2 1 9 0 0, e0 5 (.aload_n 0) 1, e3 6 (.getfield 17) 3 9 2 2, e0 9 (.iconst 5) 1, e1 10 .iaload 1 11, e0 11 .irem 1, e0 12 .ireturn 1]
set_option maxRecDepth 100000 in
def tb_X8_feed : List tr_En := [e0 0 (.aload_n 0) 1, e0 1 (.iconst 0) 1, e1 2 (.putfield 1) 3 9, e0 5 (.aload_n 0) 1, e3 6 (.getfield 107) 3 9 14 0, e0 9 (.bipush 20) 2, e0 11 .iadd 1, e0 12 (.sipush 400) 3, e1 15 (.if_icmp .le 5) 3 20, e0 18 (.iconst (-1)) 1, e0 19 .ireturn 1, e0 20 (.aload_n 0) 1, e0 21 (.iload_n 1) 1, e6 22 (.invokevirtual 110) 3 137 2 0 9 0 0, e0 25 (.aload_n 0) 1, e0 26 (.iload_n 2) 1, e6 27 (.invokevirtual 110) 3 137 2 0 9 0 0, e0 30 (.aload_n 0) 1, e0 31 (.iload_n 3) 1, e6 32 (.invokevirtual 110) 3 137 2 0 9 0 0, e0 35 (.aload_n 0) 1, e0 36 (.iload 4) 2, e6 38 (.invokevirtual 110) 3 137 2 0 9 0 0, e0 41 (.aload_n 0) 1, e0 42 (.iload 5) 2, e6 44 (.invokevirtual 110) 3 137 2 0 9 0 0, e0 47 (.aload_n 0) 1, e3 48 (.getfield 107) 3 9 14 0, e0 51 .ireturn 1]
set_option maxRecDepth 100000 in
def tb_X8_puts : List tr_En := [e0 0 (.bipush 24) 2, e0 2 (.istore_n 2) 1, e0 3 (.iload_n 2) 1, e1 4 (.ifCond .lt 32) 3 36, e0 7 (.aload_n 0) 1, e3 8 (.getfield 41) 3 9 12 2, e0 11 (.aload_n 0) 1, e3 12 (.getfield 107) 3 9 14 0, e0 15 (.iload_n 1) 1, e0 16 (.iload_n 2) 1, e0 17 .ishr 1, e0 18 .i2b 1, e1 19 .bastore 1 12, e0 20 (.aload_n 0) 1, e0 21 .dup 1, e3 22 (.getfield 107) 3 9 14 0, e0 25 (.iconst 1) 1, e0 26 .iadd 1, e3 27 (.putfield 107) 3 9 14 0, e0 30 (.iinc 2 (-8)) 3, e1 33 (.goto (-30)) 3 3, e0 36 .return_ 1]
set_option maxRecDepth 100000 in
def tb_X8_wrong : List tr_En := [e0 0 (.aload_n 0) 1, e3 1 (.getfield 114) 3 9 18 0, e1 4 (.ifCond .le 4) 3 8, e0 7 .return_ 1, e0 8 (.aload_n 0) 1, e0 9 (.iload_n 1) 1, e3 10 (.putfield 114) 3 9 18 0, e0 13 (.aload_n 0) 1, e0 14 (.iload_n 2) 1, e3 15 (.putfield 117) 3 9 19 0, e0 18 .return_ 1]
set_option maxRecDepth 100000 in
def tb_X8_sign : List tr_En := [e0 0 (.aload_n 0) 1, e3 1 (.getfield 120) 3 9 16 0, e0 4 (.aload_n 0) 1, e3 5 (.getfield 123) 3 9 15 0, e1 8 (.if_icmp .ge 30) 3 38, e0 11 (.aload_n 0) 1, e3 12 (.getfield 45) 3 9 13 2, e0 15 (.aload_n 0) 1, e3 16 (.getfield 120) 3 9 16 0, e1 19 .baload 1 12, e0 20 (.bipush 32) 2, e1 22 (.if_icmp .ne 16) 3 38, e0 25 (.aload_n 0) 1, e0 26 .dup 1, e3 27 (.getfield 120) 3 9 16 0, e0 30 (.iconst 1) 1, e0 31 .iadd 1, e3 32 (.putfield 120) 3 9 16 0, e0 35 (.goto (-35)) 3, e0 38 (.aload_n 0) 1, e3 39 (.getfield 120) 3 9 16 0, e0 42 (.aload_n 0) 1, e3 43 (.getfield 123) 3 9 15 0, e1 46 (.if_icmp .ge 15) 3 61, e0 49 (.aload_n 0) 1, e3 50 (.getfield 45) 3 9 13 2, e0 53 (.aload_n 0) 1, e3 54 (.getfield 120) 3 9 16 0, e1 57 .baload 1 12, e1 58 (.goto 4) 3 62, e0 61 (.iconst 0) 1, e0 62 .ireturn 1]
set_option maxRecDepth 100000 in
def tb_X8_isSmall : List tr_En := [e0 0 (.iload_n 1) 1, e0 1 (.aload_n 0) 1, e3 2 (.getfield 123) 3 9 15 0, e1 5 (.if_icmp .ge 29) 3 34, e0 8 (.aload_n 0) 1, e3 9 (.getfield 45) 3 9 13 2, e0 12 (.iload_n 1) 1, e1 13 .baload 1 12, e0 14 (.bipush 97) 2, e1 16 (.if_icmp .lt 18) 3 34, e0 19 (.aload_n 0) 1, e3 20 (.getfield 45) 3 9 13 2, e0 23 (.iload_n 1) 1, e1 24 .baload 1 12, e0 25 (.bipush 122) 2, e1 27 (.if_icmp .gt 7) 3 34, e0 30 (.iconst 1) 1, e1 31 (.goto 4) 3 35, e0 34 (.iconst 0) 1, e3 35 .ireturn 1 0 0 1]
set_option maxRecDepth 100000 in
def tb_X8_passes : List tr_En := [e0 0 (.aload_n 0) 1, e6 1 (.invokevirtual 126) 3 139 1 1 9 0 0, e0 4 .pop 1, e0 5 (.iconst 0) 1, e0 6 (.istore_n 2) 1, e0 7 (.iload_n 2) 1, e0 8 (.aload_n 1) 1, e1 9 (.invokevirtual 130) 3 1005, e1 12 (.if_icmp .ge 43) 3 55, e0 15 (.aload_n 0) 1, e0 16 (.aload_n 0) 1, e3 17 (.getfield 120) 3 9 16 0, e0 20 (.iload_n 2) 1, e0 21 .iadd 1, e6 22 (.invokevirtual 135) 3 140 2 1 9 0 0, e1 25 (.ifCond .eq 22) 3 47, e0 28 (.aload_n 0) 1, e3 29 (.getfield 45) 3 9 13 2, e0 32 (.aload_n 0) 1, e3 33 (.getfield 120) 3 9 16 0, e0 36 (.iload_n 2) 1, e0 37 .iadd 1, e1 38 .baload 1 12, e0 39 (.aload_n 1) 1, e0 40 (.iload_n 2) 1, e1 41 (.invokevirtual 138) 3 1006, e1 44 (.if_icmp .eq 5) 3 49, e0 47 (.iconst 0) 1, e3 48 .ireturn 1 0 0 1, e0 49 (.iinc 2 1) 3, e1 52 (.goto (-45)) 3 7, e0 55 (.aload_n 0) 1, e0 56 (.aload_n 0) 1, e3 57 (.getfield 120) 3 9 16 0, e0 60 (.aload_n 1) 1, e1 61 (.invokevirtual 130) 3 1005, e0 64 .iadd 1, e6 65 (.invokevirtual 135) 3 140 2 1 9 0 0, e1 68 (.ifCond .eq 5) 3 73, e0 71 (.iconst 0) 1, e3 72 .ireturn 1 0 0 1, e0 73 (.aload_n 0) 1, e0 74 (.aload_n 0) 1, e3 75 (.getfield 120) 3 9 16 0, e3 78 (.putfield 142) 3 9 17 0, e0 81 (.aload_n 0) 1, e0 82 .dup 1, e3 83 (.getfield 120) 3 9 16 0, e0 86 (.aload_n 1) 1, e1 87 (.invokevirtual 130) 3 1005, e0 90 .iadd 1, e3 91 (.putfield 120) 3 9 16 0, e0 94 (.iconst 1) 1, e3 95 .ireturn 1 0 0 1]
set_option maxRecDepth 100000 in
def tb_X8_number : List tr_En := [e0 0 (.aload_n 0) 1, e6 1 (.invokevirtual 126) 3 139 1 1 9 0 0, e0 4 (.istore_n 3) 1, e0 5 (.aload_n 0) 1, e3 6 (.getfield 114) 3 9 18 0, e1 9 (.ifCond .le 5) 3 14, e0 12 (.iconst 0) 1, e0 13 .ireturn 1, e0 14 (.aload_n 0) 1, e0 15 (.aload_n 0) 1, e3 16 (.getfield 120) 3 9 16 0, e3 19 (.putfield 142) 3 9 17 0, e0 22 (.iload_n 3) 1, e0 23 (.bipush 48) 2, e1 25 (.if_icmp .lt 9) 3 34, e0 28 (.iload_n 3) 1, e0 29 (.bipush 57) 2, e1 31 (.if_icmp .le 12) 3 43, e0 34 (.aload_n 0) 1, e0 35 (.iconst 1) 1, e0 36 (.aload_n 0) 1, e3 37 (.getfield 120) 3 9 16 0, e6 40 (.invokevirtual 145) 3 138 3 0 9 0 0, e0 43 (.iconst 0) 1, e0 44 (.istore 4) 2, e0 46 (.aload_n 0) 1, e3 47 (.getfield 114) 3 9 18 0, e1 50 (.ifCond .ne 80) 3 130, e0 53 (.aload_n 0) 1, e3 54 (.getfield 120) 3 9 16 0, e0 57 (.aload_n 0) 1, e3 58 (.getfield 123) 3 9 15 0, e1 61 (.if_icmp .ge 69) 3 130, e0 64 (.aload_n 0) 1, e3 65 (.getfield 45) 3 9 13 2, e0 68 (.aload_n 0) 1, e3 69 (.getfield 120) 3 9 16 0, e1 72 .baload 1 12, e0 73 (.bipush 48) 2, e1 75 (.if_icmp .lt 55) 3 130, e0 78 (.aload_n 0) 1, e3 79 (.getfield 45) 3 9 13 2, e0 82 (.aload_n 0) 1, e3 83 (.getfield 120) 3 9 16 0, e1 86 .baload 1 12, e0 87 (.bipush 57) 2, e1 89 (.if_icmp .gt 41) 3 130, e0 92 (.bipush 10) 2, e0 94 (.iload 4) 2, e0 96 .imul 1, e0 97 (.aload_n 0) 1, e3 98 (.getfield 45) 3 9 13 2, e0 101 (.aload_n 0) 1, e3 102 (.getfield 120) 3 9 16 0, e1 105 .baload 1 12, e0 106 .iadd 1, e0 107 (.bipush 48) 2, e0 109 .isub 1, e3 110 (.ldc 149) 2 0 100000 0, e1 112 (.invokestatic 150) 3 1001, e0 115 (.istore 4) 2, e0 117 (.aload_n 0) 1, e0 118 .dup 1, e3 119 (.getfield 120) 3 9 16 0, e0 122 (.iconst 1) 1, e0 123 .iadd 1, e3 124 (.putfield 120) 3 9 16 0, e1 127 (.goto (-81)) 3 46, e0 130 (.aload_n 0) 1, e3 131 (.getfield 114) 3 9 18 0, e1 134 (.ifCond .ne 22) 3 156, e0 137 (.iload 4) 2, e0 139 (.iload_n 1) 1, e0 140 (.iload_n 2) 1, e3 141 (.invokestatic 155) 3 121 3 1, e1 144 (.ifCond .ne 12) 3 156, e0 147 (.aload_n 0) 1, e0 148 (.iconst 2) 1, e0 149 (.aload_n 0) 1, e3 150 (.getfield 142) 3 9 17 0, e6 153 (.invokevirtual 145) 3 138 3 0 9 0 0, e0 156 (.aload_n 0) 1, e3 157 (.getfield 114) 3 9 18 0, e1 160 (.ifCond .ne 8) 3 168, e0 163 (.iload 4) 2, e1 165 (.goto 4) 3 169, e0 168 (.iconst 0) 1, e0 169 .ireturn 1]
set_option maxRecDepth 100000 in
def tb_X8_ends : List tr_En := [e0 0 (.aload_n 0) 1, e3 1 (.getfield 114) 3 9 18 0, e1 4 (.ifCond .ne 32) 3 36, e0 7 (.aload_n 0) 1, e6 8 (.invokevirtual 126) 3 139 1 1 9 0 0, e0 11 (.bipush 59) 2, e1 13 (.if_icmp .ne 14) 3 27, e0 16 (.aload_n 0) 1, e3 17 (.getfield 120) 3 9 16 0, e0 20 (.aload_n 0) 1, e3 21 (.getfield 123) 3 9 15 0, e1 24 (.if_icmp .ne 12) 3 36, e0 27 (.aload_n 0) 1, e0 28 (.iconst 1) 1, e0 29 (.aload_n 0) 1, e3 30 (.getfield 120) 3 9 16 0, e6 33 (.invokevirtual 145) 3 138 3 0 9 0 0, e0 36 (.aload_n 0) 1, e0 37 .dup 1, e3 38 (.getfield 120) 3 9 16 0, e0 41 (.iconst 1) 1, e0 42 .iadd 1, e3 43 (.putfield 120) 3 9 16 0, e0 46 .return_ 1]
set_option maxRecDepth 100000 in
def tb_X8_linkBy : List tr_En := [e0 0 (.iconst 0) 1, e0 1 (.istore 6) 2, e0 3 (.iload 6) 2, e0 5 (.iload_n 3) 1, e1 6 (.if_icmp .ge 30) 3 36, e0 9 (.aload_n 1) 1, e0 10 (.iload 6) 2, e1 12 .iaload 1 11, e0 13 (.iload 4) 2, e1 15 (.if_icmp .ne 15) 3 30, e0 18 (.aload_n 2) 1, e0 19 (.iload 6) 2, e1 21 .iaload 1 11, e0 22 (.iload 5) 2, e1 24 (.if_icmp .ne 6) 3 30, e0 27 (.iload 6) 2, e0 29 .ireturn 1, e0 30 (.iinc 6 1) 3, e1 33 (.goto (-30)) 3 3, e0 36 (.iconst (-1)) 1, e0 37 .ireturn 1]
set_option maxRecDepth 100000 in
def tb_X8_other : List tr_En := [e0 0 (.aload_n 0) 1, e0 1 (.iconst 0) 1, e0 2 (.aload_n 0) 1, e3 3 (.getfield 159) 3 9 21 0, e0 6 (.iconst 1) 1, e0 7 .isub 1, e6 8 (.invokevirtual 162) 3 142 3 1 9 0 0, e0 11 (.istore_n 2) 1, e0 12 (.aload_n 0) 1, e3 13 (.getfield 114) 3 9 18 0, e1 16 (.ifCond .ne 17) 3 33, e0 19 (.iload_n 1) 1, e0 20 (.iload_n 2) 1, e1 21 (.if_icmp .ne 12) 3 33, e0 24 (.aload_n 0) 1, e0 25 (.iconst 2) 1, e0 26 (.aload_n 0) 1, e3 27 (.getfield 142) 3 9 17 0, e6 30 (.invokevirtual 145) 3 138 3 0 9 0 0, e0 33 (.iload_n 2) 1, e0 34 .ireturn 1]
set_option maxRecDepth 100000 in
def tb_X8_readsLink : List tr_En := [e0 0 (.aload_n 0) 1, e3 1 (.getfield 165) 3 9 22 0, e0 4 (.bipush 24) 2, e1 6 (.if_icmp .ne 12) 3 18, e0 9 (.aload_n 0) 1, e0 10 (.iconst 3) 1, e0 11 (.aload_n 0) 1, e3 12 (.getfield 142) 3 9 17 0, e6 15 (.invokevirtual 145) 3 138 3 0 9 0 0, e0 18 (.aload_n 0) 1, e0 19 (.iconst 0) 1, e0 20 (.aload_n 0) 1, e3 21 (.getfield 159) 3 9 21 0, e0 24 (.iconst 1) 1, e0 25 .isub 1, e6 26 (.invokevirtual 162) 3 142 3 1 9 0 0, e0 29 (.istore_n 1) 1, e0 30 (.aload_n 0) 1, e3 31 (.getfield 142) 3 9 17 0, e0 34 (.istore_n 2) 1, e0 35 (.aload_n 0) 1, e0 36 (.iload_n 1) 1, e6 37 (.invokevirtual 168) 3 145 2 1 9 0 0, e0 40 (.istore_n 3) 1, e0 41 (.aload_n 0) 1, e3 42 (.getfield 114) 3 9 18 0, e1 45 (.ifCond .ne 31) 3 76, e0 48 (.aload_n 0) 1, e0 49 (.aload_n 0) 1, e3 50 (.getfield 32) 3 9 7 2, e0 53 (.aload_n 0) 1, e3 54 (.getfield 35) 3 9 8 2, e0 57 (.aload_n 0) 1, e3 58 (.getfield 165) 3 9 22 0, e0 61 (.iload_n 1) 1, e0 62 (.iload_n 3) 1, e6 63 (.invokevirtual 171) 3 144 6 1 9 0 0, e0 66 (.iconst (-1)) 1, e1 67 (.if_icmp .eq 9) 3 76, e0 70 (.aload_n 0) 1, e0 71 (.iconst 4) 1, e0 72 (.iload_n 2) 1, e6 73 (.invokevirtual 145) 3 138 3 0 9 0 0, e0 76 (.aload_n 0) 1, e3 77 (.getfield 114) 3 9 18 0, e1 80 (.ifCond .le 4) 3 84, e0 83 .return_ 1, e0 84 (.aload_n 0) 1, e3 85 (.getfield 32) 3 9 7 2, e0 88 (.aload_n 0) 1, e3 89 (.getfield 165) 3 9 22 0, e0 92 (.iload_n 1) 1, e1 93 .iastore 1 11, e0 94 (.aload_n 0) 1, e3 95 (.getfield 35) 3 9 8 2, e0 98 (.aload_n 0) 1, e3 99 (.getfield 165) 3 9 22 0, e0 102 (.iload_n 3) 1, e1 103 .iastore 1 11, e0 104 (.aload_n 0) 1, e0 105 .dup 1, e3 106 (.getfield 165) 3 9 22 0, e0 109 (.iconst 1) 1, e0 110 .iadd 1, e3 111 (.putfield 165) 3 9 22 0, e0 114 .return_ 1]
set_option maxRecDepth 100000 in
def tb_X8_cutTold : List tr_En := [e0 0 (.aload_n 0) 1, e0 1 (.iconst 0) 1, e0 2 (.aload_n 0) 1, e3 3 (.getfield 159) 3 9 21 0, e0 6 (.iconst 1) 1, e0 7 .isub 1, e6 8 (.invokevirtual 162) 3 142 3 1 9 0 0, e0 11 (.istore_n 1) 1, e0 12 (.aload_n 0) 1, e3 13 (.getfield 142) 3 9 17 0, e0 16 (.istore_n 2) 1, e0 17 (.aload_n 0) 1, e0 18 (.iload_n 1) 1, e6 19 (.invokevirtual 168) 3 145 2 1 9 0 0, e0 22 (.istore_n 3) 1, e0 23 (.aload_n 0) 1, e3 24 (.getfield 114) 3 9 18 0, e1 27 (.ifCond .ne 24) 3 51, e0 30 (.aload_n 0) 1, e0 31 (.aload_n 0) 1, e3 32 (.getfield 32) 3 9 7 2, e0 35 (.aload_n 0) 1, e3 36 (.getfield 35) 3 9 8 2, e0 39 (.aload_n 0) 1, e3 40 (.getfield 165) 3 9 22 0, e0 43 (.iload_n 1) 1, e0 44 (.iload_n 3) 1, e6 45 (.invokevirtual 171) 3 144 6 1 9 0 0, e1 48 (.goto 4) 3 52, e0 51 (.iconst 0) 1, e0 52 (.istore 4) 2, e0 54 (.iload 4) 2, e0 56 (.iconst (-1)) 1, e1 57 (.if_icmp .ne 9) 3 66, e0 60 (.aload_n 0) 1, e0 61 (.iconst 4) 1, e0 62 (.iload_n 2) 1, e6 63 (.invokevirtual 145) 3 138 3 0 9 0 0, e0 66 (.aload_n 0) 1, e3 67 (.getfield 114) 3 9 18 0, e1 70 (.ifCond .ne 16) 3 86, e0 73 (.aload_n 0) 1, e3 74 (.getfield 20) 3 9 3 2, e0 77 (.iconst 0) 1, e0 78 .dup2 1, e1 79 .iaload 1 11, e0 80 (.iconst 1) 1, e0 81 (.iload 4) 2, e0 83 .ishl 1, e0 84 .ior 1, e1 85 .iastore 1 11, e0 86 .return_ 1]
set_option maxRecDepth 100000 in
def tb_X8_readsRoute : List tr_En := [e0 0 (.aload_n 0) 1, e0 1 (.iconst 0) 1, e0 2 (.aload_n 0) 1, e3 3 (.getfield 159) 3 9 21 0, e0 6 (.iconst 1) 1, e0 7 .isub 1, e6 8 (.invokevirtual 162) 3 142 3 1 9 0 0, e0 11 (.istore_n 1) 1, e0 12 (.aload_n 0) 1, e3 13 (.getfield 142) 3 9 17 0, e0 16 (.istore_n 2) 1, e0 17 (.aload_n 0) 1, e0 18 (.iload_n 1) 1, e6 19 (.invokevirtual 168) 3 145 2 1 9 0 0, e0 22 (.istore_n 3) 1, e0 23 (.aload_n 0) 1, e0 24 (.iload_n 1) 1, e6 25 (.invokevirtual 168) 3 145 2 1 9 0 0, e0 28 (.istore 4) 2, e0 30 (.aload_n 0) 1, e3 31 (.getfield 114) 3 9 18 0, e1 34 (.ifCond .ne 25) 3 59, e0 37 (.aload_n 0) 1, e0 38 (.aload_n 0) 1, e3 39 (.getfield 32) 3 9 7 2, e0 42 (.aload_n 0) 1, e3 43 (.getfield 35) 3 9 8 2, e0 46 (.aload_n 0) 1, e3 47 (.getfield 165) 3 9 22 0, e0 50 (.iload_n 1) 1, e0 51 (.iload 4) 2, e6 53 (.invokevirtual 171) 3 144 6 1 9 0 0, e1 56 (.goto 4) 3 60, e0 59 (.iconst 0) 1, e0 60 (.istore 5) 2, e0 62 (.iload 5) 2, e0 64 (.iconst (-1)) 1, e1 65 (.if_icmp .ne 9) 3 74, e0 68 (.aload_n 0) 1, e0 69 (.iconst 4) 1, e0 70 (.iload_n 2) 1, e6 71 (.invokevirtual 145) 3 138 3 0 9 0 0, e0 74 (.aload_n 0) 1, e3 75 (.getfield 114) 3 9 18 0, e1 78 (.ifCond .ne 19) 3 97, e0 81 (.aload_n 0) 1, e3 82 (.getfield 20) 3 9 3 2, e0 85 (.bipush 6) 2, e0 87 (.bipush 10) 2, e0 89 (.iload_n 1) 1, e0 90 .imul 1, e0 91 .iadd 1, e0 92 (.iload_n 3) 1, e0 93 .iadd 1, e0 94 (.iload 5) 2, e1 96 .iastore 1 11, e0 97 .return_ 1]
set_option maxRecDepth 100000 in
def tb_X8_baseTold : List tr_En := [e0 0 (.aload_n 0) 1, e0 1 (.iconst 2) 1, e0 2 (.aload_n 0) 1, e3 3 (.getfield 20) 3 9 3 2, e0 6 (.iconst 4) 1, e1 7 .iaload 1 11, e0 8 (.iconst 1) 1, e0 9 .iadd 1, e1 10 (.invokestatic 175) 3 1002, e0 13 (.sipush 997) 3, e6 16 (.invokevirtual 162) 3 142 3 1 9 0 0, e0 19 (.istore_n 1) 1, e0 20 (.aload_n 0) 1, e0 21 (.iconst 1) 1, e0 22 (.iload_n 1) 1, e6 23 (.invokevirtual 162) 3 142 3 1 9 0 0, e0 26 (.istore_n 2) 1, e0 27 (.aload_n 0) 1, e3 28 (.getfield 114) 3 9 18 0, e1 31 (.ifCond .le 4) 3 35, e0 34 .return_ 1, e0 35 (.aload_n 0) 1, e3 36 (.getfield 20) 3 9 3 2, e0 39 (.iconst 2) 1, e0 40 (.iload_n 1) 1, e1 41 .iastore 1 11, e0 42 (.aload_n 0) 1, e3 43 (.getfield 20) 3 9 3 2, e0 46 (.iconst 3) 1, e0 47 (.iload_n 2) 1, e1 48 .iastore 1 11, e0 49 .return_ 1]
set_option maxRecDepth 100000 in
def tb_X8_oneLine : List tr_En := [e0 0 (.aload_n 0) 1, e3 1 (.ldc 178) 2 0 1 1, e6 3 (.invokevirtual 180) 3 141 2 1 9 0 0, e1 6 (.ifCond .eq 10) 3 16, e0 9 (.aload_n 0) 1, e6 10 (.invokevirtual 184) 3 146 1 0 9 0 0, e1 13 (.goto 141) 3 154, e0 16 (.aload_n 0) 1, e3 17 (.ldc 187) 2 0 2 1, e6 19 (.invokevirtual 180) 3 141 2 1 9 0 0, e1 22 (.ifCond .eq 10) 3 32, e0 25 (.aload_n 0) 1, e6 26 (.invokevirtual 189) 3 147 1 0 9 0 0, e1 29 (.goto 125) 3 154, e0 32 (.aload_n 0) 1, e3 33 (.ldc 192) 2 0 3 1, e6 35 (.invokevirtual 180) 3 141 2 1 9 0 0, e1 38 (.ifCond .eq 10) 3 48, e0 41 (.aload_n 0) 1, e6 42 (.invokevirtual 194) 3 148 1 0 9 0 0, e1 45 (.goto 109) 3 154, e0 48 (.aload_n 0) 1, e3 49 (.ldc 197) 2 0 4 1, e6 51 (.invokevirtual 180) 3 141 2 1 9 0 0, e1 54 (.ifCond .eq 10) 3 64, e0 57 (.aload_n 0) 1, e6 58 (.invokevirtual 199) 3 149 1 0 9 0 0, e1 61 (.goto 93) 3 154, e0 64 (.aload_n 0) 1, e3 65 (.ldc 202) 2 0 5 1, e6 67 (.invokevirtual 180) 3 141 2 1 9 0 0, e1 70 (.ifCond .eq 25) 3 95, e0 73 (.aload_n 0) 1, e3 74 (.getfield 20) 3 9 3 2, e0 77 (.iconst 4) 1, e0 78 (.aload_n 0) 1, e0 79 (.iconst 0) 1, e0 80 (.aload_n 0) 1, e3 81 (.getfield 20) 3 9 3 2, e0 84 (.iconst 2) 1, e1 85 .iaload 1 11, e0 86 (.iconst 1) 1, e0 87 .isub 1, e6 88 (.invokevirtual 162) 3 142 3 1 9 0 0, e1 91 .iastore 1 11, e1 92 (.goto 62) 3 154, e0 95 (.aload_n 0) 1, e3 96 (.ldc 204) 2 0 6 1, e6 98 (.invokevirtual 180) 3 141 2 1 9 0 0, e1 101 (.ifCond .eq 19) 3 120, e0 104 (.aload_n 0) 1, e3 105 (.getfield 20) 3 9 3 2, e0 108 (.iconst 1) 1, e0 109 (.aload_n 0) 1, e0 110 (.iconst 1) 1, e0 111 (.bipush 31) 2, e6 113 (.invokevirtual 162) 3 142 3 1 9 0 0, e1 116 .iastore 1 11, e1 117 (.goto 37) 3 154, e0 120 (.aload_n 0) 1, e3 121 (.ldc 206) 2 0 7 1, e6 123 (.invokevirtual 180) 3 141 2 1 9 0 0, e1 126 (.ifCond .eq 19) 3 145, e0 129 (.aload_n 0) 1, e3 130 (.getfield 20) 3 9 3 2, e0 133 (.iconst 5) 1, e0 134 (.aload_n 0) 1, e0 135 (.iconst 2) 1, e0 136 (.bipush 64) 2, e6 138 (.invokevirtual 162) 3 142 3 1 9 0 0, e1 141 .iastore 1 11, e1 142 (.goto 12) 3 154, e0 145 (.aload_n 0) 1, e0 146 (.iconst 1) 1, e0 147 (.aload_n 0) 1, e3 148 (.getfield 120) 3 9 16 0, e6 151 (.invokevirtual 145) 3 138 3 0 9 0 0, e0 154 (.aload_n 0) 1, e6 155 (.invokevirtual 208) 3 143 1 0 9 0 0, e0 158 .return_ 1]
set_option maxRecDepth 100000 in
def tb_X8_text : List tr_En := [e0 0 (.aload_n 0) 1, e0 1 (.iconst 0) 1, e1 2 (.putfield 1) 3 9, e0 5 (.aload_n 0) 1, e0 6 (.iload_n 1) 1, e0 7 (.iconst 0) 1, e0 8 (.aload_n 0) 1, e3 9 (.getfield 107) 3 9 14 0, e3 12 (.invokestatic 155) 3 121 3 1, e0 15 (.iconst 1) 1, e0 16 (.iconst 1) 1, e6 17 (.invokevirtual 211) 3 120 4 1 9 0 0, e1 20 (.ifCond .ne 5) 3 25, e0 23 (.iconst 0) 1, e0 24 .ireturn 1, e0 25 (.iconst 0) 1, e0 26 (.istore_n 2) 1, e0 27 (.iload_n 2) 1, e0 28 (.iload_n 1) 1, e1 29 (.if_icmp .ge 21) 3 50, e0 32 (.aload_n 0) 1, e3 33 (.getfield 45) 3 9 13 2, e0 36 (.iload_n 2) 1, e0 37 (.aload_n 0) 1, e3 38 (.getfield 41) 3 9 12 2, e0 41 (.iload_n 2) 1, e1 42 .baload 1 12, e1 43 .bastore 1 12, e0 44 (.iinc 2 1) 3, e1 47 (.goto (-20)) 3 27, e0 50 (.aload_n 0) 1, e0 51 (.iconst 0) 1, e3 52 (.putfield 107) 3 9 14 0, e0 55 (.aload_n 0) 1, e0 56 (.iload_n 1) 1, e3 57 (.putfield 123) 3 9 15 0, e0 60 (.aload_n 0) 1, e0 61 (.iconst 0) 1, e3 62 (.putfield 120) 3 9 16 0, e0 65 (.aload_n 0) 1, e0 66 (.iconst 0) 1, e3 67 (.putfield 114) 3 9 18 0, e0 70 (.aload_n 0) 1, e0 71 (.iconst 0) 1, e3 72 (.putfield 165) 3 9 22 0, e0 75 (.aload_n 0) 1, e3 76 (.getfield 20) 3 9 3 2, e3 79 (.invokestatic 75) 3 123 1 0, e0 82 (.aload_n 0) 1, e3 83 (.ldc 215) 2 0 0 1, e6 85 (.invokevirtual 180) 3 141 2 1 9 0 0, e1 88 (.ifCond .ne 12) 3 100, e0 91 (.aload_n 0) 1, e0 92 (.iconst 1) 1, e0 93 (.aload_n 0) 1, e3 94 (.getfield 120) 3 9 16 0, e6 97 (.invokevirtual 145) 3 138 3 0 9 0 0, e0 100 (.aload_n 0) 1, e0 101 (.aload_n 0) 1, e0 102 (.iconst 2) 1, e0 103 (.bipush 10) 2, e6 105 (.invokevirtual 162) 3 142 3 1 9 0 0, e3 108 (.putfield 159) 3 9 21 0, e0 111 (.aload_n 0) 1, e6 112 (.invokevirtual 208) 3 143 1 0 9 0 0, e0 115 (.aload_n 0) 1, e3 116 (.getfield 114) 3 9 18 0, e1 119 (.ifCond .ne 28) 3 147, e0 122 (.aload_n 0) 1, e6 123 (.invokevirtual 126) 3 139 1 1 9 0 0, e1 126 (.ifCond .ne 14) 3 140, e0 129 (.aload_n 0) 1, e3 130 (.getfield 120) 3 9 16 0, e0 133 (.aload_n 0) 1, e3 134 (.getfield 123) 3 9 15 0, e1 137 (.if_icmp .ge 10) 3 147, e0 140 (.aload_n 0) 1, e6 141 (.invokevirtual 216) 3 150 1 0 9 0 0, e1 144 (.goto (-29)) 3 115, e0 147 (.aload_n 0) 1, e0 148 (.aload_n 0) 1, e3 149 (.getfield 114) 3 9 18 0, e1 152 (.ifCond .le 10) 3 162, e0 155 (.aload_n 0) 1, e3 156 (.getfield 117) 3 9 19 0, e1 159 (.goto 4) 3 163, e0 162 (.iconst (-1)) 1, e3 163 (.putfield 48) 3 9 20 0, e0 166 (.aload_n 0) 1, e3 167 (.getfield 114) 3 9 18 0, e1 170 (.ifCond .le 11) 3 181, e0 173 (.aload_n 0) 1, e3 174 (.getfield 114) 3 9 18 0, e0 177 (.bipush 10) 2, e0 179 .isub 1, e0 180 .ireturn 1, e0 181 (.iconst 0) 1, e0 182 (.istore_n 2) 1, e0 183 (.iload_n 2) 1, e0 184 (.sipush 867) 3, e1 187 (.if_icmp .ge 21) 3 208, e0 190 (.aload_n 0) 1, e3 191 (.getfield 17) 3 9 2 2, e0 194 (.iload_n 2) 1, e0 195 (.aload_n 0) 1, e3 196 (.getfield 20) 3 9 3 2, e0 199 (.iload_n 2) 1, e1 200 .iaload 1 11, e1 201 .iastore 1 11, e0 202 (.iinc 2 1) 3, e1 205 (.goto (-22)) 3 183, e0 208 (.iconst 0) 1, e0 209 (.istore_n 2) 1, e0 210 (.iload_n 2) 1, e0 211 (.bipush 24) 2, e1 213 (.if_icmp .ge 33) 3 246, e0 216 (.aload_n 0) 1, e3 217 (.getfield 26) 3 9 5 2, e0 220 (.iload_n 2) 1, e0 221 (.aload_n 0) 1, e3 222 (.getfield 32) 3 9 7 2, e0 225 (.iload_n 2) 1, e1 226 .iaload 1 11, e1 227 .iastore 1 11, e0 228 (.aload_n 0) 1, e3 229 (.getfield 29) 3 9 6 2, e0 232 (.iload_n 2) 1, e0 233 (.aload_n 0) 1, e3 234 (.getfield 35) 3 9 8 2, e0 237 (.iload_n 2) 1, e1 238 .iaload 1 11, e1 239 .iastore 1 11, e0 240 (.iinc 2 1) 3, e1 243 (.goto (-33)) 3 210, e0 246 (.aload_n 0) 1, e0 247 (.aload_n 0) 1, e3 248 (.getfield 159) 3 9 21 0, e3 251 (.putfield 38) 3 9 10 0, e0 254 (.aload_n 0) 1, e0 255 (.aload_n 0) 1, e3 256 (.getfield 165) 3 9 22 0, e3 259 (.putfield 219) 3 9 11 0, e0 262 (.aload_n 0) 1, e0 263 (.iconst 0) 1, e3 264 (.putfield 222) 3 9 9 0, e0 267 (.aload_n 0) 1, e3 268 (.getfield 219) 3 9 11 0, e0 271 .ireturn 1]
set_option maxRecDepth 100000 in
def tb_X8_fault : List tr_En := [e0 0 (.aload_n 0) 1, e0 1 (.iconst 0) 1, e1 2 (.putfield 1) 3 9, e0 5 (.aload_n 0) 1, e3 6 (.getfield 48) 3 9 20 0, e0 9 .ireturn 1]
set_option maxRecDepth 100000 in
def tb_X8_keeps : List tr_En := [e0 0 (.aload_n 0) 1, e3 1 (.getfield 222) 3 9 9 0, e0 4 (.bipush 12) 2, e1 6 (.if_icmp .ne 44) 3 50, e0 9 (.iconst 0) 1, e0 10 (.istore_n 1) 1, e0 11 (.iload_n 1) 1, e0 12 (.sipush 9537) 3, e1 15 (.if_icmp .ge 25) 3 40, e0 18 (.aload_n 0) 1, e3 19 (.getfield 23) 3 9 4 2, e0 22 (.iload_n 1) 1, e0 23 (.aload_n 0) 1, e3 24 (.getfield 23) 3 9 4 2, e0 27 (.iload_n 1) 1, e0 28 (.sipush 867) 3, e0 31 .iadd 1, e1 32 .iaload 1 11, e1 33 .iastore 1 11, e0 34 (.iinc 1 1) 3, e1 37 (.goto (-26)) 3 11, e0 40 (.aload_n 0) 1, e0 41 .dup 1, e3 42 (.getfield 222) 3 9 9 0, e0 45 (.iconst 1) 1, e0 46 .isub 1, e3 47 (.putfield 222) 3 9 9 0, e0 50 (.iconst 0) 1, e0 51 (.istore_n 1) 1, e0 52 (.iload_n 1) 1, e0 53 (.sipush 867) 3, e1 56 (.if_icmp .ge 30) 3 86, e0 59 (.aload_n 0) 1, e3 60 (.getfield 23) 3 9 4 2, e0 63 (.sipush 867) 3, e0 66 (.aload_n 0) 1, e3 67 (.getfield 222) 3 9 9 0, e0 70 .imul 1, e0 71 (.iload_n 1) 1, e0 72 .iadd 1, e0 73 (.aload_n 0) 1, e3 74 (.getfield 17) 3 9 2 2, e0 77 (.iload_n 1) 1, e1 78 .iaload 1 11, e1 79 .iastore 1 11, e0 80 (.iinc 1 1) 3, e1 83 (.goto (-31)) 3 52, e0 86 (.aload_n 0) 1, e0 87 .dup 1, e3 88 (.getfield 222) 3 9 9 0, e0 91 (.iconst 1) 1, e0 92 .iadd 1, e3 93 (.putfield 222) 3 9 9 0, e0 96 .return_ 1]
set_option maxRecDepth 100000 in
def tb_X8_isHop : List tr_En := [e0 0 (.iload_n 1) 1, e0 1 (.iconst 0) 1, e0 2 (.aload_n 0) 1, e3 3 (.getfield 38) 3 9 10 0, e0 6 (.iconst 1) 1, e0 7 .isub 1, e3 8 (.invokestatic 155) 3 121 3 1, e3 11 .ireturn 1 0 0 1]
set_option maxRecDepth 100000 in
def tb_X8_isLink : List tr_En := [e0 0 (.iload_n 1) 1, e0 1 (.iconst 0) 1, e0 2 (.aload_n 0) 1, e3 3 (.getfield 219) 3 9 11 0, e0 6 (.iconst 1) 1, e0 7 .isub 1, e3 8 (.invokestatic 155) 3 121 3 1, e3 11 .ireturn 1 0 0 1]
set_option maxRecDepth 100000 in
def tb_X8_send : List tr_En := [e0 0 (.aload_n 0) 1, e0 1 (.iconst 0) 1, e1 2 (.putfield 1) 3 9, e0 5 (.aload_n 0) 1, e0 6 (.iload_n 1) 1, e6 7 (.invokevirtual 225) 3 154 2 1 9 0 0, e1 10 (.ifCond .eq 49) 3 59, e0 13 (.aload_n 0) 1, e0 14 (.iload_n 2) 1, e6 15 (.invokevirtual 225) 3 154 2 1 9 0 0, e1 18 (.ifCond .eq 41) 3 59, e0 21 (.iload_n 3) 1, e0 22 (.iconst 0) 1, e0 23 (.sipush 9999) 3, e3 26 (.invokestatic 155) 3 121 3 1, e1 29 (.ifCond .eq 30) 3 59, e0 32 (.iload 4) 2, e0 34 (.iconst 1) 1, e0 35 (.sipush 200) 3, e3 38 (.invokestatic 155) 3 121 3 1, e1 41 (.ifCond .eq 18) 3 59, e0 44 (.iload 5) 2, e0 46 (.iconst 0) 1, e0 47 (.bipush 12) 2, e3 49 (.invokestatic 155) 3 121 3 1, e1 52 (.ifCond .eq 7) 3 59, e0 55 (.iconst 1) 1, e1 56 (.goto 4) 3 60, e0 59 (.iconst 0) 1, e0 60 (.istore 6) 2, e0 62 (.aload_n 0) 1, e0 63 (.iload 6) 2, e0 65 (.iconst 1) 1, e0 66 (.iconst 1) 1, e6 67 (.invokevirtual 211) 3 120 4 1 9 0 0, e1 70 (.ifCond .eq 29) 3 99, e0 73 (.aload_n 0) 1, e0 74 (.aload_n 0) 1, e3 75 (.getfield 17) 3 9 2 2, e0 78 (.bipush 106) 2, e1 80 .iaload 1 11, e0 81 (.bipush 40) 2, e1 83 (.if_icmp .ge 7) 3 90, e0 86 (.iconst 1) 1, e1 87 (.goto 4) 3 91, e0 90 (.iconst 0) 1, e0 91 (.iconst 2) 1, e0 92 (.iconst 2) 1, e6 93 (.invokevirtual 211) 3 120 4 1 9 0 0, e1 96 (.ifCond .ne 5) 3 101, e0 99 (.iconst 0) 1, e0 100 .ireturn 1, e0 101 (.aload_n 0) 1, e6 102 (.invokevirtual 228) 3 153 1 0 9 0 0, e0 105 (.aload_n 0) 1, e3 106 (.getfield 17) 3 9 2 2, e0 109 (.bipush 106) 2, e1 111 .iaload 1 11, e0 112 (.istore 7) 2, e0 114 (.bipush 107) 2, e0 116 (.bipush 19) 2, e0 118 (.iload 7) 2, e0 120 .imul 1, e0 121 .iadd 1, e0 122 (.istore 8) 2, e0 124 (.aload_n 0) 1, e3 125 (.getfield 17) 3 9 2 2, e0 128 (.iload 8) 2, e0 130 (.iconst 0) 1, e0 131 .iadd 1, e0 132 (.iload_n 1) 1, e1 133 .iastore 1 11, e0 134 (.aload_n 0) 1, e3 135 (.getfield 17) 3 9 2 2, e0 138 (.iload 8) 2, e0 140 (.iconst 1) 1, e0 141 .iadd 1, e0 142 (.iload_n 2) 1, e1 143 .iastore 1 11, e0 144 (.aload_n 0) 1, e3 145 (.getfield 17) 3 9 2 2, e0 148 (.iload 8) 2, e0 150 (.iconst 2) 1, e0 151 .iadd 1, e0 152 (.iload_n 3) 1, e1 153 .iastore 1 11, e0 154 (.aload_n 0) 1, e3 155 (.getfield 17) 3 9 2 2, e0 158 (.iload 8) 2, e0 160 (.iconst 3) 1, e0 161 .iadd 1, e0 162 (.iload 4) 2, e1 164 .iastore 1 11, e0 165 (.aload_n 0) 1, e3 166 (.getfield 17) 3 9 2 2, e0 169 (.iload 8) 2, e0 171 (.iconst 4) 1, e0 172 .iadd 1, e0 173 (.iload 5) 2, e1 175 .iastore 1 11, e0 176 (.aload_n 0) 1, e3 177 (.getfield 17) 3 9 2 2, e0 180 (.bipush 106) 2, e0 182 .dup2 1, e1 183 .iaload 1 11, e0 184 (.iconst 1) 1, e0 185 .iadd 1, e1 186 .iastore 1 11, e0 187 (.aload_n 0) 1, e0 188 (.iload 7) 2, e6 190 (.invokevirtual 231) 3 127 2 0 9 0 0, e0 193 (.iload 7) 2, e0 195 .ireturn 1]
set_option maxRecDepth 100000 in
def tb_X8_forget : List tr_En := [e0 0 (.aload_n 0) 1, e0 1 (.iconst 0) 1, e1 2 (.putfield 1) 3 9, e0 5 (.aload_n 0) 1, e6 6 (.invokevirtual 228) 3 153 1 0 9 0 0, e0 9 (.aload_n 0) 1, e3 10 (.getfield 17) 3 9 2 2, e0 13 (.bipush 106) 2, e1 15 .iaload 1 11, e0 16 (.istore_n 1) 1, e0 17 (.bipush 106) 2, e0 19 (.istore_n 2) 1, e0 20 (.iload_n 2) 1, e0 21 (.sipush 867) 3, e1 24 (.if_icmp .ge 16) 3 40, e0 27 (.aload_n 0) 1, e3 28 (.getfield 17) 3 9 2 2, e0 31 (.iload_n 2) 1, e0 32 (.iconst 0) 1, e1 33 .iastore 1 11, e0 34 (.iinc 2 1) 3, e1 37 (.goto (-17)) 3 20, e0 40 (.iload_n 1) 1, e0 41 .ireturn 1]
set_option maxRecDepth 100000 in
def tb_X8_link : List tr_En := [e0 0 (.aload_n 0) 1, e0 1 (.iconst 0) 1, e1 2 (.putfield 1) 3 9, e0 5 (.aload_n 0) 1, e0 6 (.aload_n 0) 1, e0 7 (.iload_n 1) 1, e6 8 (.invokevirtual 234) 3 155 2 1 9 0 0, e0 11 (.iconst 1) 1, e0 12 (.iconst 0) 1, e6 13 (.invokevirtual 211) 3 120 4 1 9 0 0, e1 16 (.ifCond .eq 18) 3 34, e0 19 (.aload_n 0) 1, e0 20 (.iload_n 2) 1, e0 21 (.iconst 0) 1, e0 22 (.iconst 1) 1, e3 23 (.invokestatic 155) 3 121 3 1, e0 26 (.iconst 2) 1, e0 27 (.iconst 1) 1, e6 28 (.invokevirtual 211) 3 120 4 1 9 0 0, e1 31 (.ifCond .ne 5) 3 36, e0 34 (.iconst 0) 1, e3 35 .ireturn 1 0 0 1, e0 36 (.aload_n 0) 1, e6 37 (.invokevirtual 228) 3 153 1 0 9 0 0, e0 40 (.aload_n 0) 1, e0 41 (.iload_n 1) 1, e6 42 (.invokevirtual 86) 3 125 2 1 9 0 0, e0 45 (.istore_n 3) 1, e0 46 (.aload_n 0) 1, e3 47 (.getfield 17) 3 9 2 2, e0 50 (.iconst 0) 1, e0 51 (.iload_n 2) 1, e0 52 (.iconst 1) 1, e1 53 (.if_icmp .ne 18) 3 71, e0 56 (.aload_n 0) 1, e3 57 (.getfield 17) 3 9 2 2, e0 60 (.iconst 0) 1, e1 61 .iaload 1 11, e0 62 (.iconst 1) 1, e0 63 (.iload_n 1) 1, e0 64 .ishl 1, e0 65 (.iconst (-1)) 1, e0 66 .ixor 1, e0 67 .iand 1, e1 68 (.goto 13) 3 81, e0 71 (.aload_n 0) 1, e3 72 (.getfield 17) 3 9 2 2, e0 75 (.iconst 0) 1, e1 76 .iaload 1 11, e0 77 (.iconst 1) 1, e0 78 (.iload_n 1) 1, e0 79 .ishl 1, e0 80 .ior 1, e1 81 .iastore 1 11, e0 82 (.iload_n 3) 1, e0 83 (.iload_n 2) 1, e0 84 (.iconst 1) 1, e1 85 (.if_icmp .ne 7) 3 92, e0 88 (.iconst 1) 1, e1 89 (.goto 4) 3 93, e0 92 (.iconst 0) 1, e1 93 (.if_icmp .ne 7) 3 100, e0 96 (.iconst 1) 1, e1 97 (.goto 4) 3 101, e0 100 (.iconst 0) 1, e3 101 .ireturn 1 0 0 1]
set_option maxRecDepth 100000 in
def tb_X8_route : List tr_En := [e0 0 (.aload_n 0) 1, e0 1 (.iconst 0) 1, e1 2 (.putfield 1) 3 9, e0 5 (.aload_n 0) 1, e0 6 (.aload_n 0) 1, e0 7 (.iload_n 1) 1, e6 8 (.invokevirtual 225) 3 154 2 1 9 0 0, e1 11 (.ifCond .eq 28) 3 39, e0 14 (.aload_n 0) 1, e0 15 (.iload_n 2) 1, e6 16 (.invokevirtual 225) 3 154 2 1 9 0 0, e1 19 (.ifCond .eq 20) 3 39, e0 22 (.iload_n 3) 1, e0 23 (.iconst (-1)) 1, e1 24 (.if_icmp .eq 11) 3 35, e0 27 (.aload_n 0) 1, e0 28 (.iload_n 3) 1, e6 29 (.invokevirtual 234) 3 155 2 1 9 0 0, e1 32 (.ifCond .eq 7) 3 39, e0 35 (.iconst 1) 1, e1 36 (.goto 4) 3 40, e0 39 (.iconst 0) 1, e0 40 (.iconst 1) 1, e0 41 (.iconst 0) 1, e6 42 (.invokevirtual 211) 3 120 4 1 9 0 0, e1 45 (.ifCond .eq 37) 3 82, e0 48 (.aload_n 0) 1, e0 49 (.iload_n 1) 1, e0 50 (.iload_n 2) 1, e1 51 (.if_icmp .eq 22) 3 73, e0 54 (.iload_n 3) 1, e0 55 (.iconst (-1)) 1, e1 56 (.if_icmp .eq 13) 3 69, e0 59 (.aload_n 0) 1, e3 60 (.getfield 26) 3 9 5 2, e0 63 (.iload_n 3) 1, e1 64 .iaload 1 11, e0 65 (.iload_n 1) 1, e1 66 (.if_icmp .ne 7) 3 73, e0 69 (.iconst 1) 1, e1 70 (.goto 4) 3 74, e0 73 (.iconst 0) 1, e0 74 (.iconst 2) 1, e0 75 (.iconst 1) 1, e6 76 (.invokevirtual 211) 3 120 4 1 9 0 0, e1 79 (.ifCond .ne 5) 3 84, e0 82 (.iconst 0) 1, e0 83 .ireturn 1, e0 84 (.aload_n 0) 1, e6 85 (.invokevirtual 228) 3 153 1 0 9 0 0, e0 88 (.aload_n 0) 1, e0 89 (.iload_n 1) 1, e0 90 (.iload_n 2) 1, e6 91 (.invokevirtual 83) 3 126 3 1 9 0 0, e0 94 (.istore 4) 2, e0 96 (.aload_n 0) 1, e3 97 (.getfield 17) 3 9 2 2, e0 100 (.bipush 6) 2, e0 102 (.bipush 10) 2, e0 104 (.iload_n 1) 1, e0 105 .imul 1, e0 106 .iadd 1, e0 107 (.iload_n 2) 1, e0 108 .iadd 1, e0 109 (.iload_n 3) 1, e1 110 .iastore 1 11, e0 111 (.iload 4) 2, e0 113 .ireturn 1]
set_option maxRecDepth 100000 in
def tb_X8_maySet : List tr_En := [e0 0 (.iload_n 1) 1, e1 1 (.tableswitch 106 0 4 #[35, 43, 72, 84, 98]) 35 107, e0 36 (.iload_n 2) 1, e0 37 (.iconst 1) 1, e0 38 (.bipush 31) 2, e3 40 (.invokestatic 155) 3 121 3 1, e3 43 .ireturn 1 0 0 1, e0 44 (.iload_n 2) 1, e0 45 (.iconst 2) 1, e0 46 (.aload_n 0) 1, e3 47 (.getfield 17) 3 9 2 2, e0 50 (.iconst 3) 1, e1 51 .iaload 1 11, e0 52 (.aload_n 0) 1, e3 53 (.getfield 17) 3 9 2 2, e0 56 (.iconst 4) 1, e1 57 .iaload 1 11, e0 58 (.iconst 1) 1, e0 59 .iadd 1, e1 60 (.invokestatic 175) 3 1002, e1 63 (.invokestatic 175) 3 1002, e0 66 (.sipush 997) 3, e3 69 (.invokestatic 155) 3 121 3 1, e3 72 .ireturn 1 0 0 1, e0 73 (.iload_n 2) 1, e0 74 (.iconst 1) 1, e0 75 (.aload_n 0) 1, e3 76 (.getfield 17) 3 9 2 2, e0 79 (.iconst 2) 1, e1 80 .iaload 1 11, e3 81 (.invokestatic 155) 3 121 3 1, e3 84 .ireturn 1 0 0 1, e0 85 (.iload_n 2) 1, e0 86 (.iconst 0) 1, e0 87 (.aload_n 0) 1, e3 88 (.getfield 17) 3 9 2 2, e0 91 (.iconst 2) 1, e1 92 .iaload 1 11, e0 93 (.iconst 1) 1, e0 94 .isub 1, e3 95 (.invokestatic 155) 3 121 3 1, e3 98 .ireturn 1 0 0 1, e0 99 (.iload_n 2) 1, e0 100 (.iconst 2) 1, e0 101 (.bipush 64) 2, e3 103 (.invokestatic 155) 3 121 3 1, e3 106 .ireturn 1 0 0 1, e0 107 (.iconst 0) 1, e3 108 .ireturn 1 0 0 1]
set_option maxRecDepth 100000 in
def tb_X8_set : List tr_En := [e0 0 (.aload_n 0) 1, e0 1 (.iconst 0) 1, e1 2 (.putfield 1) 3 9, e0 5 (.aload_n 0) 1, e0 6 (.aload_n 0) 1, e0 7 (.iload_n 1) 1, e0 8 (.iload_n 2) 1, e6 9 (.invokevirtual 237) 3 160 3 1 9 0 0, e0 12 (.iconst 1) 1, e0 13 (.iconst 1) 1, e6 14 (.invokevirtual 211) 3 120 4 1 9 0 0, e1 17 (.ifCond .ne 5) 3 22, e0 20 (.iconst 0) 1, e0 21 .ireturn 1, e0 22 (.aload_n 0) 1, e6 23 (.invokevirtual 228) 3 153 1 0 9 0 0, e0 26 (.aload_n 0) 1, e3 27 (.getfield 17) 3 9 2 2, e0 30 (.iconst 1) 1, e0 31 (.iload_n 1) 1, e0 32 .iadd 1, e1 33 .iaload 1 11, e0 34 (.istore_n 3) 1, e0 35 (.aload_n 0) 1, e3 36 (.getfield 17) 3 9 2 2, e0 39 (.iconst 1) 1, e0 40 (.iload_n 1) 1, e0 41 .iadd 1, e0 42 (.iload_n 2) 1, e1 43 .iastore 1 11, e0 44 (.iload_n 3) 1, e0 45 .ireturn 1]
set_option maxRecDepth 100000 in
def tb_X8_undo : List tr_En := [e0 0 (.aload_n 0) 1, e0 1 (.iconst 0) 1, e1 2 (.putfield 1) 3 9, e0 5 (.aload_n 0) 1, e3 6 (.getfield 222) 3 9 9 0, e1 9 (.ifCond .ne 5) 3 14, e0 12 (.iconst (-1)) 1, e0 13 .ireturn 1, e0 14 (.aload_n 0) 1, e0 15 .dup 1, e3 16 (.getfield 222) 3 9 9 0, e0 19 (.iconst 1) 1, e0 20 .isub 1, e3 21 (.putfield 222) 3 9 9 0, e0 24 (.iconst 0) 1, e0 25 (.istore_n 1) 1, e0 26 (.iload_n 1) 1, e0 27 (.sipush 867) 3, e1 30 (.if_icmp .ge 30) 3 60, e0 33 (.aload_n 0) 1, e3 34 (.getfield 17) 3 9 2 2, e0 37 (.iload_n 1) 1, e0 38 (.aload_n 0) 1, e3 39 (.getfield 23) 3 9 4 2, e0 42 (.sipush 867) 3, e0 45 (.aload_n 0) 1, e3 46 (.getfield 222) 3 9 9 0, e0 49 .imul 1, e0 50 (.iload_n 1) 1, e0 51 .iadd 1, e1 52 .iaload 1 11, e1 53 .iastore 1 11, e0 54 (.iinc 1 1) 3, e1 57 (.goto (-31)) 3 26, e0 60 (.aload_n 0) 1, e3 61 (.getfield 222) 3 9 9 0, e0 64 .ireturn 1]
set_option maxRecDepth 100000 in
def tb_X8_chosenMany : List tr_En := [e0 0 (.iconst 0) 1, e0 1 (.istore_n 2) 1, e0 2 (.iconst 0) 1, e0 3 (.istore_n 3) 1, e0 4 (.iload_n 3) 1, e0 5 (.aload_n 0) 1, e0 6 (.iload_n 1) 1, e0 7 (.bipush 6) 2, e6 9 (.invokevirtual 79) 3 124 3 1 9 0 0, e1 12 (.if_icmp .gt 26) 3 38, e0 15 (.iload_n 2) 1, e0 16 (.aload_n 0) 1, e0 17 (.iload_n 1) 1, e0 18 (.iload_n 3) 1, e6 19 (.invokevirtual 241) 3 133 3 1 9 0 0, e1 22 (.ifCond .eq 7) 3 29, e0 25 (.iconst 1) 1, e1 26 (.goto 4) 3 30, e0 29 (.iconst 0) 1, e0 30 .iadd 1, e0 31 (.istore_n 2) 1, e0 32 (.iinc 3 1) 3, e1 35 (.goto (-31)) 3 4, e0 38 (.iload_n 2) 1, e0 39 .ireturn 1]
set_option maxRecDepth 100000 in
def tb_X8_counted : List tr_En := [e0 0 (.iconst 0) 1, e0 1 (.istore_n 2) 1, e0 2 (.iconst 0) 1, e0 3 (.istore_n 3) 1, e0 4 (.iload_n 3) 1, e0 5 (.aload_n 0) 1, e3 6 (.getfield 17) 3 9 2 2, e0 9 (.bipush 106) 2, e1 11 .iaload 1 11, e1 12 (.if_icmp .ge 72) 3 84, e0 15 (.aload_n 0) 1, e0 16 (.iload_n 3) 1, e6 17 (.invokevirtual 244) 3 163 2 1 9 0 0, e0 20 (.istore 4) 2, e0 22 (.iload_n 2) 1, e0 23 (.iload_n 1) 1, e1 24 (.ifCond .ne 8) 3 32, e0 27 (.iload 4) 2, e1 29 (.goto 47) 3 76, e0 32 (.iload_n 1) 1, e0 33 (.iconst 1) 1, e1 34 (.if_icmp .ne 20) 3 54, e0 37 (.aload_n 0) 1, e0 38 (.iload_n 3) 1, e0 39 (.iconst 0) 1, e6 40 (.invokevirtual 241) 3 133 3 1 9 0 0, e1 43 (.ifCond .eq 7) 3 50, e0 46 (.iconst 1) 1, e1 47 (.goto 29) 3 76, e0 50 (.iconst 0) 1, e1 51 (.goto 25) 3 76, e0 54 (.iload 4) 2, e1 56 (.ifCond .le 19) 3 75, e0 59 (.iload 4) 2, e0 61 (.aload_n 0) 1, e0 62 (.iload_n 3) 1, e0 63 (.bipush 6) 2, e6 65 (.invokevirtual 79) 3 124 3 1 9 0 0, e1 68 (.if_icmp .gt 7) 3 75, e0 71 (.iconst 1) 1, e1 72 (.goto 4) 3 76, e0 75 (.iconst 0) 1, e0 76 .iadd 1, e0 77 (.istore_n 2) 1, e0 78 (.iinc 3 1) 3, e1 81 (.goto (-77)) 3 4, e0 84 (.iload_n 2) 1, e0 85 .ireturn 1]
set_option maxRecDepth 100000 in
def tb_X8_clashesBy : List tr_En := [e0 0 (.iconst 0) 1, e0 1 (.istore_n 2) 1, e0 2 (.iconst 0) 1, e0 3 (.istore_n 3) 1, e0 4 (.iload_n 3) 1, e0 5 (.aload_n 0) 1, e3 6 (.getfield 17) 3 9 2 2, e0 9 (.bipush 106) 2, e1 11 .iaload 1 11, e1 12 (.if_icmp .ge 69) 3 81, e0 15 (.iconst 0) 1, e0 16 (.istore 4) 2, e0 18 (.iload 4) 2, e0 20 (.iload_n 3) 1, e1 21 (.if_icmp .ge 54) 3 75, e0 24 (.iload_n 2) 1, e0 25 (.aload_n 0) 1, e0 26 (.iload_n 3) 1, e0 27 (.iconst 0) 1, e6 28 (.invokevirtual 241) 3 133 3 1 9 0 0, e1 31 (.ifCond .eq 35) 3 66, e0 34 (.aload_n 0) 1, e0 35 (.iload 4) 2, e0 37 (.iconst 0) 1, e6 38 (.invokevirtual 241) 3 133 3 1 9 0 0, e1 41 (.ifCond .eq 25) 3 66, e0 44 (.aload_n 0) 1, e0 45 (.iload_n 3) 1, e6 46 (.invokevirtual 103) 3 134 2 1 9 0 0, e0 49 (.iload_n 1) 1, e0 50 .irem 1, e0 51 (.aload_n 0) 1, e0 52 (.iload 4) 2, e6 54 (.invokevirtual 103) 3 134 2 1 9 0 0, e0 57 (.iload_n 1) 1, e0 58 .irem 1, e1 59 (.if_icmp .ne 7) 3 66, e0 62 (.iconst 1) 1, e1 63 (.goto 4) 3 67, e0 66 (.iconst 0) 1, e0 67 .iadd 1, e0 68 (.istore_n 2) 1, e0 69 (.iinc 4 1) 3, e1 72 (.goto (-54)) 3 18, e0 75 (.iinc 3 1) 3, e1 78 (.goto (-74)) 3 4, e0 81 (.iload_n 2) 1, e0 82 .ireturn 1]
set_option maxRecDepth 100000 in
def tb_X8_told : List tr_En := [e0 0 (.aload_n 0) 1, e0 1 (.iconst 0) 1, e1 2 (.putfield 1) 3 9, e0 5 (.aload_n 0) 1, e0 6 (.iload_n 1) 1, e0 7 (.iconst 0) 1, e0 8 (.bipush 13) 2, e3 10 (.invokestatic 155) 3 121 3 1, e0 13 (.iconst 1) 1, e0 14 (.iconst 1) 1, e6 15 (.invokevirtual 211) 3 120 4 1 9 0 0, e1 18 (.ifCond .ne 5) 3 23, e0 21 (.iconst 0) 1, e0 22 .ireturn 1, e0 23 (.iload_n 1) 1, e1 24 (.tableswitch 120 0 13 #[72, 77, 82, 120, 120, 120, 120, 120, 90, 95, 100, 100, 100, 109]) 72 144, e0 96 (.aload_n 0) 1, e3 97 (.getfield 38) 3 9 10 0, e0 100 .ireturn 1, e0 101 (.aload_n 0) 1, e3 102 (.getfield 219) 3 9 11 0, e0 105 .ireturn 1, e0 106 (.aload_n 0) 1, e3 107 (.getfield 17) 3 9 2 2, e0 110 (.bipush 106) 2, e1 112 .iaload 1 11, e0 113 .ireturn 1, e0 114 (.aload_n 0) 1, e3 115 (.getfield 222) 3 9 9 0, e0 118 .ireturn 1, e0 119 (.aload_n 0) 1, e3 120 (.getfield 107) 3 9 14 0, e0 123 .ireturn 1, e0 124 (.aload_n 0) 1, e0 125 (.iload_n 1) 1, e0 126 (.bipush 10) 2, e0 128 .isub 1, e6 129 (.invokevirtual 247) 3 164 2 1 9 0 0, e0 132 .ireturn 1, e0 133 (.aload_n 0) 1, e0 134 (.aload_n 0) 1, e3 135 (.getfield 17) 3 9 2 2, e0 138 (.iconst 5) 1, e1 139 .iaload 1 11, e6 140 (.invokevirtual 250) 3 165 2 1 9 0 0, e0 143 .ireturn 1, e0 144 (.aload_n 0) 1, e3 145 (.getfield 17) 3 9 2 2, e0 148 (.iconst 1) 1, e0 149 (.iload_n 1) 1, e0 150 .iadd 1, e0 151 (.iconst 3) 1, e0 152 .isub 1, e1 153 .iaload 1 11, e0 154 .ireturn 1]
set_option maxRecDepth 100000 in
def tb_X8_linkTold : List tr_En := [e0 0 (.aload_n 0) 1, e0 1 (.iconst 0) 1, e1 2 (.putfield 1) 3 9, e0 5 (.aload_n 0) 1, e0 6 (.aload_n 0) 1, e0 7 (.iload_n 1) 1, e6 8 (.invokevirtual 234) 3 155 2 1 9 0 0, e0 11 (.iconst 1) 1, e0 12 (.iconst 0) 1, e6 13 (.invokevirtual 211) 3 120 4 1 9 0 0, e1 16 (.ifCond .eq 18) 3 34, e0 19 (.aload_n 0) 1, e0 20 (.iload_n 2) 1, e0 21 (.iconst 0) 1, e0 22 (.iconst 2) 1, e3 23 (.invokestatic 155) 3 121 3 1, e0 26 (.iconst 2) 1, e0 27 (.iconst 1) 1, e6 28 (.invokevirtual 211) 3 120 4 1 9 0 0, e1 31 (.ifCond .ne 5) 3 36, e0 34 (.iconst 0) 1, e0 35 .ireturn 1, e0 36 (.iload_n 2) 1, e1 37 (.ifCond .ne 12) 3 49, e0 40 (.aload_n 0) 1, e3 41 (.getfield 26) 3 9 5 2, e0 44 (.iload_n 1) 1, e1 45 .iaload 1 11, e1 46 (.goto 30) 3 76, e0 49 (.iload_n 2) 1, e0 50 (.iconst 1) 1, e1 51 (.if_icmp .ne 12) 3 63, e0 54 (.aload_n 0) 1, e3 55 (.getfield 29) 3 9 6 2, e0 58 (.iload_n 1) 1, e1 59 .iaload 1 11, e1 60 (.goto 16) 3 76, e0 63 (.aload_n 0) 1, e0 64 (.iload_n 1) 1, e6 65 (.invokevirtual 86) 3 125 2 1 9 0 0, e1 68 (.ifCond .eq 7) 3 75, e0 71 (.iconst 0) 1, e1 72 (.goto 4) 3 76, e0 75 (.iconst 1) 1, e0 76 .ireturn 1]
set_option maxRecDepth 100000 in
def tb_X8_routeTold : List tr_En := [e0 0 (.aload_n 0) 1, e0 1 (.iconst 0) 1, e1 2 (.putfield 1) 3 9, e0 5 (.aload_n 0) 1, e0 6 (.aload_n 0) 1, e0 7 (.iload_n 1) 1, e6 8 (.invokevirtual 225) 3 154 2 1 9 0 0, e1 11 (.ifCond .eq 15) 3 26, e0 14 (.aload_n 0) 1, e0 15 (.iload_n 2) 1, e6 16 (.invokevirtual 225) 3 154 2 1 9 0 0, e1 19 (.ifCond .eq 7) 3 26, e0 22 (.iconst 1) 1, e1 23 (.goto 4) 3 27, e0 26 (.iconst 0) 1, e0 27 (.iconst 1) 1, e0 28 (.iconst 0) 1, e6 29 (.invokevirtual 211) 3 120 4 1 9 0 0, e1 32 (.ifCond .eq 12) 3 44, e0 35 (.aload_n 0) 1, e0 36 (.iload_n 1) 1, e0 37 (.iload_n 2) 1, e6 38 (.invokevirtual 83) 3 126 3 1 9 0 0, e1 41 (.goto 4) 3 45, e0 44 (.iconst 0) 1, e0 45 .ireturn 1]
set_option maxRecDepth 100000 in
def tb_X8_isPacket : List tr_En := [e0 0 (.iload_n 1) 1, e0 1 (.iconst 0) 1, e0 2 (.aload_n 0) 1, e3 3 (.getfield 17) 3 9 2 2, e0 6 (.bipush 106) 2, e1 8 .iaload 1 11, e0 9 (.iconst 1) 1, e0 10 .isub 1, e3 11 (.invokestatic 155) 3 121 3 1, e3 14 .ireturn 1 0 0 1]
set_option maxRecDepth 100000 in
def tb_X8_packet : List tr_En := [e0 0 (.aload_n 0) 1, e0 1 (.iconst 0) 1, e1 2 (.putfield 1) 3 9, e0 5 (.aload_n 0) 1, e0 6 (.aload_n 0) 1, e0 7 (.iload_n 1) 1, e6 8 (.invokevirtual 253) 3 169 2 1 9 0 0, e0 11 (.iconst 1) 1, e0 12 (.iconst 0) 1, e6 13 (.invokevirtual 211) 3 120 4 1 9 0 0, e1 16 (.ifCond .eq 19) 3 35, e0 19 (.aload_n 0) 1, e0 20 (.iload_n 2) 1, e0 21 (.iconst 0) 1, e0 22 (.bipush 8) 2, e3 24 (.invokestatic 155) 3 121 3 1, e0 27 (.iconst 2) 1, e0 28 (.iconst 1) 1, e6 29 (.invokevirtual 211) 3 120 4 1 9 0 0, e1 32 (.ifCond .ne 5) 3 37, e0 35 (.iconst 0) 1, e0 36 .ireturn 1, e0 37 (.iload_n 2) 1, e0 38 (.bipush 6) 2, e1 40 (.if_icmp .ge 12) 3 52, e0 43 (.aload_n 0) 1, e0 44 (.iload_n 1) 1, e0 45 (.iload_n 2) 1, e6 46 (.invokevirtual 79) 3 124 3 1 9 0 0, e1 49 (.goto 40) 3 89, e0 52 (.iload_n 2) 1, e0 53 (.bipush 6) 2, e1 55 (.if_icmp .ne 15) 3 70, e0 58 (.aload_n 0) 1, e0 59 (.iload_n 1) 1, e0 60 (.bipush 6) 2, e6 62 (.invokevirtual 79) 3 124 3 1 9 0 0, e0 65 (.iconst 1) 1, e0 66 .iadd 1, e1 67 (.goto 22) 3 89, e0 70 (.iload_n 2) 1, e0 71 (.bipush 7) 2, e1 73 (.if_icmp .ne 11) 3 84, e0 76 (.aload_n 0) 1, e0 77 (.iload_n 1) 1, e6 78 (.invokevirtual 256) 3 135 2 1 9 0 0, e1 81 (.goto 8) 3 89, e0 84 (.aload_n 0) 1, e0 85 (.iload_n 1) 1, e6 86 (.invokevirtual 244) 3 163 2 1 9 0 0, e0 89 .ireturn 1]
set_option maxRecDepth 100000 in
def tb_X8_trail : List tr_En := [e0 0 (.aload_n 0) 1, e0 1 (.iconst 0) 1, e1 2 (.putfield 1) 3 9, e0 5 (.aload_n 0) 1, e0 6 (.aload_n 0) 1, e0 7 (.iload_n 1) 1, e6 8 (.invokevirtual 253) 3 169 2 1 9 0 0, e1 11 (.ifCond .eq 22) 3 33, e0 14 (.iload_n 2) 1, e0 15 (.iconst 0) 1, e0 16 (.aload_n 0) 1, e0 17 (.iload_n 1) 1, e0 18 (.bipush 6) 2, e6 20 (.invokevirtual 79) 3 124 3 1 9 0 0, e3 23 (.invokestatic 155) 3 121 3 1, e1 26 (.ifCond .eq 7) 3 33, e0 29 (.iconst 1) 1, e1 30 (.goto 4) 3 34, e0 33 (.iconst 0) 1, e0 34 (.iconst 1) 1, e0 35 (.iconst 0) 1, e6 36 (.invokevirtual 211) 3 120 4 1 9 0 0, e1 39 (.ifCond .eq 18) 3 57, e0 42 (.aload_n 0) 1, e0 43 (.iload_n 3) 1, e0 44 (.iconst 0) 1, e0 45 (.iconst 4) 1, e3 46 (.invokestatic 155) 3 121 3 1, e0 49 (.iconst 2) 1, e0 50 (.iconst 1) 1, e6 51 (.invokevirtual 211) 3 120 4 1 9 0 0, e1 54 (.ifCond .ne 5) 3 59, e0 57 (.iconst 0) 1, e0 58 .ireturn 1, e0 59 (.iload_n 3) 1, e1 60 (.tableswitch 72 0 3 #[32, 39, 56, 65]) 32 132, e0 92 (.aload_n 0) 1, e0 93 (.iload_n 1) 1, e0 94 (.iload_n 2) 1, e6 95 (.invokevirtual 259) 3 129 3 1 9 0 0, e0 98 .ireturn 1, e0 99 (.iload_n 2) 1, e1 100 (.ifCond .ne 7) 3 107, e0 103 (.iconst (-1)) 1, e1 104 (.goto 11) 3 115, e0 107 (.aload_n 0) 1, e0 108 (.iload_n 1) 1, e0 109 (.iload_n 2) 1, e0 110 (.iconst 1) 1, e0 111 .isub 1, e6 112 (.invokevirtual 90) 3 128 3 1 9 0 0, e0 115 .ireturn 1, e0 116 (.aload_n 0) 1, e0 117 (.iload_n 1) 1, e0 118 (.iconst 4) 1, e6 119 (.invokevirtual 79) 3 124 3 1 9 0 0, e0 122 (.iload_n 2) 1, e0 123 .isub 1, e0 124 .ireturn 1, e0 125 (.aload_n 0) 1, e0 126 (.iload_n 1) 1, e0 127 (.iload_n 2) 1, e6 128 (.invokevirtual 100) 3 132 3 1 9 0 0, e0 131 .ireturn 1, e0 132 (.aload_n 0) 1, e0 133 (.iload_n 1) 1, e0 134 (.iload_n 2) 1, e6 135 (.invokevirtual 241) 3 133 3 1 9 0 0, e1 138 (.ifCond .eq 7) 3 145, e0 141 (.iconst 1) 1, e1 142 (.goto 4) 3 146, e0 145 (.iconst 0) 1, e0 146 .ireturn 1]
set_option maxRecDepth 100000 in
def tb_X8_laysReports : List tr_En := [e0 0 (.iconst 0) 1, e0 1 (.istore_n 2) 1, e0 2 (.iload_n 2) 1, e0 3 (.bipush 10) 2, e1 5 (.if_icmp .ge 16) 3 21, e0 8 (.aload_n 0) 1, e3 9 (.getfield 51) 3 9 23 2, e0 12 (.iload_n 2) 1, e0 13 (.iconst 0) 1, e1 14 .iastore 1 11, e0 15 (.iinc 2 1) 3, e1 18 (.goto (-16)) 3 2, e0 21 (.iconst 0) 1, e0 22 (.istore_n 2) 1, e0 23 (.iload_n 2) 1, e0 24 (.bipush 24) 2, e1 26 (.if_icmp .ge 16) 3 42, e0 29 (.aload_n 0) 1, e3 30 (.getfield 54) 3 9 24 2, e0 33 (.iload_n 2) 1, e0 34 (.iconst 0) 1, e1 35 .iastore 1 11, e0 36 (.iinc 2 1) 3, e1 39 (.goto (-16)) 3 23, e0 42 (.aload_n 0) 1, e0 43 (.iconst 0) 1, e3 44 (.putfield 262) 3 9 25 0, e0 47 (.iconst 0) 1, e0 48 (.istore_n 2) 1, e0 49 (.iload_n 2) 1, e0 50 (.aload_n 0) 1, e3 51 (.getfield 17) 3 9 2 2, e0 54 (.bipush 106) 2, e1 56 .iaload 1 11, e1 57 (.if_icmp .ge 101) 3 158, e0 60 (.aload_n 0) 1, e0 61 (.iload_n 2) 1, e6 62 (.invokevirtual 256) 3 135 2 1 9 0 0, e0 65 (.iload_n 1) 1, e1 66 (.if_icmp .eq 6) 3 72, e1 69 (.goto 83) 3 152, e0 72 (.iconst 0) 1, e0 73 (.istore_n 3) 1, e0 74 (.iload_n 3) 1, e0 75 (.aload_n 0) 1, e0 76 (.iload_n 2) 1, e0 77 (.bipush 6) 2, e6 79 (.invokevirtual 79) 3 124 3 1 9 0 0, e1 82 (.if_icmp .gt 70) 3 152, e0 85 (.aload_n 0) 1, e0 86 (.iload_n 2) 1, e0 87 (.iload_n 3) 1, e6 88 (.invokevirtual 241) 3 133 3 1 9 0 0, e1 91 (.ifCond .ne 6) 3 97, e1 94 (.goto 52) 3 146, e0 97 (.aload_n 0) 1, e0 98 .dup 1, e3 99 (.getfield 262) 3 9 25 0, e0 102 (.iconst 1) 1, e0 103 .iadd 1, e3 104 (.putfield 262) 3 9 25 0, e0 107 (.iload_n 3) 1, e1 108 (.ifCond .ne 21) 3 129, e0 111 (.aload_n 0) 1, e3 112 (.getfield 51) 3 9 23 2, e0 115 (.aload_n 0) 1, e0 116 (.iload_n 2) 1, e0 117 (.iconst 0) 1, e6 118 (.invokevirtual 79) 3 124 3 1 9 0 0, e0 121 .dup2 1, e1 122 .iaload 1 11, e0 123 (.iconst 1) 1, e0 124 .iadd 1, e1 125 .iastore 1 11, e1 126 (.goto 20) 3 146, e0 129 (.aload_n 0) 1, e3 130 (.getfield 54) 3 9 24 2, e0 133 (.aload_n 0) 1, e0 134 (.iload_n 2) 1, e0 135 (.iload_n 3) 1, e0 136 (.iconst 1) 1, e0 137 .isub 1, e6 138 (.invokevirtual 90) 3 128 3 1 9 0 0, e0 141 .dup2 1, e1 142 .iaload 1 11, e0 143 (.iconst 1) 1, e0 144 .iadd 1, e1 145 .iastore 1 11, e0 146 (.iinc 3 1) 3, e1 149 (.goto (-75)) 3 74, e0 152 (.iinc 2 1) 3, e1 155 (.goto (-106)) 3 49, e0 158 .return_ 1]
set_option maxRecDepth 100000 in
def tb_X8_reports : List tr_En := [e0 0 (.aload_n 0) 1, e0 1 (.iconst 0) 1, e1 2 (.putfield 1) 3 9, e0 5 (.aload_n 0) 1, e0 6 (.aload_n 0) 1, e0 7 (.iload_n 2) 1, e6 8 (.invokevirtual 225) 3 154 2 1 9 0 0, e1 11 (.ifCond .eq 20) 3 31, e0 14 (.iload_n 3) 1, e0 15 (.iconst (-1)) 1, e1 16 (.if_icmp .eq 11) 3 27, e0 19 (.aload_n 0) 1, e0 20 (.iload_n 3) 1, e6 21 (.invokevirtual 234) 3 155 2 1 9 0 0, e1 24 (.ifCond .eq 7) 3 31, e0 27 (.iconst 1) 1, e1 28 (.goto 4) 3 32, e0 31 (.iconst 0) 1, e0 32 (.iconst 1) 1, e0 33 (.iconst 0) 1, e6 34 (.invokevirtual 211) 3 120 4 1 9 0 0, e1 37 (.ifCond .eq 48) 3 85, e0 40 (.aload_n 0) 1, e0 41 (.iload_n 1) 1, e0 42 (.iconst 0) 1, e0 43 (.aload_n 0) 1, e3 44 (.getfield 17) 3 9 2 2, e0 47 (.iconst 5) 1, e1 48 .iaload 1 11, e0 49 (.iconst 1) 1, e0 50 .isub 1, e3 51 (.invokestatic 155) 3 121 3 1, e1 54 (.ifCond .eq 22) 3 76, e0 57 (.iload_n 3) 1, e0 58 (.iconst (-1)) 1, e1 59 (.if_icmp .eq 13) 3 72, e0 62 (.aload_n 0) 1, e3 63 (.getfield 29) 3 9 6 2, e0 66 (.iload_n 3) 1, e1 67 .iaload 1 11, e0 68 (.iload_n 2) 1, e1 69 (.if_icmp .ne 7) 3 76, e0 72 (.iconst 1) 1, e1 73 (.goto 4) 3 77, e0 76 (.iconst 0) 1, e0 77 (.iconst 2) 1, e0 78 (.iconst 1) 1, e6 79 (.invokevirtual 211) 3 120 4 1 9 0 0, e1 82 (.ifCond .ne 5) 3 87, e0 85 (.iconst 0) 1, e0 86 .ireturn 1, e0 87 (.aload_n 0) 1, e0 88 (.iload_n 1) 1, e6 89 (.invokevirtual 265) 3 172 2 0 9 0 0, e0 92 (.iload_n 3) 1, e0 93 (.iconst (-1)) 1, e1 94 (.if_icmp .ne 12) 3 106, e0 97 (.aload_n 0) 1, e3 98 (.getfield 51) 3 9 23 2, e0 101 (.iload_n 2) 1, e1 102 .iaload 1 11, e1 103 (.goto 9) 3 112, e0 106 (.aload_n 0) 1, e3 107 (.getfield 54) 3 9 24 2, e0 110 (.iload_n 3) 1, e1 111 .iaload 1 11, e0 112 .ireturn 1]
set_option maxRecDepth 100000 in
def tb_X8_label : List tr_En := [e0 0 (.aload_n 0) 1, e0 1 (.iconst 0) 1, e1 2 (.putfield 1) 3 9, e0 5 (.iconst 0) 1, e0 6 (.istore_n 2) 1, e0 7 (.iconst 0) 1, e0 8 (.istore_n 3) 1, e0 9 (.iload_n 3) 1, e0 10 (.aload_n 0) 1, e3 11 (.getfield 17) 3 9 2 2, e0 14 (.iconst 5) 1, e1 15 .iaload 1 11, e1 16 (.if_icmp .ge 34) 3 50, e0 19 (.aload_n 0) 1, e0 20 (.iload_n 3) 1, e6 21 (.invokevirtual 265) 3 172 2 0 9 0 0, e0 24 (.aload_n 0) 1, e3 25 (.getfield 262) 3 9 25 0, e1 28 (.ifCond .ne 6) 3 34, e1 31 (.goto 13) 3 44, e0 34 (.iload_n 2) 1, e0 35 (.iload_n 1) 1, e1 36 (.if_icmp .ne 5) 3 41, e0 39 (.iload_n 3) 1, e0 40 .ireturn 1, e0 41 (.iinc 2 1) 3, e0 44 (.iinc 3 1) 3, e1 47 (.goto (-38)) 3 9, e0 50 (.iconst (-1)) 1, e0 51 .ireturn 1]
set_option maxRecDepth 100000 in
def tb_X8_joins : List tr_En := [e0 0 (.aload_n 0) 1, e0 1 (.iload_n 1) 1, e6 2 (.invokevirtual 265) 3 172 2 0 9 0 0, e0 5 (.aload_n 0) 1, e0 6 (.iconst 0) 1, e3 7 (.putfield 268) 3 9 32 0, e0 10 (.aload_n 0) 1, e0 11 (.iconst 0) 1, e3 12 (.putfield 271) 3 9 33 0, e0 15 (.aload_n 0) 1, e0 16 (.iconst 0) 1, e3 17 (.putfield 274) 3 9 34 0, e0 20 (.aload_n 0) 1, e0 21 (.iconst 0) 1, e3 22 (.putfield 277) 3 9 35 0, e0 25 (.aload_n 0) 1, e3 26 (.getfield 60) 3 9 27 2, e0 29 (.iconst 0) 1, e0 30 (.iconst 0) 1, e1 31 .iastore 1 11, e0 32 (.aload_n 0) 1, e0 33 (.aload_n 0) 1, e3 34 (.getfield 262) 3 9 25 0, e3 37 (.putfield 280) 3 9 36 0, e0 40 (.aload_n 0) 1, e6 41 (.invokevirtual 283) 3 176 1 0 9 0 0, e0 44 .return_ 1]
set_option maxRecDepth 100000 in
def tb_X8_beginsWalk : List tr_En := [e0 0 (.iconst 0) 1, e0 1 (.istore_n 1) 1, e0 2 (.iload_n 1) 1, e0 3 (.aload_n 0) 1, e3 4 (.getfield 38) 3 9 10 0, e1 7 (.if_icmp .ge 18) 3 25, e0 10 (.aload_n 0) 1, e3 11 (.getfield 51) 3 9 23 2, e0 14 (.iload_n 1) 1, e1 15 .iaload 1 11, e1 16 (.ifCond .ne 9) 3 25, e0 19 (.iinc 1 1) 3, e1 22 (.goto (-20)) 3 2, e0 25 (.iload_n 1) 1, e0 26 (.aload_n 0) 1, e3 27 (.getfield 38) 3 9 10 0, e1 30 (.if_icmp .ne 15) 3 45, e0 33 (.aload_n 0) 1, e3 34 (.getfield 280) 3 9 36 0, e1 37 (.ifCond .ne 7) 3 44, e0 40 (.aload_n 0) 1, e6 41 (.invokevirtual 286) 3 177 1 0 9 0 0, e0 44 .return_ 1, e0 45 (.aload_n 0) 1, e3 46 (.getfield 51) 3 9 23 2, e0 49 (.iload_n 1) 1, e0 50 .dup2 1, e1 51 .iaload 1 11, e0 52 (.iconst 1) 1, e0 53 .isub 1, e1 54 .iastore 1 11, e0 55 (.aload_n 0) 1, e0 56 .dup 1, e3 57 (.getfield 280) 3 9 36 0, e0 60 (.iconst 1) 1, e0 61 .isub 1, e3 62 (.putfield 280) 3 9 36 0, e0 65 (.aload_n 0) 1, e3 66 (.getfield 57) 3 9 26 2, e0 69 (.aload_n 0) 1, e3 70 (.getfield 268) 3 9 32 0, e0 73 (.iload_n 1) 1, e1 74 .iastore 1 11, e0 75 (.aload_n 0) 1, e0 76 (.iload_n 1) 1, e0 77 (.iconst 0) 1, e0 78 (.aload_n 0) 1, e3 79 (.getfield 268) 3 9 32 0, e1 82 (.ifCond .le 22) 3 104, e0 85 (.aload_n 0) 1, e3 86 (.getfield 57) 3 9 26 2, e0 89 (.aload_n 0) 1, e3 90 (.getfield 268) 3 9 32 0, e0 93 (.iconst 1) 1, e0 94 .isub 1, e1 95 .iaload 1 11, e0 96 (.iload_n 1) 1, e1 97 (.if_icmp .ne 7) 3 104, e0 100 (.iconst 1) 1, e1 101 (.goto 4) 3 105, e0 104 (.iconst 0) 1, e6 105 (.invokevirtual 289) 3 179 4 0 9 0 0, e0 108 (.aload_n 0) 1, e0 109 .dup 1, e3 110 (.getfield 280) 3 9 36 0, e0 113 (.iconst 1) 1, e0 114 .iadd 1, e3 115 (.putfield 280) 3 9 36 0, e0 118 (.aload_n 0) 1, e3 119 (.getfield 51) 3 9 23 2, e0 122 (.iload_n 1) 1, e0 123 .dup2 1, e1 124 .iaload 1 11, e0 125 (.iconst 1) 1, e0 126 .iadd 1, e1 127 .iastore 1 11, e0 128 .return_ 1]
set_option maxRecDepth 100000 in
def tb_X8_takesSet : List tr_En := [e0 0 (.aload_n 0) 1, e0 1 .dup 1, e3 2 (.getfield 274) 3 9 34 0, e0 5 (.iconst 1) 1, e0 6 .iadd 1, e3 7 (.putfield 274) 3 9 34 0, e0 10 (.aload_n 0) 1, e3 11 (.getfield 274) 3 9 34 0, e0 14 (.iconst 1) 1, e1 15 (.if_icmp .le 4) 3 19, e0 18 .return_ 1, e0 19 (.aload_n 0) 1, e0 20 (.aload_n 0) 1, e3 21 (.getfield 268) 3 9 32 0, e3 24 (.putfield 277) 3 9 35 0, e0 27 (.iconst 0) 1, e0 28 (.istore_n 1) 1, e0 29 (.iload_n 1) 1, e0 30 (.aload_n 0) 1, e3 31 (.getfield 268) 3 9 32 0, e1 34 (.if_icmp .ge 21) 3 55, e0 37 (.aload_n 0) 1, e3 38 (.getfield 66) 3 9 29 2, e0 41 (.iload_n 1) 1, e0 42 (.aload_n 0) 1, e3 43 (.getfield 57) 3 9 26 2, e0 46 (.iload_n 1) 1, e1 47 .iaload 1 11, e1 48 .iastore 1 11, e0 49 (.iinc 1 1) 3, e1 52 (.goto (-23)) 3 29, e0 55 (.iconst 0) 1, e0 56 (.istore_n 1) 1, e0 57 (.iload_n 1) 1, e0 58 (.aload_n 0) 1, e3 59 (.getfield 268) 3 9 32 0, e1 62 (.if_icmp .gt 21) 3 83, e0 65 (.aload_n 0) 1, e3 66 (.getfield 69) 3 9 30 2, e0 69 (.iload_n 1) 1, e0 70 (.aload_n 0) 1, e3 71 (.getfield 60) 3 9 27 2, e0 74 (.iload_n 1) 1, e1 75 .iaload 1 11, e1 76 .iastore 1 11, e0 77 (.iinc 1 1) 3, e1 80 (.goto (-23)) 3 57, e0 83 (.iconst 0) 1, e0 84 (.istore_n 1) 1, e0 85 (.iload_n 1) 1, e0 86 (.aload_n 0) 1, e3 87 (.getfield 60) 3 9 27 2, e0 90 (.aload_n 0) 1, e3 91 (.getfield 268) 3 9 32 0, e1 94 .iaload 1 11, e1 95 (.if_icmp .ge 21) 3 116, e0 98 (.aload_n 0) 1, e3 99 (.getfield 72) 3 9 31 2, e0 102 (.iload_n 1) 1, e0 103 (.aload_n 0) 1, e3 104 (.getfield 63) 3 9 28 2, e0 107 (.iload_n 1) 1, e1 108 .iaload 1 11, e1 109 .iastore 1 11, e0 110 (.iinc 1 1) 3, e1 113 (.goto (-28)) 3 85, e0 116 .return_ 1]
set_option maxRecDepth 100000 in
def tb_X8_isOver : List tr_En := [e0 0 (.aload_n 0) 1, e3 1 (.getfield 271) 3 9 33 0, e0 4 (.sipush 5000) 3, e1 7 (.if_icmp .le 7) 3 14, e0 10 (.iconst 1) 1, e1 11 (.goto 4) 3 15, e0 14 (.iconst 0) 1, e3 15 .ireturn 1 0 0 1]
set_option maxRecDepth 100000 in
def tb_X8_goesOn : List tr_En := [e0 0 (.iload_n 3) 1, e1 1 (.ifCond .eq 27) 3 28, e0 4 (.aload_n 0) 1, e3 5 (.getfield 60) 3 9 27 2, e0 8 (.aload_n 0) 1, e3 9 (.getfield 268) 3 9 32 0, e1 12 .iaload 1 11, e0 13 (.aload_n 0) 1, e3 14 (.getfield 60) 3 9 27 2, e0 17 (.aload_n 0) 1, e3 18 (.getfield 268) 3 9 32 0, e0 21 (.iconst 1) 1, e0 22 .isub 1, e1 23 .iaload 1 11, e0 24 .isub 1, e1 25 (.goto 4) 3 29, e0 28 (.iconst 0) 1, e0 29 (.istore 4) 2, e0 31 (.iload_n 3) 1, e1 32 (.ifCond .eq 13) 3 45, e0 35 (.iload_n 2) 1, e0 36 (.iload 4) 2, e1 38 (.if_icmp .ge 7) 3 45, e0 41 (.iconst 1) 1, e1 42 (.goto 4) 3 46, e0 45 (.iconst 0) 1, e0 46 (.istore 5) 2, e0 48 (.iload 5) 2, e1 50 (.ifCond .ne 67) 3 117, e0 53 (.aload_n 0) 1, e0 54 .dup 1, e3 55 (.getfield 271) 3 9 33 0, e0 58 (.iconst 1) 1, e0 59 .iadd 1, e3 60 (.putfield 271) 3 9 33 0, e0 63 (.aload_n 0) 1, e6 64 (.invokevirtual 293) 3 178 1 1 9 0 0, e1 67 (.ifCond .eq 4) 3 71, e0 70 .return_ 1, e0 71 (.aload_n 0) 1, e0 72 .dup 1, e3 73 (.getfield 268) 3 9 32 0, e0 76 (.iconst 1) 1, e0 77 .iadd 1, e3 78 (.putfield 268) 3 9 32 0, e0 81 (.aload_n 0) 1, e3 82 (.getfield 60) 3 9 27 2, e0 85 (.aload_n 0) 1, e3 86 (.getfield 268) 3 9 32 0, e0 89 (.aload_n 0) 1, e3 90 (.getfield 60) 3 9 27 2, e0 93 (.aload_n 0) 1, e3 94 (.getfield 268) 3 9 32 0, e0 97 (.iconst 1) 1, e0 98 .isub 1, e1 99 .iaload 1 11, e0 100 (.iload_n 2) 1, e0 101 .iadd 1, e1 102 .iastore 1 11, e0 103 (.aload_n 0) 1, e6 104 (.invokevirtual 283) 3 176 1 0 9 0 0, e0 107 (.aload_n 0) 1, e0 108 .dup 1, e3 109 (.getfield 268) 3 9 32 0, e0 112 (.iconst 1) 1, e0 113 .isub 1, e3 114 (.putfield 268) 3 9 32 0, e0 117 (.iload 5) 2, e1 119 (.ifCond .eq 24) 3 143, e0 122 (.aload_n 0) 1, e3 123 (.getfield 63) 3 9 28 2, e0 126 (.aload_n 0) 1, e3 127 (.getfield 60) 3 9 27 2, e0 130 (.aload_n 0) 1, e3 131 (.getfield 268) 3 9 32 0, e0 134 (.iconst 1) 1, e0 135 .isub 1, e1 136 .iaload 1 11, e0 137 (.iload_n 2) 1, e0 138 .iadd 1, e1 139 .iaload 1 11, e1 140 (.goto 4) 3 144, e0 143 (.iconst 0) 1, e0 144 (.istore 6) 2, e0 146 (.iload 6) 2, e0 148 (.istore 7) 2, e0 150 (.iload 7) 2, e0 152 (.aload_n 0) 1, e3 153 (.getfield 219) 3 9 11 0, e1 156 (.if_icmp .ge 149) 3 305, e0 159 (.aload_n 0) 1, e6 160 (.invokevirtual 293) 3 178 1 1 9 0 0, e1 163 (.ifCond .ne 142) 3 305, e0 166 (.aload_n 0) 1, e3 167 (.getfield 26) 3 9 5 2, e0 170 (.iload 7) 2, e1 172 .iaload 1 11, e0 173 (.iload_n 1) 1, e1 174 (.if_icmp .ne 125) 3 299, e0 177 (.aload_n 0) 1, e3 178 (.getfield 54) 3 9 24 2, e0 181 (.iload 7) 2, e1 183 .iaload 1 11, e1 184 (.ifCond .ne 6) 3 190, e1 187 (.goto 112) 3 299, e0 190 (.aload_n 0) 1, e0 191 .dup 1, e3 192 (.getfield 271) 3 9 33 0, e0 195 (.iconst 1) 1, e0 196 .iadd 1, e3 197 (.putfield 271) 3 9 33 0, e0 200 (.aload_n 0) 1, e6 201 (.invokevirtual 293) 3 178 1 1 9 0 0, e1 204 (.ifCond .eq 4) 3 208, e0 207 .return_ 1, e0 208 (.aload_n 0) 1, e3 209 (.getfield 54) 3 9 24 2, e0 212 (.iload 7) 2, e0 214 .dup2 1, e1 215 .iaload 1 11, e0 216 (.iconst 1) 1, e0 217 .isub 1, e1 218 .iastore 1 11, e0 219 (.aload_n 0) 1, e0 220 .dup 1, e3 221 (.getfield 280) 3 9 36 0, e0 224 (.iconst 1) 1, e0 225 .isub 1, e3 226 (.putfield 280) 3 9 36 0, e0 229 (.aload_n 0) 1, e3 230 (.getfield 63) 3 9 28 2, e0 233 (.aload_n 0) 1, e3 234 (.getfield 60) 3 9 27 2, e0 237 (.aload_n 0) 1, e3 238 (.getfield 268) 3 9 32 0, e1 241 .iaload 1 11, e0 242 (.iload_n 2) 1, e0 243 .iadd 1, e0 244 (.iload 7) 2, e1 246 .iastore 1 11, e0 247 (.aload_n 0) 1, e0 248 (.aload_n 0) 1, e3 249 (.getfield 29) 3 9 6 2, e0 252 (.iload 7) 2, e1 254 .iaload 1 11, e0 255 (.iload_n 2) 1, e0 256 (.iconst 1) 1, e0 257 .iadd 1, e0 258 (.iload 5) 2, e1 260 (.ifCond .eq 14) 3 274, e0 263 (.iload 7) 2, e0 265 (.iload 6) 2, e1 267 (.if_icmp .ne 7) 3 274, e0 270 (.iconst 1) 1, e1 271 (.goto 4) 3 275, e0 274 (.iconst 0) 1, e6 275 (.invokevirtual 289) 3 179 4 0 9 0 0, e0 278 (.aload_n 0) 1, e0 279 .dup 1, e3 280 (.getfield 280) 3 9 36 0, e0 283 (.iconst 1) 1, e0 284 .iadd 1, e3 285 (.putfield 280) 3 9 36 0, e0 288 (.aload_n 0) 1, e3 289 (.getfield 54) 3 9 24 2, e0 292 (.iload 7) 2, e0 294 .dup2 1, e1 295 .iaload 1 11, e0 296 (.iconst 1) 1, e0 297 .iadd 1, e1 298 .iastore 1 11, e0 299 (.iinc 7 1) 3, e1 302 (.goto (-152)) 3 150, e0 305 .return_ 1]
set_option maxRecDepth 100000 in
def tb_X8_jointsOf : List tr_En := [e0 0 (.aload_n 0) 1, e0 1 (.iload_n 1) 1, e6 2 (.invokevirtual 297) 3 175 2 0 9 0 0, e0 5 (.aload_n 0) 1, e6 6 (.invokevirtual 293) 3 178 1 1 9 0 0, e1 9 (.ifCond .eq 8) 3 17, e0 12 (.bipush (-2)) 2, e1 14 (.goto 7) 3 21, e0 17 (.aload_n 0) 1, e3 18 (.getfield 274) 3 9 34 0, e0 21 .ireturn 1]
set_option maxRecDepth 100000 in
def tb_X8_isLabel : List tr_En := [e0 0 (.iload_n 1) 1, e0 1 (.iconst 0) 1, e0 2 (.aload_n 0) 1, e3 3 (.getfield 17) 3 9 2 2, e0 6 (.iconst 5) 1, e1 7 .iaload 1 11, e0 8 (.iconst 1) 1, e0 9 .isub 1, e3 10 (.invokestatic 155) 3 121 3 1, e3 13 .ireturn 1 0 0 1]
set_option maxRecDepth 100000 in
def tb_X8_joints : List tr_En := [e0 0 (.aload_n 0) 1, e0 1 (.iconst 0) 1, e1 2 (.putfield 1) 3 9, e0 5 (.aload_n 0) 1, e0 6 (.aload_n 0) 1, e0 7 (.iload_n 1) 1, e6 8 (.invokevirtual 300) 3 181 2 1 9 0 0, e0 11 (.iconst 1) 1, e0 12 (.iconst 1) 1, e6 13 (.invokevirtual 211) 3 120 4 1 9 0 0, e1 16 (.ifCond .eq 11) 3 27, e0 19 (.aload_n 0) 1, e0 20 (.iload_n 1) 1, e6 21 (.invokevirtual 303) 3 180 2 1 9 0 0, e1 24 (.goto 4) 3 28, e0 27 (.iconst 0) 1, e0 28 .ireturn 1]
set_option maxRecDepth 100000 in
def tb_X8_longAt : List tr_En := [e0 0 (.aload_n 0) 1, e3 1 (.getfield 69) 3 9 30 2, e0 4 (.iload_n 1) 1, e0 5 (.iconst 1) 1, e0 6 .iadd 1, e1 7 .iaload 1 11, e0 8 (.aload_n 0) 1, e3 9 (.getfield 69) 3 9 30 2, e0 12 (.iload_n 1) 1, e1 13 .iaload 1 11, e0 14 .isub 1, e0 15 .ireturn 1]
set_option maxRecDepth 100000 in
def tb_X8_lastHop : List tr_En := [e0 0 (.aload_n 0) 1, e0 1 (.iload_n 1) 1, e6 2 (.invokevirtual 306) 3 183 2 1 9 0 0, e1 5 (.ifCond .ne 12) 3 17, e0 8 (.aload_n 0) 1, e3 9 (.getfield 66) 3 9 29 2, e0 12 (.iload_n 1) 1, e1 13 .iaload 1 11, e1 14 (.goto 23) 3 37, e0 17 (.aload_n 0) 1, e3 18 (.getfield 29) 3 9 6 2, e0 21 (.aload_n 0) 1, e3 22 (.getfield 72) 3 9 31 2, e0 25 (.aload_n 0) 1, e3 26 (.getfield 69) 3 9 30 2, e0 29 (.iload_n 1) 1, e0 30 (.iconst 1) 1, e0 31 .iadd 1, e1 32 .iaload 1 11, e0 33 (.iconst 1) 1, e0 34 .isub 1, e1 35 .iaload 1 11, e1 36 .iaload 1 11, e0 37 .ireturn 1]
set_option maxRecDepth 100000 in
def tb_X8_walk : List tr_En := [e0 0 (.aload_n 0) 1, e0 1 (.iconst 0) 1, e1 2 (.putfield 1) 3 9, e0 5 (.aload_n 0) 1, e0 6 (.aload_n 0) 1, e0 7 (.iload_n 1) 1, e6 8 (.invokevirtual 300) 3 181 2 1 9 0 0, e1 11 (.ifCond .eq 16) 3 27, e0 14 (.iload_n 3) 1, e0 15 (.iconst 0) 1, e0 16 (.iconst 3) 1, e3 17 (.invokestatic 155) 3 121 3 1, e1 20 (.ifCond .eq 7) 3 27, e0 23 (.iconst 1) 1, e1 24 (.goto 4) 3 28, e0 27 (.iconst 0) 1, e0 28 (.iconst 2) 1, e0 29 (.iconst 1) 1, e6 30 (.invokevirtual 211) 3 120 4 1 9 0 0, e1 33 (.ifCond .ne 5) 3 38, e0 36 (.iconst 0) 1, e0 37 .ireturn 1, e0 38 (.aload_n 0) 1, e0 39 (.iload_n 1) 1, e6 40 (.invokevirtual 303) 3 180 2 1 9 0 0, e0 43 (.istore 4) 2, e0 45 (.iload_n 3) 1, e1 46 (.ifCond .ne 30) 3 76, e0 49 (.iload 4) 2, e0 51 (.bipush (-2)) 2, e1 53 (.if_icmp .ne 8) 3 61, e0 56 (.bipush (-2)) 2, e1 58 (.goto 17) 3 75, e0 61 (.iload 4) 2, e1 63 (.ifCond .ne 8) 3 71, e0 66 (.bipush (-3)) 2, e1 68 (.goto 7) 3 75, e0 71 (.aload_n 0) 1, e3 72 (.getfield 277) 3 9 35 0, e0 75 .ireturn 1, e0 76 (.aload_n 0) 1, e0 77 (.iload 4) 2, e1 79 (.ifCond .le 21) 3 100, e0 82 (.iload_n 2) 1, e0 83 (.iconst 0) 1, e0 84 (.aload_n 0) 1, e3 85 (.getfield 277) 3 9 35 0, e0 88 (.iconst 1) 1, e0 89 .isub 1, e3 90 (.invokestatic 155) 3 121 3 1, e1 93 (.ifCond .eq 7) 3 100, e0 96 (.iconst 1) 1, e1 97 (.goto 4) 3 101, e0 100 (.iconst 0) 1, e0 101 (.iconst 1) 1, e0 102 (.iconst 0) 1, e6 103 (.invokevirtual 211) 3 120 4 1 9 0 0, e1 106 (.ifCond .ne 5) 3 111, e0 109 (.iconst 0) 1, e0 110 .ireturn 1, e0 111 (.iload_n 3) 1, e0 112 (.iconst 1) 1, e1 113 (.if_icmp .ne 12) 3 125, e0 116 (.aload_n 0) 1, e3 117 (.getfield 66) 3 9 29 2, e0 120 (.iload_n 2) 1, e1 121 .iaload 1 11, e1 122 (.goto 21) 3 143, e0 125 (.iload_n 3) 1, e0 126 (.iconst 2) 1, e1 127 (.if_icmp .ne 11) 3 138, e0 130 (.aload_n 0) 1, e0 131 (.iload_n 2) 1, e6 132 (.invokevirtual 306) 3 183 2 1 9 0 0, e1 135 (.goto 8) 3 143, e0 138 (.aload_n 0) 1, e0 139 (.iload_n 2) 1, e6 140 (.invokevirtual 309) 3 184 2 1 9 0 0, e0 143 .ireturn 1]
set_option maxRecDepth 100000 in
def tb_X8_walkAt : List tr_En := [e0 0 (.aload_n 0) 1, e0 1 (.iconst 0) 1, e1 2 (.putfield 1) 3 9, e0 5 (.aload_n 0) 1, e0 6 (.aload_n 0) 1, e0 7 (.iload_n 1) 1, e6 8 (.invokevirtual 300) 3 181 2 1 9 0 0, e0 11 (.iconst 2) 1, e0 12 (.iconst 1) 1, e6 13 (.invokevirtual 211) 3 120 4 1 9 0 0, e1 16 (.ifCond .ne 5) 3 21, e0 19 (.iconst 0) 1, e0 20 .ireturn 1, e0 21 (.aload_n 0) 1, e0 22 (.iload_n 1) 1, e6 23 (.invokevirtual 303) 3 180 2 1 9 0 0, e0 26 (.istore 4) 2, e0 28 (.aload_n 0) 1, e0 29 (.iload 4) 2, e1 31 (.ifCond .le 36) 3 67, e0 34 (.iload_n 2) 1, e0 35 (.iconst 0) 1, e0 36 (.aload_n 0) 1, e3 37 (.getfield 277) 3 9 35 0, e0 40 (.iconst 1) 1, e0 41 .isub 1, e3 42 (.invokestatic 155) 3 121 3 1, e1 45 (.ifCond .eq 22) 3 67, e0 48 (.iload_n 3) 1, e0 49 (.iconst 0) 1, e0 50 (.aload_n 0) 1, e0 51 (.iload_n 2) 1, e6 52 (.invokevirtual 306) 3 183 2 1 9 0 0, e0 55 (.iconst 1) 1, e0 56 .isub 1, e3 57 (.invokestatic 155) 3 121 3 1, e1 60 (.ifCond .eq 7) 3 67, e0 63 (.iconst 1) 1, e1 64 (.goto 4) 3 68, e0 67 (.iconst 0) 1, e0 68 (.iconst 1) 1, e0 69 (.iconst 0) 1, e6 70 (.invokevirtual 211) 3 120 4 1 9 0 0, e1 73 (.ifCond .ne 5) 3 78, e0 76 (.iconst 0) 1, e0 77 .ireturn 1, e0 78 (.aload_n 0) 1, e3 79 (.getfield 72) 3 9 31 2, e0 82 (.aload_n 0) 1, e3 83 (.getfield 69) 3 9 30 2, e0 86 (.iload_n 2) 1, e1 87 .iaload 1 11, e0 88 (.iload_n 3) 1, e0 89 .iadd 1, e1 90 .iaload 1 11, e0 91 .ireturn 1]
set_option maxRecDepth 100000 in
def tb_X8_isWalk : List tr_En := [e0 0 (.aload_n 0) 1, e0 1 (.iload_n 1) 1, e0 2 (.iconst 0) 1, e6 3 (.invokevirtual 79) 3 124 3 1 9 0 0, e0 6 (.aload_n 0) 1, e3 7 (.getfield 66) 3 9 29 2, e0 10 (.iload_n 2) 1, e1 11 .iaload 1 11, e1 12 (.if_icmp .ne 22) 3 34, e0 15 (.aload_n 0) 1, e0 16 (.iload_n 1) 1, e0 17 (.bipush 6) 2, e6 19 (.invokevirtual 79) 3 124 3 1 9 0 0, e0 22 (.aload_n 0) 1, e0 23 (.iload_n 2) 1, e6 24 (.invokevirtual 306) 3 183 2 1 9 0 0, e1 27 (.if_icmp .ne 7) 3 34, e0 30 (.iconst 1) 1, e1 31 (.goto 4) 3 35, e0 34 (.iconst 0) 1, e0 35 (.istore_n 3) 1, e0 36 (.iconst 0) 1, e0 37 (.istore 4) 2, e0 39 (.iload 4) 2, e0 41 (.aload_n 0) 1, e0 42 (.iload_n 2) 1, e6 43 (.invokevirtual 306) 3 183 2 1 9 0 0, e1 46 (.if_icmp .ge 43) 3 89, e0 49 (.iload_n 3) 1, e1 50 (.ifCond .eq 39) 3 89, e0 53 (.aload_n 0) 1, e0 54 (.iload_n 1) 1, e0 55 (.iload 4) 2, e6 57 (.invokevirtual 90) 3 128 3 1 9 0 0, e0 60 (.aload_n 0) 1, e3 61 (.getfield 72) 3 9 31 2, e0 64 (.aload_n 0) 1, e3 65 (.getfield 69) 3 9 30 2, e0 68 (.iload_n 2) 1, e1 69 .iaload 1 11, e0 70 (.iload 4) 2, e0 72 .iadd 1, e1 73 .iaload 1 11, e1 74 (.if_icmp .ne 7) 3 81, e0 77 (.iconst 1) 1, e1 78 (.goto 4) 3 82, e0 81 (.iconst 0) 1, e0 82 (.istore_n 3) 1, e0 83 (.iinc 4 1) 3, e1 86 (.goto (-47)) 3 39, e0 89 (.iload_n 3) 1, e3 90 .ireturn 1 0 0 1]
set_option maxRecDepth 100000 in
def tb_X8_isTrue : List tr_En := [e0 0 (.iconst 0) 1, e0 1 (.istore_n 2) 1, e0 2 (.iconst 0) 1, e0 3 (.istore_n 3) 1, e0 4 (.iconst 0) 1, e0 5 (.istore 4) 2, e0 7 (.iload 4) 2, e0 9 (.aload_n 0) 1, e3 10 (.getfield 17) 3 9 2 2, e0 13 (.bipush 106) 2, e1 15 .iaload 1 11, e1 16 (.if_icmp .ge 141) 3 157, e0 19 (.aload_n 0) 1, e0 20 (.iload 4) 2, e6 22 (.invokevirtual 256) 3 135 2 1 9 0 0, e0 25 (.iload_n 1) 1, e1 26 (.if_icmp .ne 125) 3 151, e0 29 (.aload_n 0) 1, e0 30 (.iload 4) 2, e0 32 (.iconst 0) 1, e6 33 (.invokevirtual 241) 3 133 3 1 9 0 0, e1 36 (.ifCond .ne 6) 3 42, e1 39 (.goto 112) 3 151, e0 42 (.iinc 3 1) 3, e0 45 (.iconst 0) 1, e0 46 (.istore 5) 2, e0 48 (.iconst 0) 1, e0 49 (.istore 6) 2, e0 51 (.iload 6) 2, e0 53 (.iload 4) 2, e1 55 (.if_icmp .ge 50) 3 105, e0 58 (.iload 5) 2, e0 60 (.aload_n 0) 1, e0 61 (.iload 6) 2, e6 63 (.invokevirtual 256) 3 135 2 1 9 0 0, e0 66 (.iload_n 1) 1, e1 67 (.if_icmp .ne 28) 3 95, e0 70 (.aload_n 0) 1, e0 71 (.iload 6) 2, e0 73 (.iconst 0) 1, e6 74 (.invokevirtual 241) 3 133 3 1 9 0 0, e1 77 (.ifCond .eq 18) 3 95, e0 80 (.aload_n 0) 1, e0 81 (.iload 6) 2, e0 83 (.iload 4) 2, e6 85 (.invokevirtual 312) 3 189 3 1 9 0 0, e1 88 (.ifCond .eq 7) 3 95, e0 91 (.iconst 1) 1, e1 92 (.goto 4) 3 96, e0 95 (.iconst 0) 1, e0 96 .iadd 1, e0 97 (.istore 5) 2, e0 99 (.iinc 6 1) 3, e1 102 (.goto (-51)) 3 51, e0 105 (.iconst 0) 1, e0 106 (.istore 6) 2, e0 108 (.iload 6) 2, e0 110 (.aload_n 0) 1, e3 111 (.getfield 277) 3 9 35 0, e1 114 (.if_icmp .ge 37) 3 151, e0 117 (.aload_n 0) 1, e0 118 (.iload 4) 2, e0 120 (.iload 6) 2, e6 122 (.invokevirtual 315) 3 187 3 1 9 0 0, e1 125 (.ifCond .ne 6) 3 131, e1 128 (.goto 17) 3 145, e0 131 (.iload 5) 2, e1 133 (.ifCond .ne 9) 3 142, e0 136 (.iinc 2 1) 3, e1 139 (.goto 12) 3 151, e0 142 (.iinc 5 (-1)) 3, e0 145 (.iinc 6 1) 3, e1 148 (.goto (-40)) 3 108, e0 151 (.iinc 4 1) 3, e1 154 (.goto (-147)) 3 7, e0 157 (.iload_n 3) 1, e0 158 (.aload_n 0) 1, e3 159 (.getfield 277) 3 9 35 0, e1 162 (.if_icmp .ne 12) 3 174, e0 165 (.iload_n 2) 1, e0 166 (.iload_n 3) 1, e1 167 (.if_icmp .ne 7) 3 174, e0 170 (.iconst 1) 1, e1 171 (.goto 4) 3 175, e0 174 (.iconst 0) 1, e3 175 .ireturn 1 0 0 1]
set_option maxRecDepth 100000 in
def tb_X8_isAlike : List tr_En := [e0 0 (.aload_n 0) 1, e0 1 (.iload_n 1) 1, e0 2 (.iconst 0) 1, e6 3 (.invokevirtual 79) 3 124 3 1 9 0 0, e0 6 (.aload_n 0) 1, e0 7 (.iload_n 2) 1, e0 8 (.iconst 0) 1, e6 9 (.invokevirtual 79) 3 124 3 1 9 0 0, e1 12 (.if_icmp .ne 24) 3 36, e0 15 (.aload_n 0) 1, e0 16 (.iload_n 1) 1, e0 17 (.bipush 6) 2, e6 19 (.invokevirtual 79) 3 124 3 1 9 0 0, e0 22 (.aload_n 0) 1, e0 23 (.iload_n 2) 1, e0 24 (.bipush 6) 2, e6 26 (.invokevirtual 79) 3 124 3 1 9 0 0, e1 29 (.if_icmp .ne 7) 3 36, e0 32 (.iconst 1) 1, e1 33 (.goto 4) 3 37, e0 36 (.iconst 0) 1, e0 37 (.istore_n 3) 1, e0 38 (.iconst 0) 1, e0 39 (.istore 4) 2, e0 41 (.iload 4) 2, e0 43 (.aload_n 0) 1, e0 44 (.iload_n 2) 1, e0 45 (.bipush 6) 2, e6 47 (.invokevirtual 79) 3 124 3 1 9 0 0, e1 50 (.if_icmp .ge 36) 3 86, e0 53 (.iload_n 3) 1, e1 54 (.ifCond .eq 32) 3 86, e0 57 (.aload_n 0) 1, e0 58 (.iload_n 1) 1, e0 59 (.iload 4) 2, e6 61 (.invokevirtual 90) 3 128 3 1 9 0 0, e0 64 (.aload_n 0) 1, e0 65 (.iload_n 2) 1, e0 66 (.iload 4) 2, e6 68 (.invokevirtual 90) 3 128 3 1 9 0 0, e1 71 (.if_icmp .ne 7) 3 78, e0 74 (.iconst 1) 1, e1 75 (.goto 4) 3 79, e0 78 (.iconst 0) 1, e0 79 (.istore_n 3) 1, e0 80 (.iinc 4 1) 3, e1 83 (.goto (-42)) 3 41, e0 86 (.iload_n 3) 1, e3 87 .ireturn 1 0 0 1]
set_option maxRecDepth 100000 in
def tb_X8_joined : List tr_En := [e0 0 (.aload_n 0) 1, e0 1 (.iconst 0) 1, e1 2 (.putfield 1) 3 9, e0 5 (.aload_n 0) 1, e0 6 (.iload_n 1) 1, e0 7 (.iconst 0) 1, e0 8 (.iconst 4) 1, e3 9 (.invokestatic 155) 3 121 3 1, e0 12 (.iconst 1) 1, e0 13 (.iconst 1) 1, e6 14 (.invokevirtual 211) 3 120 4 1 9 0 0, e1 17 (.ifCond .ne 5) 3 22, e0 20 (.iconst 0) 1, e0 21 .ireturn 1, e0 22 (.iconst 0) 1, e0 23 (.istore_n 2) 1, e0 24 (.iconst 0) 1, e0 25 (.istore_n 3) 1, e0 26 (.iload_n 3) 1, e0 27 (.aload_n 0) 1, e3 28 (.getfield 17) 3 9 2 2, e0 31 (.iconst 5) 1, e1 32 .iaload 1 11, e1 33 (.if_icmp .ge 135) 3 168, e0 36 (.aload_n 0) 1, e0 37 (.iload_n 3) 1, e6 38 (.invokevirtual 303) 3 180 2 1 9 0 0, e0 41 (.istore 4) 2, e0 43 (.aload_n 0) 1, e3 44 (.getfield 262) 3 9 25 0, e1 47 (.ifCond .ne 6) 3 53, e1 50 (.goto 112) 3 162, e0 53 (.iload_n 1) 1, e1 54 (.ifCond .ne 17) 3 71, e0 57 (.iload 4) 2, e0 59 (.iconst 1) 1, e1 60 (.if_icmp .ne 7) 3 67, e0 63 (.iconst 1) 1, e1 64 (.goto 83) 3 147, e0 67 (.iconst 0) 1, e1 68 (.goto 79) 3 147, e0 71 (.iload_n 1) 1, e0 72 (.iconst 1) 1, e1 73 (.if_icmp .ne 17) 3 90, e0 76 (.iload 4) 2, e0 78 (.iconst 1) 1, e1 79 (.if_icmp .le 7) 3 86, e0 82 (.iconst 1) 1, e1 83 (.goto 64) 3 147, e0 86 (.iconst 0) 1, e1 87 (.goto 60) 3 147, e0 90 (.iload_n 1) 1, e0 91 (.iconst 2) 1, e1 92 (.if_icmp .ne 16) 3 108, e0 95 (.iload 4) 2, e1 97 (.ifCond .ne 7) 3 104, e0 100 (.iconst 1) 1, e1 101 (.goto 46) 3 147, e0 104 (.iconst 0) 1, e1 105 (.goto 42) 3 147, e0 108 (.iload_n 1) 1, e0 109 (.iconst 3) 1, e1 110 (.if_icmp .ne 18) 3 128, e0 113 (.iload 4) 2, e0 115 (.bipush (-2)) 2, e1 117 (.if_icmp .ne 7) 3 124, e0 120 (.iconst 1) 1, e1 121 (.goto 26) 3 147, e0 124 (.iconst 0) 1, e1 125 (.goto 22) 3 147, e0 128 (.iload 4) 2, e0 130 (.iconst 1) 1, e1 131 (.if_icmp .ne 15) 3 146, e0 134 (.aload_n 0) 1, e0 135 (.iload_n 3) 1, e6 136 (.invokevirtual 318) 3 188 2 1 9 0 0, e1 139 (.ifCond .eq 7) 3 146, e0 142 (.iconst 1) 1, e1 143 (.goto 4) 3 147, e0 146 (.iconst 0) 1, e0 147 (.istore 5) 2, e0 149 (.iload_n 2) 1, e0 150 (.iload 5) 2, e1 152 (.ifCond .eq 7) 3 159, e0 155 (.iconst 1) 1, e1 156 (.goto 4) 3 160, e0 159 (.iconst 0) 1, e0 160 .iadd 1, e0 161 (.istore_n 2) 1, e0 162 (.iinc 3 1) 3, e1 165 (.goto (-139)) 3 26, e0 168 (.iload_n 2) 1, e0 169 .ireturn 1]
set_option maxRecDepth 100000 in
def tb_X8_common : List tr_En := [e0 0 (.lload_n 0) 1, e0 1 (.lstore 4) 2, e0 3 (.lload_n 2) 1, e0 4 (.lstore 6) 2, e0 6 (.lload 6) 2, e0 8 (.lconst 0) 1, e0 9 .lcmp 1, e1 10 (.ifCond .eq 21) 3 31, e0 13 (.lload 4) 2, e0 15 (.lload 6) 2, e0 17 .lrem 1, e0 18 (.lstore 8) 2, e0 20 (.lload 6) 2, e0 22 (.lstore 4) 2, e0 24 (.lload 8) 2, e0 26 (.lstore 6) 2, e1 28 (.goto (-22)) 3 6, e0 31 (.lload 4) 2, e0 33 .lreturn 1]
set_option maxRecDepth 100000 in
def tb_X8_part : List tr_En := [e0 0 (.lload_n 0) 1, e0 1 (.lload_n 2) 1, e3 2 (.invokestatic 321) 3 191 2 2, e0 5 (.lstore 5) 2, e0 7 (.iload 4) 2, e1 9 (.ifCond .eq 7) 3 16, e0 12 (.lload_n 2) 1, e1 13 (.goto 4) 3 17, e0 16 (.lload_n 0) 1, e0 17 (.lload 5) 2, e0 19 .ldiv 1, e0 20 .lreturn 1]
set_option maxRecDepth 100000 in
def tb_X8_counts : List tr_En := [e0 0 (.lconst 0) 1, e0 1 (.lstore 4) 2, e0 3 (.iconst 0) 1, e0 4 (.istore 6) 2, e0 6 (.iload 6) 2, e0 8 (.aload_n 0) 1, e3 9 (.getfield 17) 3 9 2 2, e0 12 (.bipush 106) 2, e1 14 .iaload 1 11, e1 15 (.if_icmp .ge 170) 3 185, e0 18 (.iconst 0) 1, e0 19 (.istore 7) 2, e0 21 (.iload 7) 2, e0 23 (.aload_n 0) 1, e0 24 (.iload 6) 2, e0 26 (.bipush 6) 2, e6 28 (.invokevirtual 79) 3 124 3 1 9 0 0, e1 31 (.if_icmp .gt 148) 3 179, e0 34 (.iload_n 1) 1, e1 35 (.ifCond .ne 27) 3 62, e0 38 (.iload 7) 2, e1 40 (.ifCond .ne 18) 3 58, e0 43 (.aload_n 0) 1, e0 44 (.iload 6) 2, e0 46 (.iconst 0) 1, e6 47 (.invokevirtual 79) 3 124 3 1 9 0 0, e0 50 (.iload_n 2) 1, e1 51 (.if_icmp .ne 7) 3 58, e0 54 (.iconst 1) 1, e1 55 (.goto 49) 3 104, e0 58 (.iconst 0) 1, e1 59 (.goto 45) 3 104, e0 62 (.iload_n 1) 1, e0 63 (.iconst 3) 1, e1 64 (.if_icmp .ne 16) 3 80, e0 67 (.iload 7) 2, e1 69 (.ifCond .ne 7) 3 76, e0 72 (.iconst 1) 1, e1 73 (.goto 31) 3 104, e0 76 (.iconst 0) 1, e1 77 (.goto 27) 3 104, e0 80 (.iload 7) 2, e1 82 (.ifCond .le 21) 3 103, e0 85 (.aload_n 0) 1, e0 86 (.iload 6) 2, e0 88 (.iload 7) 2, e0 90 (.iconst 1) 1, e0 91 .isub 1, e6 92 (.invokevirtual 90) 3 128 3 1 9 0 0, e0 95 (.iload_n 2) 1, e1 96 (.if_icmp .ne 7) 3 103, e0 99 (.iconst 1) 1, e1 100 (.goto 4) 3 104, e0 103 (.iconst 0) 1, e0 104 (.istore 8) 2, e0 106 (.iload 8) 2, e1 108 (.ifCond .eq 65) 3 173, e0 111 (.iload_n 3) 1, e0 112 (.iconst (-1)) 1, e1 113 (.if_icmp .eq 38) 3 151, e0 116 (.aload_n 0) 1, e0 117 (.iload 6) 2, e0 119 (.iload 7) 2, e0 121 (.aload_n 0) 1, e3 122 (.getfield 17) 3 9 2 2, e0 125 (.iconst 1) 1, e1 126 .iaload 1 11, e6 127 (.invokevirtual 97) 3 131 4 1 9 0 0, e0 130 (.iload_n 3) 1, e0 131 .iadd 1, e0 132 (.aload_n 0) 1, e3 133 (.getfield 17) 3 9 2 2, e0 136 (.iconst 2) 1, e1 137 .iaload 1 11, e0 138 .irem 1, e0 139 (.aload_n 0) 1, e3 140 (.getfield 17) 3 9 2 2, e0 143 (.iconst 3) 1, e1 144 .iaload 1 11, e1 145 (.if_icmp .lt 6) 3 151, e1 148 (.goto 25) 3 173, e0 151 (.lload 4) 2, e0 153 (.iload_n 1) 1, e0 154 (.iconst 2) 1, e1 155 (.if_icmp .ne 14) 3 169, e0 158 (.aload_n 0) 1, e0 159 (.iload 6) 2, e0 161 (.iconst 3) 1, e6 162 (.invokevirtual 79) 3 124 3 1 9 0 0, e0 165 .i2l 1, e1 166 (.goto 4) 3 170, e0 169 (.lconst 1) 1, e0 170 .ladd 1, e0 171 (.lstore 4) 2, e0 173 (.iinc 7 1) 3, e1 176 (.goto (-155)) 3 21, e0 179 (.iinc 6 1) 3, e1 182 (.goto (-176)) 3 6, e0 185 (.lload 4) 2, e0 187 .lreturn 1]
set_option maxRecDepth 100000 in
def tb_X8_reckoned : List tr_En := [e0 0 (.aload_n 0) 1, e3 1 (.getfield 17) 3 9 2 2, e0 4 (.iconst 2) 1, e1 5 .iaload 1 11, e0 6 .i2l 1, e0 7 (.lstore 4) 2, e0 9 (.aload_n 0) 1, e3 10 (.getfield 17) 3 9 2 2, e0 13 (.iconst 3) 1, e1 14 .iaload 1 11, e0 15 .i2l 1, e0 16 (.lstore 6) 2, e0 18 (.aload_n 0) 1, e0 19 (.iload_n 1) 1, e0 20 (.iload_n 2) 1, e0 21 (.iconst (-1)) 1, e6 22 (.invokevirtual 325) 3 193 4 2 9 0 0, e0 25 (.lstore 8) 2, e0 27 (.iload_n 3) 1, e0 28 (.iconst 2) 1, e1 29 (.if_icmp .ne 6) 3 35, e0 32 (.lload 8) 2, e0 34 .lreturn 1, e0 35 (.iload_n 3) 1, e0 36 (.iconst 2) 1, e1 37 (.if_icmp .ge 34) 3 71, e0 40 (.lload 4) 2, e0 42 (.aload_n 0) 1, e0 43 (.iload_n 1) 1, e0 44 (.iload_n 2) 1, e0 45 (.aload_n 0) 1, e3 46 (.getfield 17) 3 9 2 2, e0 49 (.iconst 4) 1, e1 50 .iaload 1 11, e6 51 (.invokevirtual 325) 3 193 4 2 9 0 0, e0 54 .lmul 1, e0 55 (.lload 6) 2, e0 57 (.iload_n 3) 1, e0 58 (.iconst 1) 1, e1 59 (.if_icmp .ne 7) 3 66, e0 62 (.iconst 1) 1, e1 63 (.goto 4) 3 67, e0 66 (.iconst 0) 1, e3 67 (.invokestatic 329) 3 192 3 2, e0 70 .lreturn 1, e0 71 (.lconst 0) 1, e0 72 (.lstore 10) 2, e0 74 (.lconst 0) 1, e0 75 (.lstore 12) 2, e0 77 (.iconst 0) 1, e0 78 (.istore 14) 2, e0 80 (.iload 14) 2, e0 82 (.aload_n 0) 1, e3 83 (.getfield 17) 3 9 2 2, e0 86 (.iconst 2) 1, e1 87 .iaload 1 11, e1 88 (.if_icmp .ge 54) 3 142, e0 91 (.aload_n 0) 1, e0 92 (.iload_n 1) 1, e0 93 (.iload_n 2) 1, e0 94 (.iload 14) 2, e6 96 (.invokevirtual 325) 3 193 4 2 9 0 0, e0 99 (.lstore 15) 2, e0 101 (.lload 10) 2, e0 103 (.lload 15) 2, e0 105 .ladd 1, e0 106 (.lstore 10) 2, e0 108 (.lload 12) 2, e0 110 (.lload 4) 2, e0 112 (.lload 15) 2, e0 114 .lmul 1, e0 115 (.lload 6) 2, e0 117 (.lload 8) 2, e0 119 .lmul 1, e0 120 .lsub 1, e0 121 (.lload 4) 2, e0 123 (.lload 15) 2, e0 125 .lmul 1, e0 126 (.lload 6) 2, e0 128 (.lload 8) 2, e0 130 .lmul 1, e0 131 .lsub 1, e0 132 .lmul 1, e0 133 .ladd 1, e0 134 (.lstore 12) 2, e0 136 (.iinc 14 1) 3, e1 139 (.goto (-59)) 3 80, e0 142 (.iload_n 3) 1, e0 143 (.iconst 5) 1, e1 144 (.if_icmp .ge 23) 3 167, e0 147 (.lload 10) 2, e0 149 (.lload 6) 2, e0 151 (.iload_n 3) 1, e0 152 (.iconst 4) 1, e1 153 (.if_icmp .ne 7) 3 160, e0 156 (.iconst 1) 1, e1 157 (.goto 4) 3 161, e0 160 (.iconst 0) 1, e3 161 (.invokestatic 329) 3 192 3 2, e1 164 (.goto 27) 3 191, e0 167 (.lload 12) 2, e0 169 (.lload 6) 2, e0 171 (.lload 6) 2, e0 173 .lmul 1, e0 174 (.lload 4) 2, e0 176 .lmul 1, e0 177 (.iload_n 3) 1, e0 178 (.bipush 6) 2, e1 180 (.if_icmp .ne 7) 3 187, e0 183 (.iconst 1) 1, e1 184 (.goto 4) 3 188, e0 187 (.iconst 0) 1, e3 188 (.invokestatic 329) 3 192 3 2, e0 191 .lreturn 1]
set_option maxRecDepth 100000 in
def tb_X8_estimate : List tr_En := [e0 0 (.aload_n 0) 1, e0 1 (.iconst 0) 1, e1 2 (.putfield 1) 3 9, e0 5 (.aload_n 0) 1, e0 6 (.iload_n 1) 1, e0 7 (.iconst 0) 1, e0 8 (.iconst 3) 1, e3 9 (.invokestatic 155) 3 121 3 1, e1 12 (.ifCond .eq 17) 3 29, e0 15 (.iload_n 3) 1, e0 16 (.iconst 0) 1, e0 17 (.bipush 6) 2, e3 19 (.invokestatic 155) 3 121 3 1, e1 22 (.ifCond .eq 7) 3 29, e0 25 (.iconst 1) 1, e1 26 (.goto 4) 3 30, e0 29 (.iconst 0) 1, e0 30 (.iconst 2) 1, e0 31 (.iconst 1) 1, e6 32 (.invokevirtual 211) 3 120 4 1 9 0 0, e1 35 (.ifCond .eq 46) 3 81, e0 38 (.aload_n 0) 1, e0 39 (.iload_n 1) 1, e1 40 (.ifCond .ne 11) 3 51, e0 43 (.aload_n 0) 1, e0 44 (.iload_n 2) 1, e6 45 (.invokevirtual 225) 3 154 2 1 9 0 0, e1 48 (.goto 25) 3 73, e0 51 (.iload_n 1) 1, e0 52 (.iconst 3) 1, e1 53 (.if_icmp .ne 15) 3 68, e0 56 (.iload_n 2) 1, e1 57 (.ifCond .ne 7) 3 64, e0 60 (.iconst 1) 1, e1 61 (.goto 12) 3 73, e0 64 (.iconst 0) 1, e1 65 (.goto 8) 3 73, e0 68 (.aload_n 0) 1, e0 69 (.iload_n 2) 1, e6 70 (.invokevirtual 234) 3 155 2 1 9 0 0, e0 73 (.iconst 1) 1, e0 74 (.iconst 0) 1, e6 75 (.invokevirtual 211) 3 120 4 1 9 0 0, e1 78 (.ifCond .ne 5) 3 83, e0 81 (.lconst 0) 1, e0 82 .lreturn 1, e0 83 (.aload_n 0) 1, e0 84 (.iload_n 1) 1, e0 85 (.iload_n 2) 1, e0 86 (.iload_n 3) 1, e6 87 (.invokevirtual 333) 3 194 4 2 9 0 0, e0 90 .lreturn 1]
set_option maxRecDepth 100000 in
def tb_X8_matrix : List tr_En := [e0 0 (.aload_n 0) 1, e0 1 (.iconst 0) 1, e1 2 (.putfield 1) 3 9, e0 5 (.aload_n 0) 1, e0 6 (.aload_n 0) 1, e0 7 (.iload_n 1) 1, e6 8 (.invokevirtual 225) 3 154 2 1 9 0 0, e1 11 (.ifCond .eq 15) 3 26, e0 14 (.aload_n 0) 1, e0 15 (.iload_n 2) 1, e6 16 (.invokevirtual 225) 3 154 2 1 9 0 0, e1 19 (.ifCond .eq 7) 3 26, e0 22 (.iconst 1) 1, e1 23 (.goto 4) 3 27, e0 26 (.iconst 0) 1, e0 27 (.iconst 1) 1, e0 28 (.iconst 0) 1, e6 29 (.invokevirtual 211) 3 120 4 1 9 0 0, e1 32 (.ifCond .eq 18) 3 50, e0 35 (.aload_n 0) 1, e0 36 (.iload_n 3) 1, e0 37 (.iconst 0) 1, e0 38 (.iconst 2) 1, e3 39 (.invokestatic 155) 3 121 3 1, e0 42 (.iconst 2) 1, e0 43 (.iconst 1) 1, e6 44 (.invokevirtual 211) 3 120 4 1 9 0 0, e1 47 (.ifCond .ne 5) 3 52, e0 50 (.lconst 0) 1, e0 51 .lreturn 1, e0 52 (.lconst 0) 1, e0 53 (.lstore 4) 2, e0 55 (.iload_n 3) 1, e0 56 (.iconst 2) 1, e1 57 (.if_icmp .ne 66) 3 123, e0 60 (.iconst 0) 1, e0 61 (.istore 6) 2, e0 63 (.iload 6) 2, e0 65 (.aload_n 0) 1, e3 66 (.getfield 17) 3 9 2 2, e0 69 (.bipush 106) 2, e1 71 .iaload 1 11, e1 72 (.if_icmp .ge 48) 3 120, e0 75 (.lload 4) 2, e0 77 (.aload_n 0) 1, e0 78 (.iload 6) 2, e0 80 (.iconst 0) 1, e6 81 (.invokevirtual 79) 3 124 3 1 9 0 0, e0 84 (.iload_n 1) 1, e1 85 (.if_icmp .ne 25) 3 110, e0 88 (.aload_n 0) 1, e0 89 (.iload 6) 2, e0 91 (.aload_n 0) 1, e0 92 (.iload 6) 2, e0 94 (.bipush 6) 2, e6 96 (.invokevirtual 79) 3 124 3 1 9 0 0, e6 99 (.invokevirtual 259) 3 129 3 1 9 0 0, e0 102 (.iload_n 2) 1, e1 103 (.if_icmp .ne 7) 3 110, e0 106 (.lconst 1) 1, e1 107 (.goto 4) 3 111, e0 110 (.lconst 0) 1, e0 111 .ladd 1, e0 112 (.lstore 4) 2, e0 114 (.iinc 6 1) 3, e1 117 (.goto (-54)) 3 63, e0 120 (.lload 4) 2, e0 122 .lreturn 1, e0 123 (.iconst 0) 1, e0 124 (.istore 6) 2, e0 126 (.iload 6) 2, e0 128 (.aload_n 0) 1, e3 129 (.getfield 17) 3 9 2 2, e0 132 (.iconst 5) 1, e1 133 .iaload 1 11, e1 134 (.if_icmp .ge 71) 3 205, e0 137 (.aload_n 0) 1, e0 138 (.iload 6) 2, e6 140 (.invokevirtual 303) 3 180 2 1 9 0 0, e0 143 (.iconst 1) 1, e1 144 (.if_icmp .eq 6) 3 150, e1 147 (.goto 52) 3 199, e0 150 (.iconst 0) 1, e0 151 (.istore 7) 2, e0 153 (.iload 7) 2, e0 155 (.aload_n 0) 1, e3 156 (.getfield 277) 3 9 35 0, e1 159 (.if_icmp .ge 40) 3 199, e0 162 (.lload 4) 2, e0 164 (.aload_n 0) 1, e3 165 (.getfield 66) 3 9 29 2, e0 168 (.iload 7) 2, e1 170 .iaload 1 11, e0 171 (.iload_n 1) 1, e1 172 (.if_icmp .ne 17) 3 189, e0 175 (.aload_n 0) 1, e0 176 (.iload 7) 2, e6 178 (.invokevirtual 309) 3 184 2 1 9 0 0, e0 181 (.iload_n 2) 1, e1 182 (.if_icmp .ne 7) 3 189, e0 185 (.lconst 1) 1, e1 186 (.goto 4) 3 190, e0 189 (.lconst 0) 1, e0 190 .ladd 1, e0 191 (.lstore 4) 2, e0 193 (.iinc 7 1) 3, e1 196 (.goto (-43)) 3 153, e0 199 (.iinc 6 1) 3, e1 202 (.goto (-76)) 3 126, e0 205 (.aload_n 0) 1, e3 206 (.getfield 17) 3 9 2 2, e0 209 (.iconst 2) 1, e1 210 .iaload 1 11, e0 211 .i2l 1, e0 212 (.lload 4) 2, e0 214 .lmul 1, e0 215 (.aload_n 0) 1, e3 216 (.getfield 17) 3 9 2 2, e0 219 (.iconst 3) 1, e1 220 .iaload 1 11, e0 221 .i2l 1, e0 222 (.iload_n 3) 1, e0 223 (.iconst 1) 1, e1 224 (.if_icmp .ne 7) 3 231, e0 227 (.iconst 1) 1, e1 228 (.goto 4) 3 232, e0 231 (.iconst 0) 1, e3 232 (.invokestatic 329) 3 192 3 2, e0 235 .lreturn 1]
set_option maxRecDepth 100000 in
def tb_X8_fates : List tr_En := [e0 0 (.aload_n 0) 1, e0 1 (.iconst 0) 1, e1 2 (.putfield 1) 3 9, e0 5 (.aload_n 0) 1, e0 6 (.iload_n 1) 1, e0 7 (.iconst 0) 1, e0 8 (.iconst 3) 1, e3 9 (.invokestatic 155) 3 121 3 1, e0 12 (.iconst 1) 1, e0 13 (.iconst 1) 1, e6 14 (.invokevirtual 211) 3 120 4 1 9 0 0, e1 17 (.ifCond .ne 5) 3 22, e0 20 (.iconst 0) 1, e0 21 .ireturn 1, e0 22 (.iconst 0) 1, e0 23 (.istore_n 2) 1, e0 24 (.iconst 0) 1, e0 25 (.istore_n 3) 1, e0 26 (.iload_n 3) 1, e0 27 (.aload_n 0) 1, e3 28 (.getfield 17) 3 9 2 2, e0 31 (.bipush 106) 2, e1 33 .iaload 1 11, e1 34 (.if_icmp .ge 27) 3 61, e0 37 (.iload_n 2) 1, e0 38 (.aload_n 0) 1, e0 39 (.iload_n 3) 1, e0 40 (.iconst 5) 1, e6 41 (.invokevirtual 79) 3 124 3 1 9 0 0, e0 44 (.iload_n 1) 1, e1 45 (.if_icmp .ne 7) 3 52, e0 48 (.iconst 1) 1, e1 49 (.goto 4) 3 53, e0 52 (.iconst 0) 1, e0 53 .iadd 1, e0 54 (.istore_n 2) 1, e0 55 (.iinc 3 1) 3, e1 58 (.goto (-32)) 3 26, e0 61 (.iload_n 2) 1, e0 62 .ireturn 1]
set_option maxRecDepth 100000 in
def tb_X8_leastLabels : List tr_En := [e0 0 (.aload_n 0) 1, e0 1 (.iconst 0) 1, e1 2 (.putfield 1) 3 9, e0 5 (.iconst 2) 1, e0 6 (.istore_n 1) 1, e0 7 (.iload_n 1) 1, e0 8 (.bipush 64) 2, e1 10 (.if_icmp .gt 19) 3 29, e0 13 (.aload_n 0) 1, e0 14 (.iload_n 1) 1, e6 15 (.invokevirtual 250) 3 165 2 1 9 0 0, e1 18 (.ifCond .ne 5) 3 23, e0 21 (.iload_n 1) 1, e0 22 .ireturn 1, e0 23 (.iinc 1 1) 3, e1 26 (.goto (-19)) 3 7, e0 29 (.iconst (-1)) 1, e0 30 .ireturn 1]
set_option maxRecDepth 100000 in
def tb_X8_unlike : List tr_En := [e0 0 (.aload_n 0) 1, e0 1 (.iconst 0) 1, e1 2 (.putfield 1) 3 9, e0 5 (.aload_n 0) 1, e0 6 (.iload_n 1) 1, e0 7 (.iconst 0) 1, e0 8 (.bipush 10) 2, e3 10 (.invokestatic 155) 3 121 3 1, e0 13 (.iconst 1) 1, e0 14 (.iconst 1) 1, e6 15 (.invokevirtual 211) 3 120 4 1 9 0 0, e1 18 (.ifCond .ne 5) 3 23, e0 21 (.lconst 0) 1, e0 22 .lreturn 1, e0 23 (.lconst 1) 1, e0 24 (.lstore_n 3) 1, e0 25 (.lconst 1) 1, e0 26 (.lstore 5) 2, e0 28 (.iconst 0) 1, e0 29 (.istore 7) 2, e0 31 (.iload 7) 2, e0 33 (.iload_n 1) 1, e1 34 (.if_icmp .ge 38) 3 72, e0 37 (.lload_n 3) 1, e0 38 (.iconst 0) 1, e0 39 (.aload_n 0) 1, e3 40 (.getfield 17) 3 9 2 2, e0 43 (.iconst 5) 1, e1 44 .iaload 1 11, e0 45 (.iload 7) 2, e0 47 .isub 1, e1 48 (.invokestatic 175) 3 1002, e0 51 .i2l 1, e0 52 .lmul 1, e0 53 (.lstore_n 3) 1, e0 54 (.lload 5) 2, e0 56 (.aload_n 0) 1, e3 57 (.getfield 17) 3 9 2 2, e0 60 (.iconst 5) 1, e1 61 .iaload 1 11, e0 62 .i2l 1, e0 63 .lmul 1, e0 64 (.lstore 5) 2, e0 66 (.iinc 7 1) 3, e1 69 (.goto (-38)) 3 31, e0 72 (.lload_n 3) 1, e0 73 (.lload 5) 2, e0 75 (.iload_n 2) 1, e3 76 (.invokestatic 329) 3 192 3 2, e0 79 .lreturn 1]
set_option maxRecDepth 100000 in
def tb_X8_clashes : List tr_En := [e0 0 (.aload_n 0) 1, e0 1 (.iconst 0) 1, e1 2 (.putfield 1) 3 9, e0 5 (.aload_n 0) 1, e0 6 (.iload_n 1) 1, e0 7 (.iconst 2) 1, e0 8 (.bipush 64) 2, e3 10 (.invokestatic 155) 3 121 3 1, e0 13 (.iconst 1) 1, e0 14 (.iconst 1) 1, e6 15 (.invokevirtual 211) 3 120 4 1 9 0 0, e1 18 (.ifCond .eq 11) 3 29, e0 21 (.aload_n 0) 1, e0 22 (.iload_n 1) 1, e6 23 (.invokevirtual 250) 3 165 2 1 9 0 0, e1 26 (.goto 4) 3 30, e0 29 (.iconst 0) 1, e0 30 .ireturn 1]
set_option maxRecDepth 100000 in
def tb_X8_bestKey : List tr_En := [e0 0 (.aload_n 0) 1, e0 1 (.iconst 0) 1, e1 2 (.putfield 1) 3 9, e0 5 (.aload_n 0) 1, e0 6 (.iload_n 1) 1, e0 7 (.iconst 0) 1, e0 8 (.bipush 40) 2, e3 10 (.invokestatic 155) 3 121 3 1, e1 13 (.ifCond .eq 16) 3 29, e0 16 (.iload_n 2) 1, e0 17 (.iconst 0) 1, e0 18 (.iconst 1) 1, e3 19 (.invokestatic 155) 3 121 3 1, e1 22 (.ifCond .eq 7) 3 29, e0 25 (.iconst 1) 1, e1 26 (.goto 4) 3 30, e0 29 (.iconst 0) 1, e0 30 (.iconst 1) 1, e0 31 (.iconst 1) 1, e6 32 (.invokevirtual 211) 3 120 4 1 9 0 0, e1 35 (.ifCond .ne 5) 3 40, e0 38 (.iconst 0) 1, e0 39 .ireturn 1, e0 40 (.aload_n 0) 1, e3 41 (.getfield 17) 3 9 2 2, e0 44 (.iconst 4) 1, e1 45 .iaload 1 11, e0 46 (.istore_n 3) 1, e0 47 (.iconst (-1)) 1, e0 48 (.istore 4) 2, e0 50 (.iconst (-1)) 1, e0 51 (.istore 5) 2, e0 53 (.iconst 0) 1, e0 54 (.istore 6) 2, e0 56 (.iload 6) 2, e0 58 (.aload_n 0) 1, e3 59 (.getfield 17) 3 9 2 2, e0 62 (.iconst 2) 1, e1 63 .iaload 1 11, e1 64 (.if_icmp .ge 65) 3 129, e0 67 (.aload_n 0) 1, e3 68 (.getfield 17) 3 9 2 2, e0 71 (.iconst 4) 1, e0 72 (.iload 6) 2, e1 74 .iastore 1 11, e0 75 (.aload_n 0) 1, e0 76 (.iconst 1) 1, e6 77 (.invokevirtual 247) 3 164 2 1 9 0 0, e0 80 (.iload_n 1) 1, e1 81 (.if_icmp .ge 6) 3 87, e1 84 (.goto 39) 3 123, e0 87 (.aload_n 0) 1, e0 88 (.aload_n 0) 1, e3 89 (.getfield 17) 3 9 2 2, e0 92 (.iconst 5) 1, e1 93 .iaload 1 11, e6 94 (.invokevirtual 250) 3 165 2 1 9 0 0, e0 97 (.istore 7) 2, e0 99 (.iload 4) 2, e0 101 (.iconst (-1)) 1, e1 102 (.if_icmp .eq 13) 3 115, e0 105 (.iload 7) 2, e0 107 (.iload 5) 2, e1 109 (.if_icmp .lt 6) 3 115, e1 112 (.goto 11) 3 123, e0 115 (.iload 6) 2, e0 117 (.istore 4) 2, e0 119 (.iload 7) 2, e0 121 (.istore 5) 2, e0 123 (.iinc 6 1) 3, e1 126 (.goto (-70)) 3 56, e0 129 (.aload_n 0) 1, e3 130 (.getfield 17) 3 9 2 2, e0 133 (.iconst 4) 1, e0 134 (.iload_n 3) 1, e1 135 .iastore 1 11, e0 136 (.iload_n 2) 1, e1 137 (.ifCond .ne 8) 3 145, e0 140 (.iload 4) 2, e1 142 (.goto 5) 3 147, e0 145 (.iload 5) 2, e0 147 .ireturn 1]
set_option maxRecDepth 100000 in
def tb_X8_unlikeBy : List tr_En := [e0 0 (.iconst 0) 1, e0 1 (.istore_n 2) 1, e0 2 (.iconst 0) 1, e0 3 (.istore_n 3) 1, e0 4 (.iload_n 3) 1, e0 5 (.aload_n 0) 1, e3 6 (.getfield 17) 3 9 2 2, e0 9 (.bipush 106) 2, e1 11 .iaload 1 11, e1 12 (.if_icmp .ge 70) 3 82, e0 15 (.iconst 1) 1, e0 16 (.istore 4) 2, e0 18 (.iconst 0) 1, e0 19 (.istore 5) 2, e0 21 (.iload 5) 2, e0 23 (.iload_n 3) 1, e1 24 (.if_icmp .ge 39) 3 63, e0 27 (.iload 4) 2, e1 29 (.ifCond .eq 25) 3 54, e0 32 (.aload_n 0) 1, e0 33 (.iload 5) 2, e0 35 (.iconst 0) 1, e0 36 (.iload_n 1) 1, e6 37 (.invokevirtual 97) 3 131 4 1 9 0 0, e0 40 (.aload_n 0) 1, e0 41 (.iload_n 3) 1, e0 42 (.iconst 0) 1, e0 43 (.iload_n 1) 1, e6 44 (.invokevirtual 97) 3 131 4 1 9 0 0, e1 47 (.if_icmp .eq 7) 3 54, e0 50 (.iconst 1) 1, e1 51 (.goto 4) 3 55, e0 54 (.iconst 0) 1, e0 55 (.istore 4) 2, e0 57 (.iinc 5 1) 3, e1 60 (.goto (-39)) 3 21, e0 63 (.iload_n 2) 1, e0 64 (.iload 4) 2, e1 66 (.ifCond .eq 7) 3 73, e0 69 (.iconst 1) 1, e1 70 (.goto 4) 3 74, e0 73 (.iconst 0) 1, e0 74 .iadd 1, e0 75 (.istore_n 2) 1, e0 76 (.iinc 3 1) 3, e1 79 (.goto (-75)) 3 4, e0 82 (.iload_n 2) 1, e0 83 .ireturn 1]
set_option maxRecDepth 100000 in
def tb_X8_bestMask : List tr_En := [e0 0 (.aload_n 0) 1, e0 1 (.iconst 0) 1, e1 2 (.putfield 1) 3 9, e0 5 (.aload_n 0) 1, e0 6 (.iload_n 1) 1, e0 7 (.iconst 0) 1, e0 8 (.iconst 1) 1, e3 9 (.invokestatic 155) 3 121 3 1, e0 12 (.iconst 1) 1, e0 13 (.iconst 1) 1, e6 14 (.invokevirtual 211) 3 120 4 1 9 0 0, e1 17 (.ifCond .ne 5) 3 22, e0 20 (.iconst 0) 1, e0 21 .ireturn 1, e0 22 (.iconst 1) 1, e0 23 (.istore_n 2) 1, e0 24 (.iconst 2) 1, e0 25 (.istore_n 3) 1, e0 26 (.iload_n 3) 1, e0 27 (.bipush 16) 2, e1 29 (.if_icmp .ge 28) 3 57, e0 32 (.aload_n 0) 1, e0 33 (.iload_n 3) 1, e6 34 (.invokevirtual 336) 3 202 2 1 9 0 0, e0 37 (.aload_n 0) 1, e0 38 (.iload_n 2) 1, e6 39 (.invokevirtual 336) 3 202 2 1 9 0 0, e1 42 (.if_icmp .le 7) 3 49, e0 45 (.iload_n 3) 1, e1 46 (.goto 4) 3 50, e0 49 (.iload_n 2) 1, e0 50 (.istore_n 2) 1, e0 51 (.iinc 3 1) 3, e1 54 (.goto (-28)) 3 26, e0 57 (.iload_n 1) 1, e1 58 (.ifCond .ne 7) 3 65, e0 61 (.iload_n 2) 1, e1 62 (.goto 8) 3 70, e0 65 (.aload_n 0) 1, e0 66 (.iload_n 2) 1, e6 67 (.invokevirtual 336) 3 202 2 1 9 0 0, e0 70 .ireturn 1]
set_option maxRecDepth 100000 in
def tb_X8_print : List tr_En := [e0 0 (.aload_n 0) 1, e0 1 (.iconst 0) 1, e1 2 (.putfield 1) 3 9, e0 5 (.lconst 0) 1, e0 6 (.lstore_n 1) 1, e0 7 (.iconst 0) 1, e0 8 (.istore_n 3) 1, e0 9 (.iload_n 3) 1, e0 10 (.aload_n 0) 1, e3 11 (.getfield 17) 3 9 2 2, e0 14 (.bipush 106) 2, e1 16 .iaload 1 11, e1 17 (.if_icmp .ge 77) 3 94, e3 20 (.ldc2_w 339) 3 0 31 0, e0 23 (.lload_n 1) 1, e0 24 .lmul 1, e0 25 (.aload_n 0) 1, e0 26 (.iload_n 3) 1, e0 27 (.iconst 5) 1, e6 28 (.invokevirtual 79) 3 124 3 1 9 0 0, e0 31 .i2l 1, e0 32 .ladd 1, e0 33 (.lstore_n 1) 1, e0 34 (.iconst 0) 1, e0 35 (.istore 4) 2, e0 37 (.iload 4) 2, e0 39 (.aload_n 0) 1, e0 40 (.iload_n 3) 1, e0 41 (.bipush 6) 2, e6 43 (.invokevirtual 79) 3 124 3 1 9 0 0, e1 46 (.if_icmp .gt 42) 3 88, e3 49 (.ldc2_w 339) 3 0 31 0, e0 52 (.lload_n 1) 1, e0 53 .lmul 1, e0 54 (.aload_n 0) 1, e0 55 (.iload_n 3) 1, e0 56 (.iload 4) 2, e6 58 (.invokevirtual 259) 3 129 3 1 9 0 0, e0 61 .i2l 1, e0 62 .ladd 1, e0 63 (.aload_n 0) 1, e0 64 (.iload_n 3) 1, e0 65 (.iload 4) 2, e6 67 (.invokevirtual 241) 3 133 3 1 9 0 0, e1 70 (.ifCond .eq 8) 3 78, e0 73 (.bipush 16) 2, e1 75 (.goto 4) 3 79, e0 78 (.iconst 0) 1, e0 79 .i2l 1, e0 80 .ladd 1, e0 81 (.lstore_n 1) 1, e0 82 (.iinc 4 1) 3, e1 85 (.goto (-48)) 3 37, e0 88 (.iinc 3 1) 3, e1 91 (.goto (-82)) 3 9, e0 94 (.lload_n 1) 1, e0 95 .lreturn 1]
set_option maxRecDepth 100000 in
def tb_X8_status : List tr_En := [e0 0 (.aload_n 0) 1, e0 1 (.iconst 0) 1, e1 2 (.putfield 1) 3 9, e0 5 (.iload_n 1) 1, e0 6 (.iconst 0) 1, e0 7 (.iconst 2) 1, e3 8 (.invokestatic 155) 3 121 3 1, e1 11 (.ifCond .eq 12) 3 23, e0 14 (.aload_n 0) 1, e3 15 (.getfield 7) 3 9 1 2, e0 18 (.iload_n 1) 1, e1 19 .iaload 1 11, e1 20 (.goto 4) 3 24, e0 23 (.iconst (-1)) 1, e0 24 .ireturn 1]
set_option maxRecDepth 100000 in
def tb_J7_fill_53178 : List tr_En := [e0 0 (.iconst 0) 1, e0 1 (.istore_n 2) 1, e0 2 (.aload_n 0) 1, e1 3 .arraylength 1 11, e0 4 (.istore_n 3) 1, e0 5 (.iload_n 2) 1, e0 6 (.iload_n 3) 1, e1 7 (.if_icmp .ge 13) 3 20, e0 10 (.aload_n 0) 1, e0 11 (.iload_n 2) 1, e0 12 (.iload_n 1) 1, e1 13 .iastore 1 11, e0 14 (.iinc 2 1) 3, e1 17 (.goto (-12)) 3 5, e0 20 .return_ 1]
set_option maxRecDepth 100000 in
def tb_L_text : List tr_En := [e0 0 (.aload_n 2) 1, e0 1 (.iconst 0) 1, e0 2 (.aload_n 0) 1, e0 3 (.iload_n 1) 1, e6 4 (.invokevirtual 7) 3 74 2 1 8 10 243, e0 7 .i2l 1, e1 8 .lastore 1 14, e1 9 (.goto 6) 3 15, e0 12 (.astore_n 3) 1, e0 13 (.iconst 1) 1, e0 14 .ireturn 1, e0 15 (.iconst 0) 1, e0 16 .ireturn 1]
set_option maxRecDepth 100000 in
def tb_L_send : List tr_En := [e0 0 (.aload 6) 2, e0 2 (.iconst 0) 1, e0 3 (.aload_n 0) 1, e0 4 (.iload_n 1) 1, e0 5 (.iload_n 2) 1, e0 6 (.iload_n 3) 1, e0 7 (.iload 4) 2, e0 9 (.iload 5) 2, e6 11 (.invokevirtual 15) 3 76 6 1 8 13 239, e0 14 .i2l 1, e1 15 .lastore 1 14, e1 16 (.goto 11) 3 27, e0 19 (.astore 7) 2, e0 21 (.iconst 1) 1, e0 22 .ireturn 1, e0 23 (.astore 7) 2, e0 25 (.iconst 2) 1, e0 26 .ireturn 1, e0 27 (.iconst 0) 1, e0 28 .ireturn 1]
set_option maxRecDepth 100000 in
def tb_L_link : List tr_En := [e0 0 (.aload_n 3) 1, e0 1 (.iconst 0) 1, e0 2 (.aload_n 0) 1, e0 3 (.iload_n 1) 1, e0 4 (.iload_n 2) 1, e6 5 (.invokevirtual 21) 3 78 3 1 8 8 191, e1 8 (.ifCond .eq 7) 3 15, e0 11 (.lconst 1) 1, e1 12 (.goto 4) 3 16, e0 15 (.lconst 0) 1, e1 16 .lastore 1 14, e1 17 (.goto 11) 3 28, e0 20 (.astore 4) 2, e0 22 (.iconst 1) 1, e0 23 .ireturn 1, e0 24 (.astore 4) 2, e0 26 (.iconst 2) 1, e0 27 .ireturn 1, e0 28 (.iconst 0) 1, e0 29 .ireturn 1]
set_option maxRecDepth 100000 in
def tb_L_route : List tr_En := [e0 0 (.aload 4) 2, e0 2 (.iconst 0) 1, e0 3 (.aload_n 0) 1, e0 4 (.iload_n 1) 1, e0 5 (.iload_n 2) 1, e0 6 (.iload_n 3) 1, e6 7 (.invokevirtual 27) 3 79 4 1 8 10 203, e0 10 .i2l 1, e1 11 .lastore 1 14, e1 12 (.goto 11) 3 23, e0 15 (.astore 5) 2, e0 17 (.iconst 1) 1, e0 18 .ireturn 1, e0 19 (.astore 5) 2, e0 21 (.iconst 2) 1, e0 22 .ireturn 1, e0 23 (.iconst 0) 1, e0 24 .ireturn 1]
set_option maxRecDepth 100000 in
def tb_L_set : List tr_En := [e0 0 (.aload_n 3) 1, e0 1 (.iconst 0) 1, e0 2 (.aload_n 0) 1, e0 3 (.iload_n 1) 1, e0 4 (.iload_n 2) 1, e6 5 (.invokevirtual 31) 3 80 3 1 8 9 197, e0 8 .i2l 1, e1 9 .lastore 1 14, e1 10 (.goto 7) 3 17, e0 13 (.astore 4) 2, e0 15 (.iconst 1) 1, e0 16 .ireturn 1, e0 17 (.iconst 0) 1, e0 18 .ireturn 1]
set_option maxRecDepth 100000 in
def tb_L_told : List tr_En := [e0 0 (.aload_n 2) 1, e0 1 (.iconst 0) 1, e0 2 (.aload_n 0) 1, e0 3 (.iload_n 1) 1, e6 4 (.invokevirtual 35) 3 82 2 1 8 1 6, e0 7 .i2l 1, e1 8 .lastore 1 14, e1 9 (.goto 6) 3 15, e0 12 (.astore_n 3) 1, e0 13 (.iconst 1) 1, e0 14 .ireturn 1, e0 15 (.iconst 0) 1, e0 16 .ireturn 1]
set_option maxRecDepth 100000 in
def tb_L_linkTold : List tr_En := [e0 0 (.aload_n 3) 1, e0 1 (.iconst 0) 1, e0 2 (.aload_n 0) 1, e0 3 (.iload_n 1) 1, e0 4 (.iload_n 2) 1, e6 5 (.invokevirtual 38) 3 83 3 1 8 2 12, e0 8 .i2l 1, e1 9 .lastore 1 14, e1 10 (.goto 11) 3 21, e0 13 (.astore 4) 2, e0 15 (.iconst 1) 1, e0 16 .ireturn 1, e0 17 (.astore 4) 2, e0 19 (.iconst 2) 1, e0 20 .ireturn 1, e0 21 (.iconst 0) 1, e0 22 .ireturn 1]
set_option maxRecDepth 100000 in
def tb_L_routeTold : List tr_En := [e0 0 (.aload_n 3) 1, e0 1 (.iconst 0) 1, e0 2 (.aload_n 0) 1, e0 3 (.iload_n 1) 1, e0 4 (.iload_n 2) 1, e6 5 (.invokevirtual 41) 3 84 3 1 8 1 6, e0 8 .i2l 1, e1 9 .lastore 1 14, e1 10 (.goto 7) 3 17, e0 13 (.astore 4) 2, e0 15 (.iconst 1) 1, e0 16 .ireturn 1, e0 17 (.iconst 0) 1, e0 18 .ireturn 1]
set_option maxRecDepth 100000 in
def tb_L_packet : List tr_En := [e0 0 (.aload_n 3) 1, e0 1 (.iconst 0) 1, e0 2 (.aload_n 0) 1, e0 3 (.iload_n 1) 1, e0 4 (.iload_n 2) 1, e6 5 (.invokevirtual 44) 3 85 3 1 8 2 12, e0 8 .i2l 1, e1 9 .lastore 1 14, e1 10 (.goto 11) 3 21, e0 13 (.astore 4) 2, e0 15 (.iconst 1) 1, e0 16 .ireturn 1, e0 17 (.astore 4) 2, e0 19 (.iconst 2) 1, e0 20 .ireturn 1, e0 21 (.iconst 0) 1, e0 22 .ireturn 1]
set_option maxRecDepth 100000 in
def tb_L_trail : List tr_En := [e0 0 (.aload 4) 2, e0 2 (.iconst 0) 1, e0 3 (.aload_n 0) 1, e0 4 (.iload_n 1) 1, e0 5 (.iload_n 2) 1, e0 6 (.iload_n 3) 1, e6 7 (.invokevirtual 47) 3 86 4 1 8 3 18, e0 10 .i2l 1, e1 11 .lastore 1 14, e1 12 (.goto 11) 3 23, e0 15 (.astore 5) 2, e0 17 (.iconst 1) 1, e0 18 .ireturn 1, e0 19 (.astore 5) 2, e0 21 (.iconst 2) 1, e0 22 .ireturn 1, e0 23 (.iconst 0) 1, e0 24 .ireturn 1]
set_option maxRecDepth 100000 in
def tb_L_reports : List tr_En := [e0 0 (.aload 4) 2, e0 2 (.iconst 0) 1, e0 3 (.aload_n 0) 1, e0 4 (.iload_n 1) 1, e0 5 (.iload_n 2) 1, e0 6 (.iload_n 3) 1, e6 7 (.invokevirtual 50) 3 87 4 1 8 4 24, e0 10 .i2l 1, e1 11 .lastore 1 14, e1 12 (.goto 11) 3 23, e0 15 (.astore 5) 2, e0 17 (.iconst 1) 1, e0 18 .ireturn 1, e0 19 (.astore 5) 2, e0 21 (.iconst 2) 1, e0 22 .ireturn 1, e0 23 (.iconst 0) 1, e0 24 .ireturn 1]
set_option maxRecDepth 100000 in
def tb_L_joints : List tr_En := [e0 0 (.aload_n 2) 1, e0 1 (.iconst 0) 1, e0 2 (.aload_n 0) 1, e0 3 (.iload_n 1) 1, e6 4 (.invokevirtual 53) 3 89 2 1 8 1 6, e0 7 .i2l 1, e1 8 .lastore 1 14, e1 9 (.goto 6) 3 15, e0 12 (.astore_n 3) 1, e0 13 (.iconst 1) 1, e0 14 .ireturn 1, e0 15 (.iconst 0) 1, e0 16 .ireturn 1]
set_option maxRecDepth 100000 in
def tb_L_walk : List tr_En := [e0 0 (.aload 4) 2, e0 2 (.iconst 0) 1, e0 3 (.aload_n 0) 1, e0 4 (.iload_n 1) 1, e0 5 (.iload_n 2) 1, e0 6 (.iload_n 3) 1, e6 7 (.invokevirtual 56) 3 90 4 1 8 3 18, e0 10 .i2l 1, e1 11 .lastore 1 14, e1 12 (.goto 11) 3 23, e0 15 (.astore 5) 2, e0 17 (.iconst 1) 1, e0 18 .ireturn 1, e0 19 (.astore 5) 2, e0 21 (.iconst 2) 1, e0 22 .ireturn 1, e0 23 (.iconst 0) 1, e0 24 .ireturn 1]
set_option maxRecDepth 100000 in
def tb_L_walkAt : List tr_En := [e0 0 (.aload 4) 2, e0 2 (.iconst 0) 1, e0 3 (.aload_n 0) 1, e0 4 (.iload_n 1) 1, e0 5 (.iload_n 2) 1, e0 6 (.iload_n 3) 1, e6 7 (.invokevirtual 59) 3 91 4 1 8 3 18, e0 10 .i2l 1, e1 11 .lastore 1 14, e1 12 (.goto 11) 3 23, e0 15 (.astore 5) 2, e0 17 (.iconst 1) 1, e0 18 .ireturn 1, e0 19 (.astore 5) 2, e0 21 (.iconst 2) 1, e0 22 .ireturn 1, e0 23 (.iconst 0) 1, e0 24 .ireturn 1]
set_option maxRecDepth 100000 in
def tb_L_joined : List tr_En := [e0 0 (.aload_n 2) 1, e0 1 (.iconst 0) 1, e0 2 (.aload_n 0) 1, e0 3 (.iload_n 1) 1, e6 4 (.invokevirtual 62) 3 92 2 1 8 1 6, e0 7 .i2l 1, e1 8 .lastore 1 14, e1 9 (.goto 6) 3 15, e0 12 (.astore_n 3) 1, e0 13 (.iconst 1) 1, e0 14 .ireturn 1, e0 15 (.iconst 0) 1, e0 16 .ireturn 1]
set_option maxRecDepth 100000 in
def tb_L_estimate : List tr_En := [e0 0 (.aload 4) 2, e0 2 (.iconst 0) 1, e0 3 (.aload_n 0) 1, e0 4 (.iload_n 1) 1, e0 5 (.iload_n 2) 1, e0 6 (.iload_n 3) 1, e6 7 (.invokevirtual 65) 3 93 4 2 8 3 18, e1 10 .lastore 1 14, e1 11 (.goto 11) 3 22, e0 14 (.astore 5) 2, e0 16 (.iconst 1) 1, e0 17 .ireturn 1, e0 18 (.astore 5) 2, e0 20 (.iconst 2) 1, e0 21 .ireturn 1, e0 22 (.iconst 0) 1, e0 23 .ireturn 1]
set_option maxRecDepth 100000 in
def tb_L_matrix : List tr_En := [e0 0 (.aload 4) 2, e0 2 (.iconst 0) 1, e0 3 (.aload_n 0) 1, e0 4 (.iload_n 1) 1, e0 5 (.iload_n 2) 1, e0 6 (.iload_n 3) 1, e6 7 (.invokevirtual 69) 3 94 4 2 8 2 12, e1 10 .lastore 1 14, e1 11 (.goto 11) 3 22, e0 14 (.astore 5) 2, e0 16 (.iconst 1) 1, e0 17 .ireturn 1, e0 18 (.astore 5) 2, e0 20 (.iconst 2) 1, e0 21 .ireturn 1, e0 22 (.iconst 0) 1, e0 23 .ireturn 1]
set_option maxRecDepth 100000 in
def tb_L_fates : List tr_En := [e0 0 (.aload_n 2) 1, e0 1 (.iconst 0) 1, e0 2 (.aload_n 0) 1, e0 3 (.iload_n 1) 1, e6 4 (.invokevirtual 72) 3 95 2 1 8 1 6, e0 7 .i2l 1, e1 8 .lastore 1 14, e1 9 (.goto 6) 3 15, e0 12 (.astore_n 3) 1, e0 13 (.iconst 1) 1, e0 14 .ireturn 1, e0 15 (.iconst 0) 1, e0 16 .ireturn 1]
set_option maxRecDepth 100000 in
def tb_L_unlike : List tr_En := [e0 0 (.aload_n 3) 1, e0 1 (.iconst 0) 1, e0 2 (.aload_n 0) 1, e0 3 (.iload_n 1) 1, e0 4 (.iload_n 2) 1, e6 5 (.invokevirtual 75) 3 97 3 2 8 1 6, e1 8 .lastore 1 14, e1 9 (.goto 7) 3 16, e0 12 (.astore 4) 2, e0 14 (.iconst 1) 1, e0 15 .ireturn 1, e0 16 (.iconst 0) 1, e0 17 .ireturn 1]
set_option maxRecDepth 100000 in
def tb_L_clashes : List tr_En := [e0 0 (.aload_n 2) 1, e0 1 (.iconst 0) 1, e0 2 (.aload_n 0) 1, e0 3 (.iload_n 1) 1, e6 4 (.invokevirtual 79) 3 98 2 1 8 1 6, e0 7 .i2l 1, e1 8 .lastore 1 14, e1 9 (.goto 6) 3 15, e0 12 (.astore_n 3) 1, e0 13 (.iconst 1) 1, e0 14 .ireturn 1, e0 15 (.iconst 0) 1, e0 16 .ireturn 1]
set_option maxRecDepth 100000 in
def tb_L_bestKey : List tr_En := [e0 0 (.aload_n 3) 1, e0 1 (.iconst 0) 1, e0 2 (.aload_n 0) 1, e0 3 (.iload_n 1) 1, e0 4 (.iload_n 2) 1, e6 5 (.invokevirtual 82) 3 99 3 1 8 2 12, e0 8 .i2l 1, e1 9 .lastore 1 14, e1 10 (.goto 7) 3 17, e0 13 (.astore 4) 2, e0 15 (.iconst 1) 1, e0 16 .ireturn 1, e0 17 (.iconst 0) 1, e0 18 .ireturn 1]
set_option maxRecDepth 100000 in
def tb_L_bestMask : List tr_En := [e0 0 (.aload_n 2) 1, e0 1 (.iconst 0) 1, e0 2 (.aload_n 0) 1, e0 3 (.iload_n 1) 1, e6 4 (.invokevirtual 85) 3 100 2 1 8 1 6, e0 7 .i2l 1, e1 8 .lastore 1 14, e1 9 (.goto 6) 3 15, e0 12 (.astore_n 3) 1, e0 13 (.iconst 1) 1, e0 14 .ireturn 1, e0 15 (.iconst 0) 1, e0 16 .ireturn 1]
set_option maxRecDepth 100000 in
def tb_L_law : List tr_En := [e3 0 (.new 8) 3 8 10 0, e0 3 .dup 1, e6 4 (.invokespecial 88) 3 72 1 0 8 29 4603, e0 7 (.astore_n 1) 1, e3 8 (.new 89) 3 9 37 0, e0 11 .dup 1, e6 12 (.invokespecial 91) 3 122 1 0 9 18 14277, e0 15 (.astore_n 2) 1, e0 16 (.iconst 1) 1, e3 17 (.newarray .long) 2 14 1 1, e0 19 (.astore_n 3) 1, e0 20 (.iconst 0) 1, e0 21 (.istore 4) 2, e0 23 (.iload 4) 2, e0 25 (.aload_n 0) 1, e1 26 .arraylength 1 17, e0 27 (.bipush 6) 2, e0 29 .isub 1, e1 30 (.if_icmp .gt 1893) 3 1923, e0 33 (.aload_n 0) 1, e0 34 (.iload 4) 2, e1 36 .iaload 1 17, e0 37 (.bipush 31) 2, e0 39 .iand 1, e1 40 (.tableswitch 1877 0 29 #[136, 209, 265, 278, 382, 395, 470, 550, 618, 631, 687, 755, 823, 891, 971, 1051, 1076, 1132, 1212, 1292, 1348, 1427, 1506, 1562, 1575, 1658, 1714, 1782, 1838, 1852]) 136 1917, e0 176 (.aload_n 1) 1, e0 177 (.aload_n 0) 1, e0 178 (.iload 4) 2, e0 180 (.iconst 1) 1, e0 181 .iadd 1, e1 182 .iaload 1 17, e0 183 (.aload_n 0) 1, e0 184 (.iload 4) 2, e0 186 (.iconst 2) 1, e0 187 .iadd 1, e1 188 .iaload 1 17, e0 189 (.aload_n 0) 1, e0 190 (.iload 4) 2, e0 192 (.iconst 3) 1, e0 193 .iadd 1, e1 194 .iaload 1 17, e0 195 (.aload_n 0) 1, e0 196 (.iload 4) 2, e0 198 (.iconst 4) 1, e0 199 .iadd 1, e1 200 .iaload 1 17, e0 201 (.aload_n 0) 1, e0 202 (.iload 4) 2, e0 204 (.iconst 5) 1, e0 205 .iadd 1, e1 206 .iaload 1 17, e6 207 (.invokevirtual 92) 3 73 6 1 8 0 0, e0 210 (.aload_n 2) 1, e0 211 (.aload_n 0) 1, e0 212 (.iload 4) 2, e0 214 (.iconst 1) 1, e0 215 .iadd 1, e1 216 .iaload 1 17, e0 217 (.aload_n 0) 1, e0 218 (.iload 4) 2, e0 220 (.iconst 2) 1, e0 221 .iadd 1, e1 222 .iaload 1 17, e0 223 (.aload_n 0) 1, e0 224 (.iload 4) 2, e0 226 (.iconst 3) 1, e0 227 .iadd 1, e1 228 .iaload 1 17, e0 229 (.aload_n 0) 1, e0 230 (.iload 4) 2, e0 232 (.iconst 4) 1, e0 233 .iadd 1, e1 234 .iaload 1 17, e0 235 (.aload_n 0) 1, e0 236 (.iload 4) 2, e0 238 (.iconst 5) 1, e0 239 .iadd 1, e1 240 .iaload 1 17, e6 241 (.invokevirtual 95) 3 136 6 1 9 0 0, e1 244 (.if_icmp .eq 1673) 3 1917, e0 247 (.iconst 0) 1, e3 248 .ireturn 1 0 0 1, e0 249 (.aload_n 1) 1, e0 250 (.aload_n 0) 1, e0 251 (.iload 4) 2, e0 253 (.iconst 1) 1, e0 254 .iadd 1, e1 255 .iaload 1 17, e0 256 (.aload_n 3) 1, e6 257 (.invokestatic 96) 3 207 3 1 0 10 243, e0 260 (.istore 5) 2, e0 262 (.aload_n 2) 1, e0 263 (.aload_n 0) 1, e0 264 (.iload 4) 2, e0 266 (.iconst 1) 1, e0 267 .iadd 1, e1 268 .iaload 1 17, e6 269 (.invokevirtual 101) 3 151 2 1 9 0 0, e0 272 (.istore 6) 2, e0 274 (.aload_n 2) 1, e6 275 (.invokevirtual 102) 3 119 1 1 9 0 0, e0 278 (.iload 5) 2, e1 280 (.if_icmp .eq 5) 3 285, e0 283 (.iconst 0) 1, e3 284 .ireturn 1 0 0 1, e0 285 (.iload 5) 2, e1 287 (.ifCond .ne 15) 3 302, e0 290 (.aload_n 3) 1, e0 291 (.iconst 0) 1, e1 292 .laload 1 14, e0 293 (.iload 6) 2, e0 295 .i2l 1, e0 296 .lcmp 1, e1 297 (.ifCond .eq 5) 3 302, e0 300 (.iconst 0) 1, e3 301 .ireturn 1 0 0 1, e1 302 (.goto 1615) 3 1917, e0 305 (.aload_n 1) 1, e6 306 (.invokevirtual 106) 3 75 1 1 8 0 0, e0 309 (.aload_n 2) 1, e6 310 (.invokevirtual 109) 3 152 1 1 9 0 0, e1 313 (.if_icmp .eq 1604) 3 1917, e0 316 (.iconst 0) 1, e3 317 .ireturn 1 0 0 1, e0 318 (.aload_n 1) 1, e0 319 (.aload_n 0) 1, e0 320 (.iload 4) 2, e0 322 (.iconst 1) 1, e0 323 .iadd 1, e1 324 .iaload 1 17, e0 325 (.aload_n 0) 1, e0 326 (.iload 4) 2, e0 328 (.iconst 2) 1, e0 329 .iadd 1, e1 330 .iaload 1 17, e0 331 (.aload_n 0) 1, e0 332 (.iload 4) 2, e0 334 (.iconst 3) 1, e0 335 .iadd 1, e1 336 .iaload 1 17, e0 337 (.aload_n 0) 1, e0 338 (.iload 4) 2, e0 340 (.iconst 4) 1, e0 341 .iadd 1, e1 342 .iaload 1 17, e0 343 (.aload_n 0) 1, e0 344 (.iload 4) 2, e0 346 (.iconst 5) 1, e0 347 .iadd 1, e1 348 .iaload 1 17, e0 349 (.aload_n 3) 1, e6 350 (.invokestatic 110) 3 208 7 1 0 13 239, e0 353 (.istore 5) 2, e0 355 (.aload_n 2) 1, e0 356 (.aload_n 0) 1, e0 357 (.iload 4) 2, e0 359 (.iconst 1) 1, e0 360 .iadd 1, e1 361 .iaload 1 17, e0 362 (.aload_n 0) 1, e0 363 (.iload 4) 2, e0 365 (.iconst 2) 1, e0 366 .iadd 1, e1 367 .iaload 1 17, e0 368 (.aload_n 0) 1, e0 369 (.iload 4) 2, e0 371 (.iconst 3) 1, e0 372 .iadd 1, e1 373 .iaload 1 17, e0 374 (.aload_n 0) 1, e0 375 (.iload 4) 2, e0 377 (.iconst 4) 1, e0 378 .iadd 1, e1 379 .iaload 1 17, e0 380 (.aload_n 0) 1, e0 381 (.iload 4) 2, e0 383 (.iconst 5) 1, e0 384 .iadd 1, e1 385 .iaload 1 17, e6 386 (.invokevirtual 113) 3 156 6 1 9 0 0, e0 389 (.istore 6) 2, e0 391 (.aload_n 2) 1, e6 392 (.invokevirtual 102) 3 119 1 1 9 0 0, e0 395 (.iload 5) 2, e1 397 (.if_icmp .eq 5) 3 402, e0 400 (.iconst 0) 1, e3 401 .ireturn 1 0 0 1, e0 402 (.iload 5) 2, e1 404 (.ifCond .ne 15) 3 419, e0 407 (.aload_n 3) 1, e0 408 (.iconst 0) 1, e1 409 .laload 1 14, e0 410 (.iload 6) 2, e0 412 .i2l 1, e0 413 .lcmp 1, e1 414 (.ifCond .eq 5) 3 419, e0 417 (.iconst 0) 1, e3 418 .ireturn 1 0 0 1, e1 419 (.goto 1498) 3 1917, e0 422 (.aload_n 1) 1, e6 423 (.invokevirtual 114) 3 77 1 1 8 6 179, e0 426 (.aload_n 2) 1, e6 427 (.invokevirtual 117) 3 157 1 1 9 0 0, e1 430 (.if_icmp .eq 1487) 3 1917, e0 433 (.iconst 0) 1, e3 434 .ireturn 1 0 0 1, e0 435 (.aload_n 1) 1, e0 436 (.aload_n 0) 1, e0 437 (.iload 4) 2, e0 439 (.iconst 1) 1, e0 440 .iadd 1, e1 441 .iaload 1 17, e0 442 (.aload_n 0) 1, e0 443 (.iload 4) 2, e0 445 (.iconst 2) 1, e0 446 .iadd 1, e1 447 .iaload 1 17, e0 448 (.aload_n 3) 1, e6 449 (.invokestatic 118) 3 209 4 1 0 8 191, e0 452 (.istore 5) 2, e0 454 (.aload_n 2) 1, e0 455 (.aload_n 0) 1, e0 456 (.iload 4) 2, e0 458 (.iconst 1) 1, e0 459 .iadd 1, e1 460 .iaload 1 17, e0 461 (.aload_n 0) 1, e0 462 (.iload 4) 2, e0 464 (.iconst 2) 1, e0 465 .iadd 1, e1 466 .iaload 1 17, e6 467 (.invokevirtual 121) 3 158 3 1 9 0 0, e0 470 (.istore 6) 2, e0 472 (.aload_n 2) 1, e6 473 (.invokevirtual 102) 3 119 1 1 9 0 0, e0 476 (.iload 5) 2, e1 478 (.if_icmp .eq 5) 3 483, e0 481 (.iconst 0) 1, e3 482 .ireturn 1 0 0 1, e0 483 (.iload 5) 2, e1 485 (.ifCond .ne 22) 3 507, e0 488 (.aload_n 3) 1, e0 489 (.iconst 0) 1, e1 490 .laload 1 14, e0 491 (.iload 6) 2, e1 493 (.ifCond .eq 7) 3 500, e0 496 (.lconst 1) 1, e1 497 (.goto 4) 3 501, e0 500 (.lconst 0) 1, e0 501 .lcmp 1, e1 502 (.ifCond .eq 5) 3 507, e0 505 (.iconst 0) 1, e3 506 .ireturn 1 0 0 1, e1 507 (.goto 1410) 3 1917, e0 510 (.aload_n 1) 1, e0 511 (.aload_n 0) 1, e0 512 (.iload 4) 2, e0 514 (.iconst 1) 1, e0 515 .iadd 1, e1 516 .iaload 1 17, e0 517 (.aload_n 0) 1, e0 518 (.iload 4) 2, e0 520 (.iconst 2) 1, e0 521 .iadd 1, e1 522 .iaload 1 17, e0 523 (.aload_n 0) 1, e0 524 (.iload 4) 2, e0 526 (.iconst 3) 1, e0 527 .iadd 1, e1 528 .iaload 1 17, e0 529 (.aload_n 3) 1, e6 530 (.invokestatic 122) 3 210 5 1 0 10 203, e0 533 (.istore 5) 2, e0 535 (.aload_n 2) 1, e0 536 (.aload_n 0) 1, e0 537 (.iload 4) 2, e0 539 (.iconst 1) 1, e0 540 .iadd 1, e1 541 .iaload 1 17, e0 542 (.aload_n 0) 1, e0 543 (.iload 4) 2, e0 545 (.iconst 2) 1, e0 546 .iadd 1, e1 547 .iaload 1 17, e0 548 (.aload_n 0) 1, e0 549 (.iload 4) 2, e0 551 (.iconst 3) 1, e0 552 .iadd 1, e1 553 .iaload 1 17, e6 554 (.invokevirtual 125) 3 159 4 1 9 0 0, e0 557 (.istore 6) 2, e0 559 (.aload_n 2) 1, e6 560 (.invokevirtual 102) 3 119 1 1 9 0 0, e0 563 (.iload 5) 2, e1 565 (.if_icmp .eq 5) 3 570, e0 568 (.iconst 0) 1, e3 569 .ireturn 1 0 0 1, e0 570 (.iload 5) 2, e1 572 (.ifCond .ne 15) 3 587, e0 575 (.aload_n 3) 1, e0 576 (.iconst 0) 1, e1 577 .laload 1 14, e0 578 (.iload 6) 2, e0 580 .i2l 1, e0 581 .lcmp 1, e1 582 (.ifCond .eq 5) 3 587, e0 585 (.iconst 0) 1, e3 586 .ireturn 1 0 0 1, e1 587 (.goto 1330) 3 1917, e0 590 (.aload_n 1) 1, e0 591 (.aload_n 0) 1, e0 592 (.iload 4) 2, e0 594 (.iconst 1) 1, e0 595 .iadd 1, e1 596 .iaload 1 17, e0 597 (.aload_n 0) 1, e0 598 (.iload 4) 2, e0 600 (.iconst 2) 1, e0 601 .iadd 1, e1 602 .iaload 1 17, e0 603 (.aload_n 3) 1, e6 604 (.invokestatic 126) 3 211 4 1 0 9 197, e0 607 (.istore 5) 2, e0 609 (.aload_n 2) 1, e0 610 (.aload_n 0) 1, e0 611 (.iload 4) 2, e0 613 (.iconst 1) 1, e0 614 .iadd 1, e1 615 .iaload 1 17, e0 616 (.aload_n 0) 1, e0 617 (.iload 4) 2, e0 619 (.iconst 2) 1, e0 620 .iadd 1, e1 621 .iaload 1 17, e6 622 (.invokevirtual 128) 3 161 3 1 9 0 0, e0 625 (.istore 6) 2, e0 627 (.aload_n 2) 1, e6 628 (.invokevirtual 102) 3 119 1 1 9 0 0, e0 631 (.iload 5) 2, e1 633 (.if_icmp .eq 5) 3 638, e0 636 (.iconst 0) 1, e3 637 .ireturn 1 0 0 1, e0 638 (.iload 5) 2, e1 640 (.ifCond .ne 15) 3 655, e0 643 (.aload_n 3) 1, e0 644 (.iconst 0) 1, e1 645 .laload 1 14, e0 646 (.iload 6) 2, e0 648 .i2l 1, e0 649 .lcmp 1, e1 650 (.ifCond .eq 5) 3 655, e0 653 (.iconst 0) 1, e3 654 .ireturn 1 0 0 1, e1 655 (.goto 1262) 3 1917, e0 658 (.aload_n 1) 1, e6 659 (.invokevirtual 129) 3 81 1 1 8 0 0, e0 662 (.aload_n 2) 1, e6 663 (.invokevirtual 132) 3 162 1 1 9 0 0, e1 666 (.if_icmp .eq 1251) 3 1917, e0 669 (.iconst 0) 1, e3 670 .ireturn 1 0 0 1, e0 671 (.aload_n 1) 1, e0 672 (.aload_n 0) 1, e0 673 (.iload 4) 2, e0 675 (.iconst 1) 1, e0 676 .iadd 1, e1 677 .iaload 1 17, e0 678 (.aload_n 3) 1, e6 679 (.invokestatic 133) 3 212 3 1 0 1 6, e0 682 (.istore 5) 2, e0 684 (.aload_n 2) 1, e0 685 (.aload_n 0) 1, e0 686 (.iload 4) 2, e0 688 (.iconst 1) 1, e0 689 .iadd 1, e1 690 .iaload 1 17, e6 691 (.invokevirtual 135) 3 166 2 1 9 0 0, e0 694 (.istore 6) 2, e0 696 (.aload_n 2) 1, e6 697 (.invokevirtual 102) 3 119 1 1 9 0 0, e0 700 (.iload 5) 2, e1 702 (.if_icmp .eq 5) 3 707, e0 705 (.iconst 0) 1, e3 706 .ireturn 1 0 0 1, e0 707 (.iload 5) 2, e1 709 (.ifCond .ne 15) 3 724, e0 712 (.aload_n 3) 1, e0 713 (.iconst 0) 1, e1 714 .laload 1 14, e0 715 (.iload 6) 2, e0 717 .i2l 1, e0 718 .lcmp 1, e1 719 (.ifCond .eq 5) 3 724, e0 722 (.iconst 0) 1, e3 723 .ireturn 1 0 0 1, e1 724 (.goto 1193) 3 1917, e0 727 (.aload_n 1) 1, e0 728 (.aload_n 0) 1, e0 729 (.iload 4) 2, e0 731 (.iconst 1) 1, e0 732 .iadd 1, e1 733 .iaload 1 17, e0 734 (.aload_n 0) 1, e0 735 (.iload 4) 2, e0 737 (.iconst 2) 1, e0 738 .iadd 1, e1 739 .iaload 1 17, e0 740 (.aload_n 3) 1, e6 741 (.invokestatic 136) 3 213 4 1 0 2 12, e0 744 (.istore 5) 2, e0 746 (.aload_n 2) 1, e0 747 (.aload_n 0) 1, e0 748 (.iload 4) 2, e0 750 (.iconst 1) 1, e0 751 .iadd 1, e1 752 .iaload 1 17, e0 753 (.aload_n 0) 1, e0 754 (.iload 4) 2, e0 756 (.iconst 2) 1, e0 757 .iadd 1, e1 758 .iaload 1 17, e6 759 (.invokevirtual 138) 3 167 3 1 9 0 0, e0 762 (.istore 6) 2, e0 764 (.aload_n 2) 1, e6 765 (.invokevirtual 102) 3 119 1 1 9 0 0, e0 768 (.iload 5) 2, e1 770 (.if_icmp .eq 5) 3 775, e0 773 (.iconst 0) 1, e3 774 .ireturn 1 0 0 1, e0 775 (.iload 5) 2, e1 777 (.ifCond .ne 15) 3 792, e0 780 (.aload_n 3) 1, e0 781 (.iconst 0) 1, e1 782 .laload 1 14, e0 783 (.iload 6) 2, e0 785 .i2l 1, e0 786 .lcmp 1, e1 787 (.ifCond .eq 5) 3 792, e0 790 (.iconst 0) 1, e3 791 .ireturn 1 0 0 1, e1 792 (.goto 1125) 3 1917, e0 795 (.aload_n 1) 1, e0 796 (.aload_n 0) 1, e0 797 (.iload 4) 2, e0 799 (.iconst 1) 1, e0 800 .iadd 1, e1 801 .iaload 1 17, e0 802 (.aload_n 0) 1, e0 803 (.iload 4) 2, e0 805 (.iconst 2) 1, e0 806 .iadd 1, e1 807 .iaload 1 17, e0 808 (.aload_n 3) 1, e6 809 (.invokestatic 139) 3 214 4 1 0 1 6, e0 812 (.istore 5) 2, e0 814 (.aload_n 2) 1, e0 815 (.aload_n 0) 1, e0 816 (.iload 4) 2, e0 818 (.iconst 1) 1, e0 819 .iadd 1, e1 820 .iaload 1 17, e0 821 (.aload_n 0) 1, e0 822 (.iload 4) 2, e0 824 (.iconst 2) 1, e0 825 .iadd 1, e1 826 .iaload 1 17, e6 827 (.invokevirtual 141) 3 168 3 1 9 0 0, e0 830 (.istore 6) 2, e0 832 (.aload_n 2) 1, e6 833 (.invokevirtual 102) 3 119 1 1 9 0 0, e0 836 (.iload 5) 2, e1 838 (.if_icmp .eq 5) 3 843, e0 841 (.iconst 0) 1, e3 842 .ireturn 1 0 0 1, e0 843 (.iload 5) 2, e1 845 (.ifCond .ne 15) 3 860, e0 848 (.aload_n 3) 1, e0 849 (.iconst 0) 1, e1 850 .laload 1 14, e0 851 (.iload 6) 2, e0 853 .i2l 1, e0 854 .lcmp 1, e1 855 (.ifCond .eq 5) 3 860, e0 858 (.iconst 0) 1, e3 859 .ireturn 1 0 0 1, e1 860 (.goto 1057) 3 1917, e0 863 (.aload_n 1) 1, e0 864 (.aload_n 0) 1, e0 865 (.iload 4) 2, e0 867 (.iconst 1) 1, e0 868 .iadd 1, e1 869 .iaload 1 17, e0 870 (.aload_n 0) 1, e0 871 (.iload 4) 2, e0 873 (.iconst 2) 1, e0 874 .iadd 1, e1 875 .iaload 1 17, e0 876 (.aload_n 3) 1, e6 877 (.invokestatic 142) 3 215 4 1 0 2 12, e0 880 (.istore 5) 2, e0 882 (.aload_n 2) 1, e0 883 (.aload_n 0) 1, e0 884 (.iload 4) 2, e0 886 (.iconst 1) 1, e0 887 .iadd 1, e1 888 .iaload 1 17, e0 889 (.aload_n 0) 1, e0 890 (.iload 4) 2, e0 892 (.iconst 2) 1, e0 893 .iadd 1, e1 894 .iaload 1 17, e6 895 (.invokevirtual 144) 3 170 3 1 9 0 0, e0 898 (.istore 6) 2, e0 900 (.aload_n 2) 1, e6 901 (.invokevirtual 102) 3 119 1 1 9 0 0, e0 904 (.iload 5) 2, e1 906 (.if_icmp .eq 5) 3 911, e0 909 (.iconst 0) 1, e3 910 .ireturn 1 0 0 1, e0 911 (.iload 5) 2, e1 913 (.ifCond .ne 15) 3 928, e0 916 (.aload_n 3) 1, e0 917 (.iconst 0) 1, e1 918 .laload 1 14, e0 919 (.iload 6) 2, e0 921 .i2l 1, e0 922 .lcmp 1, e1 923 (.ifCond .eq 5) 3 928, e0 926 (.iconst 0) 1, e3 927 .ireturn 1 0 0 1, e1 928 (.goto 989) 3 1917, e0 931 (.aload_n 1) 1, e0 932 (.aload_n 0) 1, e0 933 (.iload 4) 2, e0 935 (.iconst 1) 1, e0 936 .iadd 1, e1 937 .iaload 1 17, e0 938 (.aload_n 0) 1, e0 939 (.iload 4) 2, e0 941 (.iconst 2) 1, e0 942 .iadd 1, e1 943 .iaload 1 17, e0 944 (.aload_n 0) 1, e0 945 (.iload 4) 2, e0 947 (.iconst 3) 1, e0 948 .iadd 1, e1 949 .iaload 1 17, e0 950 (.aload_n 3) 1, e6 951 (.invokestatic 145) 3 216 5 1 0 3 18, e0 954 (.istore 5) 2, e0 956 (.aload_n 2) 1, e0 957 (.aload_n 0) 1, e0 958 (.iload 4) 2, e0 960 (.iconst 1) 1, e0 961 .iadd 1, e1 962 .iaload 1 17, e0 963 (.aload_n 0) 1, e0 964 (.iload 4) 2, e0 966 (.iconst 2) 1, e0 967 .iadd 1, e1 968 .iaload 1 17, e0 969 (.aload_n 0) 1, e0 970 (.iload 4) 2, e0 972 (.iconst 3) 1, e0 973 .iadd 1, e1 974 .iaload 1 17, e6 975 (.invokevirtual 147) 3 171 4 1 9 0 0, e0 978 (.istore 6) 2, e0 980 (.aload_n 2) 1, e6 981 (.invokevirtual 102) 3 119 1 1 9 0 0, e0 984 (.iload 5) 2, e1 986 (.if_icmp .eq 5) 3 991, e0 989 (.iconst 0) 1, e3 990 .ireturn 1 0 0 1, e0 991 (.iload 5) 2, e1 993 (.ifCond .ne 15) 3 1008, e0 996 (.aload_n 3) 1, e0 997 (.iconst 0) 1, e1 998 .laload 1 14, e0 999 (.iload 6) 2, e0 1001 .i2l 1, e0 1002 .lcmp 1, e1 1003 (.ifCond .eq 5) 3 1008, e0 1006 (.iconst 0) 1, e3 1007 .ireturn 1 0 0 1, e1 1008 (.goto 909) 3 1917, e0 1011 (.aload_n 1) 1, e0 1012 (.aload_n 0) 1, e0 1013 (.iload 4) 2, e0 1015 (.iconst 1) 1, e0 1016 .iadd 1, e1 1017 .iaload 1 17, e0 1018 (.aload_n 0) 1, e0 1019 (.iload 4) 2, e0 1021 (.iconst 2) 1, e0 1022 .iadd 1, e1 1023 .iaload 1 17, e0 1024 (.aload_n 0) 1, e0 1025 (.iload 4) 2, e0 1027 (.iconst 3) 1, e0 1028 .iadd 1, e1 1029 .iaload 1 17, e0 1030 (.aload_n 3) 1, e6 1031 (.invokestatic 148) 3 217 5 1 0 4 24, e0 1034 (.istore 5) 2, e0 1036 (.aload_n 2) 1, e0 1037 (.aload_n 0) 1, e0 1038 (.iload 4) 2, e0 1040 (.iconst 1) 1, e0 1041 .iadd 1, e1 1042 .iaload 1 17, e0 1043 (.aload_n 0) 1, e0 1044 (.iload 4) 2, e0 1046 (.iconst 2) 1, e0 1047 .iadd 1, e1 1048 .iaload 1 17, e0 1049 (.aload_n 0) 1, e0 1050 (.iload 4) 2, e0 1052 (.iconst 3) 1, e0 1053 .iadd 1, e1 1054 .iaload 1 17, e6 1055 (.invokevirtual 150) 3 173 4 1 9 0 0, e0 1058 (.istore 6) 2, e0 1060 (.aload_n 2) 1, e6 1061 (.invokevirtual 102) 3 119 1 1 9 0 0, e0 1064 (.iload 5) 2, e1 1066 (.if_icmp .eq 5) 3 1071, e0 1069 (.iconst 0) 1, e3 1070 .ireturn 1 0 0 1, e0 1071 (.iload 5) 2, e1 1073 (.ifCond .ne 15) 3 1088, e0 1076 (.aload_n 3) 1, e0 1077 (.iconst 0) 1, e1 1078 .laload 1 14, e0 1079 (.iload 6) 2, e0 1081 .i2l 1, e0 1082 .lcmp 1, e1 1083 (.ifCond .eq 5) 3 1088, e0 1086 (.iconst 0) 1, e3 1087 .ireturn 1 0 0 1, e1 1088 (.goto 829) 3 1917, e0 1091 (.aload_n 1) 1, e0 1092 (.aload_n 0) 1, e0 1093 (.iload 4) 2, e0 1095 (.iconst 1) 1, e0 1096 .iadd 1, e1 1097 .iaload 1 17, e6 1098 (.invokevirtual 151) 3 88 2 1 8 0 0, e0 1101 (.aload_n 2) 1, e0 1102 (.aload_n 0) 1, e0 1103 (.iload 4) 2, e0 1105 (.iconst 1) 1, e0 1106 .iadd 1, e1 1107 .iaload 1 17, e6 1108 (.invokevirtual 154) 3 174 2 1 9 0 0, e1 1111 (.if_icmp .eq 806) 3 1917, e0 1114 (.iconst 0) 1, e3 1115 .ireturn 1 0 0 1, e0 1116 (.aload_n 1) 1, e0 1117 (.aload_n 0) 1, e0 1118 (.iload 4) 2, e0 1120 (.iconst 1) 1, e0 1121 .iadd 1, e1 1122 .iaload 1 17, e0 1123 (.aload_n 3) 1, e6 1124 (.invokestatic 155) 3 218 3 1 0 1 6, e0 1127 (.istore 5) 2, e0 1129 (.aload_n 2) 1, e0 1130 (.aload_n 0) 1, e0 1131 (.iload 4) 2, e0 1133 (.iconst 1) 1, e0 1134 .iadd 1, e1 1135 .iaload 1 17, e6 1136 (.invokevirtual 157) 3 182 2 1 9 0 0, e0 1139 (.istore 6) 2, e0 1141 (.aload_n 2) 1, e6 1142 (.invokevirtual 102) 3 119 1 1 9 0 0, e0 1145 (.iload 5) 2, e1 1147 (.if_icmp .eq 5) 3 1152, e0 1150 (.iconst 0) 1, e3 1151 .ireturn 1 0 0 1, e0 1152 (.iload 5) 2, e1 1154 (.ifCond .ne 15) 3 1169, e0 1157 (.aload_n 3) 1, e0 1158 (.iconst 0) 1, e1 1159 .laload 1 14, e0 1160 (.iload 6) 2, e0 1162 .i2l 1, e0 1163 .lcmp 1, e1 1164 (.ifCond .eq 5) 3 1169, e0 1167 (.iconst 0) 1, e3 1168 .ireturn 1 0 0 1, e1 1169 (.goto 748) 3 1917, e0 1172 (.aload_n 1) 1, e0 1173 (.aload_n 0) 1, e0 1174 (.iload 4) 2, e0 1176 (.iconst 1) 1, e0 1177 .iadd 1, e1 1178 .iaload 1 17, e0 1179 (.aload_n 0) 1, e0 1180 (.iload 4) 2, e0 1182 (.iconst 2) 1, e0 1183 .iadd 1, e1 1184 .iaload 1 17, e0 1185 (.aload_n 0) 1, e0 1186 (.iload 4) 2, e0 1188 (.iconst 3) 1, e0 1189 .iadd 1, e1 1190 .iaload 1 17, e0 1191 (.aload_n 3) 1, e6 1192 (.invokestatic 158) 3 219 5 1 0 3 18, e0 1195 (.istore 5) 2, e0 1197 (.aload_n 2) 1, e0 1198 (.aload_n 0) 1, e0 1199 (.iload 4) 2, e0 1201 (.iconst 1) 1, e0 1202 .iadd 1, e1 1203 .iaload 1 17, e0 1204 (.aload_n 0) 1, e0 1205 (.iload 4) 2, e0 1207 (.iconst 2) 1, e0 1208 .iadd 1, e1 1209 .iaload 1 17, e0 1210 (.aload_n 0) 1, e0 1211 (.iload 4) 2, e0 1213 (.iconst 3) 1, e0 1214 .iadd 1, e1 1215 .iaload 1 17, e6 1216 (.invokevirtual 160) 3 185 4 1 9 0 0, e0 1219 (.istore 6) 2, e0 1221 (.aload_n 2) 1, e6 1222 (.invokevirtual 102) 3 119 1 1 9 0 0, e0 1225 (.iload 5) 2, e1 1227 (.if_icmp .eq 5) 3 1232, e0 1230 (.iconst 0) 1, e3 1231 .ireturn 1 0 0 1, e0 1232 (.iload 5) 2, e1 1234 (.ifCond .ne 15) 3 1249, e0 1237 (.aload_n 3) 1, e0 1238 (.iconst 0) 1, e1 1239 .laload 1 14, e0 1240 (.iload 6) 2, e0 1242 .i2l 1, e0 1243 .lcmp 1, e1 1244 (.ifCond .eq 5) 3 1249, e0 1247 (.iconst 0) 1, e3 1248 .ireturn 1 0 0 1, e1 1249 (.goto 668) 3 1917, e0 1252 (.aload_n 1) 1, e0 1253 (.aload_n 0) 1, e0 1254 (.iload 4) 2, e0 1256 (.iconst 1) 1, e0 1257 .iadd 1, e1 1258 .iaload 1 17, e0 1259 (.aload_n 0) 1, e0 1260 (.iload 4) 2, e0 1262 (.iconst 2) 1, e0 1263 .iadd 1, e1 1264 .iaload 1 17, e0 1265 (.aload_n 0) 1, e0 1266 (.iload 4) 2, e0 1268 (.iconst 3) 1, e0 1269 .iadd 1, e1 1270 .iaload 1 17, e0 1271 (.aload_n 3) 1, e6 1272 (.invokestatic 161) 3 220 5 1 0 3 18, e0 1275 (.istore 5) 2, e0 1277 (.aload_n 2) 1, e0 1278 (.aload_n 0) 1, e0 1279 (.iload 4) 2, e0 1281 (.iconst 1) 1, e0 1282 .iadd 1, e1 1283 .iaload 1 17, e0 1284 (.aload_n 0) 1, e0 1285 (.iload 4) 2, e0 1287 (.iconst 2) 1, e0 1288 .iadd 1, e1 1289 .iaload 1 17, e0 1290 (.aload_n 0) 1, e0 1291 (.iload 4) 2, e0 1293 (.iconst 3) 1, e0 1294 .iadd 1, e1 1295 .iaload 1 17, e6 1296 (.invokevirtual 163) 3 186 4 1 9 0 0, e0 1299 (.istore 6) 2, e0 1301 (.aload_n 2) 1, e6 1302 (.invokevirtual 102) 3 119 1 1 9 0 0, e0 1305 (.iload 5) 2, e1 1307 (.if_icmp .eq 5) 3 1312, e0 1310 (.iconst 0) 1, e3 1311 .ireturn 1 0 0 1, e0 1312 (.iload 5) 2, e1 1314 (.ifCond .ne 15) 3 1329, e0 1317 (.aload_n 3) 1, e0 1318 (.iconst 0) 1, e1 1319 .laload 1 14, e0 1320 (.iload 6) 2, e0 1322 .i2l 1, e0 1323 .lcmp 1, e1 1324 (.ifCond .eq 5) 3 1329, e0 1327 (.iconst 0) 1, e3 1328 .ireturn 1 0 0 1, e1 1329 (.goto 588) 3 1917, e0 1332 (.aload_n 1) 1, e0 1333 (.aload_n 0) 1, e0 1334 (.iload 4) 2, e0 1336 (.iconst 1) 1, e0 1337 .iadd 1, e1 1338 .iaload 1 17, e0 1339 (.aload_n 3) 1, e6 1340 (.invokestatic 164) 3 221 3 1 0 1 6, e0 1343 (.istore 5) 2, e0 1345 (.aload_n 2) 1, e0 1346 (.aload_n 0) 1, e0 1347 (.iload 4) 2, e0 1349 (.iconst 1) 1, e0 1350 .iadd 1, e1 1351 .iaload 1 17, e6 1352 (.invokevirtual 166) 3 190 2 1 9 0 0, e0 1355 (.istore 6) 2, e0 1357 (.aload_n 2) 1, e6 1358 (.invokevirtual 102) 3 119 1 1 9 0 0, e0 1361 (.iload 5) 2, e1 1363 (.if_icmp .eq 5) 3 1368, e0 1366 (.iconst 0) 1, e3 1367 .ireturn 1 0 0 1, e0 1368 (.iload 5) 2, e1 1370 (.ifCond .ne 15) 3 1385, e0 1373 (.aload_n 3) 1, e0 1374 (.iconst 0) 1, e1 1375 .laload 1 14, e0 1376 (.iload 6) 2, e0 1378 .i2l 1, e0 1379 .lcmp 1, e1 1380 (.ifCond .eq 5) 3 1385, e0 1383 (.iconst 0) 1, e3 1384 .ireturn 1 0 0 1, e1 1385 (.goto 532) 3 1917, e0 1388 (.aload_n 1) 1, e0 1389 (.aload_n 0) 1, e0 1390 (.iload 4) 2, e0 1392 (.iconst 1) 1, e0 1393 .iadd 1, e1 1394 .iaload 1 17, e0 1395 (.aload_n 0) 1, e0 1396 (.iload 4) 2, e0 1398 (.iconst 2) 1, e0 1399 .iadd 1, e1 1400 .iaload 1 17, e0 1401 (.aload_n 0) 1, e0 1402 (.iload 4) 2, e0 1404 (.iconst 3) 1, e0 1405 .iadd 1, e1 1406 .iaload 1 17, e0 1407 (.aload_n 3) 1, e6 1408 (.invokestatic 167) 3 222 5 1 0 3 18, e0 1411 (.istore 5) 2, e0 1413 (.aload_n 2) 1, e0 1414 (.aload_n 0) 1, e0 1415 (.iload 4) 2, e0 1417 (.iconst 1) 1, e0 1418 .iadd 1, e1 1419 .iaload 1 17, e0 1420 (.aload_n 0) 1, e0 1421 (.iload 4) 2, e0 1423 (.iconst 2) 1, e0 1424 .iadd 1, e1 1425 .iaload 1 17, e0 1426 (.aload_n 0) 1, e0 1427 (.iload 4) 2, e0 1429 (.iconst 3) 1, e0 1430 .iadd 1, e1 1431 .iaload 1 17, e6 1432 (.invokevirtual 169) 3 195 4 2 9 0 0, e0 1435 (.lstore 6) 2, e0 1437 (.aload_n 2) 1, e6 1438 (.invokevirtual 102) 3 119 1 1 9 0 0, e0 1441 (.iload 5) 2, e1 1443 (.if_icmp .eq 5) 3 1448, e0 1446 (.iconst 0) 1, e3 1447 .ireturn 1 0 0 1, e0 1448 (.iload 5) 2, e1 1450 (.ifCond .ne 14) 3 1464, e0 1453 (.aload_n 3) 1, e0 1454 (.iconst 0) 1, e1 1455 .laload 1 14, e0 1456 (.lload 6) 2, e0 1458 .lcmp 1, e1 1459 (.ifCond .eq 5) 3 1464, e0 1462 (.iconst 0) 1, e3 1463 .ireturn 1 0 0 1, e1 1464 (.goto 453) 3 1917, e0 1467 (.aload_n 1) 1, e0 1468 (.aload_n 0) 1, e0 1469 (.iload 4) 2, e0 1471 (.iconst 1) 1, e0 1472 .iadd 1, e1 1473 .iaload 1 17, e0 1474 (.aload_n 0) 1, e0 1475 (.iload 4) 2, e0 1477 (.iconst 2) 1, e0 1478 .iadd 1, e1 1479 .iaload 1 17, e0 1480 (.aload_n 0) 1, e0 1481 (.iload 4) 2, e0 1483 (.iconst 3) 1, e0 1484 .iadd 1, e1 1485 .iaload 1 17, e0 1486 (.aload_n 3) 1, e6 1487 (.invokestatic 170) 3 223 5 1 0 2 12, e0 1490 (.istore 5) 2, e0 1492 (.aload_n 2) 1, e0 1493 (.aload_n 0) 1, e0 1494 (.iload 4) 2, e0 1496 (.iconst 1) 1, e0 1497 .iadd 1, e1 1498 .iaload 1 17, e0 1499 (.aload_n 0) 1, e0 1500 (.iload 4) 2, e0 1502 (.iconst 2) 1, e0 1503 .iadd 1, e1 1504 .iaload 1 17, e0 1505 (.aload_n 0) 1, e0 1506 (.iload 4) 2, e0 1508 (.iconst 3) 1, e0 1509 .iadd 1, e1 1510 .iaload 1 17, e6 1511 (.invokevirtual 172) 3 196 4 2 9 0 0, e0 1514 (.lstore 6) 2, e0 1516 (.aload_n 2) 1, e6 1517 (.invokevirtual 102) 3 119 1 1 9 0 0, e0 1520 (.iload 5) 2, e1 1522 (.if_icmp .eq 5) 3 1527, e0 1525 (.iconst 0) 1, e3 1526 .ireturn 1 0 0 1, e0 1527 (.iload 5) 2, e1 1529 (.ifCond .ne 14) 3 1543, e0 1532 (.aload_n 3) 1, e0 1533 (.iconst 0) 1, e1 1534 .laload 1 14, e0 1535 (.lload 6) 2, e0 1537 .lcmp 1, e1 1538 (.ifCond .eq 5) 3 1543, e0 1541 (.iconst 0) 1, e3 1542 .ireturn 1 0 0 1, e1 1543 (.goto 374) 3 1917, e0 1546 (.aload_n 1) 1, e0 1547 (.aload_n 0) 1, e0 1548 (.iload 4) 2, e0 1550 (.iconst 1) 1, e0 1551 .iadd 1, e1 1552 .iaload 1 17, e0 1553 (.aload_n 3) 1, e6 1554 (.invokestatic 173) 3 224 3 1 0 1 6, e0 1557 (.istore 5) 2, e0 1559 (.aload_n 2) 1, e0 1560 (.aload_n 0) 1, e0 1561 (.iload 4) 2, e0 1563 (.iconst 1) 1, e0 1564 .iadd 1, e1 1565 .iaload 1 17, e6 1566 (.invokevirtual 175) 3 197 2 1 9 0 0, e0 1569 (.istore 6) 2, e0 1571 (.aload_n 2) 1, e6 1572 (.invokevirtual 102) 3 119 1 1 9 0 0, e0 1575 (.iload 5) 2, e1 1577 (.if_icmp .eq 5) 3 1582, e0 1580 (.iconst 0) 1, e3 1581 .ireturn 1 0 0 1, e0 1582 (.iload 5) 2, e1 1584 (.ifCond .ne 15) 3 1599, e0 1587 (.aload_n 3) 1, e0 1588 (.iconst 0) 1, e1 1589 .laload 1 14, e0 1590 (.iload 6) 2, e0 1592 .i2l 1, e0 1593 .lcmp 1, e1 1594 (.ifCond .eq 5) 3 1599, e0 1597 (.iconst 0) 1, e3 1598 .ireturn 1 0 0 1, e1 1599 (.goto 318) 3 1917, e0 1602 (.aload_n 1) 1, e6 1603 (.invokevirtual 176) 3 96 1 1 8 0 0, e0 1606 (.aload_n 2) 1, e6 1607 (.invokevirtual 179) 3 198 1 1 9 0 0, e1 1610 (.if_icmp .eq 307) 3 1917, e0 1613 (.iconst 0) 1, e3 1614 .ireturn 1 0 0 1, e0 1615 (.aload_n 1) 1, e0 1616 (.aload_n 0) 1, e0 1617 (.iload 4) 2, e0 1619 (.iconst 1) 1, e0 1620 .iadd 1, e1 1621 .iaload 1 17, e0 1622 (.aload_n 0) 1, e0 1623 (.iload 4) 2, e0 1625 (.iconst 2) 1, e0 1626 .iadd 1, e1 1627 .iaload 1 17, e1 1628 (.ifCond .eq 7) 3 1635, e0 1631 (.iconst 1) 1, e1 1632 (.goto 4) 3 1636, e0 1635 (.iconst 0) 1, e0 1636 (.aload_n 3) 1, e6 1637 (.invokestatic 180) 3 225 4 1 0 1 6, e0 1640 (.istore 5) 2, e0 1642 (.aload_n 2) 1, e0 1643 (.aload_n 0) 1, e0 1644 (.iload 4) 2, e0 1646 (.iconst 1) 1, e0 1647 .iadd 1, e1 1648 .iaload 1 17, e0 1649 (.aload_n 0) 1, e0 1650 (.iload 4) 2, e0 1652 (.iconst 2) 1, e0 1653 .iadd 1, e1 1654 .iaload 1 17, e1 1655 (.ifCond .eq 7) 3 1662, e0 1658 (.iconst 1) 1, e1 1659 (.goto 4) 3 1663, e0 1662 (.iconst 0) 1, e6 1663 (.invokevirtual 183) 3 199 3 2 9 0 0, e0 1666 (.lstore 6) 2, e0 1668 (.aload_n 2) 1, e6 1669 (.invokevirtual 102) 3 119 1 1 9 0 0, e0 1672 (.iload 5) 2, e1 1674 (.if_icmp .eq 5) 3 1679, e0 1677 (.iconst 0) 1, e3 1678 .ireturn 1 0 0 1, e0 1679 (.iload 5) 2, e1 1681 (.ifCond .ne 14) 3 1695, e0 1684 (.aload_n 3) 1, e0 1685 (.iconst 0) 1, e1 1686 .laload 1 14, e0 1687 (.lload 6) 2, e0 1689 .lcmp 1, e1 1690 (.ifCond .eq 5) 3 1695, e0 1693 (.iconst 0) 1, e3 1694 .ireturn 1 0 0 1, e1 1695 (.goto 222) 3 1917, e0 1698 (.aload_n 1) 1, e0 1699 (.aload_n 0) 1, e0 1700 (.iload 4) 2, e0 1702 (.iconst 1) 1, e0 1703 .iadd 1, e1 1704 .iaload 1 17, e0 1705 (.aload_n 3) 1, e6 1706 (.invokestatic 184) 3 226 3 1 0 1 6, e0 1709 (.istore 5) 2, e0 1711 (.aload_n 2) 1, e0 1712 (.aload_n 0) 1, e0 1713 (.iload 4) 2, e0 1715 (.iconst 1) 1, e0 1716 .iadd 1, e1 1717 .iaload 1 17, e6 1718 (.invokevirtual 186) 3 200 2 1 9 0 0, e0 1721 (.istore 6) 2, e0 1723 (.aload_n 2) 1, e6 1724 (.invokevirtual 102) 3 119 1 1 9 0 0, e0 1727 (.iload 5) 2, e1 1729 (.if_icmp .eq 5) 3 1734, e0 1732 (.iconst 0) 1, e3 1733 .ireturn 1 0 0 1, e0 1734 (.iload 5) 2, e1 1736 (.ifCond .ne 15) 3 1751, e0 1739 (.aload_n 3) 1, e0 1740 (.iconst 0) 1, e1 1741 .laload 1 14, e0 1742 (.iload 6) 2, e0 1744 .i2l 1, e0 1745 .lcmp 1, e1 1746 (.ifCond .eq 5) 3 1751, e0 1749 (.iconst 0) 1, e3 1750 .ireturn 1 0 0 1, e1 1751 (.goto 166) 3 1917, e0 1754 (.aload_n 1) 1, e0 1755 (.aload_n 0) 1, e0 1756 (.iload 4) 2, e0 1758 (.iconst 1) 1, e0 1759 .iadd 1, e1 1760 .iaload 1 17, e0 1761 (.aload_n 0) 1, e0 1762 (.iload 4) 2, e0 1764 (.iconst 2) 1, e0 1765 .iadd 1, e1 1766 .iaload 1 17, e0 1767 (.aload_n 3) 1, e6 1768 (.invokestatic 187) 3 227 4 1 0 2 12, e0 1771 (.istore 5) 2, e0 1773 (.aload_n 2) 1, e0 1774 (.aload_n 0) 1, e0 1775 (.iload 4) 2, e0 1777 (.iconst 1) 1, e0 1778 .iadd 1, e1 1779 .iaload 1 17, e0 1780 (.aload_n 0) 1, e0 1781 (.iload 4) 2, e0 1783 (.iconst 2) 1, e0 1784 .iadd 1, e1 1785 .iaload 1 17, e6 1786 (.invokevirtual 189) 3 201 3 1 9 0 0, e0 1789 (.istore 6) 2, e0 1791 (.aload_n 2) 1, e6 1792 (.invokevirtual 102) 3 119 1 1 9 0 0, e0 1795 (.iload 5) 2, e1 1797 (.if_icmp .eq 5) 3 1802, e0 1800 (.iconst 0) 1, e3 1801 .ireturn 1 0 0 1, e0 1802 (.iload 5) 2, e1 1804 (.ifCond .ne 15) 3 1819, e0 1807 (.aload_n 3) 1, e0 1808 (.iconst 0) 1, e1 1809 .laload 1 14, e0 1810 (.iload 6) 2, e0 1812 .i2l 1, e0 1813 .lcmp 1, e1 1814 (.ifCond .eq 5) 3 1819, e0 1817 (.iconst 0) 1, e3 1818 .ireturn 1 0 0 1, e1 1819 (.goto 98) 3 1917, e0 1822 (.aload_n 1) 1, e0 1823 (.aload_n 0) 1, e0 1824 (.iload 4) 2, e0 1826 (.iconst 1) 1, e0 1827 .iadd 1, e1 1828 .iaload 1 17, e0 1829 (.aload_n 3) 1, e6 1830 (.invokestatic 190) 3 228 3 1 0 1 6, e0 1833 (.istore 5) 2, e0 1835 (.aload_n 2) 1, e0 1836 (.aload_n 0) 1, e0 1837 (.iload 4) 2, e0 1839 (.iconst 1) 1, e0 1840 .iadd 1, e1 1841 .iaload 1 17, e6 1842 (.invokevirtual 192) 3 203 2 1 9 0 0, e0 1845 (.istore 6) 2, e0 1847 (.aload_n 2) 1, e6 1848 (.invokevirtual 102) 3 119 1 1 9 0 0, e0 1851 (.iload 5) 2, e1 1853 (.if_icmp .eq 5) 3 1858, e0 1856 (.iconst 0) 1, e3 1857 .ireturn 1 0 0 1, e0 1858 (.iload 5) 2, e1 1860 (.ifCond .ne 15) 3 1875, e0 1863 (.aload_n 3) 1, e0 1864 (.iconst 0) 1, e1 1865 .laload 1 14, e0 1866 (.iload 6) 2, e0 1868 .i2l 1, e0 1869 .lcmp 1, e1 1870 (.ifCond .eq 5) 3 1875, e0 1873 (.iconst 0) 1, e3 1874 .ireturn 1 0 0 1, e1 1875 (.goto 42) 3 1917, e0 1878 (.aload_n 1) 1, e6 1879 (.invokevirtual 193) 3 101 1 2 8 0 0, e0 1882 (.aload_n 2) 1, e6 1883 (.invokevirtual 197) 3 204 1 2 9 0 0, e0 1886 .lcmp 1, e1 1887 (.ifCond .eq 30) 3 1917, e0 1890 (.iconst 0) 1, e3 1891 .ireturn 1 0 0 1, e0 1892 (.aload_n 1) 1, e0 1893 (.aload_n 0) 1, e0 1894 (.iload 4) 2, e0 1896 (.iconst 1) 1, e0 1897 .iadd 1, e1 1898 .iaload 1 17, e6 1899 (.invokevirtual 198) 3 102 2 1 8 0 0, e0 1902 (.aload_n 2) 1, e0 1903 (.aload_n 0) 1, e0 1904 (.iload 4) 2, e0 1906 (.iconst 1) 1, e0 1907 .iadd 1, e1 1908 .iaload 1 17, e6 1909 (.invokevirtual 201) 3 205 2 1 9 0 0, e1 1912 (.if_icmp .eq 5) 3 1917, e0 1915 (.iconst 0) 1, e3 1916 .ireturn 1 0 0 1, e0 1917 (.iinc 4 6) 3, e1 1920 (.goto (-1897)) 3 23, e0 1923 (.iconst 1) 1, e3 1924 .ireturn 1 0 0 1]
end
section
/-! THE RUN'S SURROUNDINGS, what a heap stands for, and a row for each instruction -/
/-- launch, first state, class numbers and slots, array classes, the script's cell, length, ints, the texts -/
abbrev tr_Env : Type := Launch × State × va_G × (Nat → ClassId) × Nat × Nat × (Nat → Int32) × (Nat → Nat)
def eL (E : tr_Env) : Launch := E.1
def eS (E : tr_Env) : State := E.2.1
def eD (E : tr_Env) : va_G := E.2.2.1
def eA (E : tr_Env) : Nat → ClassId := E.2.2.2.1
def eb (E : tr_Env) : Nat := E.2.2.2.2.1
def eN (E : tr_Env) : Nat := E.2.2.2.2.2.1
def eX (E : tr_Env) : Nat → Int32 := E.2.2.2.2.2.2.1
def eT (E : tr_Env) : Nat → Nat := E.2.2.2.2.2.2.2
def elo (E : tr_Env) : Nat := (eS E).heap.size
def eO (E : tr_Env) : Nat → Prop := fun q => elo E ≤ q
/-- the texts: as constants, and as numbers -/
def tr_ts (j : Nat) : String := match j with
  | 0 => "hops"
  | 1 => "link"
  | 2 => "cut"
  | 3 => "route"
  | 4 => "base"
  | 5 => "key"
  | 6 => "mask"
  | _ => "labels"
def tr_txt (j : Nat) : List Nat := match j with
  | 0 => [104, 111, 112, 115]
  | 1 => [108, 105, 110, 107]
  | 2 => [99, 117, 116]
  | 3 => [114, 111, 117, 116, 101]
  | 4 => [98, 97, 115, 101]
  | 5 => [107, 101, 121]
  | 6 => [109, 97, 115, 107]
  | _ => [108, 97, 98, 101, 108, 115]
/-- what is thrown: name, its text, the entries of the class, of the text, of the constructor -/
def tr_ex (k : Nat) : String := match k with
  | 0 => "java/util/NoSuchElementException"
  | 1 => "java/lang/IllegalArgumentException"
  | _ => "java/lang/IllegalStateException"
def tr_exm (k : Nat) : String := match k with
  | 0 => "no such hop, link, packet or place"
  | 1 => "an argument is not as told"
  | _ => "there are 40 packets"
def tr_exi (k : Nat) : Nat × Nat × Nat := match k with
  | 0 => (296, 298, 300)
  | 1 => (303, 305, 307)
  | _ => (308, 310, 312)
def tr_sidx : List (Nat × Nat × Nat) := [(4, 51, 0), (4, 70, 1), (4, 76, 2), (4, 81, 3), (4, 86, 4), (4, 91, 5), (4, 93, 6), (4, 95, 7), (8, 178, 1), (8, 187, 2), (8, 192, 3), (8, 197, 4), (8, 202, 5), (8, 204, 6), (8, 206, 7), (8, 215, 0)]
def tr_tys (E : tr_Env) : List (ClassId × FieldType) := [(eA E 0, .int), (eA E 1, .byte), (eA E 2, .boolean), (eA E 3, .long), (eA E 4, .object RX6), (eA E 5, .object RX3)]
def tr_aty (k : Nat) : FieldType := match k with
  | 0 => .int
  | 1 => .byte
  | 2 => .boolean
  | 3 => .long
  | 4 => .object RX6
  | _ => .object RX3
def tr_ty (c : Nat) : Nat → FieldType := match c with
  | 0 => tyX0
  | 1 => tyX1
  | 2 => tyX2
  | 3 => tyX3
  | 4 => tyX4
  | 5 => tyX5
  | 6 => tyX6
  | 7 => tyX7
  | _ => tyX8
def tr_fv (ty : FieldType) (x : Int32) (y : Int64) (r : Nat) : Value := match ty with
  | .long => .long y
  | .object _ => va_rf (tr_o r)
  | .array _ => va_rf (tr_o r)
  | _ => .int x
def tr_ev (k : Nat) (x : Int32) (y : Int64) (r : Nat) : Value := match k with
  | 3 => .long y
  | 4 => va_rf (tr_o r)
  | 5 => va_rf (tr_o r)
  | _ => .int x
def tr_Str (E : tr_Env) (r n : Nat) (f : Nat → Int32) : Prop := ∃ v, va_O "java/lang/String" r (eO E) (eS E) (eS E).heap ∧ va_OF "java/lang/String" "coder" "B" (.int 0) r (eO E) (eS E) (eS E).heap ∧ va_OF "java/lang/String" "value" "[B" (.ref v) r (eO E) (eS E) (eS E).heap ∧ va_T .byte v n (fun j => .int (f j)) (eO E) (eS E) (eS E).heap ∧ n ≤ 1000 ∧ ∀ j, j < n → ∃ k : Fin 128, f j = ii (k.val : Nat)
def tr_cell (E : tr_Env) (h : tr_H) (H : Heap) (r : Nat) : Prop :=
  (ht h (r + 1) ≠ 0 → r < H.size) ∧
  (∀ (c : Nat) (q : vw_C), ht h (r + 1) = c + 1 → vwCl[c]? = some q → elo E ≤ r ∧ t_OB r ((eD E).1 c) q.2.2 ((eD E).2 c) H (fun k => tr_fv (tr_ty c k) (hI h (r + 1) k) (hJ h (r + 1) k) (hR h (r + 1) k))) ∧
  (∀ k, k < 6 → ht h (r + 1) = k + 11 → elo E ≤ r ∧ H[r]? = some (arrV (eA E k) (hn h (r + 1)) (fun j => tr_ev k (hI h (r + 1) j) (hJ h (r + 1) j) (hR h (r + 1) j)))) ∧
  (ht h (r + 1) = 17 → r = eb E ∧ hn h (r + 1) = eN E ∧ ∀ j, j < eN E → hI h (r + 1) j = eX E j) ∧
  (ht h (r + 1) = 18 → tr_Str E r (hn h (r + 1)) (hI h (r + 1)))
def tr_Rep (E : tr_Env) (h : tr_H) (H : Heap) : Prop := ht h 0 = 0 ∧ (elo E ≤ H.size ∧ ∀ q, q < elo E → H[q]? = (eS E).heap[q]?) ∧ (∀ r, tr_cell E h H r) ∧ ∀ j, j < 8 → tr_tx h (eT E j) (tr_txt j)
/-- the statics that the texts' own methods read -/
def tr_sok (E : tr_Env) : Prop := va_Z "java/lang/String" "COMPACT_STRINGS" "Z" (.int 1) (eO E) (eS E) (eS E).heap ∧ va_Zq "jdk/internal/util/Preconditions" "SIOOBE_FORMATTER" "Ljava/util/function/BiFunction;" (eO E) (eS E) (eS E).heap
/-- what holds of the surroundings -/
def tr_ok (E : tr_Env) : Prop := (eL E).stackTraces = false ∧ va_K (eD E) vwCl (tr_tys E) (eS E) ∧ va_X (eb E) (eN E) (eX E) (eS E) (eS E).heap ∧ eb E < elo E ∧ eN E < 2 ^ 31 ∧
  vx_Zq Bundle.tN "UNASSIGNED_STACK" Bundle.steD (eO E) (eS E) (eS E).heap ∧ vx_Zq Bundle.tN "SUPPRESSED_SENTINEL" Bundle.listD (eO E) (eS E) (eS E).heap ∧ (∀ w ∈ lw_tbl, w.before #[Value.ref (eb E)] (eS E) = true) ∧
  (∀ k, k < 3 → ∃ a, vk_R RX7 (tr_exi k).2.1 (tr_exm k) a (eS E)) ∧ (∀ q ∈ tr_sidx, ∃ a, eT E q.2.2 = a + 1 ∧ vk_R (tr_R q.1) q.2.1 (tr_ts q.2.2) a (eS E)) ∧ (∀ k x, tr_np k x = true → va_Nc (tr_ex k) (tr_ex x) (eS E)) ∧ tr_sok E
def tr_Cx (E : tr_Env) (M : tr_MI) (p : Program) (s : State) (m : MethodId) (args : Array Value) (meth : Method) (c : Code) : Prop :=
  p.tables.exec = Jvm.exec ∧ c.code = mB M ∧ c.maxLocals = mL M ∧ s.vm.findClass (mY M).cls = some m.cls ∧ (∀ w ∈ tr_LW, w.before args s = true) ∧ (eS E).WarmedH s.vm ∧ meth.sig.returnType = mR M ∧ meth.locks = false ∧ meth.name = (mY M).name ∧ c.exceptionTable.toList = tableOf (mH M) ∧ (elo E ≤ s.heap.size ∧ ∀ q, q < elo E → s.heap[q]? = (eS E).heap[q]?)
def tr_al (lv : tr_L) : List (Nat × Value) := (List.range lv.length).filterMap (fun i => (lvg lv i).map (fun v => (i, tr_cv v)))
theorem tr_al_mem {lv : tr_L} {i : Nat} {w : Value} : (i, w) ∈ tr_al lv ↔ ∃ v, lvg lv i = some v ∧ tr_cv v = w := by
  unfold tr_al
  rw [List.mem_filterMap]
  constructor
  · rintro ⟨j, -, hj⟩
    cases hv : lvg lv j with
    | none => rw [hv] at hj; cases hj
    | some v =>
      rw [hv] at hj
      simp only [Option.map_some, Option.some.injEq, Prod.mk.injEq] at hj
      obtain ⟨rfl, rfl⟩ := hj
      exact ⟨v, hv, rfl⟩
  · rintro ⟨v, hv, rfl⟩
    refine ⟨i, ?_, by rw [hv]; rfl⟩
    rw [List.mem_range]
    rcases Nat.lt_or_ge i lv.length with h | h
    · exact h
    · unfold lvg at hv
      rw [List.getD_eq_getElem?_getD, List.getElem?_eq_none h] at hv
      cases hv
theorem tr_al_at {ls : Array Slot} {n : Nat} {lv : tr_L} (hl : lv_has ls n (tr_al lv)) {i : Nat} {v : tr_V} (hv : lvg lv i = some v) : ls[i]? = some (.val (tr_cv v)) :=
  hl.2.2 (i, tr_cv v) (tr_al_mem.mpr ⟨v, hv, rfl⟩)
theorem tr_lv_mono {ls : Array Slot} {n : Nat} {l l' : List (Nat × Value)} (h : lv_has ls n l) (hs : ∀ q ∈ l', q ∈ l) : lv_has ls n l' := ⟨h.1, h.2.1, fun q hq => h.2.2 q (hs q hq)⟩
theorem tr_cat (v : tr_V) : (tr_cv v).category = 2 ↔ isJ (some v) = true := by
  rcases v with x | x | x
  · simp [tr_cv, isJ, Value.category]
  · simp [tr_cv, isJ, Value.category]
  · cases x <;> simp [tr_cv, tr_o, va_rf, isJ, Value.category]
theorem tr_cat1 (x : Nat) : (tr_cv (.inr (.inr x))).category = 1 := by cases x <;> rfl
theorem lvg_set {lv : tr_L} {k j : Nat} {v : Option tr_V} {u : tr_V} (h : lvg (lv.set k v) j = some u) : (j = k ∧ v = some u) ∨ (j ≠ k ∧ lvg lv j = some u) := by
  unfold lvg at h ⊢
  rw [List.getD_eq_getElem?_getD] at h ⊢
  by_cases hj : j = k
  · subst hj
    rcases Nat.lt_or_ge j lv.length with hl | hl
    · rw [List.getElem?_set_self hl] at h
      exact Or.inl ⟨rfl, h⟩
    · rw [List.getElem?_eq_none (by simpa using hl)] at h
      cases h
  · rw [List.getElem?_set_ne (Ne.symm hj)] at h
    exact Or.inr ⟨hj, h⟩
theorem lvs1_get {lv : tr_L} {k j : Nat} {v u : tr_V} (h : lvg (lvs1 lv k v) j = some u) : (j = k ∧ v = u) ∨ (j ≠ k ∧ lvg lv j = some u ∧ ¬ (j + 1 = k ∧ isJ (some u) = true)) := by
  cases k with
  | zero =>
    rcases lvg_set h with ⟨rfl, h1⟩ | ⟨h1, h2⟩
    · exact Or.inl ⟨rfl, Option.some.inj h1⟩
    · exact Or.inr ⟨h1, h2, fun q => by omega⟩
  | succ k =>
    rcases lvg_set h with ⟨rfl, h1⟩ | ⟨h1, h2⟩
    · exact Or.inl ⟨rfl, Option.some.inj h1⟩
    · refine Or.inr ⟨h1, ?_⟩
      by_cases hJ : isJ (lvg lv k) = true
      · rw [if_pos hJ] at h2
        rcases lvg_set h2 with ⟨-, h3⟩ | ⟨h3, h4⟩
        · cases h3
        · exact ⟨h4, fun q => h3 (by omega)⟩
      · rw [if_neg hJ] at h2
        refine ⟨h2, fun q => hJ ?_⟩
        have : j = k := by omega
        subst this
        rw [h2]
        exact q.2
theorem tr_al_st1 {lv : tr_L} {k : Nat} {v : tr_V} : ∀ q ∈ tr_al (lvs1 lv k v), q ∈ (k, tr_cv v) :: (tr_al lv).filter (fun q => !(q.1 == k) && !(q.1 + 1 == k && q.2.category == 2)) := by
  rintro ⟨j, w⟩ hq
  obtain ⟨u, hu, rfl⟩ := tr_al_mem.mp hq
  rcases lvs1_get hu with ⟨rfl, rfl⟩ | ⟨h1, h2, h3⟩
  · exact List.mem_cons_self
  · refine List.mem_cons_of_mem _ (List.mem_filter.mpr ⟨tr_al_mem.mpr ⟨u, h2, rfl⟩, ?_⟩)
    simp only [Bool.and_eq_true, Bool.not_eq_true', beq_eq_false_iff_ne, ne_eq, Bool.and_eq_false_iff]
    refine ⟨h1, ?_⟩
    by_cases h4 : j + 1 = k
    · right
      intro h5
      exact h3 ⟨h4, (tr_cat u).mp h5⟩
    · exact Or.inl h4
theorem tr_al_st2 {lv : tr_L} {k : Nat} {v : tr_V} : ∀ q ∈ tr_al (lvs2 lv k v), q ∈ (k, tr_cv v) :: (tr_al lv).filter (fun q => !(q.1 == k) && (!(q.1 == k + 1) && !(q.1 + 1 == k && q.2.category == 2))) := by
  rintro ⟨j, w⟩ hq
  obtain ⟨u, hu, rfl⟩ := tr_al_mem.mp hq
  rcases lvg_set hu with ⟨-, h0⟩ | ⟨h0, hu⟩
  · cases h0
  · rcases lvs1_get hu with ⟨rfl, rfl⟩ | ⟨h1, h2, h3⟩
    · exact List.mem_cons_self
    · refine List.mem_cons_of_mem _ (List.mem_filter.mpr ⟨tr_al_mem.mpr ⟨u, h2, rfl⟩, ?_⟩)
      simp only [Bool.and_eq_true, Bool.not_eq_true', beq_eq_false_iff_ne, ne_eq, Bool.and_eq_false_iff]
      refine ⟨h1, h0, ?_⟩
      by_cases h4 : j + 1 = k
      · right
        intro h5
        exact h3 ⟨h4, (tr_cat u).mp h5⟩
      · exact Or.inl h4
theorem lvp_get : ∀ (bs : List Bool) (lv : tr_L) (j : Nat) (u : tr_V), lvg (lvp bs lv) j = some u → lvg lv j = some u
  | [], _, _, _, h => by simp [lvp, lvg] at h
  | true :: bs, [], _, _, h => by simp [lvp, lvg] at h
  | false :: bs, [], _, _, h => by simp [lvp, lvg] at h
  | true :: bs, v :: lv, 0, u, h => h
  | true :: bs, v :: lv, j + 1, u, h => lvp_get bs lv j u h
  | false :: bs, v :: lv, 0, u, h => by simp [lvp, lvg] at h
  | false :: bs, v :: lv, j + 1, u, h => lvp_get bs lv j u h
theorem tr_al_lvp {bs : List Bool} {lv : tr_L} : ∀ q ∈ tr_al (lvp bs lv), q ∈ tr_al lv := by
  rintro ⟨j, w⟩ hq
  obtain ⟨u, hu, rfl⟩ := tr_al_mem.mp hq
  exact tr_al_mem.mpr ⟨u, lvp_get bs lv j u hu, rfl⟩
/-- the machine, at a place of the method M, with limits of cells and slots, comes to the end Z -/
def tr_W (E : tr_Env) (M : tr_MI) (R : Room) (lc lz : Nat) (Z : List Frame → Array Value → State → State → Prop) (pc : Nat) (lv : tr_L) (st : List tr_V) (h : tr_H) (rc rs : Nat) : Prop :=
  ∀ (p : Program) (e : Env) (s : State) (m : MethodId) (args : Array Value) (below : List Frame) (meth : Method) (c : Code) (H : Heap) (locs : List Loc) (cells slots : Nat) (ls : Array Slot),
    tr_Cx E M p s m args meth c → tr_Rep E h H → va_S (eO E) s.heap H locs → lv_has ls (mL M) (tr_al lv) → cells + rc ≤ lc → slots + rs ≤ lz →
    W p (eL E) e R s m args below meth c H locs cells slots (Z below args s) (F0 m pc ls (st.map tr_cv))
section TRR
variable {E : tr_Env} {M : tr_MI} {R : Room} {lc lz : Nat} {Z : List Frame → Array Value → State → State → Prop} {pc : Nat} {lv : tr_L} {st : List tr_V} {h : tr_H} {rc rs : Nat}
theorem tr_weak {bs : List Bool} (k : tr_W E M R lc lz Z pc (lvp bs lv) st h rc rs) : tr_W E M R lc lz Z pc lv st h rc rs := by
  intro p e s m args below meth c H locs cells slots ls Cx Rp hS hl hc hs
  exact k p e s m args below meth c H locs cells slots ls Cx Rp hS (tr_lv_mono hl tr_al_lvp) hc hs
theorem tr_ii0 : ii 0 = 0 := by unfold ii; first | rfl | decide
theorem tr_jj0 : jj 0 = 0 := by unfold jj; first | rfl | decide
theorem tr_jjN (n : Nat) : jj (n : Nat) = Int64.ofNat n := by unfold jj; first | rfl | exact Int64.ofInt_eq_ofNat | simp
theorem tr_iiN (n : Nat) : ii (n : Nat) = Int32.ofNat n := by unfold ii; first | rfl | exact Int32.ofInt_eq_ofNat | simp
theorem tr_nlt {a b : Int32} (h : b ≤ a) : ¬ a < b := by rw [Int32.lt_iff_toInt_lt]; rw [Int32.le_iff_toInt_le] at h; omega
theorem tr_nle {a b : Int32} (h : b < a) : ¬ a ≤ b := by rw [Int32.le_iff_toInt_le]; rw [Int32.lt_iff_toInt_lt] at h; omega
theorem tr_ltn {a b : Int32} (h : ¬ b ≤ a) : a < b := by rw [Int32.lt_iff_toInt_lt]; rw [Int32.le_iff_toInt_le] at h; omega
theorem tr_len {a b : Int32} (h : ¬ b < a) : a ≤ b := by rw [Int32.le_iff_toInt_le]; rw [Int32.lt_iff_toInt_lt] at h; omega
theorem tr_r_iadd {x y : Int32} (hd : decode (mB M) pc = .ok (.iadd, 1)) (k : tr_W E M R lc lz Z (pc + 1) lv (.inl (x + y) :: st) h rc rs) : tr_W E M R lc lz Z pc lv (.inl y :: .inl x :: st) h rc rs := by
  intro p e s m args below meth c H locs cells slots ls Cx Rp hS hl hc hs
  exact lv_iadd Cx.1 Cx.2.1 hd (k p e s m args below meth c H locs cells slots ls Cx Rp hS hl hc hs)
theorem tr_r_isub {x y : Int32} (hd : decode (mB M) pc = .ok (.isub, 1)) (k : tr_W E M R lc lz Z (pc + 1) lv (.inl (x - y) :: st) h rc rs) : tr_W E M R lc lz Z pc lv (.inl y :: .inl x :: st) h rc rs := by
  intro p e s m args below meth c H locs cells slots ls Cx Rp hS hl hc hs
  exact lv_isub Cx.1 Cx.2.1 hd (k p e s m args below meth c H locs cells slots ls Cx Rp hS hl hc hs)
theorem tr_r_imul {x y : Int32} (hd : decode (mB M) pc = .ok (.imul, 1)) (k : tr_W E M R lc lz Z (pc + 1) lv (.inl (x * y) :: st) h rc rs) : tr_W E M R lc lz Z pc lv (.inl y :: .inl x :: st) h rc rs := by
  intro p e s m args below meth c H locs cells slots ls Cx Rp hS hl hc hs
  exact lv_imul Cx.1 Cx.2.1 hd (k p e s m args below meth c H locs cells slots ls Cx Rp hS hl hc hs)
theorem tr_r_iand {x y : Int32} (hd : decode (mB M) pc = .ok (.iand, 1)) (k : tr_W E M R lc lz Z (pc + 1) lv (.inl (x &&& y) :: st) h rc rs) : tr_W E M R lc lz Z pc lv (.inl y :: .inl x :: st) h rc rs := by
  intro p e s m args below meth c H locs cells slots ls Cx Rp hS hl hc hs
  exact lv_iand Cx.1 Cx.2.1 hd (k p e s m args below meth c H locs cells slots ls Cx Rp hS hl hc hs)
theorem tr_r_ior {x y : Int32} (hd : decode (mB M) pc = .ok (.ior, 1)) (k : tr_W E M R lc lz Z (pc + 1) lv (.inl (x ||| y) :: st) h rc rs) : tr_W E M R lc lz Z pc lv (.inl y :: .inl x :: st) h rc rs := by
  intro p e s m args below meth c H locs cells slots ls Cx Rp hS hl hc hs
  exact lv_ior Cx.1 Cx.2.1 hd (k p e s m args below meth c H locs cells slots ls Cx Rp hS hl hc hs)
theorem tr_r_ixor {x y : Int32} (hd : decode (mB M) pc = .ok (.ixor, 1)) (k : tr_W E M R lc lz Z (pc + 1) lv (.inl (x ^^^ y) :: st) h rc rs) : tr_W E M R lc lz Z pc lv (.inl y :: .inl x :: st) h rc rs := by
  intro p e s m args below meth c H locs cells slots ls Cx Rp hS hl hc hs
  exact lv_ixor Cx.1 Cx.2.1 hd (k p e s m args below meth c H locs cells slots ls Cx Rp hS hl hc hs)
theorem tr_r_ishl {x y : Int32} (hd : decode (mB M) pc = .ok (.ishl, 1)) (k : tr_W E M R lc lz Z (pc + 1) lv (.inl (x <<< (y &&& 31)) :: st) h rc rs) : tr_W E M R lc lz Z pc lv (.inl y :: .inl x :: st) h rc rs := by
  intro p e s m args below meth c H locs cells slots ls Cx Rp hS hl hc hs
  exact lv_ishl Cx.1 Cx.2.1 hd (k p e s m args below meth c H locs cells slots ls Cx Rp hS hl hc hs)
theorem tr_r_ishr {x y : Int32} (hd : decode (mB M) pc = .ok (.ishr, 1)) (k : tr_W E M R lc lz Z (pc + 1) lv (.inl (x >>> (y &&& 31)) :: st) h rc rs) : tr_W E M R lc lz Z pc lv (.inl y :: .inl x :: st) h rc rs := by
  intro p e s m args below meth c H locs cells slots ls Cx Rp hS hl hc hs
  exact lv_ishr Cx.1 Cx.2.1 hd (k p e s m args below meth c H locs cells slots ls Cx Rp hS hl hc hs)
theorem tr_r_ladd {x y : Int64} (hd : decode (mB M) pc = .ok (.ladd, 1)) (k : tr_W E M R lc lz Z (pc + 1) lv (.inr (.inl (x + y)) :: st) h rc rs) : tr_W E M R lc lz Z pc lv (.inr (.inl y) :: .inr (.inl x) :: st) h rc rs := by
  intro p e s m args below meth c H locs cells slots ls Cx Rp hS hl hc hs
  exact lv_ladd Cx.1 Cx.2.1 hd (k p e s m args below meth c H locs cells slots ls Cx Rp hS hl hc hs)
theorem tr_r_lsub {x y : Int64} (hd : decode (mB M) pc = .ok (.lsub, 1)) (k : tr_W E M R lc lz Z (pc + 1) lv (.inr (.inl (x - y)) :: st) h rc rs) : tr_W E M R lc lz Z pc lv (.inr (.inl y) :: .inr (.inl x) :: st) h rc rs := by
  intro p e s m args below meth c H locs cells slots ls Cx Rp hS hl hc hs
  exact lv_lsub Cx.1 Cx.2.1 hd (k p e s m args below meth c H locs cells slots ls Cx Rp hS hl hc hs)
theorem tr_r_lmul {x y : Int64} (hd : decode (mB M) pc = .ok (.lmul, 1)) (k : tr_W E M R lc lz Z (pc + 1) lv (.inr (.inl (x * y)) :: st) h rc rs) : tr_W E M R lc lz Z pc lv (.inr (.inl y) :: .inr (.inl x) :: st) h rc rs := by
  intro p e s m args below meth c H locs cells slots ls Cx Rp hS hl hc hs
  exact lv_lmul Cx.1 Cx.2.1 hd (k p e s m args below meth c H locs cells slots ls Cx Rp hS hl hc hs)
theorem tr_r_irem {x y : Int32} (hd : decode (mB M) pc = .ok (.irem, 1)) (hy : ¬ y = ii 0) (k : tr_W E M R lc lz Z (pc + 1) lv (.inl (tr_rem x y) :: st) h rc rs) : tr_W E M R lc lz Z pc lv (.inl y :: .inl x :: st) h rc rs := by
  intro p e s m args below meth c H locs cells slots ls Cx Rp hS hl hc hs
  exact lv_irem Cx.1 Cx.2.1 hd (fun q => hy (q.trans tr_ii0.symm)) (k p e s m args below meth c H locs cells slots ls Cx Rp hS hl hc hs)
theorem tr_r_ldiv {x y : Int64} (hd : decode (mB M) pc = .ok (.ldiv, 1)) (hy : ¬ y = jj 0) (k : tr_W E M R lc lz Z (pc + 1) lv (.inr (.inl (x / y)) :: st) h rc rs) : tr_W E M R lc lz Z pc lv (.inr (.inl y) :: .inr (.inl x) :: st) h rc rs := by
  intro p e s m args below meth c H locs cells slots ls Cx Rp hS hl hc hs
  exact lv_ldiv Cx.1 Cx.2.1 hd (fun q => hy (q.trans tr_jj0.symm)) (k p e s m args below meth c H locs cells slots ls Cx Rp hS hl hc hs)
theorem tr_r_lrem {x y : Int64} (hd : decode (mB M) pc = .ok (.lrem, 1)) (hy : ¬ y = jj 0) (k : tr_W E M R lc lz Z (pc + 1) lv (.inr (.inl (tr_lrem x y)) :: st) h rc rs) : tr_W E M R lc lz Z pc lv (.inr (.inl y) :: .inr (.inl x) :: st) h rc rs := by
  intro p e s m args below meth c H locs cells slots ls Cx Rp hS hl hc hs
  exact lv_lrem Cx.1 Cx.2.1 hd (fun q => hy (q.trans tr_jj0.symm)) (k p e s m args below meth c H locs cells slots ls Cx Rp hS hl hc hs)
theorem tr_r_lcmp {x y : Int64} (hd : decode (mB M) pc = .ok (.lcmp, 1)) (k : tr_W E M R lc lz Z (pc + 1) lv (.inl (lg_cmp x y) :: st) h rc rs) : tr_W E M R lc lz Z pc lv (.inr (.inl y) :: .inr (.inl x) :: st) h rc rs := by
  intro p e s m args below meth c H locs cells slots ls Cx Rp hS hl hc hs
  exact W.lcmp Cx.1 Cx.2.1 hd (k p e s m args below meth c H locs cells slots ls Cx Rp hS hl hc hs)
theorem tr_r_i2l {x : Int32} (hd : decode (mB M) pc = .ok (.i2l, 1)) (k : tr_W E M R lc lz Z (pc + 1) lv (.inr (.inl x.toInt64) :: st) h rc rs) : tr_W E M R lc lz Z pc lv (.inl x :: st) h rc rs := by
  intro p e s m args below meth c H locs cells slots ls Cx Rp hS hl hc hs
  exact lv_i2l Cx.1 Cx.2.1 hd rfl (k p e s m args below meth c H locs cells slots ls Cx Rp hS hl hc hs)
theorem tr_r_i2b {x : Int32} (hd : decode (mB M) pc = .ok (.i2b, 1)) (k : tr_W E M R lc lz Z (pc + 1) lv (.inl (tr_by x) :: st) h rc rs) : tr_W E M R lc lz Z pc lv (.inl x :: st) h rc rs := by
  intro p e s m args below meth c H locs cells slots ls Cx Rp hS hl hc hs
  exact lv_i2b Cx.1 Cx.2.1 hd (vp_nar_byte x).symm (k p e s m args below meth c H locs cells slots ls Cx Rp hS hl hc hs)
theorem tr_r_iconst {n : Int} (hd : decode (mB M) pc = .ok (.iconst n, 1)) (k : tr_W E M R lc lz Z (pc + 1) lv (.inl (ii n) :: st) h rc rs) : tr_W E M R lc lz Z pc lv st h rc rs := by
  intro p e s m args below meth c H locs cells slots ls Cx Rp hS hl hc hs
  exact lv_iconst Cx.1 Cx.2.1 hd rfl (k p e s m args below meth c H locs cells slots ls Cx Rp hS hl hc hs)
theorem tr_r_bipush {n : Int} (hd : decode (mB M) pc = .ok (.bipush n, 2)) (hv : (Int8.ofInt n).toInt32 = ii n) (k : tr_W E M R lc lz Z (pc + 2) lv (.inl (ii n) :: st) h rc rs) : tr_W E M R lc lz Z pc lv st h rc rs := by
  intro p e s m args below meth c H locs cells slots ls Cx Rp hS hl hc hs
  exact lv_bipush Cx.1 Cx.2.1 hd hv (k p e s m args below meth c H locs cells slots ls Cx Rp hS hl hc hs)
theorem tr_r_sipush {n : Int} (hd : decode (mB M) pc = .ok (.sipush n, 3)) (hv : (Int16.ofInt n).toInt32 = ii n) (k : tr_W E M R lc lz Z (pc + 3) lv (.inl (ii n) :: st) h rc rs) : tr_W E M R lc lz Z pc lv st h rc rs := by
  intro p e s m args below meth c H locs cells slots ls Cx Rp hS hl hc hs
  exact lv_sipush Cx.1 Cx.2.1 hd hv (k p e s m args below meth c H locs cells slots ls Cx Rp hS hl hc hs)
theorem tr_r_lconst {n : Fin 2} (hd : decode (mB M) pc = .ok (.lconst n, 1)) (k : tr_W E M R lc lz Z (pc + 1) lv (.inr (.inl (jj (n.val : Nat))) :: st) h rc rs) : tr_W E M R lc lz Z pc lv st h rc rs := by
  intro p e s m args below meth c H locs cells slots ls Cx Rp hS hl hc hs
  exact lv_lconst Cx.1 Cx.2.1 hd (tr_jjN n.val).symm (k p e s m args below meth c H locs cells slots ls Cx Rp hS hl hc hs)
theorem tr_r_dupI {x : Int32} (hd : decode (mB M) pc = .ok (.dup, 1)) (k : tr_W E M R lc lz Z (pc + 1) lv (.inl x :: .inl x :: st) h rc rs) : tr_W E M R lc lz Z pc lv (.inl x :: st) h rc rs := by
  intro p e s m args below meth c H locs cells slots ls Cx Rp hS hl hc hs
  exact lv_dup Cx.1 Cx.2.1 hd rfl (k p e s m args below meth c H locs cells slots ls Cx Rp hS hl hc hs)
theorem tr_r_dupR {x : Nat} (hd : decode (mB M) pc = .ok (.dup, 1)) (k : tr_W E M R lc lz Z (pc + 1) lv (.inr (.inr x) :: .inr (.inr x) :: st) h rc rs) : tr_W E M R lc lz Z pc lv (.inr (.inr x) :: st) h rc rs := by
  intro p e s m args below meth c H locs cells slots ls Cx Rp hS hl hc hs
  exact lv_dup Cx.1 Cx.2.1 hd (tr_cat1 x) (k p e s m args below meth c H locs cells slots ls Cx Rp hS hl hc hs)
theorem tr_r_dup2 {x : Int32} {y : Nat} (hd : decode (mB M) pc = .ok (.dup2, 1)) (k : tr_W E M R lc lz Z (pc + 1) lv (.inl x :: .inr (.inr y) :: .inl x :: .inr (.inr y) :: st) h rc rs) : tr_W E M R lc lz Z pc lv (.inl x :: .inr (.inr y) :: st) h rc rs := by
  intro p e s m args below meth c H locs cells slots ls Cx Rp hS hl hc hs
  exact lv_dup2_11 Cx.1 Cx.2.1 hd rfl (tr_cat1 y) (k p e s m args below meth c H locs cells slots ls Cx Rp hS hl hc hs)
theorem tr_r_popI {x : Int32} (hd : decode (mB M) pc = .ok (.pop, 1)) (k : tr_W E M R lc lz Z (pc + 1) lv st h rc rs) : tr_W E M R lc lz Z pc lv (.inl x :: st) h rc rs := by
  intro p e s m args below meth c H locs cells slots ls Cx Rp hS hl hc hs
  exact lv_pop (va := tr_cv (.inl x)) Cx.1 Cx.2.1 hd rfl (k p e s m args below meth c H locs cells slots ls Cx Rp hS hl hc hs)
theorem tr_r_popR {x : Nat} (hd : decode (mB M) pc = .ok (.pop, 1)) (k : tr_W E M R lc lz Z (pc + 1) lv st h rc rs) : tr_W E M R lc lz Z pc lv (.inr (.inr x) :: st) h rc rs := by
  intro p e s m args below meth c H locs cells slots ls Cx Rp hS hl hc hs
  exact lv_pop (va := tr_cv (.inr (.inr x))) Cx.1 Cx.2.1 hd (tr_cat1 x) (k p e s m args below meth c H locs cells slots ls Cx Rp hS hl hc hs)
theorem tr_r_iload {k : Nat} {x : Int32} (hd : decode (mB M) pc = .ok (.iload k, 2)) (hv : lvg lv k = some (.inl x)) (k : tr_W E M R lc lz Z (pc + 2) lv (.inl x :: st) h rc rs) : tr_W E M R lc lz Z pc lv st h rc rs := by
  intro p e s m args below meth c H locs cells slots ls Cx Rp hS hl hc hs
  exact lv_iload Cx.1 Cx.2.1 hd (tr_al_at hl hv) (k p e s m args below meth c H locs cells slots ls Cx Rp hS hl hc hs)
theorem tr_r_iload_n {k : Fin 4} {x : Int32} (hd : decode (mB M) pc = .ok (.iload_n k, 1)) (hv : lvg lv k.val = some (.inl x)) (k : tr_W E M R lc lz Z (pc + 1) lv (.inl x :: st) h rc rs) : tr_W E M R lc lz Z pc lv st h rc rs := by
  intro p e s m args below meth c H locs cells slots ls Cx Rp hS hl hc hs
  exact lv_iload_n Cx.1 Cx.2.1 hd rfl (tr_al_at hl hv) (k p e s m args below meth c H locs cells slots ls Cx Rp hS hl hc hs)
theorem tr_r_lload {k : Nat} {x : Int64} (hd : decode (mB M) pc = .ok (.lload k, 2)) (hv : lvg lv k = some (.inr (.inl x))) (k : tr_W E M R lc lz Z (pc + 2) lv (.inr (.inl x) :: st) h rc rs) : tr_W E M R lc lz Z pc lv st h rc rs := by
  intro p e s m args below meth c H locs cells slots ls Cx Rp hS hl hc hs
  exact lv_lload Cx.1 Cx.2.1 hd (tr_al_at hl hv) (k p e s m args below meth c H locs cells slots ls Cx Rp hS hl hc hs)
theorem tr_r_lload_n {k : Fin 4} {x : Int64} (hd : decode (mB M) pc = .ok (.lload_n k, 1)) (hv : lvg lv k.val = some (.inr (.inl x))) (k : tr_W E M R lc lz Z (pc + 1) lv (.inr (.inl x) :: st) h rc rs) : tr_W E M R lc lz Z pc lv st h rc rs := by
  intro p e s m args below meth c H locs cells slots ls Cx Rp hS hl hc hs
  exact lv_lload_n Cx.1 Cx.2.1 hd rfl (tr_al_at hl hv) (k p e s m args below meth c H locs cells slots ls Cx Rp hS hl hc hs)
theorem tr_r_aload {k : Nat} {r : Nat} (hd : decode (mB M) pc = .ok (.aload k, 2)) (hv : lvg lv k = some (.inr (.inr r))) (k : tr_W E M R lc lz Z (pc + 2) lv (.inr (.inr r) :: st) h rc rs) : tr_W E M R lc lz Z pc lv st h rc rs := by
  intro p e s m args below meth c H locs cells slots ls Cx Rp hS hl hc hs
  have hq := tr_al_at hl hv
  cases r with
  | zero => exact lv_aloadN Cx.1 Cx.2.1 hd hq (k p e s m args below meth c H locs cells slots ls Cx Rp hS hl hc hs)
  | succ a => exact lv_aload Cx.1 Cx.2.1 hd hq (k p e s m args below meth c H locs cells slots ls Cx Rp hS hl hc hs)
theorem tr_r_aload_n {k : Fin 4} {r : Nat} (hd : decode (mB M) pc = .ok (.aload_n k, 1)) (hv : lvg lv k.val = some (.inr (.inr r))) (k : tr_W E M R lc lz Z (pc + 1) lv (.inr (.inr r) :: st) h rc rs) : tr_W E M R lc lz Z pc lv st h rc rs := by
  intro p e s m args below meth c H locs cells slots ls Cx Rp hS hl hc hs
  have hq := tr_al_at hl hv
  cases r with
  | zero => exact lv_aload_nN Cx.1 Cx.2.1 hd rfl hq (k p e s m args below meth c H locs cells slots ls Cx Rp hS hl hc hs)
  | succ a => exact lv_aload_n Cx.1 Cx.2.1 hd rfl hq (k p e s m args below meth c H locs cells slots ls Cx Rp hS hl hc hs)
theorem tr_r_istore {k : Nat} {x : Int32} (hd : decode (mB M) pc = .ok (.istore k, 2)) (hk : k < mL M) (k : tr_W E M R lc lz Z (pc + 2) (lvs1 lv k (.inl x)) st h rc rs) : tr_W E M R lc lz Z pc lv (.inl x :: st) h rc rs := by
  intro p e s m args below meth c H locs cells slots ls Cx Rp hS hl hc hs
  exact lv_istore Cx.1 Cx.2.1 hd hl hk rfl (fun ls2 hl2 => k p e s m args below meth c H locs cells slots ls2 Cx Rp hS (tr_lv_mono hl2 tr_al_st1) hc hs)
theorem tr_r_istore_n {k : Fin 4} {x : Int32} (hd : decode (mB M) pc = .ok (.istore_n k, 1)) (hk : k.val < mL M) (k : tr_W E M R lc lz Z (pc + 1) (lvs1 lv k.val (.inl x)) st h rc rs) : tr_W E M R lc lz Z pc lv (.inl x :: st) h rc rs := by
  intro p e s m args below meth c H locs cells slots ls Cx Rp hS hl hc hs
  exact lv_istore_n Cx.1 Cx.2.1 hd rfl hl hk rfl (fun ls2 hl2 => k p e s m args below meth c H locs cells slots ls2 Cx Rp hS (tr_lv_mono hl2 tr_al_st1) hc hs)
theorem tr_r_lstore {k : Nat} {x : Int64} (hd : decode (mB M) pc = .ok (.lstore k, 2)) (hk : k + 1 < mL M) (k : tr_W E M R lc lz Z (pc + 2) (lvs2 lv k (.inr (.inl x))) st h rc rs) : tr_W E M R lc lz Z pc lv (.inr (.inl x) :: st) h rc rs := by
  intro p e s m args below meth c H locs cells slots ls Cx Rp hS hl hc hs
  exact lv_lstore Cx.1 Cx.2.1 hd hl hk rfl (fun ls2 hl2 => k p e s m args below meth c H locs cells slots ls2 Cx Rp hS (tr_lv_mono hl2 tr_al_st2) hc hs)
theorem tr_r_lstore_n {k : Fin 4} {x : Int64} (hd : decode (mB M) pc = .ok (.lstore_n k, 1)) (hk : k.val + 1 < mL M) (k : tr_W E M R lc lz Z (pc + 1) (lvs2 lv k.val (.inr (.inl x))) st h rc rs) : tr_W E M R lc lz Z pc lv (.inr (.inl x) :: st) h rc rs := by
  intro p e s m args below meth c H locs cells slots ls Cx Rp hS hl hc hs
  exact lv_lstore_n Cx.1 Cx.2.1 hd rfl hl hk rfl (fun ls2 hl2 => k p e s m args below meth c H locs cells slots ls2 Cx Rp hS (tr_lv_mono hl2 tr_al_st2) hc hs)
theorem tr_r_astore {k : Nat} {r : Nat} (hd : decode (mB M) pc = .ok (.astore k, 2)) (hk : k < mL M) (k : tr_W E M R lc lz Z (pc + 2) (lvs1 lv k (.inr (.inr r))) st h rc rs) : tr_W E M R lc lz Z pc lv (.inr (.inr r) :: st) h rc rs := by
  intro p e s m args below meth c H locs cells slots ls Cx Rp hS hl hc hs
  cases r with
  | zero => exact lv_astoreN Cx.1 Cx.2.1 hd hl hk rfl (fun ls2 hl2 => k p e s m args below meth c H locs cells slots ls2 Cx Rp hS (tr_lv_mono hl2 (tr_al_st1 (v := .inr (.inr 0)))) hc hs)
  | succ a => exact lv_astore Cx.1 Cx.2.1 hd hl hk rfl (fun ls2 hl2 => k p e s m args below meth c H locs cells slots ls2 Cx Rp hS (tr_lv_mono hl2 (tr_al_st1 (v := .inr (.inr (a + 1))))) hc hs)
theorem tr_r_astore_n {k : Fin 4} {r : Nat} (hd : decode (mB M) pc = .ok (.astore_n k, 1)) (hk : k.val < mL M) (k : tr_W E M R lc lz Z (pc + 1) (lvs1 lv k.val (.inr (.inr r))) st h rc rs) : tr_W E M R lc lz Z pc lv (.inr (.inr r) :: st) h rc rs := by
  intro p e s m args below meth c H locs cells slots ls Cx Rp hS hl hc hs
  cases r with
  | zero => exact lv_astore_nN Cx.1 Cx.2.1 hd rfl hl hk rfl (fun ls2 hl2 => k p e s m args below meth c H locs cells slots ls2 Cx Rp hS (tr_lv_mono hl2 (tr_al_st1 (v := .inr (.inr 0)))) hc hs)
  | succ a => exact lv_astore_n Cx.1 Cx.2.1 hd rfl hl hk rfl (fun ls2 hl2 => k p e s m args below meth c H locs cells slots ls2 Cx Rp hS (tr_lv_mono hl2 (tr_al_st1 (v := .inr (.inr (a + 1))))) hc hs)
theorem tr_r_iinc {k : Nat} {n : Int} {x : Int32} (hd : decode (mB M) pc = .ok (.iinc k n, 3)) (hk : k < mL M) (hv : lvg lv k = some (.inl x)) (kk : tr_W E M R lc lz Z (pc + 3) (lvs1 lv k (.inl (x + ii n))) st h rc rs) : tr_W E M R lc lz Z pc lv st h rc rs := by
  intro p e s m args below meth c H locs cells slots ls Cx Rp hS hl hc hs
  have hm : (k, Value.int x) ∈ tr_al lv := tr_al_mem.mpr ⟨_, hv, rfl⟩
  obtain ⟨j, hj⟩ := List.getElem?_of_mem hm
  exact lv_iinc (k := j) (v := x + ii n) Cx.1 Cx.2.1 hd hl hj rfl hk rfl (fun ls2 hl2 => kk p e s m args below meth c H locs cells slots ls2 Cx Rp hS (tr_lv_mono hl2 (tr_al_st1 (v := .inl (x + ii n)))) hc hs)
theorem tr_r_icmp_eq {x y : Int32} {off : Int} {tgt : Nat} (hd : decode (mB M) pc = .ok (.if_icmp .eq off, 3)) (ht : (pc : Int) + off = (tgt : Int)) (k1 : x = y → tr_W E M R lc lz Z tgt lv st h rc rs) (k2 : ¬ x = y → tr_W E M R lc lz Z (pc + 3) lv st h rc rs) : tr_W E M R lc lz Z pc lv (.inl y :: .inl x :: st) h rc rs := by
  intro p e s m args below meth c H locs cells slots ls Cx Rp hS hl hc hs
  refine lv_icmp_eq Cx.1 Cx.2.1 hd ht (fun q => ?_) (fun q => ?_)
  · first | exact (k1 q p e s m args below meth c H locs cells slots ls Cx Rp hS hl hc hs) | exact (k2 q p e s m args below meth c H locs cells slots ls Cx Rp hS hl hc hs) | exact (k2 (tr_nlt q) p e s m args below meth c H locs cells slots ls Cx Rp hS hl hc hs) | exact (k2 (tr_nle q) p e s m args below meth c H locs cells slots ls Cx Rp hS hl hc hs)
  · first | exact (k2 q p e s m args below meth c H locs cells slots ls Cx Rp hS hl hc hs) | exact (k1 (Decidable.not_not.mp q) p e s m args below meth c H locs cells slots ls Cx Rp hS hl hc hs) | exact (k1 q p e s m args below meth c H locs cells slots ls Cx Rp hS hl hc hs) | exact (k1 (tr_ltn q) p e s m args below meth c H locs cells slots ls Cx Rp hS hl hc hs) | exact (k1 (tr_len q) p e s m args below meth c H locs cells slots ls Cx Rp hS hl hc hs)
theorem tr_r_if_eq {x : Int32} {off : Int} {tgt : Nat} (hd : decode (mB M) pc = .ok (.ifCond .eq off, 3)) (ht : (pc : Int) + off = (tgt : Int)) (k1 : x = ii 0 → tr_W E M R lc lz Z tgt lv st h rc rs) (k2 : ¬ x = ii 0 → tr_W E M R lc lz Z (pc + 3) lv st h rc rs) : tr_W E M R lc lz Z pc lv (.inl x :: st) h rc rs := by
  intro p e s m args below meth c H locs cells slots ls Cx Rp hS hl hc hs
  rw [tr_ii0] at k1 k2
  refine lv_if_eq Cx.1 Cx.2.1 hd ht (fun q => ?_) (fun q => ?_)
  · first | exact (k1 q p e s m args below meth c H locs cells slots ls Cx Rp hS hl hc hs) | exact (k2 q p e s m args below meth c H locs cells slots ls Cx Rp hS hl hc hs) | exact (k2 (tr_nlt q) p e s m args below meth c H locs cells slots ls Cx Rp hS hl hc hs) | exact (k2 (tr_nle q) p e s m args below meth c H locs cells slots ls Cx Rp hS hl hc hs)
  · first | exact (k2 q p e s m args below meth c H locs cells slots ls Cx Rp hS hl hc hs) | exact (k1 (Decidable.not_not.mp q) p e s m args below meth c H locs cells slots ls Cx Rp hS hl hc hs) | exact (k1 q p e s m args below meth c H locs cells slots ls Cx Rp hS hl hc hs) | exact (k1 (tr_ltn q) p e s m args below meth c H locs cells slots ls Cx Rp hS hl hc hs) | exact (k1 (tr_len q) p e s m args below meth c H locs cells slots ls Cx Rp hS hl hc hs)
theorem tr_r_icmp_ne {x y : Int32} {off : Int} {tgt : Nat} (hd : decode (mB M) pc = .ok (.if_icmp .ne off, 3)) (ht : (pc : Int) + off = (tgt : Int)) (k1 : x = y → tr_W E M R lc lz Z (pc + 3) lv st h rc rs) (k2 : ¬ x = y → tr_W E M R lc lz Z tgt lv st h rc rs) : tr_W E M R lc lz Z pc lv (.inl y :: .inl x :: st) h rc rs := by
  intro p e s m args below meth c H locs cells slots ls Cx Rp hS hl hc hs
  refine lv_icmp_ne Cx.1 Cx.2.1 hd ht (fun q => ?_) (fun q => ?_)
  · first | exact (k1 q p e s m args below meth c H locs cells slots ls Cx Rp hS hl hc hs) | exact (k2 q p e s m args below meth c H locs cells slots ls Cx Rp hS hl hc hs) | exact (k2 (tr_nlt q) p e s m args below meth c H locs cells slots ls Cx Rp hS hl hc hs) | exact (k2 (tr_nle q) p e s m args below meth c H locs cells slots ls Cx Rp hS hl hc hs)
  · first | exact (k2 q p e s m args below meth c H locs cells slots ls Cx Rp hS hl hc hs) | exact (k1 (Decidable.not_not.mp q) p e s m args below meth c H locs cells slots ls Cx Rp hS hl hc hs) | exact (k1 q p e s m args below meth c H locs cells slots ls Cx Rp hS hl hc hs) | exact (k1 (tr_ltn q) p e s m args below meth c H locs cells slots ls Cx Rp hS hl hc hs) | exact (k1 (tr_len q) p e s m args below meth c H locs cells slots ls Cx Rp hS hl hc hs)
theorem tr_r_if_ne {x : Int32} {off : Int} {tgt : Nat} (hd : decode (mB M) pc = .ok (.ifCond .ne off, 3)) (ht : (pc : Int) + off = (tgt : Int)) (k1 : x = ii 0 → tr_W E M R lc lz Z (pc + 3) lv st h rc rs) (k2 : ¬ x = ii 0 → tr_W E M R lc lz Z tgt lv st h rc rs) : tr_W E M R lc lz Z pc lv (.inl x :: st) h rc rs := by
  intro p e s m args below meth c H locs cells slots ls Cx Rp hS hl hc hs
  rw [tr_ii0] at k1 k2
  refine lv_if_ne Cx.1 Cx.2.1 hd ht (fun q => ?_) (fun q => ?_)
  · first | exact (k1 q p e s m args below meth c H locs cells slots ls Cx Rp hS hl hc hs) | exact (k2 q p e s m args below meth c H locs cells slots ls Cx Rp hS hl hc hs) | exact (k2 (tr_nlt q) p e s m args below meth c H locs cells slots ls Cx Rp hS hl hc hs) | exact (k2 (tr_nle q) p e s m args below meth c H locs cells slots ls Cx Rp hS hl hc hs)
  · first | exact (k2 q p e s m args below meth c H locs cells slots ls Cx Rp hS hl hc hs) | exact (k1 (Decidable.not_not.mp q) p e s m args below meth c H locs cells slots ls Cx Rp hS hl hc hs) | exact (k1 q p e s m args below meth c H locs cells slots ls Cx Rp hS hl hc hs) | exact (k1 (tr_ltn q) p e s m args below meth c H locs cells slots ls Cx Rp hS hl hc hs) | exact (k1 (tr_len q) p e s m args below meth c H locs cells slots ls Cx Rp hS hl hc hs)
theorem tr_r_icmp_lt {x y : Int32} {off : Int} {tgt : Nat} (hd : decode (mB M) pc = .ok (.if_icmp .lt off, 3)) (ht : (pc : Int) + off = (tgt : Int)) (k1 : x < y → tr_W E M R lc lz Z tgt lv st h rc rs) (k2 : ¬ x < y → tr_W E M R lc lz Z (pc + 3) lv st h rc rs) : tr_W E M R lc lz Z pc lv (.inl y :: .inl x :: st) h rc rs := by
  intro p e s m args below meth c H locs cells slots ls Cx Rp hS hl hc hs
  refine lv_icmp_lt Cx.1 Cx.2.1 hd ht (fun q => ?_) (fun q => ?_)
  · first | exact (k1 q p e s m args below meth c H locs cells slots ls Cx Rp hS hl hc hs) | exact (k2 q p e s m args below meth c H locs cells slots ls Cx Rp hS hl hc hs) | exact (k2 (tr_nlt q) p e s m args below meth c H locs cells slots ls Cx Rp hS hl hc hs) | exact (k2 (tr_nle q) p e s m args below meth c H locs cells slots ls Cx Rp hS hl hc hs)
  · first | exact (k2 q p e s m args below meth c H locs cells slots ls Cx Rp hS hl hc hs) | exact (k1 (Decidable.not_not.mp q) p e s m args below meth c H locs cells slots ls Cx Rp hS hl hc hs) | exact (k1 q p e s m args below meth c H locs cells slots ls Cx Rp hS hl hc hs) | exact (k1 (tr_ltn q) p e s m args below meth c H locs cells slots ls Cx Rp hS hl hc hs) | exact (k1 (tr_len q) p e s m args below meth c H locs cells slots ls Cx Rp hS hl hc hs)
theorem tr_r_if_lt {x : Int32} {off : Int} {tgt : Nat} (hd : decode (mB M) pc = .ok (.ifCond .lt off, 3)) (ht : (pc : Int) + off = (tgt : Int)) (k1 : x < ii 0 → tr_W E M R lc lz Z tgt lv st h rc rs) (k2 : ¬ x < ii 0 → tr_W E M R lc lz Z (pc + 3) lv st h rc rs) : tr_W E M R lc lz Z pc lv (.inl x :: st) h rc rs := by
  intro p e s m args below meth c H locs cells slots ls Cx Rp hS hl hc hs
  rw [tr_ii0] at k1 k2
  refine lv_if_lt Cx.1 Cx.2.1 hd ht (fun q => ?_) (fun q => ?_)
  · first | exact (k1 q p e s m args below meth c H locs cells slots ls Cx Rp hS hl hc hs) | exact (k2 q p e s m args below meth c H locs cells slots ls Cx Rp hS hl hc hs) | exact (k2 (tr_nlt q) p e s m args below meth c H locs cells slots ls Cx Rp hS hl hc hs) | exact (k2 (tr_nle q) p e s m args below meth c H locs cells slots ls Cx Rp hS hl hc hs)
  · first | exact (k2 q p e s m args below meth c H locs cells slots ls Cx Rp hS hl hc hs) | exact (k1 (Decidable.not_not.mp q) p e s m args below meth c H locs cells slots ls Cx Rp hS hl hc hs) | exact (k1 q p e s m args below meth c H locs cells slots ls Cx Rp hS hl hc hs) | exact (k1 (tr_ltn q) p e s m args below meth c H locs cells slots ls Cx Rp hS hl hc hs) | exact (k1 (tr_len q) p e s m args below meth c H locs cells slots ls Cx Rp hS hl hc hs)
theorem tr_r_icmp_ge {x y : Int32} {off : Int} {tgt : Nat} (hd : decode (mB M) pc = .ok (.if_icmp .ge off, 3)) (ht : (pc : Int) + off = (tgt : Int)) (k1 : x < y → tr_W E M R lc lz Z (pc + 3) lv st h rc rs) (k2 : ¬ x < y → tr_W E M R lc lz Z tgt lv st h rc rs) : tr_W E M R lc lz Z pc lv (.inl y :: .inl x :: st) h rc rs := by
  intro p e s m args below meth c H locs cells slots ls Cx Rp hS hl hc hs
  refine lv_icmp_ge Cx.1 Cx.2.1 hd ht (fun q => ?_) (fun q => ?_)
  · first | exact (k1 q p e s m args below meth c H locs cells slots ls Cx Rp hS hl hc hs) | exact (k2 q p e s m args below meth c H locs cells slots ls Cx Rp hS hl hc hs) | exact (k2 (tr_nlt q) p e s m args below meth c H locs cells slots ls Cx Rp hS hl hc hs) | exact (k2 (tr_nle q) p e s m args below meth c H locs cells slots ls Cx Rp hS hl hc hs)
  · first | exact (k2 q p e s m args below meth c H locs cells slots ls Cx Rp hS hl hc hs) | exact (k1 (Decidable.not_not.mp q) p e s m args below meth c H locs cells slots ls Cx Rp hS hl hc hs) | exact (k1 q p e s m args below meth c H locs cells slots ls Cx Rp hS hl hc hs) | exact (k1 (tr_ltn q) p e s m args below meth c H locs cells slots ls Cx Rp hS hl hc hs) | exact (k1 (tr_len q) p e s m args below meth c H locs cells slots ls Cx Rp hS hl hc hs)
theorem tr_r_if_ge {x : Int32} {off : Int} {tgt : Nat} (hd : decode (mB M) pc = .ok (.ifCond .ge off, 3)) (ht : (pc : Int) + off = (tgt : Int)) (k1 : x < ii 0 → tr_W E M R lc lz Z (pc + 3) lv st h rc rs) (k2 : ¬ x < ii 0 → tr_W E M R lc lz Z tgt lv st h rc rs) : tr_W E M R lc lz Z pc lv (.inl x :: st) h rc rs := by
  intro p e s m args below meth c H locs cells slots ls Cx Rp hS hl hc hs
  rw [tr_ii0] at k1 k2
  refine lv_if_ge Cx.1 Cx.2.1 hd ht (fun q => ?_) (fun q => ?_)
  · first | exact (k1 q p e s m args below meth c H locs cells slots ls Cx Rp hS hl hc hs) | exact (k2 q p e s m args below meth c H locs cells slots ls Cx Rp hS hl hc hs) | exact (k2 (tr_nlt q) p e s m args below meth c H locs cells slots ls Cx Rp hS hl hc hs) | exact (k2 (tr_nle q) p e s m args below meth c H locs cells slots ls Cx Rp hS hl hc hs)
  · first | exact (k2 q p e s m args below meth c H locs cells slots ls Cx Rp hS hl hc hs) | exact (k1 (Decidable.not_not.mp q) p e s m args below meth c H locs cells slots ls Cx Rp hS hl hc hs) | exact (k1 q p e s m args below meth c H locs cells slots ls Cx Rp hS hl hc hs) | exact (k1 (tr_ltn q) p e s m args below meth c H locs cells slots ls Cx Rp hS hl hc hs) | exact (k1 (tr_len q) p e s m args below meth c H locs cells slots ls Cx Rp hS hl hc hs)
theorem tr_r_icmp_gt {x y : Int32} {off : Int} {tgt : Nat} (hd : decode (mB M) pc = .ok (.if_icmp .gt off, 3)) (ht : (pc : Int) + off = (tgt : Int)) (k1 : x ≤ y → tr_W E M R lc lz Z (pc + 3) lv st h rc rs) (k2 : ¬ x ≤ y → tr_W E M R lc lz Z tgt lv st h rc rs) : tr_W E M R lc lz Z pc lv (.inl y :: .inl x :: st) h rc rs := by
  intro p e s m args below meth c H locs cells slots ls Cx Rp hS hl hc hs
  refine lv_icmp_gt Cx.1 Cx.2.1 hd ht (fun q => ?_) (fun q => ?_)
  · first | exact (k1 q p e s m args below meth c H locs cells slots ls Cx Rp hS hl hc hs) | exact (k2 q p e s m args below meth c H locs cells slots ls Cx Rp hS hl hc hs) | exact (k2 (tr_nlt q) p e s m args below meth c H locs cells slots ls Cx Rp hS hl hc hs) | exact (k2 (tr_nle q) p e s m args below meth c H locs cells slots ls Cx Rp hS hl hc hs)
  · first | exact (k2 q p e s m args below meth c H locs cells slots ls Cx Rp hS hl hc hs) | exact (k1 (Decidable.not_not.mp q) p e s m args below meth c H locs cells slots ls Cx Rp hS hl hc hs) | exact (k1 q p e s m args below meth c H locs cells slots ls Cx Rp hS hl hc hs) | exact (k1 (tr_ltn q) p e s m args below meth c H locs cells slots ls Cx Rp hS hl hc hs) | exact (k1 (tr_len q) p e s m args below meth c H locs cells slots ls Cx Rp hS hl hc hs)
theorem tr_r_if_gt {x : Int32} {off : Int} {tgt : Nat} (hd : decode (mB M) pc = .ok (.ifCond .gt off, 3)) (ht : (pc : Int) + off = (tgt : Int)) (k1 : x ≤ ii 0 → tr_W E M R lc lz Z (pc + 3) lv st h rc rs) (k2 : ¬ x ≤ ii 0 → tr_W E M R lc lz Z tgt lv st h rc rs) : tr_W E M R lc lz Z pc lv (.inl x :: st) h rc rs := by
  intro p e s m args below meth c H locs cells slots ls Cx Rp hS hl hc hs
  rw [tr_ii0] at k1 k2
  refine lv_if_gt Cx.1 Cx.2.1 hd ht (fun q => ?_) (fun q => ?_)
  · first | exact (k1 q p e s m args below meth c H locs cells slots ls Cx Rp hS hl hc hs) | exact (k2 q p e s m args below meth c H locs cells slots ls Cx Rp hS hl hc hs) | exact (k2 (tr_nlt q) p e s m args below meth c H locs cells slots ls Cx Rp hS hl hc hs) | exact (k2 (tr_nle q) p e s m args below meth c H locs cells slots ls Cx Rp hS hl hc hs)
  · first | exact (k2 q p e s m args below meth c H locs cells slots ls Cx Rp hS hl hc hs) | exact (k1 (Decidable.not_not.mp q) p e s m args below meth c H locs cells slots ls Cx Rp hS hl hc hs) | exact (k1 q p e s m args below meth c H locs cells slots ls Cx Rp hS hl hc hs) | exact (k1 (tr_ltn q) p e s m args below meth c H locs cells slots ls Cx Rp hS hl hc hs) | exact (k1 (tr_len q) p e s m args below meth c H locs cells slots ls Cx Rp hS hl hc hs)
theorem tr_r_icmp_le {x y : Int32} {off : Int} {tgt : Nat} (hd : decode (mB M) pc = .ok (.if_icmp .le off, 3)) (ht : (pc : Int) + off = (tgt : Int)) (k1 : x ≤ y → tr_W E M R lc lz Z tgt lv st h rc rs) (k2 : ¬ x ≤ y → tr_W E M R lc lz Z (pc + 3) lv st h rc rs) : tr_W E M R lc lz Z pc lv (.inl y :: .inl x :: st) h rc rs := by
  intro p e s m args below meth c H locs cells slots ls Cx Rp hS hl hc hs
  refine lv_icmp_le Cx.1 Cx.2.1 hd ht (fun q => ?_) (fun q => ?_)
  · first | exact (k1 q p e s m args below meth c H locs cells slots ls Cx Rp hS hl hc hs) | exact (k2 q p e s m args below meth c H locs cells slots ls Cx Rp hS hl hc hs) | exact (k2 (tr_nlt q) p e s m args below meth c H locs cells slots ls Cx Rp hS hl hc hs) | exact (k2 (tr_nle q) p e s m args below meth c H locs cells slots ls Cx Rp hS hl hc hs)
  · first | exact (k2 q p e s m args below meth c H locs cells slots ls Cx Rp hS hl hc hs) | exact (k1 (Decidable.not_not.mp q) p e s m args below meth c H locs cells slots ls Cx Rp hS hl hc hs) | exact (k1 q p e s m args below meth c H locs cells slots ls Cx Rp hS hl hc hs) | exact (k1 (tr_ltn q) p e s m args below meth c H locs cells slots ls Cx Rp hS hl hc hs) | exact (k1 (tr_len q) p e s m args below meth c H locs cells slots ls Cx Rp hS hl hc hs)
theorem tr_r_if_le {x : Int32} {off : Int} {tgt : Nat} (hd : decode (mB M) pc = .ok (.ifCond .le off, 3)) (ht : (pc : Int) + off = (tgt : Int)) (k1 : x ≤ ii 0 → tr_W E M R lc lz Z tgt lv st h rc rs) (k2 : ¬ x ≤ ii 0 → tr_W E M R lc lz Z (pc + 3) lv st h rc rs) : tr_W E M R lc lz Z pc lv (.inl x :: st) h rc rs := by
  intro p e s m args below meth c H locs cells slots ls Cx Rp hS hl hc hs
  rw [tr_ii0] at k1 k2
  refine lv_if_le Cx.1 Cx.2.1 hd ht (fun q => ?_) (fun q => ?_)
  · first | exact (k1 q p e s m args below meth c H locs cells slots ls Cx Rp hS hl hc hs) | exact (k2 q p e s m args below meth c H locs cells slots ls Cx Rp hS hl hc hs) | exact (k2 (tr_nlt q) p e s m args below meth c H locs cells slots ls Cx Rp hS hl hc hs) | exact (k2 (tr_nle q) p e s m args below meth c H locs cells slots ls Cx Rp hS hl hc hs)
  · first | exact (k2 q p e s m args below meth c H locs cells slots ls Cx Rp hS hl hc hs) | exact (k1 (Decidable.not_not.mp q) p e s m args below meth c H locs cells slots ls Cx Rp hS hl hc hs) | exact (k1 q p e s m args below meth c H locs cells slots ls Cx Rp hS hl hc hs) | exact (k1 (tr_ltn q) p e s m args below meth c H locs cells slots ls Cx Rp hS hl hc hs) | exact (k1 (tr_len q) p e s m args below meth c H locs cells slots ls Cx Rp hS hl hc hs)
theorem tr_r_goto {off : Int} {tgt : Nat} (hd : decode (mB M) pc = .ok (.goto off, 3)) (ht : (pc : Int) + off = (tgt : Int)) (k : tr_W E M R lc lz Z tgt lv st h rc rs) : tr_W E M R lc lz Z pc lv st h rc rs := by
  intro p e s m args below meth c H locs cells slots ls Cx Rp hS hl hc hs
  exact lv_goto Cx.1 Cx.2.1 hd ht (k p e s m args below meth c H locs cells slots ls Cx Rp hS hl hc hs)
end TRR
end
section
/-! ROWS OF THE HEAP -/
theorem tr_cl9 {P : Nat → vw_C → Prop} (h0 : P 0 (RX0, TX0, 6)) (h1 : P 1 (RX1, TX1, 16)) (h2 : P 2 (RX2, TX2, 7)) (h3 : P 3 (RX3, TX3, 10)) (h4 : P 4 (RX4, TX4, 10)) (h5 : P 5 (RX5, TX5, 4)) (h6 : P 6 (RX6, TX6, 3)) (h7 : P 7 (RX7, TX7, 10)) (h8 : P 8 (RX8, TX8, 37)) {c : Nat} {q : vw_C} (hq : vwCl[c]? = some q) : P c q := by
  match c, hq with
  | 0, hq => cases hq; exact h0
  | 1, hq => cases hq; exact h1
  | 2, hq => cases hq; exact h2
  | 3, hq => cases hq; exact h3
  | 4, hq => cases hq; exact h4
  | 5, hq => cases hq; exact h5
  | 6, hq => cases hq; exact h6
  | 7, hq => cases hq; exact h7
  | 8, hq => cases hq; exact h8
  | c + 9, hq => simp [vwCl] at hq
theorem tr_ty_ok {c : Nat} {q : vw_C} (hq : vwCl[c]? = some q) : ∀ k, k < q.2.2 → parseFieldDescriptor (q.2.1 k).2.2.1 = some (tr_ty c k) := tr_cl9 (P := fun c q => ∀ k, k < q.2.2 → parseFieldDescriptor (q.2.1 k).2.2.1 = some (tr_ty c k)) tyX0_ok tyX1_ok tyX2_ok tyX3_ok tyX4_ok tyX5_ok tyX6_ok tyX7_ok tyX8_ok hq
theorem tr_nm_ok {c : Nat} {q : vw_C} (hq : vwCl[c]? = some q) : ∀ a, a < q.2.2 → ∀ b, b < q.2.2 → a ≠ b → (q.2.1 a).2.1 ≠ (q.2.1 b).2.1 := tr_cl9 (P := fun c q => ∀ a, a < q.2.2 → ∀ b, b < q.2.2 → a ≠ b → (q.2.1 a).2.1 ≠ (q.2.1 b).2.1) nmX0 nmX1 nmX2 nmX3 nmX4 nmX5 nmX6 nmX7 nmX8 hq
def tr_lays : List Cond := vwCl.flatMap (fun q => u_ws q.1 q.2.1 q.2.2)
set_option maxRecDepth 100000 in
theorem tr_lays_in : ∀ w ∈ tr_lays, w ∈ tr_LW := tr_inLW _ [(1, 185), (1, 187), (1, 189), (1, 191), (1, 193), (1, 195), (1, 139), (1, 141), (1, 143), (1, 145), (1, 147), (1, 149), (1, 151), (1, 153), (1, 155), (1, 157), (1, 159), (1, 161), (1, 163), (1, 165), (1, 167), (1, 169), (1, 68), (1, 70), (1, 72), (1, 74), (1, 76), (1, 78), (1, 80), (3, 205), (3, 207), (3, 209), (3, 211), (3, 213), (3, 215), (3, 217), (3, 219), (3, 221), (3, 223), (2, 220), (2, 222), (2, 224), (2, 226), (2, 228), (2, 230), (2, 232), (2, 234), (2, 236), (2, 238), (1, 209), (1, 211), (1, 213), (1, 215), (1, 103), (1, 105), (1, 107), (1, 228), (1, 230), (1, 232), (1, 234), (1, 236), (1, 238), (2, 0), (2, 2), (2, 4), (2, 6), (5, 137), (5, 139), (5, 141), (5, 143), (5, 145), (5, 147), (5, 149), (5, 151), (5, 153), (5, 155), (5, 157), (5, 159), (5, 161), (5, 163), (5, 165), (5, 167), (5, 169), (5, 171), (5, 173), (5, 175), (5, 177), (5, 179), (5, 181), (5, 183), (5, 185), (5, 187), (5, 189), (5, 191), (5, 193), (5, 195), (5, 197), (5, 199), (5, 201), (5, 203), (5, 205), (5, 207), (5, 209)] (by decide +kernel) (by decide +kernel)
theorem tr_cls_in {c : Nat} {q : vw_C} (hq : vwCl[c]? = some q) : ∀ w ∈ u_ws q.1 q.2.1 q.2.2, w ∈ tr_LW := fun w hw => tr_lays_in w (List.mem_flatMap.mpr ⟨q, List.mem_of_getElem? hq, hw⟩)
theorem tr_inst_in : ∀ w ∈ vwCl.map (fun q => Cond.instantiable q.1 q.2.2), w ∈ tr_LW := tr_inLW _ [(1, 174), (1, 112), (1, 34), (3, 171), (2, 200), (1, 199), (1, 32), (1, 24), (5, 92)] (by decide +kernel) (by decide +kernel)
theorem tr_ini_in : ∀ w ∈ vwCl.map (fun q => Cond.initialized q.1), w ∈ tr_LW := tr_inLW _ [(1, 6), (1, 5), (1, 3), (1, 21), (1, 13), (1, 7), (1, 2), (1, 1), (1, 8)] (by decide +kernel) (by decide +kernel)
def tr_kd (ty : FieldType) : Nat := match ty with
  | .long => 1
  | .object _ => 2
  | .array _ => 2
  | _ => 0
def tr_fval (c : Nat) (h : tr_H) (r b : Nat) : tr_V := match c with
  | 0 => .inl (hI h r b)
  | 1 => .inr (.inl (hJ h r b))
  | _ => .inr (.inr (hR h r b))
theorem tr_fv_kd (ty : FieldType) (h : tr_H) (r b : Nat) : tr_fv ty (hI h r b) (hJ h r b) (hR h r b) = tr_cv (tr_fval (tr_kd ty) h r b) := by cases ty <;> rfl
/-- plain kinds of fields: int, long, references -/
def tr_pl (ty : FieldType) : Bool := match ty with
  | .int => true
  | .long => true
  | .object _ => true
  | .array _ => true
  | _ => false
def tr_fok (q : Nat × Nat × Nat × Nat × Nat) : Bool := match vwCl[q.2.2.1 - 1]? with
  | some r => Nat.ble 1 q.2.2.1 && (Nat.blt q.2.2.2.1 r.2.2 && (decide ((r.2.1 q.2.2.2.1).1 = r.1) && (Nat.beq q.2.2.2.2 (tr_kd (tr_ty (q.2.2.1 - 1) q.2.2.2.1)) && tr_pl (tr_ty (q.2.2.1 - 1) q.2.2.2.1))))
  | none => false
theorem tr_ft_all : tr_ft.all tr_fok = true := by decide +kernel
theorem tr_ft_spec {o idx a b c : Nat} (hf : (o, idx, a, b, c) ∈ tr_ft) : ∃ (ci : Nat) (q : vw_C), a = ci + 1 ∧ vwCl[ci]? = some q ∧ b < q.2.2 ∧ (q.2.1 b).1 = q.1 ∧ c = tr_kd (tr_ty ci b) ∧ tr_pl (tr_ty ci b) = true ∧ Cond.fieldLink (tr_R o) idx q.1 (q.2.1 b).2.1 (q.2.1 b).2.2.1 ∈ tr_LW := by
  have h1 := List.all_eq_true.mp tr_ft_all _ hf
  have h2 : tr_fw (o, idx, a, b, c) ∈ tr_LW := tr_fw_in _ (List.mem_map.mpr ⟨_, hf, rfl⟩)
  unfold tr_fok at h1
  unfold tr_fw at h2
  dsimp only at h1 h2
  cases hq : vwCl[a - 1]? with
  | none => rw [hq] at h1; cases h1
  | some q =>
    rw [hq] at h1 h2
    simp only [Bool.and_eq_true, decide_eq_true_eq, Nat.ble_eq, Nat.blt_eq, Nat.beq_eq] at h1
    obtain ⟨g1, g2, g3, g4, g5⟩ := h1
    exact ⟨a - 1, q, by omega, hq, g2, g3, g4, g5, h2⟩
theorem tr_ii_cast {n : Nat} : ii (n : Nat) = Int32.ofNat n := tr_iiN n
theorem tr_cell.kept {E : tr_Env} {h h' : tr_H} {H H' : Heap} {r : Nat} (q : tr_cell E h H r) (h1 : ht h' (r + 1) = ht h (r + 1)) (h2 : hn h' (r + 1) = hn h (r + 1)) (h3 : hI h' (r + 1) = hI h (r + 1)) (h4 : hJ h' (r + 1) = hJ h (r + 1)) (h5 : hR h' (r + 1) = hR h (r + 1)) (hH : H'[r]? = H[r]?) (hz : H.size ≤ H'.size) : tr_cell E h' H' r := by
  obtain ⟨a1, a2, a3, a4, a5⟩ := q
  unfold tr_cell
  rw [h1, h2, h3, h4, h5]
  exact ⟨fun g => Nat.lt_of_lt_of_le (a1 g) hz, fun c q g1 g2 => ⟨(a2 c q g1 g2).1, (a2 c q g1 g2).2.kept hH⟩, fun k g1 g2 => ⟨(a3 k g1 g2).1, by rw [hH]; exact (a3 k g1 g2).2⟩, a4, a5⟩
/-- h' is h but for the ints, longs, references of one cell -/
def tr_ag (h h' : tr_H) (r : Nat) : Prop := ht h' = ht h ∧ hn h' = hn h ∧ ∀ x, x ≠ r → hI h' x = hI h x ∧ hJ h' x = hJ h x ∧ hR h' x = hR h x
theorem up2_ne {α : Type} {f : Nat → Nat → α} {a k x : Nat} {v : α} (h : x ≠ a) : up2 f a k v x = f x := by funext j; simp [up2, h]
theorem up2_eq {α : Type} {f : Nat → Nat → α} {a k j : Nat} {v : α} : up2 f a k v a j = if j = k then v else f a j := by simp [up2]
theorem up1_ne {α : Type} {f : Nat → α} {a x : Nat} {v : α} (h : x ≠ a) : up1 f a v x = f x := by simp [up1, h]
theorem up1_eq {α : Type} {f : Nat → α} {a : Nat} {v : α} : up1 f a v a = v := by simp [up1]
theorem tr_ag_I {h : tr_H} {r k : Nat} {v : Int32} : tr_ag h (hsI h r k v) r := ⟨rfl, rfl, fun x hx => ⟨up2_ne hx, rfl, rfl⟩⟩
theorem tr_ag_J {h : tr_H} {r k : Nat} {v : Int64} : tr_ag h (hsJ h r k v) r := ⟨rfl, rfl, fun x hx => ⟨rfl, up2_ne hx, rfl⟩⟩
theorem tr_ag_R {h : tr_H} {r k : Nat} {v : Nat} : tr_ag h (hsR h r k v) r := ⟨rfl, rfl, fun x hx => ⟨rfl, rfl, up2_ne hx⟩⟩
theorem tr_tx.kept {h h' : tr_H} {r : Nat} {cs : List Nat} (q : tr_tx h r cs) (h1 : ht h' r = ht h r) (h2 : hn h' r = hn h r) (h3 : hI h' r = hI h r) : tr_tx h' r cs := by
  unfold tr_tx at q ⊢
  rw [h1, h2, h3]
  exact q
theorem tr_Rep.upd {E : tr_Env} {h h' : tr_H} {H H' : Heap} {r : Nat} (q : tr_Rep E h H) (hns : ht h (r + 1) ≠ 18) (ha : tr_ag h h' (r + 1)) (hlo : elo E ≤ r) (hz : H'.size = H.size) (ho : ∀ x, x ≠ r → H'[x]? = H[x]?) (hc : tr_cell E h' H' r) : tr_Rep E h' H' := by
  obtain ⟨a1, ⟨a2, a3⟩, a4, a5⟩ := q
  obtain ⟨b1, b2, b3⟩ := ha
  refine ⟨by rw [b1]; exact a1, ⟨by rw [hz]; exact a2, fun x hx => by rw [ho x (by omega)]; exact a3 x hx⟩, fun x => ?_, fun j hj => ?_⟩
  · by_cases hx : x = r
    · subst hx
      exact hc
    · obtain ⟨c1, c2, c3⟩ := b3 (x + 1) (by omega)
      exact (a4 x).kept (by rw [b1]) (by rw [b2]) c1 c2 c3 (ho x hx) (by omega)
  · have hne : eT E j ≠ r + 1 := fun g => hns (by rw [← g]; exact (a5 j hj).1)
    exact (a5 j hj).kept (by rw [b1]) (by rw [b2]) (b3 _ hne).1
theorem tr_S.put {E : tr_Env} {s : State} {H H' : Heap} {locs : List Loc} {r j : Nat} (h : va_S (eO E) s.heap H locs) (hz : H'.size = H.size) (ho : ∀ x, x ≠ r → H'[x]? = H[x]?) (hlo : elo E ≤ r) : va_S (eO E) s.heap H' (locs ++ [⟨r, j⟩]) := h.put hz ho hlo
section TRH
variable {E : tr_Env} {M : tr_MI} {R : Room} {lc lz : Nat} {Z : List Frame → Array Value → State → State → Prop} {pc : Nat} {lv : tr_L} {st : List tr_V} {h : tr_H} {rc rs : Nat}
theorem tr_Cx.K {E : tr_Env} {M : tr_MI} {p : Program} {s : State} {m : MethodId} {args : Array Value} {meth : Method} {c : Code} (ok : tr_ok E) (Cx : tr_Cx E M p s m args meth c) : va_K (eD E) vwCl (tr_tys E) s := va_K.moved Cx.2.2.2.2.2.1.alike ok.2.1
theorem tr_o_of {h : tr_H} {r t : Nat} (h0 : ht h 0 = 0) (hr : ht h r = t + 1) : ∃ a, r = a + 1 := by
  cases r with
  | zero => rw [h0] at hr; cases hr
  | succ a => exact ⟨a, rfl⟩
theorem tr_r_getf (ok : tr_ok E) {idx a b c r : Nat} (hd : decode (mB M) pc = .ok (.getfield idx, 3)) (hf : (mO M, idx, a, b, c) ∈ tr_ft) (hO : tr_R (mO M) = (mY M).cls) (htg : ht h r = a) (k : tr_W E M R lc lz Z (pc + 3) lv (tr_fval c h r b :: st) h rc rs) : tr_W E M R lc lz Z pc lv (.inr (.inr r) :: st) h rc rs := by
  intro p e s m args below meth cd H locs cells slots ls Cx Rp hS hl hc hs
  obtain ⟨ci, q, rfl, hq, hb, hdc, rfl, hpl, hw⟩ := tr_ft_spec hf
  obtain ⟨r, rfl⟩ := tr_o_of Rp.1 htg
  obtain ⟨hlo, hob⟩ := (Rp.2.2.1 r).2.1 ci q htg hq
  rw [hO] at hw
  have hK := Cx.K ok
  obtain ⟨hX, hB, hML, hown, hts, hW, -⟩ := id Cx
  have hP : va_P (eD E) vwCl [(r, .inr (ci, (List.range q.2.2).map (fun k => tr_fv (tr_ty ci k) (hI h (r + 1) k) (hJ h (r + 1) k) (hR h (r + 1) k))))] H := by
    intro k1 q1 hk1
    have hz : k1 < 1 := (List.getElem?_eq_some_iff.mp hk1).1
    rw [show k1 = 0 by omega] at hk1
    cases hk1
    exact ⟨q, hq, hob.to (fun k2 hk2 => by simp [vp_V, hk2])⟩
  refine va_get hX hB hts (tr_cls_in hq) hown hK hP 0 rfl hq b hb (hts _ hw) (by rw [hdc]; exact fun _ g => g) (v := tr_cv (tr_fval (tr_kd (tr_ty ci b)) h (r + 1) b)) ?_ hd (k p e s m args below meth cd H locs cells slots ls Cx Rp hS hl hc hs)
  rw [← tr_fv_kd]
  simp [hb]
/-- a field is put: the heap behind it -/
theorem tr_put0 (ok : tr_ok E) {idx a b c r : Nat} {v : Value} {h' : tr_H} (hd : decode (mB M) pc = .ok (.putfield idx, 3)) (hf : (mO M, idx, a, b, c) ∈ tr_ft) (hO : tr_R (mO M) = (mY M).cls)
    (hfin : ∀ q : vw_C, vwCl[a - 1]? = some q → (q.2.1 b).2.2.2 = true → (mY M).name = "<init>" ∧ q.1 = (mY M).cls) (htg : ht h r = a) (hnr : ∀ ci, a = ci + 1 → narrow (tr_ty ci b) v = v ∧ fits (tr_ty ci b) v = true) (hag : tr_ag h h' r)
    (hval : ∀ ci j, a = ci + 1 → tr_fv (tr_ty ci j) (hI h' r j) (hJ h' r j) (hR h' r j) = if j = b then v else tr_fv (tr_ty ci j) (hI h r j) (hJ h r j) (hR h r j))
    (k : tr_W E M R lc lz Z (pc + 3) lv st h' rc rs) : ∀ (p : Program) (e : Env) (s : State) (m : MethodId) (args : Array Value) (below : List Frame) (meth : Method) (c : Code) (H : Heap) (locs : List Loc) (cells slots : Nat) (ls : Array Slot),
    tr_Cx E M p s m args meth c → tr_Rep E h H → va_S (eO E) s.heap H locs → lv_has ls (mL M) (tr_al lv) → cells + rc ≤ lc → slots + rs ≤ lz →
    W p (eL E) e R s m args below meth c H locs cells slots (Z below args s) (F0 m pc ls (v :: va_rf (tr_o r) :: st.map tr_cv)) := by
  intro p e s m args below meth cd H locs cells slots ls Cx Rp hS hl hc hs
  obtain ⟨ci, q, rfl, hq, hb, hdc, rfl, hpl, hw⟩ := tr_ft_spec hf
  obtain ⟨r, rfl⟩ := tr_o_of Rp.1 htg
  obtain ⟨hlo, hob⟩ := (Rp.2.2.1 r).2.1 ci q htg hq
  rw [hO] at hw
  have hK := Cx.K ok
  obtain ⟨hX, hB, hML, hown, hts, hW, -, -, hname, -⟩ := id Cx
  have hin := tr_cls_in hq
  have hap := va_apart (own := (mY M).cls) hts hin (tr_ty ci) (tr_ty_ok hq) (tr_nm_ok hq) hK hq
  obtain ⟨cell, q1, q2, q3, q4⟩ := hob
  obtain ⟨hSl, hfc, kC, hkC, hkind⟩ := hK.1 ci _ hq
  obtain ⟨cf, kf, fi, f, hi, hsl⟩ := hSl b hb
  have hlay := hts _ (hin _ (u_in_lay hb))
  have hst := (u_facts hfc hkC (u_lays hts hin hb) hi).1
  have hdsc := tr_ty_ok hq b hb
  obtain ⟨hn1, hf1⟩ := hnr ci rfl
  have done : ∀ H' : Heap, H'[r]? = some (cell.setSlot ((eD E).2 ci b) v) → H'.size = H.size → (∀ x, x ≠ r → H'[x]? = H[x]?) → tr_Rep E h' H' := by
    intro H' e1 e2 e3
    have hns : ht h (r + 1) ≠ 18 := by
      have := (List.getElem?_eq_some_iff.mp hq).1
      simp [vwCl] at this
      omega
    refine Rp.upd hns hag hlo e2 e3 ⟨fun _ => ?_, fun c2 r2 g1 g2 => ?_, fun k2 g1 g2 => ?_, fun g => ?_, fun g => ?_⟩
    · rw [e2]; exact (Array.getElem?_eq_some_iff.mp q1).1
    · rw [hag.1, htg] at g1
      have hc2 : c2 = ci := by omega
      subst hc2
      cases hq.symm.trans g2
      exact ⟨hlo, (t_OB.to (V := updV _ b v) ⟨_, e1, q2, q3, t_set q4 hap hb v⟩ (fun j hj => by rw [hval c2 j rfl]; simp [updV]))⟩
    · exfalso
      rw [hag.1, htg] at g2
      have := (List.getElem?_eq_some_iff.mp hq).1
      simp [vwCl] at this
      omega
    · exfalso
      rw [hag.1, htg] at g
      have := (List.getElem?_eq_some_iff.mp hq).1
      simp [vwCl] at this
      omega
    · exfalso
      rw [hag.1, htg] at g
      have := (List.getElem?_eq_some_iff.mp hq).1
      simp [vwCl] at this
      omega
  by_cases hfn : (q.2.1 b).2.2.2 = true
  · obtain ⟨hin2, hcl⟩ := hfin q hq hfn
    unfold u_lay at hlay
    rw [if_pos hfn] at hlay
    have hcf : m.cls = cf := by
      obtain ⟨_, _, c', _, _, _, -, -, hf', -, -, -, hown2, -⟩ := Cond.laysFinal_spec hlay
      have e1 : c' = cf := by have := hi.symm.trans hf'; simp at this; exact this.1.symm
      rw [hdc, hcl] at hown2
      rw [← e1]; exact Option.some.inj (hown.symm.trans hown2)
    have h6 := u_fits hfc hkC hkind (Or.inr hlay) hi hdsc hn1 hf1
    refine W.putFinK hX hB hown (hts _ hw) (by rw [hdc] at hi; exact hi) hst hcf (hname.trans hin2) (by rw [q2]; exact h6) q1 q3 (by rw [hsl]; exact k2_hasslot (q4 b hb)) rfl rfl hd fun H' e1 e2 e3 => ?_
    rw [hsl] at e1 ⊢
    exact k p e s m args below meth cd H' _ cells slots ls Cx (done H' e1 e2 e3) (tr_S.put hS e2 e3 hlo) hl hc hs
  · have hfn' : (q.2.1 b).2.2.2 = false := by simpa using hfn
    unfold u_lay at hlay
    rw [if_neg hfn] at hlay
    have h6 := u_store hfc hkC hkind hlay hi hdsc hn1 hf1
    refine W.putK hX hB (f := f) ⟨hown, hts _ hw, ⟨_, _, _, (by rw [hdc] at hi; exact hi)⟩, hst⟩ (by rw [q2]; exact h6) q1 q3 (by rw [hsl]; exact k2_hasslot (q4 b hb)) rfl rfl hd fun H' e1 e2 e3 => ?_
    rw [hsl] at e1 ⊢
    exact k p e s m args below meth cd H' _ cells slots ls Cx (done H' e1 e2 e3) (tr_S.put hS e2 e3 hlo) hl hc hs
theorem tr_nf_ref (ty : FieldType) (r : Nat) (h : tr_kd ty = 2) : narrow ty (va_rf (tr_o r)) = va_rf (tr_o r) ∧ fits ty (va_rf (tr_o r)) = true := by
  cases r <;> cases ty <;> first | exact ⟨rfl, rfl⟩ | cases h
theorem tr_nf_int (ty : FieldType) (x : Int32) (h : tr_kd ty = 0) (hp : tr_pl ty = true) : narrow ty (.int x) = .int x ∧ fits ty (.int x) = true := by
  cases ty <;> first | exact ⟨rfl, rfl⟩ | exact absurd hp (by decide) | (exact absurd h (by intro q; cases q))
theorem tr_nf_long (ty : FieldType) (x : Int64) (h : tr_kd ty = 1) : narrow ty (.long x) = .long x ∧ fits ty (.long x) = true := by
  cases ty <;> first | exact ⟨rfl, rfl⟩ | cases h
theorem tr_fvI {ty : FieldType} {x x' : Int32} {y : Int64} {r : Nat} (h : tr_kd ty ≠ 0) : tr_fv ty x y r = tr_fv ty x' y r := by cases ty <;> first | rfl | exact absurd rfl h
theorem tr_fvJ {ty : FieldType} {x : Int32} {y y' : Int64} {r : Nat} (h : tr_kd ty ≠ 1) : tr_fv ty x y r = tr_fv ty x y' r := by cases ty <;> first | rfl | exact absurd rfl h
theorem tr_fvR {ty : FieldType} {x : Int32} {y : Int64} {r r' : Nat} (h : tr_kd ty ≠ 2) : tr_fv ty x y r = tr_fv ty x y r' := by cases ty <;> first | rfl | exact absurd rfl h
theorem tr_fv0 {ty : FieldType} {x : Int32} {y : Int64} {r : Nat} (h : tr_kd ty = 0) : tr_fv ty x y r = .int x := by cases ty <;> first | rfl | cases h
theorem tr_fv1 {ty : FieldType} {x : Int32} {y : Int64} {r : Nat} (h : tr_kd ty = 1) : tr_fv ty x y r = .long y := by cases ty <;> first | rfl | cases h
theorem tr_fv2 {ty : FieldType} {x : Int32} {y : Int64} {r : Nat} (h : tr_kd ty = 2) : tr_fv ty x y r = va_rf (tr_o r) := by cases ty <;> first | rfl | cases h
theorem tr_r_putI (ok : tr_ok E) {idx a b r : Nat} {v : Int32} (hd : decode (mB M) pc = .ok (.putfield idx, 3)) (hf : (mO M, idx, a, b, 0) ∈ tr_ft) (hO : tr_R (mO M) = (mY M).cls)
    (hfin : ∀ q : vw_C, vwCl[a - 1]? = some q → (q.2.1 b).2.2.2 = true → (mY M).name = "<init>" ∧ q.1 = (mY M).cls) (htg : ht h r = a) (k : tr_W E M R lc lz Z (pc + 3) lv st (hsI h r b v) rc rs) : tr_W E M R lc lz Z pc lv (.inl v :: .inr (.inr r) :: st) h rc rs := by
  obtain ⟨ci, q, hci, hq, hb, hdc, h0, hpl, hw⟩ := tr_ft_spec hf
  refine tr_put0 ok hd hf hO hfin htg (fun c2 e2 => ?_) tr_ag_I (fun c2 j e2 => ?_) k
  · rw [show c2 = ci by omega]; exact tr_nf_int _ v h0.symm hpl
  · rw [show c2 = ci by omega]
    show tr_fv (tr_ty ci j) (up2 (hI h) r b v r j) _ _ = _
    rw [up2_eq]
    by_cases hj : j = b
    · subst hj; rw [if_pos rfl, if_pos rfl]; exact tr_fv0 h0.symm
    · rw [if_neg hj, if_neg hj]; rfl
theorem tr_r_putJ (ok : tr_ok E) {idx a b r : Nat} {v : Int64} (hd : decode (mB M) pc = .ok (.putfield idx, 3)) (hf : (mO M, idx, a, b, 1) ∈ tr_ft) (hO : tr_R (mO M) = (mY M).cls)
    (hfin : ∀ q : vw_C, vwCl[a - 1]? = some q → (q.2.1 b).2.2.2 = true → (mY M).name = "<init>" ∧ q.1 = (mY M).cls) (htg : ht h r = a) (k : tr_W E M R lc lz Z (pc + 3) lv st (hsJ h r b v) rc rs) : tr_W E M R lc lz Z pc lv (.inr (.inl v) :: .inr (.inr r) :: st) h rc rs := by
  obtain ⟨ci, q, hci, hq, hb, hdc, h0, hpl, hw⟩ := tr_ft_spec hf
  refine tr_put0 ok hd hf hO hfin htg (fun c2 e2 => ?_) tr_ag_J (fun c2 j e2 => ?_) k
  · rw [show c2 = ci by omega]; exact tr_nf_long _ v h0.symm
  · rw [show c2 = ci by omega]
    show tr_fv (tr_ty ci j) _ (up2 (hJ h) r b v r j) _ = _
    rw [up2_eq]
    by_cases hj : j = b
    · subst hj; rw [if_pos rfl, if_pos rfl]; exact tr_fv1 h0.symm
    · rw [if_neg hj, if_neg hj]; rfl
theorem tr_r_putR (ok : tr_ok E) {idx a b r : Nat} {v : Nat} (hd : decode (mB M) pc = .ok (.putfield idx, 3)) (hf : (mO M, idx, a, b, 2) ∈ tr_ft) (hO : tr_R (mO M) = (mY M).cls)
    (hfin : ∀ q : vw_C, vwCl[a - 1]? = some q → (q.2.1 b).2.2.2 = true → (mY M).name = "<init>" ∧ q.1 = (mY M).cls) (htg : ht h r = a) (k : tr_W E M R lc lz Z (pc + 3) lv st (hsR h r b v) rc rs) : tr_W E M R lc lz Z pc lv (.inr (.inr v) :: .inr (.inr r) :: st) h rc rs := by
  obtain ⟨ci, q, hci, hq, hb, hdc, h0, hpl, hw⟩ := tr_ft_spec hf
  refine tr_put0 ok hd hf hO hfin htg (fun c2 e2 => ?_) tr_ag_R (fun c2 j e2 => ?_) k
  · rw [show c2 = ci by omega]; exact tr_nf_ref _ v h0.symm
  · rw [show c2 = ci by omega]
    show tr_fv (tr_ty ci j) _ _ (up2 (hR h) r b v r j) = _
    rw [up2_eq]
    by_cases hj : j = b
    · subst hj; rw [if_pos rfl, if_pos rfl]; exact tr_fv2 h0.symm
    · rw [if_neg hj, if_neg hj]; rfl
end TRH
end
section
/-! ROWS OF ARRAYS AND OF NEW CELLS -/
theorem tr_in_of {x : Int32} {n : Nat} (h : ixo x n) : vp_in x n := vp_in_iff.mpr h
theorem tr_tys_at (E : tr_Env) {k : Nat} (hk : k < 6) : (tr_tys E)[k]? = some (eA E k, tr_aty k) := by
  rcases (show k = 0 ∨ k = 1 ∨ k = 2 ∨ k = 3 ∨ k = 4 ∨ k = 5 by omega) with rfl | rfl | rfl | rfl | rfl | rfl <;> rfl
theorem arrV_congr {cA : ClassId} {n : Nat} {f g : Nat → Value} (h : ∀ j, j < n → f j = g j) : arrV cA n f = arrV cA n g := by
  unfold arrV
  congr 2
  funext j
  exact h j.val j.isLt
/-- the cell of an array behind a store -/
theorem tr_acell {E : tr_Env} {h h' : tr_H} {H H' : Heap} {r k : Nat} (hk : k < 6) (htg : ht h' (r + 1) = k + 11) (hlo : elo E ≤ r) (hH : H'[r]? = some (arrV (eA E k) (hn h' (r + 1)) (fun j => tr_ev k (hI h' (r + 1) j) (hJ h' (r + 1) j) (hR h' (r + 1) j)))) : tr_cell E h' H' r := by
  refine ⟨fun _ => (Array.getElem?_eq_some_iff.mp hH).1, fun c q g1 g2 => ?_, fun k2 g1 g2 => ?_, fun g => ?_, fun g => ?_⟩
  · exfalso
    have := (List.getElem?_eq_some_iff.mp g2).1
    simp [vwCl] at this
    omega
  · have : k2 = k := by omega
    subst this
    exact ⟨hlo, hH⟩
  · exfalso; omega
  · exfalso; omega
section TRA
variable {E : tr_Env} {M : tr_MI} {R : Room} {lc lz : Nat} {Z : List Frame → Array Value → State → State → Prop} {pc : Nat} {lv : tr_L} {st : List tr_V} {h : tr_H} {rc rs : Nat}
theorem tr_arr (ok : tr_ok E) {p : Program} {s : State} {m : MethodId} {args : Array Value} {meth : Method} {c : Code} {H : Heap} {r k : Nat} (Cx : tr_Cx E M p s m args meth c) (Rp : tr_Rep E h H) (hk : k < 6) (htg : ht h r = k + 11) :
    ∃ a, r = a + 1 ∧ elo E ≤ a ∧ H[a]? = some (arrV (eA E k) (hn h r) (fun j => tr_ev k (hI h r j) (hJ h r j) (hR h r j))) ∧ ArrOfT s (eA E k) (tr_aty k) ∧ va_RA s (eA E k) (tr_aty k) := by
  obtain ⟨a, rfl⟩ := tr_o_of Rp.1 htg
  obtain ⟨h1, h2⟩ := (Rp.2.2.1 a).2.2.1 k hk htg
  have h3 := (Cx.K ok).2 k _ (tr_tys_at E hk)
  exact ⟨a, rfl, h1, h2, h3.1, h3.2⟩
theorem tr_r_iald (ok : tr_ok E) {r : Nat} {x : Int32} (hd : decode (mB M) pc = .ok (.iaload, 1)) (htg : ht h r = 11) (hx : ixo x (hn h r)) (k : tr_W E M R lc lz Z (pc + 1) lv (.inl (hI h r (ixn x)) :: st) h rc rs) : tr_W E M R lc lz Z pc lv (.inl x :: .inr (.inr r) :: st) h rc rs := by
  intro p e s m args below meth c H locs cells slots ls Cx Rp hS hl hc hs
  obtain ⟨a, rfl, hlo, hH, hA, hRA⟩ := tr_arr ok (k := 0) Cx Rp (by decide) htg
  have hin := tr_in_of hx
  have hlt : x.toNatClampNeg < hn h (a + 1) := Nat.not_le.mp fun q => hin (Or.inr q)
  exact W.iald (v := tr_cv (.inl (hI h (a + 1) (ixn x)))) Cx.1 Cx.2.1 hH (hA _ _) (fun q => by cases q) (by rw [arrV_size]; exact hin) (by rw [arrV_read _ _ hlt]; rfl) rfl rfl hd (k p e s m args below meth c H locs cells slots ls Cx Rp hS hl hc hs)
theorem tr_r_bald (ok : tr_ok E) {r : Nat} {x : Int32} (hd : decode (mB M) pc = .ok (.baload, 1)) (htg : ht h r = 12) (hx : ixo x (hn h r)) (k : tr_W E M R lc lz Z (pc + 1) lv (.inl (hI h r (ixn x)) :: st) h rc rs) : tr_W E M R lc lz Z pc lv (.inl x :: .inr (.inr r) :: st) h rc rs := by
  intro p e s m args below meth c H locs cells slots ls Cx Rp hS hl hc hs
  obtain ⟨a, rfl, hlo, hH, hA, hRA⟩ := tr_arr ok (k := 1) Cx Rp (by decide) htg
  have hin := tr_in_of hx
  have hlt : x.toNatClampNeg < hn h (a + 1) := Nat.not_le.mp fun q => hin (Or.inr q)
  exact W.bald (v := tr_cv (.inl (hI h (a + 1) (ixn x)))) Cx.1 Cx.2.1 hH (hA _ _) (fun q => by cases q) (by rw [arrV_size]; exact hin) (by rw [arrV_read _ _ hlt]; rfl) rfl rfl hd (k p e s m args below meth c H locs cells slots ls Cx Rp hS hl hc hs)
theorem tr_r_zald (ok : tr_ok E) {r : Nat} {x : Int32} (hd : decode (mB M) pc = .ok (.baload, 1)) (htg : ht h r = 13) (hx : ixo x (hn h r)) (k : tr_W E M R lc lz Z (pc + 1) lv (.inl (hI h r (ixn x)) :: st) h rc rs) : tr_W E M R lc lz Z pc lv (.inl x :: .inr (.inr r) :: st) h rc rs := by
  intro p e s m args below meth c H locs cells slots ls Cx Rp hS hl hc hs
  obtain ⟨a, rfl, hlo, hH, hA, hRA⟩ := tr_arr ok (k := 2) Cx Rp (by decide) htg
  have hin := tr_in_of hx
  have hlt : x.toNatClampNeg < hn h (a + 1) := Nat.not_le.mp fun q => hin (Or.inr q)
  exact W.zald (v := tr_cv (.inl (hI h (a + 1) (ixn x)))) Cx.1 Cx.2.1 hH (hA _ _) (fun q => by cases q) (by rw [arrV_size]; exact hin) (by rw [arrV_read _ _ hlt]; rfl) rfl rfl hd (k p e s m args below meth c H locs cells slots ls Cx Rp hS hl hc hs)
theorem tr_r_lald (ok : tr_ok E) {r : Nat} {x : Int32} (hd : decode (mB M) pc = .ok (.laload, 1)) (htg : ht h r = 14) (hx : ixo x (hn h r)) (k : tr_W E M R lc lz Z (pc + 1) lv (.inr (.inl (hJ h r (ixn x))) :: st) h rc rs) : tr_W E M R lc lz Z pc lv (.inl x :: .inr (.inr r) :: st) h rc rs := by
  intro p e s m args below meth c H locs cells slots ls Cx Rp hS hl hc hs
  obtain ⟨a, rfl, hlo, hH, hA, hRA⟩ := tr_arr ok (k := 3) Cx Rp (by decide) htg
  have hin := tr_in_of hx
  have hlt : x.toNatClampNeg < hn h (a + 1) := Nat.not_le.mp fun q => hin (Or.inr q)
  exact W.lald (v := tr_cv (.inr (.inl (hJ h (a + 1) (ixn x))))) Cx.1 Cx.2.1 hH (hA _ _) (fun q => by cases q) (by rw [arrV_size]; exact hin) (by rw [arrV_read _ _ hlt]; rfl) rfl rfl hd (k p e s m args below meth c H locs cells slots ls Cx Rp hS hl hc hs)
theorem tr_r_aald4 (ok : tr_ok E) {r : Nat} {x : Int32} (hd : decode (mB M) pc = .ok (.aaload, 1)) (htg : ht h r = 15) (hx : ixo x (hn h r)) (k : tr_W E M R lc lz Z (pc + 1) lv (.inr (.inr (hR h r (ixn x))) :: st) h rc rs) : tr_W E M R lc lz Z pc lv (.inl x :: .inr (.inr r) :: st) h rc rs := by
  intro p e s m args below meth c H locs cells slots ls Cx Rp hS hl hc hs
  obtain ⟨a, rfl, hlo, hH, hA, hRA⟩ := tr_arr ok (k := 4) Cx Rp (by decide) htg
  have hin := tr_in_of hx
  have hlt : x.toNatClampNeg < hn h (a + 1) := Nat.not_le.mp fun q => hin (Or.inr q)
  exact W.aald (v := tr_cv (.inr (.inr (hR h (a + 1) (ixn x))))) Cx.1 Cx.2.1 hH (hA _ _) rfl (fun q => by cases q) (by rw [arrV_size]; exact hin) (by rw [arrV_read _ _ hlt]; rfl) rfl rfl hd (k p e s m args below meth c H locs cells slots ls Cx Rp hS hl hc hs)
theorem tr_r_aald5 (ok : tr_ok E) {r : Nat} {x : Int32} (hd : decode (mB M) pc = .ok (.aaload, 1)) (htg : ht h r = 16) (hx : ixo x (hn h r)) (k : tr_W E M R lc lz Z (pc + 1) lv (.inr (.inr (hR h r (ixn x))) :: st) h rc rs) : tr_W E M R lc lz Z pc lv (.inl x :: .inr (.inr r) :: st) h rc rs := by
  intro p e s m args below meth c H locs cells slots ls Cx Rp hS hl hc hs
  obtain ⟨a, rfl, hlo, hH, hA, hRA⟩ := tr_arr ok (k := 5) Cx Rp (by decide) htg
  have hin := tr_in_of hx
  have hlt : x.toNatClampNeg < hn h (a + 1) := Nat.not_le.mp fun q => hin (Or.inr q)
  exact W.aald (v := tr_cv (.inr (.inr (hR h (a + 1) (ixn x))))) Cx.1 Cx.2.1 hH (hA _ _) rfl (fun q => by cases q) (by rw [arrV_size]; exact hin) (by rw [arrV_read _ _ hlt]; rfl) rfl rfl hd (k p e s m args below meth c H locs cells slots ls Cx Rp hS hl hc hs)
theorem tr_r_sald (ok : tr_ok E) {r : Nat} {x : Int32} (hd : decode (mB M) pc = .ok (.iaload, 1)) (htg : ht h r = 17) (hx : ixo x (hn h r)) (k : tr_W E M R lc lz Z (pc + 1) lv (.inl (hI h r (ixn x)) :: st) h rc rs) : tr_W E M R lc lz Z pc lv (.inl x :: .inr (.inr r) :: st) h rc rs := by
  intro p e s m args below meth c H locs cells slots ls Cx Rp hS hl hc hs
  obtain ⟨a, rfl⟩ := tr_o_of Rp.1 htg
  obtain ⟨h1, h2, h3⟩ := (Rp.2.2.1 a).2.2.2.1 htg
  rw [h2] at hx
  have hin := tr_in_of hx
  have hlt : x.toNatClampNeg < eN E := Nat.not_le.mp fun q => hin (Or.inr q)
  have hsc := va_X.moved Cx.2.2.2.2.2.1.alike ok.2.2.1
  obtain ⟨scr, g1, g2, g3, g4, g5⟩ := hsc
  have hcell : H[a]? = some scr := by rw [h1, Rp.2.1.2 _ ok.2.2.2.1]; exact g1
  have hv : scr.slots[x.toNatClampNeg]? = some (tr_cv (.inl (hI h (a + 1) (ixn x)))) := by rw [g5 _ hlt]; show _ = some (Value.int (hI h (a + 1) x.toNatClampNeg)); rw [h3 _ hlt]
  exact W.iald (v := tr_cv (.inl (hI h (a + 1) (ixn x)))) Cx.1 Cx.2.1 hcell g2 g3 (by rw [g4]; exact hin) hv rfl rfl hd (k p e s m args below meth c H locs cells slots ls Cx Rp hS hl hc hs)
theorem tr_r_slen (ok : tr_ok E) {r : Nat} (hd : decode (mB M) pc = .ok (.arraylength, 1)) (htg : ht h r = 17) (k : tr_W E M R lc lz Z (pc + 1) lv (.inl (ii (hn h r : Nat)) :: st) h rc rs) : tr_W E M R lc lz Z pc lv (.inr (.inr r) :: st) h rc rs := by
  intro p e s m args below meth c H locs cells slots ls Cx Rp hS hl hc hs
  obtain ⟨a, rfl⟩ := tr_o_of Rp.1 htg
  obtain ⟨h1, h2, h3⟩ := (Rp.2.2.1 a).2.2.2.1 htg
  have hsc := va_X.moved Cx.2.2.2.2.2.1.alike ok.2.2.1
  obtain ⟨scr, g1, g2, g3, g4, g5⟩ := hsc
  have hcell : H[a]? = some scr := by rw [h1, Rp.2.1.2 _ ok.2.2.2.1]; exact g1
  refine W.alen (n := ii (hn h (a + 1) : Nat)) Cx.1 Cx.2.1 hcell g2 (by rw [g4, h2, tr_iiN]) rfl rfl hd (k p e s m args below meth c H locs cells slots ls Cx Rp hS hl hc hs)
theorem tr_r_alen0 (ok : tr_ok E) {r : Nat} (hd : decode (mB M) pc = .ok (.arraylength, 1)) (htg : ht h r = 11) (k : tr_W E M R lc lz Z (pc + 1) lv (.inl (ii (hn h r : Nat)) :: st) h rc rs) : tr_W E M R lc lz Z pc lv (.inr (.inr r) :: st) h rc rs := by
  intro p e s m args below meth c H locs cells slots ls Cx Rp hS hl hc hs
  obtain ⟨a, rfl, hlo, hH, hA, hRA⟩ := tr_arr ok (k := 0) Cx Rp (by decide) htg
  exact W.alen (n := ii (hn h (a + 1) : Nat)) Cx.1 Cx.2.1 hH (hA _ _) (by rw [arrV_size, tr_iiN]) rfl rfl hd (k p e s m args below meth c H locs cells slots ls Cx Rp hS hl hc hs)
theorem tr_r_alen1 (ok : tr_ok E) {r : Nat} (hd : decode (mB M) pc = .ok (.arraylength, 1)) (htg : ht h r = 12) (k : tr_W E M R lc lz Z (pc + 1) lv (.inl (ii (hn h r : Nat)) :: st) h rc rs) : tr_W E M R lc lz Z pc lv (.inr (.inr r) :: st) h rc rs := by
  intro p e s m args below meth c H locs cells slots ls Cx Rp hS hl hc hs
  obtain ⟨a, rfl, hlo, hH, hA, hRA⟩ := tr_arr ok (k := 1) Cx Rp (by decide) htg
  exact W.alen (n := ii (hn h (a + 1) : Nat)) Cx.1 Cx.2.1 hH (hA _ _) (by rw [arrV_size, tr_iiN]) rfl rfl hd (k p e s m args below meth c H locs cells slots ls Cx Rp hS hl hc hs)
theorem tr_r_alen2 (ok : tr_ok E) {r : Nat} (hd : decode (mB M) pc = .ok (.arraylength, 1)) (htg : ht h r = 13) (k : tr_W E M R lc lz Z (pc + 1) lv (.inl (ii (hn h r : Nat)) :: st) h rc rs) : tr_W E M R lc lz Z pc lv (.inr (.inr r) :: st) h rc rs := by
  intro p e s m args below meth c H locs cells slots ls Cx Rp hS hl hc hs
  obtain ⟨a, rfl, hlo, hH, hA, hRA⟩ := tr_arr ok (k := 2) Cx Rp (by decide) htg
  exact W.alen (n := ii (hn h (a + 1) : Nat)) Cx.1 Cx.2.1 hH (hA _ _) (by rw [arrV_size, tr_iiN]) rfl rfl hd (k p e s m args below meth c H locs cells slots ls Cx Rp hS hl hc hs)
theorem tr_r_alen3 (ok : tr_ok E) {r : Nat} (hd : decode (mB M) pc = .ok (.arraylength, 1)) (htg : ht h r = 14) (k : tr_W E M R lc lz Z (pc + 1) lv (.inl (ii (hn h r : Nat)) :: st) h rc rs) : tr_W E M R lc lz Z pc lv (.inr (.inr r) :: st) h rc rs := by
  intro p e s m args below meth c H locs cells slots ls Cx Rp hS hl hc hs
  obtain ⟨a, rfl, hlo, hH, hA, hRA⟩ := tr_arr ok (k := 3) Cx Rp (by decide) htg
  exact W.alen (n := ii (hn h (a + 1) : Nat)) Cx.1 Cx.2.1 hH (hA _ _) (by rw [arrV_size, tr_iiN]) rfl rfl hd (k p e s m args below meth c H locs cells slots ls Cx Rp hS hl hc hs)
theorem tr_r_iast (ok : tr_ok E) {r : Nat} {x : Int32} {v : Int32} (hd : decode (mB M) pc = .ok (.iastore, 1)) (htg : ht h r = 11) (hx : ixo x (hn h r)) (k : tr_W E M R lc lz Z (pc + 1) lv st (hsI h r (ixn x) v) rc rs) : tr_W E M R lc lz Z pc lv (.inl v :: .inl x :: .inr (.inr r) :: st) h rc rs := by
  intro p e s m args below meth c H locs cells slots ls Cx Rp hS hl hc hs
  obtain ⟨a, rfl, hlo, hH, hA, hRA⟩ := tr_arr ok (k := 0) Cx Rp (by decide) htg
  have hin := tr_in_of hx
  refine W.iast Cx.1 Cx.2.1 hH (hA _ _) (fun q => by cases q) (by rw [arrV_size]; exact hin) rfl rfl hd fun H1 e1 z oq => ?_
  refine k p e s m args below meth c H1 _ cells slots ls Cx (Rp.upd (by rw [htg]; decide) tr_ag_I hlo z oq (tr_acell (h := h) (H := H) (k := 0) (by decide) htg hlo ?_)) (tr_S.put hS z oq hlo) hl hc hs
  rw [e1, arrV_store]
  refine congrArg some (arrV_congr fun j _ => ?_)
  show updV _ (ixn x) _ j = tr_ev 0 (up2 (hI h) (a + 1) (ixn x) v (a + 1) j) _ _
  rw [up2_eq]
  by_cases hj : j = ixn x
  · subst hj; simp [updV, tr_ev, tr_by, tr_nb, vp_nar] <;> rfl
  · simp [updV, hj, tr_ev]
theorem tr_r_bast (ok : tr_ok E) {r : Nat} {x : Int32} {v : Int32} (hd : decode (mB M) pc = .ok (.bastore, 1)) (htg : ht h r = 12) (hx : ixo x (hn h r)) (k : tr_W E M R lc lz Z (pc + 1) lv st (hsI h r (ixn x) (tr_by v)) rc rs) : tr_W E M R lc lz Z pc lv (.inl v :: .inl x :: .inr (.inr r) :: st) h rc rs := by
  intro p e s m args below meth c H locs cells slots ls Cx Rp hS hl hc hs
  obtain ⟨a, rfl, hlo, hH, hA, hRA⟩ := tr_arr ok (k := 1) Cx Rp (by decide) htg
  have hin := tr_in_of hx
  refine W.bast Cx.1 Cx.2.1 hH (hA _ _) (fun q => by cases q) (by rw [arrV_size]; exact hin) rfl rfl hd fun H1 e1 z oq => ?_
  refine k p e s m args below meth c H1 _ cells slots ls Cx (Rp.upd (by rw [htg]; decide) tr_ag_I hlo z oq (tr_acell (h := h) (H := H) (k := 1) (by decide) htg hlo ?_)) (tr_S.put hS z oq hlo) hl hc hs
  rw [e1, arrV_store]
  refine congrArg some (arrV_congr fun j _ => ?_)
  show updV _ (ixn x) _ j = tr_ev 1 (up2 (hI h) (a + 1) (ixn x) (tr_by v) (a + 1) j) _ _
  rw [up2_eq]
  by_cases hj : j = ixn x
  · subst hj; simp [updV, tr_ev, tr_by, tr_nb, vp_nar] <;> rfl
  · simp [updV, hj, tr_ev]
theorem tr_r_zast (ok : tr_ok E) {r : Nat} {x : Int32} {v : Int32} (hd : decode (mB M) pc = .ok (.bastore, 1)) (htg : ht h r = 13) (hx : ixo x (hn h r)) (k : tr_W E M R lc lz Z (pc + 1) lv st (hsI h r (ixn x) (tr_nb v)) rc rs) : tr_W E M R lc lz Z pc lv (.inl v :: .inl x :: .inr (.inr r) :: st) h rc rs := by
  intro p e s m args below meth c H locs cells slots ls Cx Rp hS hl hc hs
  obtain ⟨a, rfl, hlo, hH, hA, hRA⟩ := tr_arr ok (k := 2) Cx Rp (by decide) htg
  have hin := tr_in_of hx
  refine W.zast Cx.1 Cx.2.1 hH (hA _ _) (fun q => by cases q) (by rw [arrV_size]; exact hin) rfl rfl hd fun H1 e1 z oq => ?_
  refine k p e s m args below meth c H1 _ cells slots ls Cx (Rp.upd (by rw [htg]; decide) tr_ag_I hlo z oq (tr_acell (h := h) (H := H) (k := 2) (by decide) htg hlo ?_)) (tr_S.put hS z oq hlo) hl hc hs
  rw [e1, arrV_store]
  refine congrArg some (arrV_congr fun j _ => ?_)
  show updV _ (ixn x) _ j = tr_ev 2 (up2 (hI h) (a + 1) (ixn x) (tr_nb v) (a + 1) j) _ _
  rw [up2_eq]
  by_cases hj : j = ixn x
  · subst hj; simp [updV, tr_ev, tr_by, tr_nb, vp_nar] <;> rfl
  · simp [updV, hj, tr_ev]
theorem tr_r_last (ok : tr_ok E) {r : Nat} {x : Int32} {v : Int64} (hd : decode (mB M) pc = .ok (.lastore, 1)) (htg : ht h r = 14) (hx : ixo x (hn h r)) (k : tr_W E M R lc lz Z (pc + 1) lv st (hsJ h r (ixn x) v) rc rs) : tr_W E M R lc lz Z pc lv (.inr (.inl v) :: .inl x :: .inr (.inr r) :: st) h rc rs := by
  intro p e s m args below meth c H locs cells slots ls Cx Rp hS hl hc hs
  obtain ⟨a, rfl, hlo, hH, hA, hRA⟩ := tr_arr ok (k := 3) Cx Rp (by decide) htg
  have hin := tr_in_of hx
  refine W.last Cx.1 Cx.2.1 hH (hA _ _) (fun q => by cases q) (by rw [arrV_size]; exact hin) rfl rfl hd fun H1 e1 z oq => ?_
  refine k p e s m args below meth c H1 _ cells slots ls Cx (Rp.upd (by rw [htg]; decide) tr_ag_J hlo z oq (tr_acell (h := h) (H := H) (k := 3) (by decide) htg hlo ?_)) (tr_S.put hS z oq hlo) hl hc hs
  rw [e1, arrV_store]
  refine congrArg some (arrV_congr fun j _ => ?_)
  show updV _ (ixn x) _ j = tr_ev 3 _ (up2 (hJ h) (a + 1) (ixn x) v (a + 1) j) _
  rw [up2_eq]
  by_cases hj : j = ixn x
  · subst hj; simp [updV, tr_ev, tr_by, tr_nb, vp_nar] <;> rfl
  · simp [updV, hj, tr_ev]
theorem tr_r_aast4 (ok : tr_ok E) {r v : Nat} {x : Int32} (hd : decode (mB M) pc = .ok (.aastore, 1)) (htg : ht h r = 15) (hx : ixo x (hn h r)) (hv : ht h v = 7) (k : tr_W E M R lc lz Z (pc + 1) lv st (hsR h r (ixn x) v) rc rs) : tr_W E M R lc lz Z pc lv (.inr (.inr v) :: .inl x :: .inr (.inr r) :: st) h rc rs := by
  intro p e s m args below meth c H locs cells slots ls Cx Rp hS hl hc hs
  obtain ⟨a, rfl, hlo, hH, hA, hRA⟩ := tr_arr ok (k := 4) Cx Rp (by decide) htg
  obtain ⟨w, rfl⟩ := tr_o_of Rp.1 hv
  have hin := tr_in_of hx
  have hlt : x.toNatClampNeg < hn h (a + 1) := Nat.not_le.mp fun q => hin (Or.inr q)
  have h0 : ¬ x < 0 := fun q => hin (Or.inl q)
  obtain ⟨-, cellV, g1, g2, g3, -⟩ := (Rp.2.2.1 w).2.1 6 _ hv rfl
  have hcls := ((Cx.K ok).1 6 _ rfl).2
  obtain ⟨kA, comp, k1, k2, k3, -⟩ := hRA
  have hcomp : comp = (eD E).1 6 := Option.some.inj (k3.symm.trans hcls.1)
  subst hcomp
  obtain ⟨kC, hkC, -⟩ := hcls.2
  refine W.aast Cx.1 Cx.2.1 hH (fun q g => by cases g) (fun g => by cases g) k1 k2 rfl hkC ⟨h0, by rw [arrV_size]; exact hlt⟩ g1 (fun q g => by rw [g3] at g; cases g) (by rw [g2]; exact hkC) (by rw [g2]; exact va_assign hcls) rfl rfl hd fun H1 e1 z oq => ?_
  refine k p e s m args below meth c H1 _ cells slots ls Cx (Rp.upd (by rw [htg]; decide) tr_ag_R hlo z oq (tr_acell (h := h) (H := H) (k := 4) (by decide) htg hlo ?_)) (tr_S.put hS z oq hlo) hl hc hs
  rw [e1, arrV_store]
  refine congrArg some (arrV_congr fun j _ => ?_)
  show updV _ (ixn x) _ j = tr_ev 4 _ _ (up2 (hR h) (a + 1) (ixn x) (w + 1) (a + 1) j)
  rw [up2_eq]
  by_cases hj : j = ixn x
  · subst hj; simp [updV, tr_ev, va_rf, tr_o]
  · simp [updV, hj, tr_ev]
theorem tr_r_aast5 (ok : tr_ok E) {r v : Nat} {x : Int32} (hd : decode (mB M) pc = .ok (.aastore, 1)) (htg : ht h r = 16) (hx : ixo x (hn h r)) (hv : ht h v = 4) (k : tr_W E M R lc lz Z (pc + 1) lv st (hsR h r (ixn x) v) rc rs) : tr_W E M R lc lz Z pc lv (.inr (.inr v) :: .inl x :: .inr (.inr r) :: st) h rc rs := by
  intro p e s m args below meth c H locs cells slots ls Cx Rp hS hl hc hs
  obtain ⟨a, rfl, hlo, hH, hA, hRA⟩ := tr_arr ok (k := 5) Cx Rp (by decide) htg
  obtain ⟨w, rfl⟩ := tr_o_of Rp.1 hv
  have hin := tr_in_of hx
  have hlt : x.toNatClampNeg < hn h (a + 1) := Nat.not_le.mp fun q => hin (Or.inr q)
  have h0 : ¬ x < 0 := fun q => hin (Or.inl q)
  obtain ⟨-, cellV, g1, g2, g3, -⟩ := (Rp.2.2.1 w).2.1 3 _ hv rfl
  have hcls := ((Cx.K ok).1 3 _ rfl).2
  obtain ⟨kA, comp, k1, k2, k3, -⟩ := hRA
  have hcomp : comp = (eD E).1 3 := Option.some.inj (k3.symm.trans hcls.1)
  subst hcomp
  obtain ⟨kC, hkC, -⟩ := hcls.2
  refine W.aast Cx.1 Cx.2.1 hH (fun q g => by cases g) (fun g => by cases g) k1 k2 rfl hkC ⟨h0, by rw [arrV_size]; exact hlt⟩ g1 (fun q g => by rw [g3] at g; cases g) (by rw [g2]; exact hkC) (by rw [g2]; exact va_assign hcls) rfl rfl hd fun H1 e1 z oq => ?_
  refine k p e s m args below meth c H1 _ cells slots ls Cx (Rp.upd (by rw [htg]; decide) tr_ag_R hlo z oq (tr_acell (h := h) (H := H) (k := 5) (by decide) htg hlo ?_)) (tr_S.put hS z oq hlo) hl hc hs
  rw [e1, arrV_store]
  refine congrArg some (arrV_congr fun j _ => ?_)
  show updV _ (ixn x) _ j = tr_ev 5 _ _ (up2 (hR h) (a + 1) (ixn x) (w + 1) (a + 1) j)
  rw [up2_eq]
  by_cases hj : j = ixn x
  · subst hj; simp [updV, tr_ev, va_rf, tr_o]
  · simp [updV, hj, tr_ev]
theorem tr_fresh {E : tr_Env} {h : tr_H} {H : Heap} (q : tr_Rep E h H) : ht h (H.size + 1) = 0 := by
  rcases Nat.eq_zero_or_pos (ht h (H.size + 1)) with g | g
  · exact g
  · exact absurd ((q.2.2.1 H.size).1 (by omega)) (by omega)
/-- a new cell: the heap behind it -/
theorem tr_Rep.push {E : tr_Env} {h : tr_H} {H H' : Heap} {t n : Nat} (q : tr_Rep E h H) (hz : H'.size = H.size + 1) (ho : ∀ x, x < H.size → H'[x]? = H[x]?) (hc : tr_cell E (hnw h (H.size + 1) t n) H' H.size) : tr_Rep E (hnw h (H.size + 1) t n) H' := by
  have hfr := tr_fresh q
  obtain ⟨a1, ⟨a2, a3⟩, a4, a5⟩ := q
  refine ⟨?_, ⟨by omega, fun x hx => by rw [ho x (by omega)]; exact a3 x hx⟩, fun x => ?_, fun j hj => ?_⟩
  · show up1 (ht h) (H.size + 1) t 0 = 0
    rw [up1_ne (by omega)]; exact a1
  · by_cases hx : x = H.size
    · subst hx; exact hc
    · have hne : x + 1 ≠ H.size + 1 := by omega
      rcases Nat.lt_or_ge x H.size with hl | hl
      · exact (a4 x).kept (up1_ne hne) (up1_ne hne) (up1_ne hne) (up1_ne hne) (up1_ne hne) (ho x hl) (by omega)
      · have h0 : ht h (x + 1) = 0 := by
          rcases Nat.eq_zero_or_pos (ht h (x + 1)) with g | g
          · exact g
          · exact absurd ((a4 x).1 (by omega)) (by omega)
        have h1 : ht (hnw h (H.size + 1) t n) (x + 1) = 0 := (up1_ne hne).trans h0
        refine ⟨fun g => absurd h1 g, fun c q g => ?_, fun k g1 g => ?_, fun g => ?_, fun g => ?_⟩ <;> (rw [h1] at g; first | omega | cases g)
  · have hne : eT E j ≠ H.size + 1 := fun g => by
      have h2 := (a5 j hj).1
      rw [g, hfr] at h2
      cases h2
    exact (a5 j hj).kept (up1_ne hne) (up1_ne hne) (up1_ne hne)
theorem tr_S.push {E : tr_Env} {s : State} {H H' : Heap} {locs : List Loc} (h : va_S (eO E) s.heap H locs) (hz : H'.size = H.size + 1) (ho : ∀ x, x < H.size → H'[x]? = H[x]?) : va_S (eO E) s.heap H' locs :=
  ⟨by have := h.1; omega, fun x h1 h2 => by rw [ho x (Nat.lt_of_lt_of_le h1 h.1)]; exact h.2.1 x h1 h2, h.2.2⟩
theorem tr_dv {ty : FieldType} (h : tr_pl ty = true ∨ ty = .boolean ∨ ty = .byte) : defaultValue ty = tr_fv ty 0 0 0 := by
  cases ty <;> first | rfl | (rcases h with h | h | h <;> first | cases h | exact absurd h (by decide))
theorem tr_pls {c : Nat} {q : vw_C} (hq : vwCl[c]? = some q) : ∀ k, tr_pl (tr_ty c k) = true := tr_cl9 (P := fun c q => ∀ k, tr_pl (tr_ty c k) = true) (by intro k; show tr_pl (tyX0 k) = true; unfold tyX0; split <;> rfl) (by intro k; show tr_pl (tyX1 k) = true; unfold tyX1; split <;> rfl) (by intro k; show tr_pl (tyX2 k) = true; unfold tyX2; split <;> rfl) (by intro k; show tr_pl (tyX3 k) = true; unfold tyX3; split <;> rfl) (by intro k; show tr_pl (tyX4 k) = true; unfold tyX4; split <;> rfl) (by intro k; show tr_pl (tyX5 k) = true; unfold tyX5; split <;> rfl) (by intro k; show tr_pl (tyX6 k) = true; unfold tyX6; split <;> rfl) (by intro k; show tr_pl (tyX7 k) = true; unfold tyX7; split <;> rfl) (by intro k; show tr_pl (tyX8 k) = true; unfold tyX8; split <;> rfl) hq

theorem tr_r_new (ok : tr_ok E) (hlc : lc ≤ R.cells) (hlz : lz ≤ R.slots) {idx ci N : Nat} {q : vw_C} (hd : decode (mB M) pc = .ok (.new idx, 3)) (hq : vwCl[ci]? = some q) (hN : q.2.2 = N) (hw : Cond.classLink (mY M).cls idx q.1 ∈ tr_LW) (hrc : 1 ≤ rc) (hrs : N ≤ rs)
    (k : ∀ r, r ≠ 0 → ht h r = 0 → tr_W E M R lc lz Z (pc + 3) lv (.inr (.inr r) :: st) (hnw h r (ci + 1) 0) (rc - 1) (rs - N)) : tr_W E M R lc lz Z pc lv st h rc rs := by
  intro p e s m args below meth c H locs cells slots ls Cx Rp hS hl hc hs
  subst hN
  have hK := Cx.K ok
  obtain ⟨hX, hB, hML, hown, hts, hW, -⟩ := id Cx
  have hKn := hK.1 ci _ hq
  refine W.newcK hX hB hown (hts _ hw) (hts _ (tr_inst_in _ (List.mem_map.mpr ⟨q, List.mem_of_getElem? hq, rfl⟩))) (hts _ (tr_ini_in _ (List.mem_map.mpr ⟨q, List.mem_of_getElem? hq, rfl⟩))) rfl hd (by omega) (by omega) hKn.2.1 rfl fun H1 kC hkC e1 z1 o1 => ?_
  have hob := u_born (tr_ty ci) hts (tr_cls_in hq) hKn hkC e1 (tr_ty_ok hq)
  have hlo : elo E ≤ H.size := Rp.2.1.1
  have hci : ci < 9 := by have := (List.getElem?_eq_some_iff.mp hq).1; simpa [vwCl] using this
  refine k (H.size + 1) (by omega) (tr_fresh Rp) p e s m args below meth c H1 locs (cells + 1) (slots + q.2.2) ls Cx (Rp.push z1 o1 ⟨fun _ => by omega, fun c2 r2 g1 g2 => ?_, fun k2 g1 g2 => ?_, fun g => ?_, fun g => ?_⟩) (tr_S.push hS z1 o1) hl (by omega) (by omega)
  · have g1 : up1 (ht h) (H.size + 1) (ci + 1) (H.size + 1) = c2 + 1 := g1
    rw [up1_eq] at g1
    have hc2 : c2 = ci := by omega
    subst hc2
    cases hq.symm.trans g2
    refine ⟨hlo, hob.to fun j hj => ?_⟩
    show _ = tr_fv _ (up1 (hI h) (H.size + 1) _ (H.size + 1) j) (up1 (hJ h) (H.size + 1) _ (H.size + 1) j) (up1 (hR h) (H.size + 1) _ (H.size + 1) j)
    rw [up1_eq, up1_eq, up1_eq]
    exact tr_dv (Or.inl (tr_pls hq j))
  · have g2 : up1 (ht h) (H.size + 1) (ci + 1) (H.size + 1) = k2 + 11 := g2
    rw [up1_eq] at g2; exfalso; omega
  · have g : up1 (ht h) (H.size + 1) (ci + 1) (H.size + 1) = 17 := g
    rw [up1_eq] at g; exfalso; omega
  · have g : up1 (ht h) (H.size + 1) (ci + 1) (H.size + 1) = 18 := g
    rw [up1_eq] at g; exfalso; omega
theorem tr_RA_find {U : State} {c : ClassId} {ty : FieldType} (h : va_RA U c ty) : U.vm.findClass ("[" ++ ty.toString) = some c := by
  unfold va_RA at h
  split at h
  · obtain ⟨kA, comp, h1, h2, h3, h4⟩ := h
    exact h4
  · exact h
theorem tr_newcell {E : tr_Env} {h : tr_H} {H1 : Heap} {q k n : Nat} (hk : k < 6) (hlo : elo E ≤ q) (hH : H1[q]? = some (arrV (eA E k) n (fun _ => tr_ev k 0 0 0))) : tr_cell E (hnw h (q + 1) (k + 11) n) H1 q := by
  have e1 : ht (hnw h (q + 1) (k + 11) n) (q + 1) = k + 11 := up1_eq
  have e2 : hn (hnw h (q + 1) (k + 11) n) (q + 1) = n := up1_eq
  have e3 : hI (hnw h (q + 1) (k + 11) n) (q + 1) = fun _ => 0 := up1_eq
  have e4 : hJ (hnw h (q + 1) (k + 11) n) (q + 1) = fun _ => 0 := up1_eq
  have e5 : hR (hnw h (q + 1) (k + 11) n) (q + 1) = fun _ => 0 := up1_eq
  refine tr_acell (h := h) (H := H1) hk e1 hlo ?_
  rw [e2, e3, e4, e5]
  exact hH
theorem tr_r_newa0 (ok : tr_ok E) (hlc : lc ≤ R.cells) (hlz : lz ≤ R.slots) {n : Int32} (hd : decode (mB M) pc = .ok (.newarray .int, 2)) (hw : Cond.arrayClass (newarray.typeOf .int) ∈ tr_LW) (hn0 : 0 ≤ n.toInt) (hn1 : n.toInt ≤ 20000) (hrc : 1 ≤ rc) (hrs : ixn n ≤ rs)
    (k : ∀ r, r ≠ 0 → ht h r = 0 → tr_W E M R lc lz Z (pc + 2) lv (.inr (.inr r) :: st) (hnw h r 11 (ixn n)) (rc - 1) (rs - ixn n)) : tr_W E M R lc lz Z pc lv (.inl n :: st) h rc rs := by
  intro p e s m args below meth c H locs cells slots ls Cx Rp hS hl hc hs
  have hlt : ¬ n < 0 := by rw [Int32.lt_iff_toInt_lt]; exact Int.not_lt.mpr hn0
  have hnn : n.toNatClampNeg ≤ 20000 := by rw [Int32.toNatClampNeg]; omega
  have hbt : n.toNatClampNeg * componentBytes (newarray.typeOf .int) ≤ 536870912 := by
    have : componentBytes (newarray.typeOf .int) ≤ 8 := by decide
    exact Nat.le_trans (Nat.mul_le_mul hnn this) (by decide)
  have hrs' : n.toNatClampNeg ≤ rs := hrs
  refine va_newaK Cx.1 Cx.2.1 (Cx.2.2.2.2.1 _ hw) rfl hd rfl hlt rfl hbt (by omega) (by omega) rfl fun H1 cA e1 z1 o1 hAr hNm => ?_
  have hA := ((Cx.K ok).2 0 _ (tr_tys_at E (by decide))).2
  have hcA : cA = eA E 0 := Option.some.inj (hNm.symm.trans (tr_RA_find hA))
  subst hcA
  exact k (H.size + 1) (by omega) (tr_fresh Rp) p e s m args below meth c H1 locs (cells + 1) (slots + n.toNatClampNeg) ls Cx (Rp.push z1 o1 (tr_newcell (k := 0) (by decide) Rp.2.1.1 e1)) (tr_S.push hS z1 o1) hl (by omega) (by show _ + (rs - n.toNatClampNeg) ≤ _; omega)
theorem tr_r_newa1 (ok : tr_ok E) (hlc : lc ≤ R.cells) (hlz : lz ≤ R.slots) {n : Int32} (hd : decode (mB M) pc = .ok (.newarray .byte, 2)) (hw : Cond.arrayClass (newarray.typeOf .byte) ∈ tr_LW) (hn0 : 0 ≤ n.toInt) (hn1 : n.toInt ≤ 20000) (hrc : 1 ≤ rc) (hrs : ixn n ≤ rs)
    (k : ∀ r, r ≠ 0 → ht h r = 0 → tr_W E M R lc lz Z (pc + 2) lv (.inr (.inr r) :: st) (hnw h r 12 (ixn n)) (rc - 1) (rs - ixn n)) : tr_W E M R lc lz Z pc lv (.inl n :: st) h rc rs := by
  intro p e s m args below meth c H locs cells slots ls Cx Rp hS hl hc hs
  have hlt : ¬ n < 0 := by rw [Int32.lt_iff_toInt_lt]; exact Int.not_lt.mpr hn0
  have hnn : n.toNatClampNeg ≤ 20000 := by rw [Int32.toNatClampNeg]; omega
  have hbt : n.toNatClampNeg * componentBytes (newarray.typeOf .byte) ≤ 536870912 := by
    have : componentBytes (newarray.typeOf .byte) ≤ 8 := by decide
    exact Nat.le_trans (Nat.mul_le_mul hnn this) (by decide)
  have hrs' : n.toNatClampNeg ≤ rs := hrs
  refine va_newaK Cx.1 Cx.2.1 (Cx.2.2.2.2.1 _ hw) rfl hd rfl hlt rfl hbt (by omega) (by omega) rfl fun H1 cA e1 z1 o1 hAr hNm => ?_
  have hA := ((Cx.K ok).2 1 _ (tr_tys_at E (by decide))).2
  have hcA : cA = eA E 1 := Option.some.inj (hNm.symm.trans (tr_RA_find hA))
  subst hcA
  exact k (H.size + 1) (by omega) (tr_fresh Rp) p e s m args below meth c H1 locs (cells + 1) (slots + n.toNatClampNeg) ls Cx (Rp.push z1 o1 (tr_newcell (k := 1) (by decide) Rp.2.1.1 e1)) (tr_S.push hS z1 o1) hl (by omega) (by show _ + (rs - n.toNatClampNeg) ≤ _; omega)
theorem tr_r_newa2 (ok : tr_ok E) (hlc : lc ≤ R.cells) (hlz : lz ≤ R.slots) {n : Int32} (hd : decode (mB M) pc = .ok (.newarray .boolean, 2)) (hw : Cond.arrayClass (newarray.typeOf .boolean) ∈ tr_LW) (hn0 : 0 ≤ n.toInt) (hn1 : n.toInt ≤ 20000) (hrc : 1 ≤ rc) (hrs : ixn n ≤ rs)
    (k : ∀ r, r ≠ 0 → ht h r = 0 → tr_W E M R lc lz Z (pc + 2) lv (.inr (.inr r) :: st) (hnw h r 13 (ixn n)) (rc - 1) (rs - ixn n)) : tr_W E M R lc lz Z pc lv (.inl n :: st) h rc rs := by
  intro p e s m args below meth c H locs cells slots ls Cx Rp hS hl hc hs
  have hlt : ¬ n < 0 := by rw [Int32.lt_iff_toInt_lt]; exact Int.not_lt.mpr hn0
  have hnn : n.toNatClampNeg ≤ 20000 := by rw [Int32.toNatClampNeg]; omega
  have hbt : n.toNatClampNeg * componentBytes (newarray.typeOf .boolean) ≤ 536870912 := by
    have : componentBytes (newarray.typeOf .boolean) ≤ 8 := by decide
    exact Nat.le_trans (Nat.mul_le_mul hnn this) (by decide)
  have hrs' : n.toNatClampNeg ≤ rs := hrs
  refine va_newaK Cx.1 Cx.2.1 (Cx.2.2.2.2.1 _ hw) rfl hd rfl hlt rfl hbt (by omega) (by omega) rfl fun H1 cA e1 z1 o1 hAr hNm => ?_
  have hA := ((Cx.K ok).2 2 _ (tr_tys_at E (by decide))).2
  have hcA : cA = eA E 2 := Option.some.inj (hNm.symm.trans (tr_RA_find hA))
  subst hcA
  exact k (H.size + 1) (by omega) (tr_fresh Rp) p e s m args below meth c H1 locs (cells + 1) (slots + n.toNatClampNeg) ls Cx (Rp.push z1 o1 (tr_newcell (k := 2) (by decide) Rp.2.1.1 e1)) (tr_S.push hS z1 o1) hl (by omega) (by show _ + (rs - n.toNatClampNeg) ≤ _; omega)
theorem tr_r_newa3 (ok : tr_ok E) (hlc : lc ≤ R.cells) (hlz : lz ≤ R.slots) {n : Int32} (hd : decode (mB M) pc = .ok (.newarray .long, 2)) (hw : Cond.arrayClass (newarray.typeOf .long) ∈ tr_LW) (hn0 : 0 ≤ n.toInt) (hn1 : n.toInt ≤ 20000) (hrc : 1 ≤ rc) (hrs : ixn n ≤ rs)
    (k : ∀ r, r ≠ 0 → ht h r = 0 → tr_W E M R lc lz Z (pc + 2) lv (.inr (.inr r) :: st) (hnw h r 14 (ixn n)) (rc - 1) (rs - ixn n)) : tr_W E M R lc lz Z pc lv (.inl n :: st) h rc rs := by
  intro p e s m args below meth c H locs cells slots ls Cx Rp hS hl hc hs
  have hlt : ¬ n < 0 := by rw [Int32.lt_iff_toInt_lt]; exact Int.not_lt.mpr hn0
  have hnn : n.toNatClampNeg ≤ 20000 := by rw [Int32.toNatClampNeg]; omega
  have hbt : n.toNatClampNeg * componentBytes (newarray.typeOf .long) ≤ 536870912 := by
    have : componentBytes (newarray.typeOf .long) ≤ 8 := by decide
    exact Nat.le_trans (Nat.mul_le_mul hnn this) (by decide)
  have hrs' : n.toNatClampNeg ≤ rs := hrs
  refine va_newaK Cx.1 Cx.2.1 (Cx.2.2.2.2.1 _ hw) rfl hd rfl hlt rfl hbt (by omega) (by omega) rfl fun H1 cA e1 z1 o1 hAr hNm => ?_
  have hA := ((Cx.K ok).2 3 _ (tr_tys_at E (by decide))).2
  have hcA : cA = eA E 3 := Option.some.inj (hNm.symm.trans (tr_RA_find hA))
  subst hcA
  exact k (H.size + 1) (by omega) (tr_fresh Rp) p e s m args below meth c H1 locs (cells + 1) (slots + n.toNatClampNeg) ls Cx (Rp.push z1 o1 (tr_newcell (k := 3) (by decide) Rp.2.1.1 e1)) (tr_S.push hS z1 o1) hl (by omega) (by show _ + (rs - n.toNatClampNeg) ≤ _; omega)
theorem tr_r_newq4 (ok : tr_ok E) (hlc : lc ≤ R.cells) (hlz : lz ≤ R.slots) {idx : Nat} {n : Int32} (hd : decode (mB M) pc = .ok (.anewarray idx, 3)) (hw : Cond.classLink (mY M).cls idx RX6 ∈ tr_LW) (ho : ∀ (A : Array Value) (U : State), (eS E).WarmedH U.vm → (Cond.arrayOver (.object RX6)).before A U = true) (hn0 : 0 ≤ n.toInt) (hn1 : n.toInt ≤ 20000) (hrc : 1 ≤ rc) (hrs : ixn n ≤ rs)
    (k : ∀ r, r ≠ 0 → ht h r = 0 → tr_W E M R lc lz Z (pc + 3) lv (.inr (.inr r) :: st) (hnw h r 15 (ixn n)) (rc - 1) (rs - ixn n)) : tr_W E M R lc lz Z pc lv (.inl n :: st) h rc rs := by
  intro p e s m args below meth c H locs cells slots ls Cx Rp hS hl hc hs
  have hlt : ¬ n < 0 := by rw [Int32.lt_iff_toInt_lt]; exact Int.not_lt.mpr hn0
  have hnn : n.toNatClampNeg ≤ 20000 := by rw [Int32.toNatClampNeg]; omega
  have hrs' : n.toNatClampNeg ≤ rs := hrs
  refine W.anew Cx.1 Cx.2.1 Cx.2.2.2.1 (Cx.2.2.2.2.1 _ hw) (ho _ _ Cx.2.2.2.2.2.1) rfl hd rfl hlt (by omega) (by omega) (by omega) fun cA kA comp f1 f2 f3 f4 => ?_
  generalize hH1 : H.push ({ cls := cA, slots := Array.replicate n.toNatClampNeg .null, vm := .none } : Cell) = H1
  have z1 : H1.size = H.size + 1 := by rw [← hH1, Array.size_push]
  have e1 : H1[H.size]? = some (arrV cA n.toNatClampNeg (fun _ => .null)) := by rw [← hH1, Array.getElem?_push_size, ← arrV_new]
  have o1 : ∀ q : Nat, q < H.size → H1[q]? = H[q]? := fun q hq => by rw [← hH1, Array.getElem?_push, if_neg (Nat.ne_of_lt hq)]
  have hA := ((Cx.K ok).2 4 _ (tr_tys_at E (by decide))).2
  have hcA : cA = eA E 4 := Option.some.inj (f1.symm.trans (tr_RA_find hA))
  subst hcA
  exact k (H.size + 1) (by omega) (tr_fresh Rp) p e s m args below meth c H1 locs (cells + 1) (slots + n.toNatClampNeg) ls Cx (Rp.push z1 o1 (tr_newcell (k := 4) (by decide) Rp.2.1.1 e1)) (tr_S.push hS z1 o1) hl (by omega) (by show _ + (rs - n.toNatClampNeg) ≤ _; omega)
theorem tr_r_newq5 (ok : tr_ok E) (hlc : lc ≤ R.cells) (hlz : lz ≤ R.slots) {idx : Nat} {n : Int32} (hd : decode (mB M) pc = .ok (.anewarray idx, 3)) (hw : Cond.classLink (mY M).cls idx RX3 ∈ tr_LW) (ho : ∀ (A : Array Value) (U : State), (eS E).WarmedH U.vm → (Cond.arrayOver (.object RX3)).before A U = true) (hn0 : 0 ≤ n.toInt) (hn1 : n.toInt ≤ 20000) (hrc : 1 ≤ rc) (hrs : ixn n ≤ rs)
    (k : ∀ r, r ≠ 0 → ht h r = 0 → tr_W E M R lc lz Z (pc + 3) lv (.inr (.inr r) :: st) (hnw h r 16 (ixn n)) (rc - 1) (rs - ixn n)) : tr_W E M R lc lz Z pc lv (.inl n :: st) h rc rs := by
  intro p e s m args below meth c H locs cells slots ls Cx Rp hS hl hc hs
  have hlt : ¬ n < 0 := by rw [Int32.lt_iff_toInt_lt]; exact Int.not_lt.mpr hn0
  have hnn : n.toNatClampNeg ≤ 20000 := by rw [Int32.toNatClampNeg]; omega
  have hrs' : n.toNatClampNeg ≤ rs := hrs
  refine W.anew Cx.1 Cx.2.1 Cx.2.2.2.1 (Cx.2.2.2.2.1 _ hw) (ho _ _ Cx.2.2.2.2.2.1) rfl hd rfl hlt (by omega) (by omega) (by omega) fun cA kA comp f1 f2 f3 f4 => ?_
  generalize hH1 : H.push ({ cls := cA, slots := Array.replicate n.toNatClampNeg .null, vm := .none } : Cell) = H1
  have z1 : H1.size = H.size + 1 := by rw [← hH1, Array.size_push]
  have e1 : H1[H.size]? = some (arrV cA n.toNatClampNeg (fun _ => .null)) := by rw [← hH1, Array.getElem?_push_size, ← arrV_new]
  have o1 : ∀ q : Nat, q < H.size → H1[q]? = H[q]? := fun q hq => by rw [← hH1, Array.getElem?_push, if_neg (Nat.ne_of_lt hq)]
  have hA := ((Cx.K ok).2 5 _ (tr_tys_at E (by decide))).2
  have hcA : cA = eA E 5 := Option.some.inj (f1.symm.trans (tr_RA_find hA))
  subst hcA
  exact k (H.size + 1) (by omega) (tr_fresh Rp) p e s m args below meth c H1 locs (cells + 1) (slots + n.toNatClampNeg) ls Cx (Rp.push z1 o1 (tr_newcell (k := 5) (by decide) Rp.2.1.1 e1)) (tr_S.push hS z1 o1) hl (by omega) (by show _ + (rs - n.toNatClampNeg) ≤ _; omega)
end TRA
end
section
/-! ===== BEGIN a constructor that throws (launches without stack traces) ===== -/
section VXIA
variable {p : Program} {l : Launch} {e : Env} {R : Room} {s : State} {m : MethodId} {args : Array Value} {below : List Frame} {meth : Method} {c : Code} {T : State} {locs : List Loc} {cells slots : Nat}
theorem vx_callI (X : Stand p l e R s m args below meth c T locs cells slots) (hexec : p.tables.exec = Jvm.exec) {own : String} {index : Nat} {y : MethodName} {bytes : ByteArray} {maxL : Nat}
    (hown : s.vm.findClass own = some m.cls) (hy1 : y.name = "<init>") (hlink : (Cond.methodLink own index y).before args s = true) (hinst : (Cond.instanceMethod y).before args s = true)
    (hcode : (Cond.code y bytes maxL none).before args s = true) (hy : y.cls ≠ "java/lang/invoke/MethodHandle" ∧ y.cls ≠ "java/lang/invoke/VarHandle")
    {W9 : Nat} {Pre : Pt → Array Value → Prop} {Post : Pt → Array Value → Option Value → Pt → Prop} {PostX : Pt → Array Value → Addr → Pt → Prop} (hK : vx_Back l R p e below s args y 3 W9 Pre Post PostX)
    {g : JFrame} (hg : g.method = m) (hsize : g.locals.size = c.maxLocals) {a : Addr} {argsL rest : List Value} (hlen : ∀ sig, parseMethodDescriptor y.desc = some sig → argsL.length = sig.parameters.length)
    (hstack : g.stack = argsL.reverse ++ .ref a :: rest) (hW : 2 * g.monitorRoom + (rest.map fun v => v.category).sum ≤ W9) (hdg : decode c.code g.pc = .ok (.invokespecial index, 3))
    (hpre : ∀ vm₁, s.WarmedH vm₁ → Pre ⟨T.setVm vm₁, locs, cells, slots⟩ (Value.ref a :: argsL).toArray) :
    (∃ (v : Option Value) (vm₁ : Vm) (B : Pt), s.WarmedH vm₁ ∧ Stand p l e R s m args below meth c B.U B.locs B.cells B.slots ∧ Post ⟨T.setVm vm₁, locs, cells, slots⟩ (Value.ref a :: argsL).toArray v B ∧
      ∀ target, Steps p.tables e below (B.U.setTop { g with pc := g.pc + 3, stack := v.toList ++ rest }) target → Steps p.tables e below (T.setTop g) target) ∨
    (∃ (q : Addr) (vm₁ : Vm) (B : Pt), s.WarmedH vm₁ ∧ Stand p l e R s m args below meth c B.U B.locs B.cells B.slots ∧ PostX ⟨T.setVm vm₁, locs, cells, slots⟩ (Value.ref a :: argsL).toArray q B ∧
      Steps p.tables e below (T.setTop g) ((B.U.setTop { g with stack := rest }).pushFrame (.throwing q))) := by
  subst hg
  have hpl : e.platform.magicAccessors = ({} : Platform).magicAccessors := by rw [X.admits.platform]
  obtain ⟨mk, methM, cM, kP, vm₁, hnamed, hmethM, hcodeM, -, hlocalsM, -, hkP, -, hW₁, hstep₁⟩ := Steps.initColdArgs (e := e) X.here hexec X.warmed hpl hown hy1 hy hlink hinst hcode (f := g) rfl hlen hstack hdg
  have X₁ := X.noted hW₁
  rcases hK g.method meth c ⟨T.setVm vm₁, locs, cells, slots⟩ { g with stack := rest } (.invokespecial index) mk (Value.ref a :: argsL).toArray X₁ rfl hsize hdg hW (X₁.named hnamed) (hpre vm₁ X₁.warmed) with ⟨v, B, X', hpost, hsteps⟩ | ⟨q, B, X', hpost, hsteps⟩
  · exact Or.inl ⟨v, vm₁, B, X₁.warmed, X', hpost, fun target h => hstep₁ _ fun acts => by rw [doInvoke_state]; exact hsteps.trans h⟩
  · exact Or.inr ⟨q, vm₁, B, X₁.warmed, X', hpost, hstep₁ _ fun acts => by rw [doInvoke_state]; exact hsteps⟩
end VXIA
section VXIB
variable {p : Program} {l : Launch} {e : Env} {R : Room} {s : State} {m : MethodId} {args : Array Value} {below : List Frame} {meth : Method} {c : Code} {H : Heap} {locs : List Loc} {cells slots : Nat}
variable {y : MethodName} {bytes cc : ByteArray} {maxL nL mc ms n index : Nat} {ret : Option FieldType} {ws : List Cond} {rm : Room} {Pc : Array Value → State → Prop} {Qc : Array Value → State → Outcome → State → Prop} {XC : String → State → State → Prop} {free : Addr → Prop} {Ts : List Cond} {own C : String} {b : Addr} {As rest : List Value} {g : JFrame}
theorem vx_runI (S : CallFix p m c cc nL s args Ts own) (hM : vx_Met l y ws rm Pc Qc XC mc ms free) (cw : CallB R s args own index y bytes maxL none ws rm mc ms n ∧ y.name = "<init>" ∧ (Cond.instanceMethod y).before args s = true) (hp : PreS s H Pc (.ref b :: As))
    (hg : g.method = m) (hn : As.length = n) (hsize : g.locals.size = nL) (hstack : g.stack = As.reverse ++ .ref b :: rest) (hW : 2 * g.monitorRoom + (rest.map fun v => v.category).sum ≤ 8) (hdg : decode cc g.pc = .ok (.invokespecial index, 3)) (hf : cells + mc ≤ R.cells ∧ slots + ms ≤ R.slots) :
    vx_Run p l e R s m args below meth c H locs cells slots mc ms g rest (Qc (Value.ref b :: As).toArray) XC free := by
  have hK : vx_Back l R p e below s args y 3 8 (PreOf R mc ms Pc) (PostOf Qc mc ms free) (vx_Post XC mc ms free) := vx_callBack cw.1 hM hp.1
  obtain ⟨⟨-, -, -, -, -, -, hcode, -, hy, hlen, hl⟩, hy1, hin⟩ := cw
  obtain ⟨hx, hb, hml, ho, -⟩ := S
  have hPc := hp.2
  intro T hT X
  rcases vx_callI X hx (bytes := bytes) (maxL := maxL) ho hy1 hl hin hcode hy hK hg (hsize.trans hml.symm) (a := b) (argsL := As) (rest := rest) (fun sig h => hn.trans (hlen sig h)) hstack hW (by rw [hb]; exact hdg)
    (fun vm₁ hW₁ => ⟨hf.1, hf.2, hPc (T.setVm vm₁) hT hW₁⟩) with ⟨v, vm₁, ⟨U', l2, c2, s2⟩, hW₁, X', ⟨g', mk, t, L, e1, e2, hq, h1, hL, h2, h3⟩, st⟩ | ⟨q, vm₁, ⟨U', l2, c2, s2⟩, hW₁, X', ⟨g', mk, t, L, E, ce, e1, e2, hq, hce, hcv, hcl, h1, hL, h2, h3⟩, st⟩
  · dsimp only [Pt.U, Pt.locs, Pt.cells, Pt.slots] at X' e1 e2 h1 h2 h3 st
    subst h1; subst h2; subst h3
    exact Or.inl ⟨v, (T.setVm vm₁).calling g' mk (Value.ref b :: As).toArray, t, U', L, hT, X', hL, e1, e2, hq, st⟩
  · dsimp only [Pt.U, Pt.locs, Pt.cells, Pt.slots] at X' e1 e2 h1 h2 h3 st hcl
    subst h1; subst h2; subst h3
    exact Or.inr ⟨q, (T.setVm vm₁).calling g' mk (Value.ref b :: As).toArray, t, U', L, E, ce, hT, X', hL, e1, e2, hq, hce, hcv, vx_cls hW₁ hcl, st⟩
end VXIB
/-! ===== END ===== -/
/-! ===== BEGIN a private constructor of a nest mate that throws ===== -/
section VXIC
variable {p : Program} {l : Launch} {e : Env} {R : Room} {s : State} {m : MethodId} {args : Array Value} {below : List Frame} {meth : Method} {c : Code} {T : State} {locs : List Loc} {cells slots : Nat}
theorem vx_callIN (X : Stand p l e R s m args below meth c T locs cells slots) (hexec : p.tables.exec = Jvm.exec) {own : String} {index : Nat} {host : String} {y : MethodName} {bytes : ByteArray} {maxL : Nat}
    (hown : s.vm.findClass own = some m.cls) (hy1 : y.name = "<init>") (hlink : (Cond.methodLinkNest own index y host).before args s = true) (hinst : (Cond.instanceMethod y).before args s = true)
    (hcode : (Cond.code y bytes maxL none).before args s = true) (hy : y.cls ≠ "java/lang/invoke/MethodHandle" ∧ y.cls ≠ "java/lang/invoke/VarHandle")
    {W9 : Nat} {Pre : Pt → Array Value → Prop} {Post : Pt → Array Value → Option Value → Pt → Prop} {PostX : Pt → Array Value → Addr → Pt → Prop} (hK : vx_Back l R p e below s args y 3 W9 Pre Post PostX)
    {g : JFrame} (hg : g.method = m) (hsize : g.locals.size = c.maxLocals) {a : Addr} {argsL rest : List Value} (hlen : ∀ sig, parseMethodDescriptor y.desc = some sig → argsL.length = sig.parameters.length)
    (hstack : g.stack = argsL.reverse ++ .ref a :: rest) (hW : 2 * g.monitorRoom + (rest.map fun v => v.category).sum ≤ W9) (hdg : decode c.code g.pc = .ok (.invokespecial index, 3))
    (hpre : ∀ vm₁, s.WarmedH vm₁ → Pre ⟨T.setVm vm₁, locs, cells, slots⟩ (Value.ref a :: argsL).toArray) :
    (∃ (v : Option Value) (vm₁ : Vm) (B : Pt), s.WarmedH vm₁ ∧ Stand p l e R s m args below meth c B.U B.locs B.cells B.slots ∧ Post ⟨T.setVm vm₁, locs, cells, slots⟩ (Value.ref a :: argsL).toArray v B ∧
      ∀ target, Steps p.tables e below (B.U.setTop { g with pc := g.pc + 3, stack := v.toList ++ rest }) target → Steps p.tables e below (T.setTop g) target) ∨
    (∃ (q : Addr) (vm₁ : Vm) (B : Pt), s.WarmedH vm₁ ∧ Stand p l e R s m args below meth c B.U B.locs B.cells B.slots ∧ PostX ⟨T.setVm vm₁, locs, cells, slots⟩ (Value.ref a :: argsL).toArray q B ∧
      Steps p.tables e below (T.setTop g) ((B.U.setTop { g with stack := rest }).pushFrame (.throwing q))) := by
  subst hg
  have hpl : e.platform.magicAccessors = ({} : Platform).magicAccessors := by rw [X.admits.platform]
  obtain ⟨mk, methM, cM, kP, vm₁, hnamed, hmethM, hcodeM, -, hlocalsM, -, hkP, -, hW₁, hstep₁⟩ := Steps.initColdArgsNest (e := e) X.here hexec X.warmed hpl hown hy1 hy hlink hinst hcode (f := g) rfl hlen hstack hdg
  have X₁ := X.noted hW₁
  rcases hK g.method meth c ⟨T.setVm vm₁, locs, cells, slots⟩ { g with stack := rest } (.invokespecial index) mk (Value.ref a :: argsL).toArray X₁ rfl hsize hdg hW (X₁.named hnamed) (hpre vm₁ X₁.warmed) with ⟨v, B, X', hpost, hsteps⟩ | ⟨q, B, X', hpost, hsteps⟩
  · exact Or.inl ⟨v, vm₁, B, X₁.warmed, X', hpost, fun target h => hstep₁ _ fun acts => by rw [doInvoke_state]; exact hsteps.trans h⟩
  · exact Or.inr ⟨q, vm₁, B, X₁.warmed, X', hpost, hstep₁ _ fun acts => by rw [doInvoke_state]; exact hsteps⟩
end VXIC
section VXID
variable {p : Program} {l : Launch} {e : Env} {R : Room} {s : State} {m : MethodId} {args : Array Value} {below : List Frame} {meth : Method} {c : Code} {H : Heap} {locs : List Loc} {cells slots : Nat}
theorem vx_runIN {y : MethodName} {bytes cc : ByteArray} {maxL nL mc ms n index : Nat} {ws : List Cond} {rm : Room} {Pc : Array Value → State → Prop} {Qc : Array Value → State → Outcome → State → Prop} {XC : String → State → State → Prop} {free : Addr → Prop} {Ts : List Cond} {own host : String} {b : Addr} {As rest : List Value} {g : JFrame}
    (S : CallFix p m c cc nL s args Ts own) (hM : vx_Met l y ws rm Pc Qc XC mc ms free) (cw : va_CN R s args own index y host bytes maxL none ws rm mc ms n ∧ y.name = "<init>" ∧ (Cond.instanceMethod y).before args s = true) (hp : PreS s H Pc (.ref b :: As))
    (hg : g.method = m) (hn : As.length = n) (hsize : g.locals.size = nL) (hstack : g.stack = As.reverse ++ .ref b :: rest) (hW : 2 * g.monitorRoom + (rest.map fun v => v.category).sum ≤ 8) (hdg : decode cc g.pc = .ok (.invokespecial index, 3)) (hf : cells + mc ≤ R.cells ∧ slots + ms ≤ R.slots) :
    vx_Run p l e R s m args below meth c H locs cells slots mc ms g rest (Qc (Value.ref b :: As).toArray) XC free := by
  obtain ⟨⟨⟨hrc, hrs, hfr, hlo, hws, hcw⟩, hcode, hini, hy, hlen, hl⟩, hx1, hx2⟩ := cw
  have hK : vx_Back l R p e below s args y 3 8 (PreOf R mc ms Pc) (PostOf Qc mc ms free) (vx_Post XC mc ms free) := vx_back (bytes := bytes) (maxL := maxL) (ret := none) hM hp.1 hrc hrs hfr hlo hws hcw (fun a' U hW => word_at hW (Or.inl (by first | rfl | simp [Cond.onTables, Cond.keeps, Cond.steady])) hini)
  obtain ⟨hx, hb, hml, ho, -⟩ := S
  have hPc := hp.2
  intro T hT X
  rcases vx_callIN X hx (bytes := bytes) (maxL := maxL) ho hx1 hl hx2 hcode hy hK hg (hsize.trans hml.symm) (a := b) (argsL := As) (rest := rest) (fun sig h => hn.trans (hlen sig h)) hstack hW (by rw [hb]; exact hdg)
    (fun vm₁ hW₁ => ⟨hf.1, hf.2, hPc (T.setVm vm₁) hT hW₁⟩) with ⟨v, vm₁, ⟨U', l2, c2, s2⟩, hW₁, X', ⟨g', mk, t, L, e1, e2, hq, h1, hL, h2, h3⟩, st⟩ | ⟨q, vm₁, ⟨U', l2, c2, s2⟩, hW₁, X', ⟨g', mk, t, L, E, ce, e1, e2, hq, hce, hcv, hcl, h1, hL, h2, h3⟩, st⟩
  · dsimp only [Pt.U, Pt.locs, Pt.cells, Pt.slots] at X' e1 e2 h1 h2 h3 st
    subst h1; subst h2; subst h3
    exact Or.inl ⟨v, (T.setVm vm₁).calling g' mk (Value.ref b :: As).toArray, t, U', L, hT, X', hL, e1, e2, hq, st⟩
  · dsimp only [Pt.U, Pt.locs, Pt.cells, Pt.slots] at X' e1 e2 h1 h2 h3 st hcl
    subst h1; subst h2; subst h3
    exact Or.inr ⟨q, (T.setVm vm₁).calling g' mk (Value.ref b :: As).toArray, t, U', L, E, ce, hT, X', hL, e1, e2, hq, hce, hcv, vx_cls hW₁ hcl, st⟩
end VXID
/-! ===== END ===== -/
end
section
/-! CALLS, ENDS, EXCEPTIONS -/
def tr_room (d mc ms : Nat) : Room := { frames := d, cells := mc, slots := ms, locals := 64 * d }
def tr_Pc (E : tr_Env) (as : List tr_V) (h : tr_H) : Array Value → State → Prop := fun v U => v = (as.map tr_cv).toArray ∧ tr_Rep E h U.heap ∧ (eS E).WarmedH U.vm
def tr_Qc (E : tr_Env) (Q : tr_Q) : Array Value → State → Outcome → State → Prop := fun _ _ o t => ∃ (v : Option tr_V) (h' : tr_H), o = .returned (v.map tr_cv) ∧ tr_Rep E h' t.heap ∧ Q (.inl v) h'
def tr_Xc (E : tr_Env) (Q : tr_Q) : String → State → State → Prop := fun X _ t => ∃ (k : Nat) (h' : tr_H), k < 3 ∧ tr_ex k = X ∧ tr_Rep E h' t.heap ∧ Q (.inr k) h'
/-- the contract of a method, with a room of d frames -/
def tr_Cd (E : tr_Env) (d : Nat) (M : tr_MI) (as : List tr_V) (h : tr_H) (Q : tr_Q) : Prop := vx_Met (eL E) (mY M) tr_LW (tr_room d (mC M) (mS M)) (tr_Pc E as h) (tr_Qc E Q) (tr_Xc E Q) (mC M) (mS M) (eO E)
def tr_C (E : tr_Env) (a : Nat) (as : List tr_V) (h : tr_H) (Q : tr_Q) : Prop := tr_Cd E (mD (tr_mi a)) (tr_mi a) as h Q
/-- thrown over the frame -/
def tr_T (E : tr_Env) (M : tr_MI) (R : Room) (lc lz : Nat) (Z : List Frame → Array Value → State → State → Prop) (pc : Nat) (lv : tr_L) (st : List tr_V) (h : tr_H) (rc rs : Nat) (kx : Nat) : Prop :=
  ∀ (p : Program) (e : Env) (s : State) (m : MethodId) (args : Array Value) (below : List Frame) (meth : Method) (c : Code) (H : Heap) (locs : List Loc) (cells slots : Nat) (ls : Array Slot) (q : Addr) (ce : Cell),
    tr_Cx E M p s m args meth c → tr_Rep E h H → va_S (eO E) s.heap H locs → lv_has ls (mL M) (tr_al lv) → cells + rc ≤ lc → slots + rs ≤ lz → H[q]? = some ce → ce.vm = .none → s.vm.findClass (tr_ex kx) = some ce.cls →
    vx_W p (eL E) e R s m args below meth c H locs cells slots (Z below args s) (F0 m pc ls (st.map tr_cv)) q
theorem tr_Pc_blind {E : tr_Env} {as : List tr_V} {h : tr_H} : FrameBlind (tr_Pc E as h) := fun _ _ _ _ q => q
theorem tr_goodLW : GoodIn tr_LW tr_LW := fun w h => ⟨h, good_of_word (List.mem_filter.mp h).2⟩
section TRC
variable {E : tr_Env} {M : tr_MI} {R : Room} {lc lz : Nat} {Z : List Frame → Array Value → State → State → Prop} {pc : Nat} {lv : tr_L} {st : List tr_V} {h : tr_H} {rc rs : Nat}
/-- behind a call -/
theorem tr_after {p : Program} {e : Env} {s : State} {m : MethodId} {args : Array Value} {below : List Frame} {meth : Method} {c : Code} {H : Heap} {locs : List Loc} {cells slots mc ms : Nat} {ls : Array Slot} {st0 : List Value} {rest : List tr_V} {a : Array Value} {Q : tr_Q}
    (Cx : tr_Cx E M p s m args meth c) (Rp : tr_Rep E h H) (hS : va_S (eO E) s.heap H locs) (hl : lv_has ls (mL M) (tr_al lv)) (hc : cells + rc ≤ lc) (hs : slots + rs ≤ lz) (hmc : mc ≤ rc) (hms : ms ≤ rs)
    (hr : vx_Run p (eL E) e R s m args below meth c H locs cells slots mc ms (F0 m pc ls st0) (rest.map tr_cv) (tr_Qc E Q a) (tr_Xc E Q) (eO E))
    (kr : ∀ v h', Q (.inl v) h' → tr_W E M R lc lz Z (pc + 3) lv (v.toList ++ rest) h' (rc - mc) (rs - ms)) (kx : ∀ k h', k < 3 → Q (.inr k) h' → tr_T E M R lc lz Z pc lv rest h' (rc - mc) (rs - ms) k) :
    W p (eL E) e R s m args below meth c H locs cells slots (Z below args s) (F0 m pc ls st0) := by
  intro T hT X
  have base : ∀ (T' : State) (h' : tr_H) (L : List Loc), tr_Rep E h' T'.heap → Stand p (eL E) e R s m args below meth c T' (locs ++ L) (cells + mc) (slots + ms) → (∀ q ∈ L, eO E q.base) → va_S (eO E) s.heap T'.heap (locs ++ L) := by
    intro T' h' L Rp' X' hL
    refine ⟨(vx_frame X'.same).1, fun q h1 h2 => ?_, fun q hq => ?_⟩
    · have hq : q < elo E := Nat.not_le.mp h2
      rw [Rp'.2.1.2 q hq, ← Rp.2.1.2 q hq]
      exact hS.2.1 q h1 h2
    · rcases List.mem_append.mp hq with g | g
      · exact hS.2.2 q g
      · exact hL q g
  rcases hr T hT X with ⟨v, st₀, t, T', L, h0, X', hL, e1, e2, ⟨v', h', hv, Rp', hq⟩, stp⟩ | ⟨q, st₀, t, T', L, Xn, ce, h0, X', hL, e1, e2, ⟨kx', h', hk3, hkx, Rp', hq⟩, hce, hcv, hcl, stp⟩
  · cases hv
    rw [← e1] at Rp'
    obtain ⟨t2, a1, b1⟩ := kr v' h' hq p e s m args below meth c T'.heap (locs ++ L) (cells + mc) (slots + ms) ls Cx Rp' (base T' h' L Rp' X' hL) hl (by omega) (by omega) T' rfl X'
    refine ⟨t2, stp t2 ?_, b1⟩
    have hst : (v'.toList ++ rest).map tr_cv = (v'.map tr_cv).toList ++ rest.map tr_cv := by cases v' <;> simp
    rw [hst] at a1
    exact a1
  · rw [← e1] at Rp' hce
    subst hkx
    obtain ⟨t2, a1, b1⟩ := kx kx' h' hk3 hq p e s m args below meth c T'.heap (locs ++ L) (cells + mc) (slots + ms) ls q ce Cx Rp' (base T' h' L Rp' X' hL) hl (by omega) (by omega) hce hcv hcl T' rfl X'
    exact ⟨t2, stp.trans a1, b1⟩
/-- what is known of a method that is called -/
def tr_Mok (N : tr_MI) (n : Nat) : Prop := tr_cw N ∈ tr_LW ∧ tr_iw N ∈ tr_LW ∧ tr_kw N ∈ tr_LW ∧ tr_sw N ∈ tr_LW ∧ ((mY N).cls ≠ "java/lang/invoke/MethodHandle" ∧ (mY N).cls ≠ "java/lang/invoke/VarHandle") ∧ (parseMethodDescriptor (mY N).desc).map (fun d => d.parameters.length) = some n ∧ mL N ≤ 45
def tr_Rok (R : Room) (d : Nat) : Prop := d ≤ R.frames ∧ 64 * d ≤ R.locals
theorem tr_callB {d n idx : Nat} {N : tr_MI} {p : Program} {s : State} {m : MethodId} {args : Array Value} {meth : Method} {c : Code} (Cx : tr_Cx E M p s m args meth c) (hN : tr_Mok N n) (hh : mH N = []) (hR : tr_Rok R (d + 1)) (hl : (Cond.methodLink (mY M).cls idx (mY N)).before args s = true) :
    CallB R s args (mY M).cls idx (mY N) (mB N) (mL N) (mR N) tr_LW (tr_room d (mC N) (mS N)) (mC N) (mS N) n := by
  obtain ⟨h1, h2, h3, h4, h5, h6, h7⟩ := hN
  obtain ⟨g1, g2⟩ := hR
  have hts := Cx.2.2.2.2.1
  have hcd : Cond.code (mY N) (mB N) (mL N) (mR N) ∈ tr_LW := by
    unfold tr_cw at h1
    rw [hh] at h1
    exact h1
  refine ⟨rfl, rfl, g1, ?_, pay_in hts tr_goodLW, hcd, hts _ hcd, hts _ h2, h5, fun sig hs => ?_, hl⟩
  · show 8 + (mL N + 11) + 64 * d ≤ R.locals
    omega
  · rw [hs] at h6
    exact (Option.some.inj h6).symm
theorem tr_Pc_of {p : Program} {s : State} {m : MethodId} {args : Array Value} {meth : Method} {c : Code} {as : List tr_V} {H : Heap} {v : List Value} (Cx : tr_Cx E M p s m args meth c) (Rp : tr_Rep E h H) (hv : v = as.map tr_cv) : ∀ U : State, U.heap = H → s.WarmedH U.vm → tr_Pc E as h v.toArray U :=
  fun U hU hW => ⟨by rw [hv], by rw [hU]; exact Rp, State.WarmedH.trans Cx.2.2.2.2.2.1 hW⟩
theorem tr_stk {as rest : List tr_V} : ((as.reverse ++ rest).map tr_cv) = (as.map tr_cv).reverse ++ rest.map tr_cv := by simp
theorem tr_stk1 {r : tr_V} {as rest : List tr_V} : (((r :: as).reverse ++ rest).map tr_cv) = (as.map tr_cv).reverse ++ tr_cv r :: rest.map tr_cv := by simp
def tr_wds (st : List tr_V) : Nat := (st.map fun v => (tr_cv v).category).sum
theorem tr_wds_eq (st : List tr_V) : ((st.map tr_cv).map fun v => v.category).sum = tr_wds st := by unfold tr_wds; rw [List.map_map]; rfl
theorem tr_r_callV (ok : tr_ok E) (hlc : lc ≤ R.cells) (hlz : lz ≤ R.slots) {idx d n r ci : Nat} {q : vw_C} {N : tr_MI} {as rest : List tr_V} {Q : tr_Q} (hd : decode (mB M) pc = .ok (.invokevirtual idx, 3)) (hN : tr_Mok N n) (hh : mH N = []) (hK : mK N = 0) (hR : tr_Rok R (d + 1)) (hw : Cond.methodLink (mY M).cls idx (mY N) ∈ tr_LW)
    (hci : vwCl[ci]? = some q) (hcl : q.1 = (mY N).cls) (htg : ht h r = ci + 1) (hn : as.length = n) (hwd : tr_wds rest ≤ 8) (hmc : mC N ≤ rc) (hms : mS N ≤ rs) (hC : tr_Cd E d N (.inr (.inr r) :: as) h Q)
    (kr : ∀ v h', Q (.inl v) h' → tr_W E M R lc lz Z (pc + 3) lv (v.toList ++ rest) h' (rc - mC N) (rs - mS N)) (kx : ∀ k h', k < 3 → Q (.inr k) h' → tr_T E M R lc lz Z pc lv rest h' (rc - mC N) (rs - mS N) k) :
    tr_W E M R lc lz Z pc lv ((.inr (.inr r) :: as).reverse ++ rest) h rc rs := by
  intro p e s m args below meth c H locs cells slots ls Cx Rp hS hl hc hs
  obtain ⟨hX, hB, hML, hown, hts, hW, -⟩ := id Cx
  obtain ⟨a, rfl⟩ := tr_o_of Rp.1 htg
  obtain ⟨hlo, cell, g1, g2, g3, g4⟩ := (Rp.2.2.1 a).2.1 ci q htg hci
  have hfc := ((Cx.K ok).1 ci q hci).2.1
  have hkw : (Cond.instanceMethod (mY N)).before args s = true := by
    have := hts _ hN.2.2.1
    unfold tr_kw at this
    rw [hK] at this
    exact this
  have hsw : (Cond.selects (mY N).cls (mY N) (mY N)).before args s = true := by
    have := hts _ hN.2.2.2.1
    unfold tr_sw at this
    rw [hK] at this
    exact this
  refine tr_after Cx Rp hS hl hc hs hmc hms (vx_runV (C := (mY N).cls) (b := a) (As := as.map tr_cv) (rest := rest.map tr_cv) (g := F0 m pc ls _) ⟨hX, hB, hML, hown, hts⟩ hC ⟨tr_callB Cx hN hh hR (hts _ hw), hkw, hsw⟩ ⟨tr_Pc_blind, ⟨cell, g1, by rw [g3]; rfl, by rw [← hcl, g2]; exact hfc⟩, tr_Pc_of Cx Rp rfl⟩ rfl (by rw [List.length_map]; exact hn) hl.1 tr_stk1 (lv_room (by rw [tr_wds_eq]; exact hwd)) hd ⟨by omega, by omega⟩) kr kx
theorem tr_r_callI (ok : tr_ok E) (hlc : lc ≤ R.cells) (hlz : lz ≤ R.slots) {idx d n r : Nat} {N : tr_MI} {as rest : List tr_V} {Q : tr_Q} (hd : decode (mB M) pc = .ok (.invokespecial idx, 3)) (hN : tr_Mok N n) (hh : mH N = []) (hK : mK N = 1) (hnm : (mY N).name = "<init>") (hvd : mR N = none) (hR : tr_Rok R (d + 1)) (hw : Cond.methodLink (mY M).cls idx (mY N) ∈ tr_LW)
    (htg : ht h r ≠ 0) (hn : as.length = n) (hwd : tr_wds rest ≤ 8) (hmc : mC N ≤ rc) (hms : mS N ≤ rs) (hC : tr_Cd E d N (.inr (.inr r) :: as) h Q)
    (kr : ∀ v h', Q (.inl v) h' → tr_W E M R lc lz Z (pc + 3) lv (v.toList ++ rest) h' (rc - mC N) (rs - mS N)) (kx : ∀ k h', k < 3 → Q (.inr k) h' → tr_T E M R lc lz Z pc lv rest h' (rc - mC N) (rs - mS N) k) :
    tr_W E M R lc lz Z pc lv ((.inr (.inr r) :: as).reverse ++ rest) h rc rs := by
  intro p e s m args below meth c H locs cells slots ls Cx Rp hS hl hc hs
  obtain ⟨hX, hB, hML, hown, hts, hW, -⟩ := id Cx
  cases r with
  | zero => exact absurd Rp.1 htg
  | succ a =>
    have hkw : (Cond.instanceMethod (mY N)).before args s = true := by
      have := hts _ hN.2.2.1
      unfold tr_kw at this
      rw [hK] at this
      exact this
    have hcb := tr_callB Cx hN hh hR (hts _ hw)
    rw [hvd] at hcb
    exact tr_after Cx Rp hS hl hc hs hmc hms (vx_runI (b := a) (As := as.map tr_cv) (rest := rest.map tr_cv) (g := F0 m pc ls _) ⟨hX, hB, hML, hown, hts⟩ hC ⟨hcb, hnm, hkw⟩ ⟨tr_Pc_blind, tr_Pc_of Cx Rp rfl⟩ rfl (by rw [List.length_map]; exact hn) hl.1 tr_stk1 (lv_room (by rw [tr_wds_eq]; exact hwd)) hd ⟨by omega, by omega⟩) kr kx
theorem tr_r_callIN (ok : tr_ok E) (hlc : lc ≤ R.cells) (hlz : lz ≤ R.slots) {idx d n r : Nat} {host : String} {N : tr_MI} {as rest : List tr_V} {Q : tr_Q} (hd : decode (mB M) pc = .ok (.invokespecial idx, 3)) (hN : tr_Mok N n) (hh : mH N = []) (hK : mK N = 1) (hnm : (mY N).name = "<init>") (hvd : mR N = none) (hR : tr_Rok R (d + 1)) (hw : Cond.methodLinkNest (mY M).cls idx (mY N) host ∈ lw_tbl)
    (htg : ht h r ≠ 0) (hn : as.length = n) (hwd : tr_wds rest ≤ 8) (hmc : mC N ≤ rc) (hms : mS N ≤ rs) (hC : tr_Cd E d N (.inr (.inr r) :: as) h Q)
    (kr : ∀ v h', Q (.inl v) h' → tr_W E M R lc lz Z (pc + 3) lv (v.toList ++ rest) h' (rc - mC N) (rs - mS N)) (kx : ∀ k h', k < 3 → Q (.inr k) h' → tr_T E M R lc lz Z pc lv rest h' (rc - mC N) (rs - mS N) k) :
    tr_W E M R lc lz Z pc lv ((.inr (.inr r) :: as).reverse ++ rest) h rc rs := by
  intro p e s m args below meth c H locs cells slots ls Cx Rp hS hl hc hs
  obtain ⟨hX, hB, hML, hown, hts, hW, -⟩ := id Cx
  cases r with
  | zero => exact absurd Rp.1 htg
  | succ a =>
    have hkw : (Cond.instanceMethod (mY N)).before args s = true := by
      have := hts _ hN.2.2.1
      unfold tr_kw at this
      rw [hK] at this
      exact this
    have hlk : va_Nw (.methodLinkNest (mY M).cls idx (mY N) host) s := va_Nw.warmM hW (va_Nw.of rfl (ok.2.2.2.2.2.2.2.1 _ hw))
    obtain ⟨h1, h2, h3, h4, h5, h6, h7⟩ := id hN
    obtain ⟨g1, g2⟩ := id hR
    have hcd : Cond.code (mY N) (mB N) (mL N) none ∈ tr_LW := by
      unfold tr_cw at h1
      rw [hh, hvd] at h1
      exact h1
    exact tr_after Cx Rp hS hl hc hs hmc hms (vx_runIN (b := a) (bytes := mB N) (maxL := mL N) (As := as.map tr_cv) (rest := rest.map tr_cv) (g := F0 m pc ls _) ⟨hX, hB, hML, hown, hts⟩ hC ⟨⟨⟨rfl, rfl, g1, by show 8 + (mL N + 11) + 64 * d ≤ R.locals; omega, pay_in hts tr_goodLW, hcd⟩, hts _ hcd, hts _ h2, h5, fun sig hs => by rw [hs] at h6; exact (Option.some.inj h6).symm, va_Nw.use rfl hlk⟩, hnm, hkw⟩ ⟨tr_Pc_blind, tr_Pc_of Cx Rp rfl⟩ rfl (by rw [List.length_map]; exact hn) hl.1 tr_stk1 (lv_room (by rw [tr_wds_eq]; exact hwd)) hd ⟨by omega, by omega⟩) kr kx
theorem tr_r_callS (ok : tr_ok E) (hlc : lc ≤ R.cells) (hlz : lz ≤ R.slots) {idx d n : Nat} {N : tr_MI} {as rest : List tr_V} {Q : tr_Q} (hd : decode (mB M) pc = .ok (.invokestatic idx, 3)) (hN : tr_Mok N n) (hK : mK N = 2) (hR : tr_Rok R (d + 1)) (hw : Cond.methodLink (mY M).cls idx (mY N) ∈ tr_LW)
    (hn : as.length = n) (hwd : tr_wds rest ≤ 8) (hmc : mC N ≤ rc) (hms : mS N ≤ rs) (hC : tr_Cd E d N as h Q)
    (kr : ∀ v h', Q (.inl v) h' → tr_W E M R lc lz Z (pc + 3) lv (v.toList ++ rest) h' (rc - mC N) (rs - mS N)) (kx : ∀ k h', k < 3 → Q (.inr k) h' → tr_T E M R lc lz Z pc lv rest h' (rc - mC N) (rs - mS N) k) :
    tr_W E M R lc lz Z pc lv (as.reverse ++ rest) h rc rs := by
  intro p e s m args below meth c H locs cells slots ls Cx Rp hS hl hc hs
  obtain ⟨hX, hB, hML, hown, hts, hW, -⟩ := id Cx
  have hkw : (Cond.static (mY N)).before args s = true := by
    have := hts _ hN.2.2.1
    unfold tr_kw at this
    rw [hK] at this
    exact this
  by_cases hh : mH N = []
  · exact tr_after Cx Rp hS hl hc hs hmc hms (vx_runS (As := as.map tr_cv) (rest := rest.map tr_cv) (g := F0 m pc ls _) ⟨hX, hB, hML, hown, hts⟩ hC ⟨tr_callB Cx hN hh hR (hts _ hw), hkw⟩ ⟨tr_Pc_blind, tr_Pc_of Cx Rp rfl⟩ rfl (by rw [List.length_map]; exact hn) hl.1 tr_stk (lv_room (by rw [tr_wds_eq]; exact hwd)) hd ⟨by omega, by omega⟩) kr kx
  · obtain ⟨h1, h2, h3, h4, h5, h6, h7⟩ := id hN
    obtain ⟨g1, g2⟩ := id hR
    have hcd : Cond.codeWith (mY N) (mB N) (mL N) (mR N) (mH N) ∈ tr_LW := by
      unfold tr_cw at h1
      cases hh2 : mH N with
      | nil => exact absurd hh2 hh
      | cons a b => rw [hh2] at h1; exact h1
    exact tr_after Cx Rp hS hl hc hs hmc hms (vx_runSX (hh := mH N) (bytes := mB N) (maxL := mL N) (ret := mR N) (As := as.map tr_cv) (rest := rest.map tr_cv) (g := F0 m pc ls _) ⟨hX, hB, hML, hown, hts⟩ hC ⟨⟨rfl, rfl, g1, by show 8 + (mL N + 11) + 64 * d ≤ R.locals; omega, pay_in hts tr_goodLW, hcd⟩, hts _ hcd, hts _ h2, h5, (fun sig hs => by rw [hs] at h6; exact (Option.some.inj h6).symm), hts _ hw, hkw⟩ ⟨tr_Pc_blind, tr_Pc_of Cx Rp rfl⟩ rfl (by rw [List.length_map]; exact hn) hl.1 tr_stk (lv_room (by rw [tr_wds_eq]; exact hwd)) hd ⟨by omega, by omega⟩) kr kx
end TRC
end
section
/-! ENDS, THROWS, THE LIBRARY'S OWN -/
/-- a method's end -/
def tr_Z (E : tr_Env) (Q : tr_Q) (mc ms : Nat) : List Frame → Array Value → State → State → Prop := fun below args s => vx_MQ below (tr_Qc E Q) (tr_Xc E Q) args s mc ms (eO E)
section TRF
variable {p : Program} {l : Launch} {e : Env} {R : Room} {s : State} {m : MethodId} {args : Array Value} {below : List Frame} {meth : Method} {c : Code} {H : Heap} {locs : List Loc} {cells slots : Nat}
theorem tr_bret {cc : ByteArray} {Qc : Array Value → State → Outcome → State → Prop} {free : Addr → Prop} {v v' : Int32} {ty : FieldType} (hexec : p.tables.exec = Jvm.exec) (hb : c.code = cc) (hr : meth.sig.returnType = some ty) (hn : narrow ty (.int v) = .int v')
    (hq : ∀ t : State, t.heap = H → s.WarmedH t.vm → Qc args s (.returned (some (.int v'))) t) (hf : ∀ q ∈ locs, free q.base)
    {pc : Nat} {ls : Array Slot} (hdg : decode cc pc = .ok (.ireturn, 1)) (hlocks : meth.locks = false) : W p l e R s m args below meth c H locs cells slots (MQ below Qc args s cells slots free) (F0 m pc ls [.int v]) := by
  intro T hT X
  obtain ⟨fs, hret, hrun, hended, hW, hframe⟩ := X.leave (v := some (.int v')) (fun h => by rw [hr] at h; cases h)
  have hmeth' : T.vm.method? m = some meth := X.method'
  refine ⟨T.setFrames fs, ?_, .returned (some (.int v')), hrun, hended, hq _ hT hW, locs, ⟨⟨_, rfl⟩, hW, hframe⟩, hf⟩
  jvm_step X.here [X.here.top, hexec, hb, hdg, hmeth', hr, hn]
  (try refine ⟨rfl, ?_⟩); (try refine ⟨rfl, ?_⟩)
  first | (intro acts; rw [hret _ acts rfl rfl rfl]) | rw [hret _ _ rfl rfl rfl]
  exact Steps.refl _
end TRF
section TRE
variable {E : tr_Env} {M : tr_MI} {R : Room} {lc lz : Nat} {Z : List Frame → Array Value → State → State → Prop} {pc : Nat} {lv : tr_L} {st : List tr_V} {h : tr_H} {rc rs : Nat} {Q : tr_Q} {mc ms : Nat}
theorem tr_Qc_of {s t : State} {args : Array Value} {H : Heap} {o : Outcome} (v : Option tr_V) (Rp : tr_Rep E h H) (hq : Q (.inl v) h) (ho : o = .returned (v.map tr_cv)) (ht : t.heap = H) : tr_Qc E Q args s o t := ⟨v, h, ho, by rw [ht]; exact Rp, hq⟩
theorem tr_r_iret (hlc : lc ≤ mc) (hlz : lz ≤ ms) {x : Int32} (hd : decode (mB M) pc = .ok (.ireturn, 1)) (hr : mR M = some .int) (hq : Q (.inl (some (.inl x))) h) : tr_W E M R lc lz (tr_Z E Q mc ms) pc lv [.inl x] h rc rs := by
  intro p e s m args below meth c H locs cells slots ls Cx Rp hS hl hc hs
  obtain ⟨hX, hB, hML, hown, hts, hW, hrt, hlk, -⟩ := id Cx
  exact vx_ret (W.widen (k := mc) (n := ms) (by omega) (by omega) (W.iret hX hB (hrt.trans hr) (fun t ht _ => tr_Qc_of (some (.inl x)) Rp hq rfl ht) hS.2.2 hd hlk))
theorem tr_r_zret (hlc : lc ≤ mc) (hlz : lz ≤ ms) {x : Int32} (hd : decode (mB M) pc = .ok (.ireturn, 1)) (hr : mR M = some .boolean) (hq : Q (.inl (some (.inl (tr_nb x)))) h) : tr_W E M R lc lz (tr_Z E Q mc ms) pc lv [.inl x] h rc rs := by
  intro p e s m args below meth c H locs cells slots ls Cx Rp hS hl hc hs
  obtain ⟨hX, hB, hML, hown, hts, hW, hrt, hlk, -⟩ := id Cx
  exact vx_ret (W.widen (k := mc) (n := ms) (by omega) (by omega) (tr_bret hX hB (hrt.trans hr) rfl (fun t ht _ => tr_Qc_of (some (.inl (tr_nb x))) Rp hq rfl ht) hS.2.2 hd hlk))
theorem tr_r_lret (hlc : lc ≤ mc) (hlz : lz ≤ ms) {x : Int64} (hd : decode (mB M) pc = .ok (.lreturn, 1)) (hr : mR M = some .long) (hq : Q (.inl (some (.inr (.inl x)))) h) : tr_W E M R lc lz (tr_Z E Q mc ms) pc lv [.inr (.inl x)] h rc rs := by
  intro p e s m args below meth c H locs cells slots ls Cx Rp hS hl hc hs
  obtain ⟨hX, hB, hML, hown, hts, hW, hrt, hlk, -⟩ := id Cx
  exact vx_ret (W.widen (k := mc) (n := ms) (by omega) (by omega) (W.lret hX hB (hrt.trans hr) (fun t ht _ => tr_Qc_of (some (.inr (.inl x))) Rp hq rfl ht) hS.2.2 hd hlk))
theorem tr_r_vret (hlc : lc ≤ mc) (hlz : lz ≤ ms) (hd : decode (mB M) pc = .ok (.return_, 1)) (hr : mR M = none) (hq : Q (.inl none) h) : tr_W E M R lc lz (tr_Z E Q mc ms) pc lv [] h rc rs := by
  intro p e s m args below meth c H locs cells slots ls Cx Rp hS hl hc hs
  obtain ⟨hX, hB, hML, hown, hts, hW, hrt, hlk, -⟩ := id Cx
  exact vx_ret (W.widen (k := mc) (n := ms) (by omega) (by omega) (W.vret hX hB (hrt.trans hr) (fun t ht _ => tr_Qc_of none Rp hq rfl ht) hS.2.2 hd hlk))
/-- not caught: it goes on -/
theorem tr_r_out (hlc : lc ≤ mc) (hlz : lz ≤ ms) {kx : Nat} (hk : kx < 3) (hh : mH M = []) (hq : Q (.inr kx) h) : tr_T E M R lc lz (tr_Z E Q mc ms) pc lv st h rc rs kx := by
  intro p e s m args below meth c H locs cells slots ls q ce Cx Rp hS hl hc hs hce hcv hcl
  obtain ⟨hX, hB, hML, hown, hts, hW, hrt, hlk, hnm, htb, -⟩ := id Cx
  exact vx_out (fun x hx => by rw [htb, hh] at hx; cases hx) hlk hce hcv hcl (fun t ht _ => ⟨kx, h, hk, rfl, by rw [ht]; exact Rp, hq⟩) hS.2.2 (by omega) (by omega)
theorem tr_Rep.grow {E : tr_Env} {h : tr_H} {H H' : Heap} (q : tr_Rep E h H) (hz : H.size ≤ H'.size) (ho : ∀ x, x < H.size → H'[x]? = H[x]?) : tr_Rep E h H' := by
  obtain ⟨a1, ⟨a2, a3⟩, a4, a5⟩ := q
  refine ⟨a1, ⟨by omega, fun x hx => by rw [ho x (by omega)]; exact a3 x hx⟩, fun x => ?_, a5⟩
  by_cases hx : ht h (x + 1) = 0
  · refine ⟨fun g => absurd hx g, fun c q g => ?_, fun k g1 g => ?_, fun g => ?_, fun g => ?_⟩ <;> (rw [hx] at g; first | omega | cases g)
  · exact (a4 x).kept rfl rfl rfl rfl rfl (ho x ((a4 x).1 hx)) hz
def tr_exn : List String := ["java/lang/RuntimeException", "java/lang/Exception"]
def tr_exB (X : String) : List Cond := [Cond.castable X X, Cond.declares ⟨"java/lang/RuntimeException", "<init>", "(Ljava/lang/String;)V"⟩, Cond.declares ⟨"java/lang/Exception", "<init>", "(Ljava/lang/String;)V"⟩, Cond.declares ⟨"java/lang/Throwable", "<init>", "(Ljava/lang/String;)V"⟩]
theorem tr_ex_w1 : ∀ w ∈ (vx_atS RX7 307 "java/lang/IllegalArgumentException" tr_exn).filter goodWord, w ∈ tr_LW := fun w hw => List.mem_filter.mpr ⟨(show ∀ w ∈ (vx_atS RX7 307 "java/lang/IllegalArgumentException" tr_exn).filter goodWord, w ∈ lw_tbl by decide +kernel) w hw, (List.mem_filter.mp hw).2⟩
theorem tr_ex_w2 : ∀ w ∈ (vx_atS RX7 312 "java/lang/IllegalStateException" tr_exn).filter goodWord, w ∈ tr_LW := fun w hw => List.mem_filter.mpr ⟨(show ∀ w ∈ (vx_atS RX7 312 "java/lang/IllegalStateException" tr_exn).filter goodWord, w ∈ lw_tbl by decide +kernel) w hw, (List.mem_filter.mp hw).2⟩
theorem tr_ex_v1 : ∀ w ∈ (vx_atS RX7 307 "java/lang/IllegalArgumentException" tr_exn).filter (fun w => !goodWord w), w ∈ tr_exB "java/lang/IllegalArgumentException" := by decide +kernel
theorem tr_ex_v2 : ∀ w ∈ (vx_atS RX7 312 "java/lang/IllegalStateException" tr_exn).filter (fun w => !goodWord w), w ∈ tr_exB "java/lang/IllegalStateException" := by decide +kernel
theorem tr_ex_in : ∀ k, k = 1 ∨ k = 2 → Cond.classLink RX7 (tr_exi k).1 (tr_ex k) ∈ tr_LW ∧ Cond.initialized (tr_ex k) ∈ tr_LW ∧ (∀ w ∈ tr_exB (tr_ex k), w ∈ lw_tbl) ∧ (∀ w ∈ (vx_atS RX7 (tr_exi k).2.2 (tr_ex k) tr_exn).filter goodWord, w ∈ tr_LW) ∧ (∀ w ∈ (vx_atS RX7 (tr_exi k).2.2 (tr_ex k) tr_exn).filter (fun w => !goodWord w), w ∈ tr_exB (tr_ex k)) ∧ Bundle.fit (tr_ex k) = true ∧ (∀ w ∈ Cond.classLink RX7 (tr_exi k).1 (tr_ex k) :: Cond.initialized (tr_ex k) :: vx_atS RX7 (tr_exi k).2.2 (tr_ex k) tr_exn, vx_ot w = true) := by
  rintro k (rfl | rfl)
  · exact ⟨List.mem_filter.mpr ⟨by decide +kernel, by decide⟩, List.mem_filter.mpr ⟨by decide +kernel, by decide⟩, by decide +kernel, tr_ex_w1, tr_ex_v1, by decide +kernel, by decide +kernel⟩
  · exact ⟨List.mem_filter.mpr ⟨by decide +kernel, by decide⟩, List.mem_filter.mpr ⟨by decide +kernel, by decide⟩, by decide +kernel, tr_ex_w2, tr_ex_v2, by decide +kernel, by decide +kernel⟩
theorem tr_exB_at (ok : tr_ok E) {s : State} {args : Array Value} {X : String} (hW : (eS E).WarmedH s.vm) (hin : ∀ w ∈ tr_exB X, w ∈ lw_tbl) : ∀ w ∈ tr_exB X, w.before args s = true := by
  have o8 := ok.2.2.2.2.2.2.2.1
  refine vx_c (va_Nw.use rfl (va_Nw.warmC hW (va_Nw.of rfl (o8 _ (hin _ ?_))))) (vx_c (va_Nw.use rfl (va_Nw.warmD hW (va_Nw.of rfl (o8 _ (hin _ ?_))))) (vx_c (va_Nw.use rfl (va_Nw.warmD hW (va_Nw.of rfl (o8 _ (hin _ ?_))))) (vx_c (va_Nw.use rfl (va_Nw.warmD hW (va_Nw.of rfl (o8 _ (hin _ ?_))))) vx_n))) <;> simp [tr_exB]
theorem tr_r_throw12 (ok : tr_ok E) (hlc : lc ≤ mc) (hlz : lz ≤ ms) (hlc' : lc ≤ R.cells) (hlz' : lz ≤ R.slots) {kx : Nat} (hk : kx = 1 ∨ kx = 2) (hcls : (mY M).cls = RX7) (hh : mH M = []) (d0 : decode (mB M) pc = .ok (.new (tr_exi kx).1, 3)) (d3 : decode (mB M) (pc + 3) = .ok (.dup, 1)) (d4 : decode (mB M) (pc + 4) = .ok (.ldc_w (tr_exi kx).2.1, 3)) (d7 : decode (mB M) (pc + 7) = .ok (.invokespecial (tr_exi kx).2.2, 3)) (d10 : decode (mB M) (pc + 10) = .ok (.athrow, 1))
    (hR : tr_Rok R 8) (hwd : tr_wds st ≤ 8) (hrc : 1 ≤ rc) (hrs : 6 ≤ rs) (hq : Q (.inr kx) h) : tr_W E M R lc lz (tr_Z E Q mc ms) pc lv st h rc rs := by
  intro p e s m args below meth c H locs cells slots ls Cx Rp hS hl hc hs
  obtain ⟨hX, hB, hML, hown, hts, hW, hrt, hlk, hnm, htb, hb1, hb2⟩ := id Cx
  obtain ⟨w1, w2, w3, w4, w5, w6, w7⟩ := tr_ex_in kx hk
  obtain ⟨o1, o2, o3, o4, o5, o6, o7, o8, o9, o10⟩ := id ok
  have hk3 : kx < 3 := by omega
  obtain ⟨sa, hsa⟩ := o9 kx hk3
  have hkp : ∀ a : Nat, a < (eS E).heap.size → ¬ eO E a → s.heap[a]? = (eS E).heap[a]? := fun a h1 _ => hb2 a h1
  have hU := (vx_Zq.moved hW.alike o6).kept hkp
  have hN := (vx_Zq.moved hW.alike o7).kept hkp
  rw [hcls] at hown
  refine vx_throwSW (cls := tr_ex kx) (names := tr_exn) (text := tr_exm kx) (sa := sa) hX hB o1 hown w6 (by decide +kernel) (hts _ w1) (hts _ w2) (vk_R.warm hW hsa) (vx_hat (fun w hw => hts w (w4 w hw)) w5 (tr_exB_at ok hW w3)) w7 hU hN hS (hl.1.trans hML.symm) d0 d3 d4 d7 d10 (fun x hx => by rw [htb, hh] at hx; cases hx) (by have := hR.1; show 2 + 3 < R.frames; omega) (by have := hR.2; rw [tr_wds_eq]; show tr_wds st + (13 * (2 + 1) + 43) ≤ R.locals; omega) (by omega) (by omega) hlk (fun t _ hz ho => ⟨kx, h, hk3, rfl, Rp.grow hz ho, hq⟩) hS.2.2 (by omega) (by omega)
/-- Object's constructor -/
theorem tr_r_obj {idx r : Nat} (hd : decode (mB M) pc = .ok (.invokespecial idx, 3)) (hw : Cond.methodLink (mY M).cls idx objectInit ∈ tr_LW) (hi : Cond.instanceMethod objectInit ∈ tr_LW) (hcd : Cond.code objectInit ⟨#[0xb1]⟩ 1 none ∈ tr_LW) (hR : tr_Rok R 2) (hwd : tr_wds st ≤ 8) (hr : ¬ ht h r = 0) (k : tr_W E M R lc lz Z (pc + 3) lv st h rc rs) : tr_W E M R lc lz Z pc lv (.inr (.inr r) :: st) h rc rs := by
  intro p e s m args below meth c H locs cells slots ls Cx Rp hS hl hc hs
  obtain ⟨hX, hB, hML, hown, hts, hW, -⟩ := id Cx
  cases r with
  | zero => exact absurd Rp.1 hr
  | succ r => exact W.objInit hX hB hown (hts _ hw) (hts _ hi) (hts _ hcd) rfl (hl.1.trans hML.symm) rfl hd (by have := hR.1; omega) (by have := hR.2; rw [tr_wds_eq]; show 2 * 0 + tr_wds st + 12 ≤ R.locals; omega) (k p e s m args below meth c H locs cells slots ls Cx Rp hS hl hc hs)
theorem tr_r_min (hlc : lc ≤ R.cells) (hlz : lz ≤ R.slots) {idx : Nat} {x y : Int32} (hd : decode (mB M) pc = .ok (.invokestatic idx, 3)) (hw : Cond.methodLink (mY M).cls idx Lib.Math.min.name ∈ tr_LW) (h1 : Cond.static Lib.Math.min.name ∈ tr_LW) (h2 : Cond.initialized "java/lang/Math" ∈ tr_LW) (h3 : Cond.code Lib.Math.min.name Lib.Math.min.code 2 (some .int) ∈ tr_LW) (hR : tr_Rok R 2) (hwd : tr_wds st ≤ 8)
    (k : tr_W E M R lc lz Z (pc + 3) lv (.inl (if y < x then y else x) :: st) h rc rs) : tr_W E M R lc lz Z pc lv (.inl y :: .inl x :: st) h rc rs := by
  intro p e s m args below meth c H locs cells slots ls Cx Rp hS hl hc hs
  obtain ⟨hX, hB, hML, hown, hts, hW, -⟩ := id Cx
  exact va_mmin hX hB (hML.trans hl.1.symm) hown (hts _ hw) (hts _ h1) (hts _ h2) (hts _ h3) (by have := hR.1; omega) (by have := hR.2; rw [tr_wds_eq]; omega) (by omega) (by omega) hd (k p e s m args below meth c H locs cells slots ls Cx Rp hS hl hc hs)
theorem tr_r_max (hlc : lc ≤ R.cells) (hlz : lz ≤ R.slots) {idx : Nat} {x y : Int32} (hd : decode (mB M) pc = .ok (.invokestatic idx, 3)) (hw : Cond.methodLink (mY M).cls idx Lib.Math.max.name ∈ tr_LW) (h1 : Cond.static Lib.Math.max.name ∈ tr_LW) (h2 : Cond.initialized "java/lang/Math" ∈ tr_LW) (h3 : Cond.code Lib.Math.max.name Lib.Math.max.code 2 (some .int) ∈ tr_LW) (hR : tr_Rok R 2) (hwd : tr_wds st ≤ 8)
    (k : tr_W E M R lc lz Z (pc + 3) lv (.inl (if x < y then y else x) :: st) h rc rs) : tr_W E M R lc lz Z pc lv (.inl y :: .inl x :: st) h rc rs := by
  intro p e s m args below meth c H locs cells slots ls Cx Rp hS hl hc hs
  obtain ⟨hX, hB, hML, hown, hts, hW, -⟩ := id Cx
  exact va_mmax hX hB (hML.trans hl.1.symm) hown (hts _ hw) (hts _ h1) (hts _ h2) (hts _ h3) (by have := hR.1; omega) (by have := hR.2; rw [tr_wds_eq]; omega) (by omega) (by omega) hd (k p e s m args below meth c H locs cells slots ls Cx Rp hS hl hc hs)
theorem tr_r_ldc {idx b : Nat} (hd : decode (mB M) pc = .ok (.ldc idx, 2)) (hw : Cond.constant (mY M).cls idx (ii (b : Nat)) ∈ tr_LW) (k : tr_W E M R lc lz Z (pc + 2) lv (.inl (ii (b : Nat)) :: st) h rc rs) : tr_W E M R lc lz Z pc lv st h rc rs := by
  intro p e s m args below meth c H locs cells slots ls Cx Rp hS hl hc hs
  exact lv_ldc Cx.1 Cx.2.1 Cx.2.2.2.1 (Cx.2.2.2.2.1 _ hw) hd (k p e s m args below meth c H locs cells slots ls Cx Rp hS hl hc hs)
theorem tr_r_ldc2 {idx b : Nat} (hd : decode (mB M) pc = .ok (.ldc2_w idx, 3)) (hw : Cond.constantLong (mY M).cls idx (jj (b : Nat)) ∈ tr_LW) (k : tr_W E M R lc lz Z (pc + 3) lv (.inr (.inl (jj (b : Nat))) :: st) h rc rs) : tr_W E M R lc lz Z pc lv st h rc rs := by
  intro p e s m args below meth c H locs cells slots ls Cx Rp hS hl hc hs
  exact lv_ldc2 Cx.1 Cx.2.1 Cx.2.2.2.1 (Cx.2.2.2.2.1 _ hw) hd (k p e s m args below meth c H locs cells slots ls Cx Rp hS hl hc hs)
theorem tr_r_ldcs (ok : tr_ok E) {idx j : Nat} (hd : decode (mB M) pc = .ok (.ldc idx, 2)) (hO : tr_R (mO M) = (mY M).cls) (hj : j < 8) (hi : (mO M, idx, j) ∈ tr_sidx) (k : ∀ r, tr_tx h r (tr_txt j) → tr_W E M R lc lz Z (pc + 2) lv (.inr (.inr r) :: st) h rc rs) : tr_W E M R lc lz Z pc lv st h rc rs := by
  intro p e s m args below meth c H locs cells slots ls Cx Rp hS hl hc hs
  obtain ⟨a, ha, hv⟩ := ok.2.2.2.2.2.2.2.2.2.1 _ hi
  have ha : eT E j = a + 1 := ha
  have hv : vk_R (tr_R (mO M)) idx (tr_ts j) a (eS E) := hv
  rw [hO] at hv
  have hk := k (a + 1) (by rw [← ha]; exact Rp.2.2.2 j hj)
  exact va_ldcS Cx.1 Cx.2.1 Cx.2.2.2.1 (vk_R.warm Cx.2.2.2.2.2.1 hv) hd (hk p e s m args below meth c H locs cells slots ls Cx Rp hS hl hc hs)
theorem tr_r_cast (ok : tr_ok E) {idx r k : Nat} {nm : String} (hk : k < 6) (hd : decode (mB M) pc = .ok (.checkcast idx, 3)) (hw : Cond.classLink (mY M).cls idx nm ∈ tr_LW) (hnm : "[" ++ (tr_aty k).toString = nm) (htg : ht h r = k + 11) (kk : tr_W E M R lc lz Z (pc + 3) lv (.inr (.inr r) :: st) h rc rs) : tr_W E M R lc lz Z pc lv (.inr (.inr r) :: st) h rc rs := by
  intro p e s m args below meth c H locs cells slots ls Cx Rp hS hl hc hs
  obtain ⟨a, rfl, hlo, hH, hA, hRA⟩ := tr_arr ok (k := k) Cx Rp hk htg
  have hf := tr_RA_find hRA
  rw [hnm] at hf
  intro T hT X
  obtain ⟨vm', X', stp⟩ := X.checkcastYes Cx.1 Cx.2.2.2.1 (Cx.2.2.2.2.1 _ hw) (by rw [hT]; exact hH) rfl hf (va_asg _ _) (g := F0 m pc ls (.ref a :: st.map tr_cv)) rfl rfl (by rw [Cx.2.1]; exact hd)
  obtain ⟨t, a1, b1⟩ := kk p e s m args below meth c H locs cells slots ls Cx Rp hS hl hc hs (T.setVm vm') hT X'
  exact ⟨t, stp t a1, b1⟩
theorem tr_tsw_ok {jmp : Nat → Prop} {dflt pc : Nat} {x : Int32} : ∀ (os : List Int) (k : Int), -2147483648 ≤ k → k + os.length ≤ 2147483648 → tr_tsw jmp dflt pc x k os → ((x.toInt < k ∨ k + os.length ≤ x.toInt) ∧ jmp dflt) ∨ ∃ o, os[(x.toInt - k).toNat]? = some o ∧ k ≤ x.toInt ∧ x.toInt < k + os.length ∧ jmp ((pc : Int) + o).toNat
  | [], k, h1, h2, h => Or.inl ⟨by simp; omega, h⟩
  | o :: os, k, h1, h2, h => by
    simp only [List.length_cons, Int.natCast_succ] at h2
    have hk : (ii k).toInt = k := by unfold ii; rw [Int32.toInt_ofInt]; exact Int.bmod_eq_of_le (by simp; omega) (by simp; omega)
    by_cases hx : x = ii k
    · refine Or.inr ⟨o, ?_, ?_, ?_, h.1 hx⟩
      · rw [hx, hk]; simp
      · rw [hx, hk]; exact Int.le_refl _
      · rw [hx, hk]; simp only [List.length_cons, Int.natCast_succ]; omega
    · have hne : x.toInt ≠ k := fun g => hx (by rw [← Int32.toInt_inj, hk]; exact g)
      rcases tr_tsw_ok os (k + 1) (by omega) (by omega) (h.2 hx) with ⟨g1, g2⟩ | ⟨o', g1, g2, g3, g4⟩
      · refine Or.inl ⟨?_, g2⟩
        simp only [List.length_cons, Int.natCast_succ]
        omega
      · refine Or.inr ⟨o', ?_, by omega, ?_, g4⟩
        · rw [show (x.toInt - k).toNat = (x.toInt - (k + 1)).toNat + 1 by omega]
          exact g1
        · simp only [List.length_cons, Int.natCast_succ]
          omega
theorem tr_r_tsw {dflt lo hi : Int} {offs : Array Int} {len a : Nat} {x : Int32} (hd : decode (mB M) pc = .ok (.tableswitch dflt lo hi offs, len)) (ha : (pc : Int) + dflt = (a : Int)) (hlo : -2147483648 ≤ lo) (hhi : hi + 1 = lo + offs.toList.length) (hhi2 : hi ≤ 2147483647) (hnn : ∀ o ∈ offs.toList, 0 ≤ (pc : Int) + o)
    (k : tr_tsw (fun t => tr_W E M R lc lz Z t lv st h rc rs) a pc x lo offs.toList) : tr_W E M R lc lz Z pc lv (.inl x :: st) h rc rs := by
  intro p e s m args below meth c H locs cells slots ls Cx Rp hS hl hc hs
  rcases tr_tsw_ok _ _ hlo (by omega) k with ⟨g1, g2⟩ | ⟨o, g1, g2, g3, g4⟩
  · exact lv_tableOut Cx.1 Cx.2.1 hd (by omega) ha (g2 p e s m args below meth c H locs cells slots ls Cx Rp hS hl hc hs)
  · have hn0 := hnn o (List.mem_of_getElem? g1)
    exact lv_tableIn Cx.1 Cx.2.1 hd (by omega) (by omega) (by rw [← Array.getElem?_toList]; exact g1) (show (pc : Int) + o = (((pc : Int) + o).toNat : Int) by omega) (g4 p e s m args below meth c H locs cells slots ls Cx Rp hS hl hc hs)
theorem tr_lsw_ok {jmp : Nat → Prop} {dflt pc : Nat} {dI : Int} {x : Int32} (hdf : (pc : Int) + dI = (dflt : Int)) : ∀ (os : List (Int × Int)), (∀ q ∈ os, -2147483648 ≤ q.1 ∧ q.1 < 2147483648 ∧ 0 ≤ (pc : Int) + q.2) → tr_lsw jmp dflt pc x os → ∃ t : Nat, (pc : Int) + Op.lookupswitch.offset os dI x.toInt = (t : Int) ∧ jmp t
  | [], _, h => ⟨dflt, hdf, h⟩
  | (k, o) :: os, hk, h => by
    obtain ⟨k1, k2, k3⟩ := hk (k, o) List.mem_cons_self
    have k1 : -2147483648 ≤ k := k1
    have k2 : k < 2147483648 := k2
    have k3 : 0 ≤ (pc : Int) + o := k3
    have hkk : (ii k).toInt = k := by unfold ii; rw [Int32.toInt_ofInt]; exact Int.bmod_eq_of_le (by simp; omega) (by simp; omega)
    by_cases hx : x = ii k
    · refine ⟨((pc : Int) + o).toNat, ?_, h.1 hx⟩
      rw [hx, hkk]
      simp only [Op.lookupswitch.offset, if_pos, beq_self_eq_true]
      first | omega | (simp; omega)
    · have hne : x.toInt ≠ k := fun g => hx (by rw [← Int32.toInt_inj, hkk]; exact g)
      obtain ⟨t, g1, g2⟩ := tr_lsw_ok hdf os (fun q hq => hk q (List.mem_cons_of_mem _ hq)) (h.2 hx)
      refine ⟨t, ?_, g2⟩
      rw [← g1]
      have hne2 : ¬ k = x.toInt := fun g => hne g.symm
      simp [Op.lookupswitch.offset, hne, hne2]
theorem tr_r_lsw {dflt : Int} {ps : Array (Int × Int)} {len a : Nat} {x : Int32} (hd : decode (mB M) pc = .ok (.lookupswitch dflt ps, len)) (hp : (ps.toList.zip (ps.toList.drop 1)).all (fun (a, next) => a.1 < next.1) = true) (ha : (pc : Int) + dflt = (a : Int)) (hnn : ∀ q ∈ ps.toList, -2147483648 ≤ q.1 ∧ q.1 < 2147483648 ∧ 0 ≤ (pc : Int) + q.2)
    (k : tr_lsw (fun t => tr_W E M R lc lz Z t lv st h rc rs) a pc x ps.toList) : tr_W E M R lc lz Z pc lv (.inl x :: st) h rc rs := by
  intro p e s m args below meth c H locs cells slots ls Cx Rp hS hl hc hs
  obtain ⟨t, g1, g2⟩ := tr_lsw_ok ha _ hnn k
  exact lv_lookup Cx.1 Cx.2.1 hd hp rfl g1 (g2 p e s m args below meth c H locs cells slots ls Cx Rp hS hl hc hs)
end TRE
end
section
/-! HANDLERS, COPIES -/
theorem tr_hl_in : ∀ ct, tr_hx ct < 3 → Cond.classLink RL ct (tr_ex (tr_hx ct)) ∈ tr_LW ∧ ct ≠ 0 := by
  intro ct h
  unfold tr_hx at h ⊢
  split at h
  · exact ⟨List.mem_filter.mpr ⟨by decide +kernel, by decide⟩, by decide⟩
  · exact ⟨List.mem_filter.mpr ⟨by decide +kernel, by decide⟩, by decide⟩
  · exact ⟨List.mem_filter.mpr ⟨by decide +kernel, by decide⟩, by decide⟩
  · omega
theorem tr_hc_in : ∀ k, k < 3 → Cond.castable (tr_ex k) (tr_ex k) ∈ lw_tbl := by
  intro k h
  rcases (show k = 0 ∨ k = 1 ∨ k = 2 by omega) with rfl | rfl | rfl <;> decide +kernel
section TRK
variable {E : tr_Env} {M : tr_MI} {R : Room} {lc lz : Nat} {Z : List Frame → Array Value → State → State → Prop} {pc : Nat} {lv : tr_L} {st : List tr_V} {h : tr_H} {rc rs : Nat} {Q : tr_Q} {mc ms : Nat}
theorem tr_r_catch0 (ok : tr_ok E) {kx hp : Nat} (hk : kx < 3) (hcls : (mY M).cls = RL) (kk : ∀ r, tr_W E M R lc lz Z hp lv [.inr (.inr r)] h rc rs) :
    ∀ (suf pre : List (Nat × Nat × Nat × Nat)), mH M = pre ++ suf → (∀ z ∈ pre, covers ⟨z.1, z.2.1, z.2.2.1, z.2.2.2⟩ pc = false ∨ (tr_hx z.2.2.2 < 3 ∧ tr_np kx (tr_hx z.2.2.2) = true)) → tr_hd suf pc kx = some hp → tr_T E M R lc lz Z pc lv st h rc rs kx
  | [], pre, _, _, hq => by cases hq
  | (f, t, p', ct) :: suf, pre, hsp, hpre, hq => by
    unfold tr_hd at hq
    have next : (covers ⟨f, t, p', ct⟩ pc = false ∨ (tr_hx ct < 3 ∧ tr_np kx (tr_hx ct) = true)) → tr_hd suf pc kx = some hp → tr_T E M R lc lz Z pc lv st h rc rs kx := fun hz hq2 =>
      tr_r_catch0 ok hk hcls kk suf (pre ++ [(f, t, p', ct)]) (by rw [hsp, List.append_assoc]; rfl) (fun z hz2 => by
        rcases List.mem_append.mp hz2 with g | g
        · exact hpre z g
        · rw [List.mem_singleton.mp g]; exact hz) hq2
    by_cases hcv : (Nat.ble f pc && Nat.blt pc t) = true
    · rw [if_pos hcv] at hq
      by_cases hx : Nat.beq (tr_hx ct) kx = true
      · rw [if_pos hx] at hq
        have hx : tr_hx ct = kx := Nat.eq_of_beq_eq_true hx
        cases hq
        intro p e s m args below meth c H locs cells slots ls q ce Cx Rp hS hl hc hs hce hcvm hcl
        obtain ⟨hX, hB, hML, hown, hts, hW, hrt, hlk, hnm, htb, hb1⟩ := id Cx
        rw [hcls] at hown
        obtain ⟨g1, g2⟩ := tr_hl_in ct (by omega)
        have hcast : (Cond.castable (tr_ex kx) (tr_ex kx)).before args s = true := va_Nw.use rfl (va_Nw.warmC hW (va_Nw.of rfl (ok.2.2.2.2.2.2.2.1 _ (tr_hc_in kx hk))))
        refine vx_catch (E := tr_ex kx) (name := tr_ex kx) hown (tableOf pre) ⟨f, t, hp, ct⟩ (tableOf suf) (by rw [htb, hsp]; simp [tableOf]) (fun z hz => ?_) ?_ g2 (by rw [hx] at g1; exact hts _ g1) hcast hce hcvm hcl (kk (q + 1) p e s m args below meth c H locs cells slots ls Cx Rp hS hl hc hs)
        · obtain ⟨y, hy, rfl⟩ := List.mem_map.mp hz
          rcases hpre y hy with g | ⟨g3, g4⟩
          · exact Or.inl g
          · obtain ⟨g5, g6⟩ := tr_hl_in _ g3
            exact Or.inr ⟨g6, _, hts _ g5, va_Nc.moved hW.alike (ok.2.2.2.2.2.2.2.2.2.2.1 _ _ g4)⟩
        · simp only [Bool.and_eq_true, Nat.ble_eq, Nat.blt_eq] at hcv
          simp [covers]; omega
      · rw [if_neg hx] at hq
        by_cases hn : tr_np kx (tr_hx ct) = true
        · rw [if_pos hn] at hq
          refine next (Or.inr ⟨?_, hn⟩) hq
          unfold tr_np at hn
          simp only [Bool.or_eq_true, Bool.and_eq_true, Nat.beq_eq] at hn
          omega
        · rw [if_neg hn] at hq
          cases hq
    · rw [if_neg hcv] at hq
      refine next (Or.inl ?_) hq
      simp only [Bool.and_eq_true, Nat.ble_eq, Nat.blt_eq] at hcv
      simp [covers]; omega
theorem tr_r_catch (ok : tr_ok E) {kx hp : Nat} (hk : kx < 3) (hcls : (mY M).cls = RL) (hq : tr_hd (mH M) pc kx = some hp) (kk : ∀ r, tr_W E M R lc lz Z hp lv [.inr (.inr r)] h rc rs) : tr_T E M R lc lz Z pc lv st h rc rs kx :=
  tr_r_catch0 ok hk hcls kk (mH M) [] rfl (fun z hz => by cases hz) hq
/-- a copy: the heap behind it -/
theorem tr_Rep.copy {E : tr_Env} {h : tr_H} {H H' : Heap} {q k : Nat} (Rp : tr_Rep E h H) (hk : k < 6) (htg : ht h (q + 1) = k + 11) (hz : H'.size = H.size + 1) (ho : ∀ x, x < H.size → H'[x]? = H[x]?) (hc : H'[H.size]? = H[q]?) : tr_Rep E (hcl h (H.size + 1) (q + 1)) H' := by
  have hfr := tr_fresh Rp
  obtain ⟨a1, ⟨a2, a3⟩, a4, a5⟩ := Rp
  have hq := (a4 q).2.2.1 k hk htg
  have hne0 : q + 1 ≠ H.size + 1 := fun g => by rw [g, hfr] at htg; omega
  refine ⟨?_, ⟨by omega, fun x hx => by rw [ho x (by omega)]; exact a3 x hx⟩, fun x => ?_, fun j hj => ?_⟩
  · show up1 (ht h) (H.size + 1) (ht h (q + 1)) 0 = 0
    rw [up1_ne (by omega)]; exact a1
  · by_cases hx : x = H.size
    · subst hx
      have e1 : ht (hcl h (H.size + 1) (q + 1)) (H.size + 1) = ht h (q + 1) := up1_eq
      have e2 : hn (hcl h (H.size + 1) (q + 1)) (H.size + 1) = hn h (q + 1) := up1_eq
      have e3 : hI (hcl h (H.size + 1) (q + 1)) (H.size + 1) = hI h (q + 1) := up1_eq
      have e4 : hJ (hcl h (H.size + 1) (q + 1)) (H.size + 1) = hJ h (q + 1) := up1_eq
      have e5 : hR (hcl h (H.size + 1) (q + 1)) (H.size + 1) = hR h (q + 1) := up1_eq
      refine tr_acell (h := h) (H := H) hk (e1.trans htg) a2 ?_
      rw [e2, e3, e4, e5, hc]
      exact hq.2
    · have hne : x + 1 ≠ H.size + 1 := by omega
      rcases Nat.lt_or_ge x H.size with hl | hl
      · exact (a4 x).kept (up1_ne hne) (up1_ne hne) (up1_ne hne) (up1_ne hne) (up1_ne hne) (ho x hl) (by omega)
      · have h0 : ht h (x + 1) = 0 := by
          rcases Nat.eq_zero_or_pos (ht h (x + 1)) with g | g
          · exact g
          · exact absurd ((a4 x).1 (by omega)) (by omega)
        have h1 : ht (hcl h (H.size + 1) (q + 1)) (x + 1) = 0 := (up1_ne hne).trans h0
        refine ⟨fun g => absurd h1 g, fun c q g => ?_, fun k g1 g => ?_, fun g => ?_, fun g => ?_⟩ <;> (rw [h1] at g; first | omega | cases g)
  · have hne : eT E j ≠ H.size + 1 := fun g => by
      have h2 := (a5 j hj).1
      rw [g, hfr] at h2
      cases h2
    exact (a5 j hj).kept (up1_ne hne) (up1_ne hne) (up1_ne hne)
def tr_cln : MethodName := ⟨"java/lang/Object", "clone", "()Ljava/lang/Object;"⟩
theorem tr_evfit (k : Nat) (x : Int32) (y : Int64) (r : Nat) (hk : k = 0 ∨ k = 5) : fits (tr_aty k) (tr_ev k x y r) = true := by
  rcases hk with rfl | rfl
  · rfl
  · cases r <;> rfl
theorem tr_r_clone (ok : tr_ok E) (hlc : lc ≤ R.cells) (hlz : lz ≤ R.slots) {idx k b : Nat} {q : Nat} (hk : k = 0 ∨ k = 5) (hd : decode (mB M) pc = .ok (.invokevirtual idx, 3)) {ad : String} (had : "[" ++ (tr_aty k).toString = ad)
    (hw1 : Cond.methodLink (mY M).cls idx ⟨ad, "clone", "()Ljava/lang/Object;"⟩ ∈ tr_LW) (hw2 : Cond.sameMethod ad "java/lang/Object" "clone" "()Ljava/lang/Object;" ∈ tr_LW) (hw3 : Cond.native tr_cln ∈ tr_LW) (hw4 : Cond.instanceMethod tr_cln ∈ tr_LW) (hw5 : Cond.selects ad ⟨ad, "clone", "()Ljava/lang/Object;"⟩ tr_cln ∈ tr_LW) (hw6 : Cond.castable ad "java/lang/Cloneable" ∈ lw_tbl)
    (hRk : tr_Rok R 2) (hwd : tr_wds st ≤ 8) (htg : ht h q = k + 11) (hnb : hn h q = b) (hrc : 1 ≤ rc) (hrs : b ≤ rs) (kk : ∀ r, r ≠ 0 → ht h r = 0 → tr_W E M R lc lz Z (pc + 3) lv (.inr (.inr r) :: st) (hcl h r q) (rc - 1) (rs - b)) : tr_W E M R lc lz Z pc lv (.inr (.inr q) :: st) h rc rs := by
  intro p e s m args below meth c H locs cells slots ls Cx Rp hS hl hc hs
  have hk6 : k < 6 := by omega
  obtain ⟨a, rfl, hlo, hH, hA, hRA⟩ := tr_arr ok (k := k) Cx Rp hk6 htg
  obtain ⟨hX, hB, hML, hown, hts, hW, -⟩ := id Cx
  have hf := tr_RA_find hRA
  rw [had] at hf
  have hcl0 := va_Nw.warmC hW (va_Nw.of rfl (ok.2.2.2.2.2.2.2.1 _ hw6))
  obtain ⟨c0, t0, f1, f2, f3⟩ := Cond.castable_spec (va_Nw.use (A := args) rfl hcl0)
  cases Option.some.inj (hf.symm.trans f1)
  obtain ⟨-, kS, hkS, compS, hkindS⟩ := hA 0 (fun _ => .null)
  intro T hT X
  obtain ⟨-, kA, hkA, comp, hkind⟩ := State.isArrayOf_alike X.warmed.alike (hA 0 (fun _ => .null))
  have hcellT : T.heap[a]? = some (arrV (eA E k) (hn h (a + 1)) (fun j => tr_ev k (hI h (a + 1) j) (hJ h (a + 1) j) (hR h (a + 1) j))) := by rw [hT]; exact hH
  obtain ⟨vm', X', stp⟩ := X.cloneArray hX hown (hts _ hw1) (hts _ hw2) (hts _ hw3) (hts _ hw4) (hts _ hw5) hcellT (fun _ g => by cases g) (fun g => by cases g) hf f2 f3
    (fun i v hv => by
      have hi : i < hn h (a + 1) := by
        have := (Array.getElem?_eq_some_iff.mp hv).1
        rwa [arrV_size] at this
      rw [arrV_read _ _ hi] at hv
      cases hv
      have hk' : T.vm.classes[eA E k]? = some kA := hkA
      show T.fitsSlot (eA E k) .none i _ = true
      simpa [State.fitsSlot, State.slotType?, hk', hkind] using tr_evfit k (hI h (a + 1) i) (hJ h (a + 1) i) (hR h (a + 1) i) hk)
    (g := F0 m pc ls (.ref a :: st.map tr_cv)) rfl (hl.1.trans hML.symm) rfl (by rw [hB]; exact hd) (by have := hRk.1; omega) (by have := hRk.2; rw [tr_wds_eq]; show 2 * 0 + tr_wds st + 14 ≤ R.locals; omega) (by omega) (by rw [arrV_size]; omega) (hloader := Vm.clonesLoader_of_array hkS hkindS)
  rw [arrV_size] at X'
  generalize hH1 : H.push ({ cls := eA E k, slots := (arrV (eA E k) (hn h (a + 1)) (fun j => tr_ev k (hI h (a + 1) j) (hJ h (a + 1) j) (hR h (a + 1) j))).slots } : Cell) = H1
  have z1 : H1.size = H.size + 1 := by rw [← hH1, Array.size_push]
  have e1 : H1[H.size]? = H[a]? := by rw [← hH1, Array.getElem?_push_size, hH]; rfl
  have o1 : ∀ x : Nat, x < H.size → H1[x]? = H[x]? := fun x hx => by rw [← hH1, Array.getElem?_push, if_neg (Nat.ne_of_lt hx)]
  obtain ⟨t, b1, b2⟩ := kk (H.size + 1) (by omega) (tr_fresh Rp) p e s m args below meth c H1 locs (cells + 1) (slots + hn h (a + 1)) ls Cx (Rp.copy hk6 htg z1 o1 e1) (tr_S.push hS z1 o1) hl (by omega) (by omega) _ (by rw [← hH1, ← hT]; rfl) X'
  refine ⟨t, stp t ?_, b2⟩
  rw [hT]
  exact b1
theorem tr_o_cpy {f g : Nat → Nat} {sp dp n j : Nat} : tr_o (va_cpy f g sp dp n j) = va_cpy (fun i => tr_o (f i)) (fun i => tr_o (g i)) sp dp n j := by
  unfold va_cpy
  by_cases hj : dp ≤ j ∧ j < dp + n
  · rw [if_pos hj, if_pos hj]
  · rw [if_neg hj, if_neg hj]
theorem tr_ag_cp {h : tr_H} {q sp r dp n : Nat} : tr_ag h (hcp h q sp r dp n) r := ⟨rfl, rfl, fun x hx => ⟨rfl, rfl, up1_ne hx⟩⟩
theorem tr_nn {z : Int32} (h : 0 ≤ z.toInt) : ¬ z < 0 ∧ z.toInt = (z.toNatClampNeg : Int) := by
  refine ⟨by rw [Int32.lt_iff_toInt_lt]; exact Int.not_lt.mpr h, ?_⟩
  show z.toInt = ((z.toInt.toNat : Nat) : Int)
  omega
theorem tr_r_acopy (ok : tr_ok E) {idx q r : Nat} {sp dp n : Int32} (hd : decode (mB M) pc = .ok (.invokestatic idx, 3)) (hw1 : Cond.methodLink (mY M).cls idx arraycopyName ∈ tr_LW) (hw2 : Cond.native arraycopyName ∈ tr_LW) (hw3 : Cond.static arraycopyName ∈ tr_LW) (hw4 : Cond.initialized "java/lang/System" ∈ tr_LW) (hRk : tr_Rok R 2) (hwd : tr_wds st ≤ 8)
    (hq : ht h q = 15) (hr : ht h r = 15) (h1 : 0 ≤ sp.toInt) (h2 : 0 ≤ dp.toInt) (h3 : 0 ≤ n.toInt) (h4 : ixn sp + ixn n ≤ hn h q) (h5 : ixn dp + ixn n ≤ hn h r) (h6 : ∀ i, i < ixn n → hR h q (ixn sp + i) = 0 ∨ ht h (hR h q (ixn sp + i)) = 7)
    (kk : tr_W E M R lc lz Z (pc + 3) lv st (hcp h q (ixn sp) r (ixn dp) (ixn n)) rc rs) : tr_W E M R lc lz Z pc lv (.inl n :: .inl dp :: .inr (.inr r) :: .inl sp :: .inr (.inr q) :: st) h rc rs := by
  intro p e s m args below meth c H locs cells slots ls Cx Rp hS hl hc hs
  obtain ⟨a0, rfl, hlo0, hH0, hA0, hRA0⟩ := tr_arr ok (k := 4) Cx Rp (by decide) hq
  obtain ⟨a, rfl, hlo, hH, hA, hRA⟩ := tr_arr ok (k := 4) Cx Rp (by decide) hr
  obtain ⟨hX, hB, hML, hown, hts, hW, -⟩ := id Cx
  obtain ⟨n1, e1⟩ := tr_nn h1
  obtain ⟨n2, e2⟩ := tr_nn h2
  obtain ⟨n3, e3⟩ := tr_nn h3
  have h4 : sp.toNatClampNeg + n.toNatClampNeg ≤ hn h (a0 + 1) := h4
  have h5 : dp.toNatClampNeg + n.toNatClampNeg ≤ hn h (a + 1) := h5
  obtain ⟨-, k0, hk0, cm0, hkk0⟩ := hA0 0 (fun _ => .null)
  obtain ⟨kA, comp, r1, r2, r3, r4⟩ := hRA
  have hcls := ((Cx.K ok).1 6 _ rfl).2
  have hcomp : comp = (eD E).1 6 := Option.some.inj (r3.symm.trans hcls.1)
  obtain ⟨kC, hkC, -⟩ := hcls.2
  intro T hT X
  obtain ⟨vm', X', stp⟩ := X.arraycopy hX hown (hts _ hw1) (hts _ hw2) (hts _ hw3) (hts _ hw4) (src := a0) (dst := a) (srcPos := sp) (destPos := dp) (n := n) (by rw [hT]; exact hH0) (by rw [hT]; exact hH)
    (fun _ g => by cases g) (fun _ g => by cases g) (fun g => by cases g) (fun g => by cases g) r1 r1 r2 r2 rfl n1 n2 n3
    (by rw [e1, e3, arrV_size]; omega) (by rw [e2, e3, arrV_size]; omega)
    (fun vm₁ hal i hi => by
      have e : (arrV (eA E 4) (hn h (a0 + 1)) (fun j => tr_ev 4 (hI h (a0 + 1) j) (hJ h (a0 + 1) j) (hR h (a0 + 1) j))).slots.getD (sp.toNatClampNeg + i) .null = va_rf (tr_o (hR h (a0 + 1) (sp.toNatClampNeg + i))) := by
        rw [Array.getD_eq_getD_getElem?, arrV_read _ _ (by omega)]
        rfl
      rw [e]
      have hi6 := h6 i hi
      have hi6 : hR h (a0 + 1) (sp.toNatClampNeg + i) = 0 ∨ ht h (hR h (a0 + 1) (sp.toNatClampNeg + i)) = 7 := hi6
      cases hy : hR h (a0 + 1) (sp.toNatClampNeg + i) with
      | zero => exact ⟨rfl, trivial⟩
      | succ y =>
        rw [hy] at hi6
        have hy7 : ht h (y + 1) = 7 := by rcases hi6 with g | g; cases g; exact g
        obtain ⟨-, cellV, g1, g2, g3, -⟩ := (Rp.2.2.1 y).2.1 6 _ hy7 rfl
        obtain ⟨kC', hkC', -⟩ := hal.2.2 _ _ hkC
        refine ⟨rfl, cellV, (show T.heap[y]? = some cellV by rw [hT]; exact g1), (fun q g => by rw [g3] at g; cases g), ⟨kC', by rw [g2]; exact hkC'⟩, ?_, ?_⟩
        · exact ⟨kC', by rw [hcomp]; exact hkC'⟩
        · show vm₁.assignable _ _ = true
          rw [hal.assignable, g2, hcomp]
          exact va_assign hcls)
    (g := F0 m pc ls (.int n :: .int dp :: .ref a :: .int sp :: .ref a0 :: st.map tr_cv)) rfl (hl.1.trans hML.symm) (rest := st.map tr_cv) rfl (by rw [hB]; exact hd) (by have := hRk.1; omega) (by have := hRk.2; rw [tr_wds_eq]; show 2 * 0 + tr_wds st + (nativeFrameWords "java/lang/System" "arraycopy" 5 + 11) ≤ R.locals; have : nativeFrameWords "java/lang/System" "arraycopy" 5 ≤ 100 := (by decide); omega)
  have ec : copied (arrV (eA E 4) (hn h (a0 + 1)) (fun j => tr_ev 4 (hI h (a0 + 1) j) (hJ h (a0 + 1) j) (hR h (a0 + 1) j))) (arrV (eA E 4) (hn h (a + 1)) (fun j => tr_ev 4 (hI h (a + 1) j) (hJ h (a + 1) j) (hR h (a + 1) j))) sp dp n = arrV (eA E 4) (hn h (a + 1)) (fun j => va_rf (va_cpy (fun i => tr_o (hR h (a0 + 1) i)) (fun i => tr_o (hR h (a + 1) i)) sp.toNatClampNeg dp.toNatClampNeg n.toNatClampNeg j)) :=
    va_copied (fun z => va_rf z) (eA E 4) (eA E 4) (fun i => tr_o (hR h (a0 + 1) i)) (fun i => tr_o (hR h (a + 1) i)) h4
  rw [ec] at X' stp
  have hla : a < H.size := (Array.getElem?_eq_some_iff.mp hH).1
  generalize hcl : arrV (eA E 4) (hn h (a + 1)) (fun j => va_rf (va_cpy (fun i => tr_o (hR h (a0 + 1) i)) (fun i => tr_o (hR h (a + 1) i)) sp.toNatClampNeg dp.toNatClampNeg n.toNatClampNeg j)) = cl at X' stp
  have hheap : ((T.setVm vm').setCell a cl).heap = H.setIfInBounds a cl := by rw [← hT]; rfl
  have oq : ∀ x : Nat, x ≠ a → (H.setIfInBounds a cl)[x]? = H[x]? := fun x hx => by simp [Array.getElem?_setIfInBounds, Ne.symm hx]
  have hz : (H.setIfInBounds a cl).size = H.size := by simp
  have hat : (H.setIfInBounds a cl)[a]? = some cl := by simp [Array.getElem?_setIfInBounds, hla]
  have hRp : tr_Rep E (hcp h (a0 + 1) (ixn sp) (a + 1) (ixn dp) (ixn n)) (H.setIfInBounds a cl) := by
    refine Rp.upd (by rw [hr]; decide) tr_ag_cp hlo hz oq (tr_acell (h := h) (H := H) (k := 4) (by decide) hr hlo ?_)
    rw [hat, ← hcl]
    refine congrArg some (arrV_congr fun j _ => ?_)
    show _ = tr_ev 4 _ _ (up1 (hR h) (a + 1) (va_cpy (hR h (a0 + 1)) (hR h (a + 1)) (ixn sp) (ixn dp) (ixn n)) (a + 1) j)
    rw [up1_eq]
    show va_rf _ = va_rf _
    rw [tr_o_cpy]
    rfl
  obtain ⟨t, b1, b2⟩ := kk p e s m args below meth c (H.setIfInBounds a cl) _ cells slots ls Cx hRp ⟨by rw [hz]; exact hS.1, fun x g1 g2 => by rw [oq x (fun e => g2 (by rw [e]; exact hlo))]; exact hS.2.1 x g1 g2, fun x hx => by
      rcases List.mem_append.mp hx with g | g
      · exact hS.2.2 x g
      · obtain ⟨z, -, hz2⟩ := List.mem_map.mp g
        rw [← hz2]
        exact hlo⟩ hl hc hs _ hheap X'
  exact ⟨t, stp t b1, b2⟩
end TRK
end
section
/-! THE CHECK OF A TABLE, AND THAT THE WEAKEST STARTS ARE RIGHT -/
def tr_nal : List Nat := [0, 2, 2, 1, 2, 0, 1, 0, 2, 2, 0, 1, 2, 4, 2, 2, 1, 1, 1, 2, 2, 3, 0, 1, 2, 0, 1, 1, 1, 2, 2, 2, 3, 2, 2, 1, 1, 5, 1, 3, 2, 3, 2, 0, 0, 0, 0, 1, 0, 0, 1, 0, 0, 0, 0, 0, 0, 2, 2, 0, 2, 2, 1, 1, 1, 1, 1, 1, 0, 0, 1, 2, 0, 5, 1, 0, 5, 0, 2, 3, 2, 0, 1, 2, 2, 2, 3, 3, 1, 1, 3, 3, 1, 3, 3, 1, 0, 2, 1, 2, 1, 0, 1, 1, 1, 0, 1, 0, 1, 0, 1, 0, 2, 1, 2, 2, 2, 3, 2, 0, 3, 3, 0, 1, 2, 1, 2, 1, 2, 2, 3, 3, 2, 2, 1, 1, 5, 1, 2, 0, 1, 1, 2, 0, 5, 1, 0, 0, 0, 0, 0, 1, 0, 0, 1, 1, 5, 0, 2, 3, 2, 2, 0, 1, 1, 1, 1, 2, 2, 1, 2, 3, 1, 3, 1, 1, 0, 0, 0, 3, 1, 1, 1, 1, 1, 3, 3, 2, 1, 2, 1, 2, 3, 3, 3, 3, 3, 1, 0, 2, 1, 2, 1, 1, 0, 1, 2, 3, 7, 4, 5, 4, 3, 4, 4, 4, 5, 5, 3, 5, 5, 3, 5, 5, 3, 4, 3, 4, 3]
def tr_na (a : Nat) : Nat := tr_nal.getD a 99
def tr_mck (q : tr_MI × Nat) : Bool := decide ((mY q.1).cls ≠ "java/lang/invoke/MethodHandle") && (decide ((mY q.1).cls ≠ "java/lang/invoke/VarHandle") && (decide ((parseMethodDescriptor (mY q.1).desc).map (fun d => d.parameters.length) = some q.2) && Nat.ble (mL q.1) 45))
set_option maxRecDepth 100000 in
theorem tr_mck_all : (tr_ml.zip tr_nal).all tr_mck = true := by decide +kernel
set_option maxRecDepth 100000 in
theorem tr_ml_len : tr_ml.length = 229 := rfl
set_option maxRecDepth 100000 in
theorem tr_nal_len : tr_nal.length = 229 := rfl
theorem tr_Mok_of {a : Nat} (h : a < 229) : tr_Mok (tr_mi a) (tr_na a) := by
  have h1 : a < tr_ml.length := by rw [tr_ml_len]; exact h
  have h2 : a < tr_nal.length := by rw [tr_nal_len]; exact h
  have e1 : tr_mi a = tr_ml[a] := by unfold tr_mi; rw [List.getD_eq_getElem?_getD, List.getElem?_eq_getElem h1]; rfl
  have e2 : tr_na a = tr_nal[a] := by unfold tr_na; rw [List.getD_eq_getElem?_getD, List.getElem?_eq_getElem h2]; rfl
  have hm : tr_mi a ∈ tr_ml := by rw [e1]; exact List.getElem_mem h1
  have hz : (tr_mi a, tr_na a) ∈ tr_ml.zip tr_nal := by
    rw [e1, e2]
    have : (tr_ml.zip tr_nal)[a]? = some (tr_ml[a], tr_nal[a]) := by rw [List.getElem?_zip_eq_some]; exact ⟨List.getElem?_eq_getElem h1, List.getElem?_eq_getElem h2⟩
    exact List.mem_of_getElem? this
  have hk := List.all_eq_true.mp tr_mck_all _ hz
  unfold tr_mck at hk
  simp only [Bool.and_eq_true, decide_eq_true_eq, Nat.ble_eq] at hk
  exact ⟨tr_cw_in _ (List.mem_map.mpr ⟨_, hm, rfl⟩), tr_iw_in _ (List.mem_map.mpr ⟨_, hm, rfl⟩), tr_kw_in _ (List.mem_map.mpr ⟨_, hm, rfl⟩), tr_sw_in _ (List.mem_map.mpr ⟨_, hm, rfl⟩), ⟨hk.1, hk.2.1⟩, hk.2.2.1, hk.2.2.2⟩
def tr_nl : List (Nat × Nat × Nat) := [(4, 19, 3), (6, 21, 3), (7, 17, 7), (7, 19, 3), (7, 37, 2), (7, 44, 1), (7, 51, 6), (7, 69, 5), (7, 103, 4), (9, 8, 8), (9, 89, 9)]
theorem tr_nl_in : ∀ w ∈ tr_nl.map (fun q => Cond.classLink (tr_R q.1) q.2.1 ((vwCl.getD (q.2.2 - 1) (RX0, TX0, 0)).1)), w ∈ tr_LW := tr_inLW _ [(2, 205), (2, 35), (1, 31), (1, 33), (1, 111), (1, 173), (1, 198), (2, 199), (3, 170), (1, 23), (5, 91)] (by decide +kernel) (by decide +kernel)
def tr_ob : List (Nat × Nat) := [(0, 3), (1, 3), (2, 3), (3, 3), (4, 3), (5, 3), (6, 3), (7, 3), (8, 11)]
theorem tr_ob_in : ∀ w ∈ tr_ob.map (fun q => Cond.methodLink (tr_R q.1) q.2 objectInit), w ∈ tr_LW := tr_inLW _ [(1, 178), (1, 116), (1, 38), (3, 175), (2, 204), (1, 203), (1, 88), (1, 28), (5, 96)] (by decide +kernel) (by decide +kernel)
def tr_an : List (Nat × Nat × Nat) := [(6, 15, 16), (7, 17, 15)]
theorem tr_an_in : ∀ w ∈ tr_an.map (fun q => Cond.classLink (tr_R q.1) q.2.1 (if Nat.beq q.2.2 15 then RX6 else RX3)), w ∈ tr_LW := tr_inLW _ [(1, 89), (1, 31)] (by decide +kernel) (by decide +kernel)
def tr_kc : List (Nat × Nat × Nat) := [(2, 41, 11), (6, 27, 16)]
theorem tr_kc_in : ∀ w ∈ tr_kc.map (fun q => Cond.classLink (tr_R q.1) q.2.1 ("[" ++ (tr_aty (q.2.2 - 11)).toString)), w ∈ tr_LW := tr_inLW _ [(2, 45), (2, 50)] (by decide +kernel) (by decide +kernel)
def tr_kl : List (Nat × Nat × Nat) := [(2, 40, 11), (6, 26, 16)]
theorem tr_kl_in : ∀ w ∈ tr_kl.map (fun q => Cond.methodLink (tr_R q.1) q.2.1 ⟨"[" ++ (tr_aty (q.2.2 - 11)).toString, "clone", "()Ljava/lang/Object;"⟩), w ∈ tr_LW := tr_inLW _ [(2, 39), (2, 46)] (by decide +kernel) (by decide +kernel)
def tr_mnl : List (Nat × Nat) := [(4, 140), (8, 150)]
theorem tr_mnl_in : ∀ w ∈ tr_mnl.map (fun q => Cond.methodLink (tr_R q.1) q.2 Lib.Math.min.name), w ∈ tr_LW := tr_inLW _ [(3, 79), (6, 15)] (by decide +kernel) (by decide +kernel)
def tr_mxl : List (Nat × Nat) := [(8, 175)]
theorem tr_mxl_in : ∀ w ∈ tr_mxl.map (fun q => Cond.methodLink (tr_R q.1) q.2 Lib.Math.max.name), w ∈ tr_LW := tr_inLW _ [(6, 52)] (by decide +kernel) (by decide +kernel)
def tr_acl : List (Nat × Nat) := [(7, 313)]
theorem tr_acl_in : ∀ w ∈ tr_acl.map (fun q => Cond.methodLink (tr_R q.1) q.2 arraycopyName), w ∈ tr_LW := tr_inLW _ [(2, 29)] (by decide +kernel) (by decide +kernel)
def tr_l2 : List (Nat × Nat × Nat) := [(7, 294, 31), (8, 339, 31)]
theorem tr_l2_in : ∀ w ∈ tr_l2.map (fun q => Cond.constantLong (tr_R q.1) q.2.1 (jj (q.2.2 : Nat))), w ∈ tr_LW := tr_inLW _ [(2, 114), (7, 75)] (by decide +kernel) (by decide +kernel)
def tr_l1 : List (Nat × Nat × Nat) := [(4, 139, 100000), (8, 149, 100000)]
theorem tr_l1_in : ∀ w ∈ tr_l1.map (fun q => Cond.constant (tr_R q.1) q.2.1 (ii (q.2.2 : Nat))), w ∈ tr_LW := tr_inLW _ [(3, 78), (6, 14)] (by decide +kernel) (by decide +kernel)
def tr_sll : List (Nat × Nat) := [(4, 145), (8, 130)]
def tr_scl : List (Nat × Nat) := [(4, 149), (8, 138)]
theorem tr_lib_in : Cond.instanceMethod objectInit ∈ tr_LW ∧ Cond.code objectInit ⟨#[0xb1]⟩ 1 none ∈ tr_LW ∧ Cond.static Lib.Math.min.name ∈ tr_LW ∧ Cond.initialized "java/lang/Math" ∈ tr_LW ∧ Cond.code Lib.Math.min.name Lib.Math.min.code 2 (some .int) ∈ tr_LW ∧ Cond.static Lib.Math.max.name ∈ tr_LW ∧ Cond.code Lib.Math.max.name Lib.Math.max.code 2 (some .int) ∈ tr_LW ∧ Cond.native arraycopyName ∈ tr_LW ∧ Cond.static arraycopyName ∈ tr_LW ∧ Cond.initialized "java/lang/System" ∈ tr_LW := by
  refine ⟨?_, ?_, ?_, ?_, ?_, ?_, ?_, ?_, ?_, ?_⟩ <;> exact List.mem_filter.mpr ⟨by decide +kernel, by decide +kernel⟩
theorem tr_cln_in : ∀ k, k = 0 ∨ k = 5 → Cond.sameMethod ("[" ++ (tr_aty k).toString) "java/lang/Object" "clone" "()Ljava/lang/Object;" ∈ tr_LW ∧ Cond.native tr_cln ∈ tr_LW ∧ Cond.instanceMethod tr_cln ∈ tr_LW ∧ Cond.selects ("[" ++ (tr_aty k).toString) ⟨"[" ++ (tr_aty k).toString, "clone", "()Ljava/lang/Object;"⟩ tr_cln ∈ tr_LW ∧ Cond.castable ("[" ++ (tr_aty k).toString) "java/lang/Cloneable" ∈ lw_tbl := by
  rintro k (rfl | rfl) <;> exact ⟨List.mem_filter.mpr ⟨by decide +kernel, by decide +kernel⟩, List.mem_filter.mpr ⟨by decide +kernel, by decide +kernel⟩, List.mem_filter.mpr ⟨by decide +kernel, by decide +kernel⟩, List.mem_filter.mpr ⟨by decide +kernel, by decide +kernel⟩, by decide +kernel⟩
theorem tr_arrc_in : ∀ t, (t = .int ∨ t = .byte ∨ t = .boolean ∨ t = .long) → Cond.arrayClass (newarray.typeOf t) ∈ tr_LW := by
  rintro t (rfl | rfl | rfl | rfl) <;> exact List.mem_filter.mpr ⟨by decide +kernel, by decide +kernel⟩
theorem tr_nt_in : ∀ w ∈ tr_nt.map (fun q => Cond.methodLinkNest (tr_R q.1) q.2.1 (mY (tr_mi q.2.2)) RX7), w ∈ lw_tbl := by decide +kernel
theorem tr_over_in : Cond.arrayOver (.object RX6) ∈ lw_tbl ∧ Cond.arrayOver (.object RX3) ∈ lw_tbl := ⟨by decide +kernel, by decide +kernel⟩
end
section
/-! A METHOD'S ENTRY, AND ITS CONTRACT OUT OF THE WALK -/
/-- the locals at a method's entry -/
def tr_ent : Nat → List tr_V → tr_L
  | n, [] => List.replicate n none
  | n, .inr (.inl x) :: vs => some (.inr (.inl x)) :: none :: tr_ent (n - 2) vs
  | n, v :: vs => some v :: tr_ent (n - 1) vs
theorem tr_cat_ne {v : tr_V} (h : ∀ x, v ≠ .inr (.inl x)) : ¬ (tr_cv v).category = 2 := by
  rcases v with x | x | x
  · simp [tr_cv, Value.category]
  · exact absurd rfl (h x)
  · rw [tr_cat1]; decide
theorem tr_ent_get : ∀ (vs : List tr_V) (n i j : Nat) (u : tr_V), lvg (tr_ent n vs) j = some u → (i + j, tr_cv u) ∈ lv_args i (vs.map tr_cv)
  | [], n, i, j, u, h => by
    exfalso
    unfold lvg tr_ent at h
    rw [List.getD_eq_getElem?_getD, List.getElem?_replicate] at h
    split at h <;> cases h
  | .inl x :: vs, n, i, 0, u, h => by
    cases h
    exact List.mem_cons_self
  | .inl x :: vs, n, i, j + 1, u, h => by
    have := tr_ent_get vs (n - 1) (i + 1) j u h
    rw [show i + 1 + j = i + (j + 1) by omega] at this
    exact List.mem_cons_of_mem _ this
  | .inr (.inr x) :: vs, n, i, 0, u, h => by
    cases h
    exact List.mem_cons_self
  | .inr (.inr x) :: vs, n, i, j + 1, u, h => by
    have := tr_ent_get vs (n - 1) (i + 1) j u h
    rw [show i + 1 + j = i + (j + 1) by omega] at this
    refine List.mem_cons_of_mem _ ?_
    rw [if_neg (by rw [tr_cat1]; decide)]
    exact this
  | .inr (.inl x) :: vs, n, i, 0, u, h => by
    cases h
    exact List.mem_cons_self
  | .inr (.inl x) :: vs, n, i, 1, u, h => by cases h
  | .inr (.inl x) :: vs, n, i, j + 2, u, h => by
    have := tr_ent_get vs (n - 2) (i + 2) j u h
    rw [show i + 2 + j = i + (j + 2) by omega] at this
    exact List.mem_cons_of_mem _ this
theorem tr_ent_ok {ls : Array Slot} {k n : Nat} {vs : List tr_V} (h : lv_has ls k (lv_args 0 (vs.map tr_cv))) : lv_has ls k (tr_al (tr_ent n vs)) := by
  refine tr_lv_mono h ?_
  rintro ⟨j, w⟩ hq
  obtain ⟨u, hu, rfl⟩ := tr_al_mem.mp hq
  have := tr_ent_get vs n 0 j u hu
  rw [Nat.zero_add] at this
  exact this
def tr_ws (vs : List tr_V) : Nat := (lg_sl (vs.map tr_cv)).length
theorem tr_ws_le (vs : List tr_V) : tr_ws vs ≤ 2 * vs.length := by
  unfold tr_ws
  induction vs with
  | nil => exact Nat.le_refl _
  | cons v vs ih =>
    have h1 : lg_sl ((v :: vs).map tr_cv) = (if (tr_cv v).category = 2 then [.val (tr_cv v), .second] else [.val (tr_cv v)]) ++ lg_sl (vs.map tr_cv) := by simp [lg_sl]
    rw [h1, List.length_append]
    have h2 : (if (tr_cv v).category = 2 then [Slot.val (tr_cv v), Slot.second] else [Slot.val (tr_cv v)]).length ≤ 2 := by split <;> exact Nat.le_of_ble_eq_true rfl
    simp only [List.length_cons]
    omega
def tr_wsT : List tr_V → Nat
  | [] => 0
  | .inl _ :: vs => tr_wsT vs + 1
  | .inr (.inl _) :: vs => tr_wsT vs + 2
  | .inr (.inr _) :: vs => tr_wsT vs + 1
theorem tr_ws_eq : ∀ vs : List tr_V, tr_ws vs = tr_wsT vs
  | [] => rfl
  | .inl x :: vs => by
    have := tr_ws_eq vs
    unfold tr_ws at this ⊢
    show (lg_sl (Value.int x :: vs.map tr_cv)).length = tr_wsT vs + 1
    rw [← this]
    simp [lg_sl, Value.category]
  | .inr (.inl x) :: vs => by
    have := tr_ws_eq vs
    unfold tr_ws at this ⊢
    show (lg_sl (Value.long x :: vs.map tr_cv)).length = tr_wsT vs + 2
    rw [← this]
    simp [lg_sl, Value.category]
  | .inr (.inr x) :: vs => by
    have := tr_ws_eq vs
    unfold tr_ws at this ⊢
    show (lg_sl (tr_cv (.inr (.inr x)) :: vs.map tr_cv)).length = tr_wsT vs + 1
    rw [← this]
    simp [lg_sl, tr_cat1]
section TRN
variable {E : tr_Env} {M : tr_MI} {Q : tr_Q} {h : tr_H} {as : List tr_V} {d : Nat}
/-- a contract, out of the walk from the entry -/
theorem tr_Cd_of (hcw : tr_cw M ∈ tr_LW) (hy : plainName (mY M).cls = true) (hsl : tr_ws as ≤ mL M) (hG : tr_W E M (tr_room d (mC M) (mS M)) (mC M) (mS M) (tr_Z E Q (mC M) (mS M)) 0 (tr_ent (mL M) as) [] h (mC M) (mS M)) : tr_Cd E d M as h Q := by
  unfold tr_Cd
  have main : ∀ (p : Program) (e : Env) (s : State) (m : MethodId) (args : Array Value) (below : List Frame) (meth : Method) (c : Code) (s₁ : State), BodyLoose p (eL E) (mY M) (headSpec tr_LW (tr_room d (mC M) (mS M))) (mB M) (mL M) (mR M) e s m args below meth c s₁ → c.maxLocals = mL M → c.exceptionTable.toList = tableOf (mH M) → tr_Pc E as h args s →
      W p (eL E) e (headSpec tr_LW (tr_room d (mC M) (mS M))).room s m args below meth c s.heap [] 0 0 (vx_MQ below (tr_Qc E Q) (tr_Xc E Q) args s (mC M) (mS M) (eO E)) (entryFrame m args (mL M)) := by
    intro p e s m args below meth c s₁ B hml htb hP
    obtain ⟨rfl, Rp, hW⟩ := hP
    have hl := lv_entry (as.map tr_cv) (n := mL M) hsl
    rw [lg_entry_eq]
    generalize (lg_sl (as.map tr_cv) ++ List.replicate (mL M - (lg_sl (as.map tr_cv)).length) Slot.unset).toArray = ls at hl ⊢
    exact hG p e s m _ below meth c s.heap [] 0 0 ls ⟨B.exec, B.bytes, hml, findClass_of_methodNamed B.named, atoms_spec (ws := tr_LW) B.pre, hW, B.returns, B.notSynchronized, (name_of_methodNamed B.named B.method).1, htb, Rp.2.1⟩ Rp va_S.rf (tr_ent_ok hl) (by omega) (by omega)
  refine MetFree.of_bodyS (code := mB M) (maxLocals := mL M) (ret := mR M) hy ?_ ?_
  · intro args s m hpre hn
    unfold tr_cw at hcw
    split at hcw
    · obtain ⟨meth, c, h1, h2, h3, h4, h5, h6, -, -⟩ := Cond.code_spec hn (atoms_spec (ws := tr_LW) hpre _ hcw)
      exact ⟨meth, c, h1, h2, h3, h4, h5, h6⟩
    · obtain ⟨m9, meth, c, hn9, h1, h2, h3, h4, -, h5, h6, -⟩ := Cond.codeWith_spec (atoms_spec (ws := tr_LW) hpre _ hcw)
      cases hn.symm.trans hn9
      exact ⟨meth, c, h1, h2, h3, h4, h5, h6⟩
  · intro p e s m args below meth c s₁ B hml hP _
    have hh0 : s₁.heap = s.heap := by rw [B.state]; rfl
    have htb : c.exceptionTable.toList = tableOf (mH M) := by
      unfold tr_cw at hcw
      split at hcw
      · next hh =>
        obtain ⟨meth9, c9, h1, h2, -, -, -, -, h7, -⟩ := Cond.code_spec B.named (atoms_spec (ws := tr_LW) B.pre _ hcw)
        cases Option.some.inj (h1.symm.trans B.method)
        cases Option.some.inj (h2.symm.trans (Stand.of_body B).code)
        rw [Array.isEmpty_iff.mp h7, hh]
        rfl
      · exact vx_table (x := mY M) B (atoms_spec (ws := tr_LW) B.pre _ hcw)
    obtain ⟨t, a1, o, b1, b2, b3⟩ := main p e s m args below meth c s₁ B hml htb hP s₁ hh0 (Stand.of_body B)
    exact ⟨t, o, a1, b1, b2, b3⟩
end TRN
end
section
/-! THE TEXTS' OWN METHODS -/
def mi_J3_checkIndex : tr_MI := (yJ3_checkIndex_8e157, cJ3_checkIndex_8e157, 3, some .int, 1, 0, 0, 0, [], 2)
def mi_J0_checkIndex : tr_MI := (yJ0_checkIndex_df160, cJ0_checkIndex_df160, 2, none, 2, 0, 0, 0, [], 2)
def mi_J1_charAt : tr_MI := (yJ1_charAt_3b067, cJ1_charAt_3b067, 2, some .char, 3, 0, 0, 0, [], 2)
def mi_J0_isLatin1 : tr_MI := (yJ0_isLatin1_aae02, cJ0_isLatin1_aae02, 1, some .boolean, 1, 0, 0, 0, [], 0)
def mi_J0_charAt : tr_MI := (yJ0_charAt_5068e, cJ0_charAt_5068e, 2, some .char, 4, 0, 0, 0, [], 0)
def mi_J0_coder : tr_MI := (yJ0_coder_7d493, cJ0_coder_7d493, 1, some .byte, 1, 0, 0, 0, [], 0)
def mi_J0_length : tr_MI := (yJ0_length_8abf5, cJ0_length_8abf5, 1, some .int, 2, 0, 0, 0, [], 0)
set_option maxRecDepth 100000 in
theorem ok_J3_checkIndex : tr_Mok mi_J3_checkIndex 3 := ⟨List.mem_filter.mpr ⟨by decide +kernel, by decide +kernel⟩, List.mem_filter.mpr ⟨by decide +kernel, by decide +kernel⟩, List.mem_filter.mpr ⟨by decide +kernel, by decide +kernel⟩, List.mem_filter.mpr ⟨by decide +kernel, by decide +kernel⟩, ⟨by decide +kernel, by decide +kernel⟩, by decide +kernel, by decide +kernel⟩
theorem ok_J0_checkIndex : tr_Mok mi_J0_checkIndex 2 := ⟨List.mem_filter.mpr ⟨by decide +kernel, by decide +kernel⟩, List.mem_filter.mpr ⟨by decide +kernel, by decide +kernel⟩, List.mem_filter.mpr ⟨by decide +kernel, by decide +kernel⟩, List.mem_filter.mpr ⟨by decide +kernel, by decide +kernel⟩, ⟨by decide +kernel, by decide +kernel⟩, by decide +kernel, by decide +kernel⟩
theorem ok_J1_charAt : tr_Mok mi_J1_charAt 2 := ⟨List.mem_filter.mpr ⟨by decide +kernel, by decide +kernel⟩, List.mem_filter.mpr ⟨by decide +kernel, by decide +kernel⟩, List.mem_filter.mpr ⟨by decide +kernel, by decide +kernel⟩, List.mem_filter.mpr ⟨by decide +kernel, by decide +kernel⟩, ⟨by decide +kernel, by decide +kernel⟩, by decide +kernel, by decide +kernel⟩
theorem ok_J0_isLatin1 : tr_Mok mi_J0_isLatin1 0 := ⟨List.mem_filter.mpr ⟨by decide +kernel, by decide +kernel⟩, List.mem_filter.mpr ⟨by decide +kernel, by decide +kernel⟩, List.mem_filter.mpr ⟨by decide +kernel, by decide +kernel⟩, List.mem_filter.mpr ⟨by decide +kernel, by decide +kernel⟩, ⟨by decide +kernel, by decide +kernel⟩, by decide +kernel, by decide +kernel⟩
theorem ok_J0_charAt : tr_Mok mi_J0_charAt 1 := ⟨List.mem_filter.mpr ⟨by decide +kernel, by decide +kernel⟩, List.mem_filter.mpr ⟨by decide +kernel, by decide +kernel⟩, List.mem_filter.mpr ⟨by decide +kernel, by decide +kernel⟩, List.mem_filter.mpr ⟨by decide +kernel, by decide +kernel⟩, ⟨by decide +kernel, by decide +kernel⟩, by decide +kernel, by decide +kernel⟩
theorem ok_J0_coder : tr_Mok mi_J0_coder 0 := ⟨List.mem_filter.mpr ⟨by decide +kernel, by decide +kernel⟩, List.mem_filter.mpr ⟨by decide +kernel, by decide +kernel⟩, List.mem_filter.mpr ⟨by decide +kernel, by decide +kernel⟩, List.mem_filter.mpr ⟨by decide +kernel, by decide +kernel⟩, ⟨by decide +kernel, by decide +kernel⟩, by decide +kernel, by decide +kernel⟩
theorem ok_J0_length : tr_Mok mi_J0_length 0 := ⟨List.mem_filter.mpr ⟨by decide +kernel, by decide +kernel⟩, List.mem_filter.mpr ⟨by decide +kernel, by decide +kernel⟩, List.mem_filter.mpr ⟨by decide +kernel, by decide +kernel⟩, List.mem_filter.mpr ⟨by decide +kernel, by decide +kernel⟩, ⟨by decide +kernel, by decide +kernel⟩, by decide +kernel, by decide +kernel⟩
theorem tr_ssw : Cond.fieldLink RJ0 38 "java/lang/String" "COMPACT_STRINGS" "Z" ∈ tr_LW ∧ Cond.fieldLink RJ0 15 "java/lang/String" "coder" "B" ∈ tr_LW ∧ Cond.fieldLink RJ0 9 "java/lang/String" "value" "[B" ∈ tr_LW ∧ Cond.fieldLink RJ0 1053 "jdk/internal/util/Preconditions" "SIOOBE_FORMATTER" "Ljava/util/function/BiFunction;" ∈ tr_LW ∧
    Cond.methodLink RJ0 1059 yJ3_checkIndex_8e157 ∈ tr_LW ∧ Cond.methodLink RJ1 9 yJ0_checkIndex_df160 ∈ tr_LW ∧ Cond.methodLink RJ0 495 yJ1_charAt_3b067 ∈ tr_LW ∧ Cond.methodLink RJ0 492 yJ0_isLatin1_aae02 ∈ tr_LW ∧ Cond.methodLink RJ0 335 yJ0_coder_7d493 ∈ tr_LW ∧ Cond.methodLink RX4 145 yJ0_length_8abf5 ∈ tr_LW ∧ Cond.methodLink RX8 130 yJ0_length_8abf5 ∈ tr_LW ∧ Cond.methodLink RX4 149 yJ0_charAt_5068e ∈ tr_LW ∧ Cond.methodLink RX8 138 yJ0_charAt_5068e ∈ tr_LW := by
  refine ⟨?_, ?_, ?_, ?_, ?_, ?_, ?_, ?_, ?_, ?_, ?_, ?_, ?_⟩ <;> exact List.mem_filter.mpr ⟨by decide +kernel, by decide +kernel⟩
section TRS
variable {E : tr_Env} {M : tr_MI} {R : Room} {lc lz : Nat} {Z : List Frame → Array Value → State → State → Prop} {pc : Nat} {lv : tr_L} {st : List tr_V} {h : tr_H} {rc rs : Nat} {Q : tr_Q} {mc ms : Nat}
theorem tr_r_i2c {x y : Int32} (hd : decode (mB M) pc = .ok (.i2c, 1)) (hv : (x.toUInt32 % 65536).toInt32 = y) (k : tr_W E M R lc lz Z (pc + 1) lv (.inl y :: st) h rc rs) : tr_W E M R lc lz Z pc lv (.inl x :: st) h rc rs := by
  intro p e s m args below meth c H locs cells slots ls Cx Rp hS hl hc hs
  exact lv_i2c Cx.1 Cx.2.1 hd hv (k p e s m args below meth c H locs cells slots ls Cx Rp hS hl hc hs)
theorem tr_r_nret (hlc : lc ≤ mc) (hlz : lz ≤ ms) {x y : Int32} {ty : FieldType} (hd : decode (mB M) pc = .ok (.ireturn, 1)) (hr : mR M = some ty) (hn : narrow ty (.int x) = .int y) (hq : Q (.inl (some (.inl y))) h) : tr_W E M R lc lz (tr_Z E Q mc ms) pc lv [.inl x] h rc rs := by
  intro p e s m args below meth c H locs cells slots ls Cx Rp hS hl hc hs
  obtain ⟨hX, hB, hML, hown, hts, hW, hrt, hlk, -⟩ := id Cx
  exact vx_ret (W.widen (k := mc) (n := ms) (by omega) (by omega) (tr_bret hX hB (hrt.trans hr) hn (fun t ht _ => tr_Qc_of (some (.inl y)) Rp hq rfl ht) hS.2.2 hd hlk))
theorem tr_Cx.kp {p : Program} {s : State} {m : MethodId} {args : Array Value} {meth : Method} {c : Code} (Cx : tr_Cx E M p s m args meth c) : ∀ a : Nat, a < (eS E).heap.size → ¬ eO E a → s.heap[a]? = (eS E).heap[a]? := fun a h1 _ => Cx.2.2.2.2.2.2.2.2.2.2.2 a h1
/-- COMPACT_STRINGS -/
theorem tr_s_cs (so : tr_sok E) (hcl : (mY M).cls = RJ0) (hd : decode (mB M) pc = .ok (.getstatic 38, 3)) (k : tr_W E M R lc lz Z (pc + 3) lv (.inl (ii 1) :: st) h rc rs) : tr_W E M R lc lz Z pc lv st h rc rs := by
  intro p e s m args below meth c H locs cells slots ls Cx Rp hS hl hc hs
  obtain ⟨hX, hB, hML, hown, hts, hW, -⟩ := id Cx
  rw [hcl] at hown
  exact va_gets hX hB ((va_Z.moved hW.alike so.1).kept Cx.kp) hS hown (hts _ tr_ssw.1) (fun _ q => q) hd (k p e s m args below meth c H locs cells slots ls Cx Rp hS hl hc hs)
theorem tr_s_fm (so : tr_sok E) (hcl : (mY M).cls = RJ0) (hd : decode (mB M) pc = .ok (.getstatic 1053, 3)) (k : ∀ t, tr_W E M R lc lz Z (pc + 3) lv (.inr (.inr t) :: st) h rc rs) : tr_W E M R lc lz Z pc lv st h rc rs := by
  intro p e s m args below meth c H locs cells slots ls Cx Rp hS hl hc hs
  obtain ⟨hX, hB, hML, hown, hts, hW, -⟩ := id Cx
  rw [hcl] at hown
  rcases so.2 with z | ⟨t, z⟩
  · exact va_gets hX hB ((va_Z.moved hW.alike z).kept Cx.kp) hS hown (hts _ tr_ssw.2.2.2.1) (fun _ q => q) hd (k 0 p e s m args below meth c H locs cells slots ls Cx Rp hS hl hc hs)
  · exact va_gets hX hB ((va_Z.moved hW.alike z).kept Cx.kp) hS hown (hts _ tr_ssw.2.2.2.1) (fun _ q => q) hd (k (t + 1) p e s m args below meth c H locs cells slots ls Cx Rp hS hl hc hs)
theorem tr_s_cod (hcl : (mY M).cls = RJ0) (hd : decode (mB M) pc = .ok (.getfield 15, 3)) {q : Nat} (hq : ht h q = 18) (k : tr_W E M R lc lz Z (pc + 3) lv (.inl (ii 0) :: st) h rc rs) : tr_W E M R lc lz Z pc lv (.inr (.inr q) :: st) h rc rs := by
  intro p e s m args below meth c H locs cells slots ls Cx Rp hS hl hc hs
  obtain ⟨hX, hB, hML, hown, hts, hW, -⟩ := id Cx
  rw [hcl] at hown
  obtain ⟨a, rfl⟩ := tr_o_of Rp.1 hq
  obtain ⟨v, s1, s2, s3, s4, -⟩ := (Rp.2.2.1 a).2.2.2.2 hq
  exact vk_getf hX hB ((va_OF.moved hW.alike s2).kept Cx.kp) hS hown (hts _ tr_ssw.2.1) (fun _ q => q) hd (k p e s m args below meth c H locs cells slots ls Cx Rp hS hl hc hs)
/-- the bytes of a text -/
def tr_sB (E : tr_Env) (h : tr_H) (q v : Nat) : Prop := ∃ a, v = a + 1 ∧ va_T .byte a (hn h q) (fun j => .int (hI h q j)) (eO E) (eS E) (eS E).heap
theorem tr_s_val (hcl : (mY M).cls = RJ0) (hd : decode (mB M) pc = .ok (.getfield 9, 3)) {q : Nat} (hq : ht h q = 18) (k : ∀ v, tr_sB E h q v → tr_W E M R lc lz Z (pc + 3) lv (.inr (.inr v) :: st) h rc rs) : tr_W E M R lc lz Z pc lv (.inr (.inr q) :: st) h rc rs := by
  intro p e s m args below meth c H locs cells slots ls Cx Rp hS hl hc hs
  obtain ⟨hX, hB, hML, hown, hts, hW, -⟩ := id Cx
  rw [hcl] at hown
  obtain ⟨a, rfl⟩ := tr_o_of Rp.1 hq
  obtain ⟨v, s1, s2, s3, s4, -⟩ := (Rp.2.2.1 a).2.2.2.2 hq
  exact vk_getf hX hB ((va_OF.moved hW.alike s3).kept Cx.kp) hS hown (hts _ tr_ssw.2.2.1) (fun _ q => q) hd (k (v + 1) ⟨v, rfl, s4⟩ p e s m args below meth c H locs cells slots ls Cx Rp hS hl hc hs)
theorem tr_s_len {q v : Nat} (hB' : tr_sB E h q v) (hd : decode (mB M) pc = .ok (.arraylength, 1)) (k : tr_W E M R lc lz Z (pc + 1) lv (.inl (ii (hn h q : Nat)) :: st) h rc rs) : tr_W E M R lc lz Z pc lv (.inr (.inr v) :: st) h rc rs := by
  intro p e s m args below meth c H locs cells slots ls Cx Rp hS hl hc hs
  obtain ⟨hX, hB, hML, hown, hts, hW, -⟩ := id Cx
  obtain ⟨a, rfl, hT⟩ := hB'
  exact va_tlen hX hB ((va_T.moved hW.alike hT).kept Cx.kp) hS (tr_iiN _).symm hd (k p e s m args below meth c H locs cells slots ls Cx Rp hS hl hc hs)
theorem tr_s_at {q v : Nat} {x : Int32} (hB' : tr_sB E h q v) (hx : ixo x (hn h q)) (hd : decode (mB M) pc = .ok (.baload, 1)) (k : tr_W E M R lc lz Z (pc + 1) lv (.inl (hI h q (ixn x)) :: st) h rc rs) : tr_W E M R lc lz Z pc lv (.inl x :: .inr (.inr v) :: st) h rc rs := by
  intro p e s m args below meth c H locs cells slots ls Cx Rp hS hl hc hs
  obtain ⟨hX, hB, hML, hown, hts, hW, -⟩ := id Cx
  obtain ⟨a, rfl, hT⟩ := hB'
  exact va_tb hX hB ((va_T.moved hW.alike hT).kept Cx.kp) hS (tr_in_of hx) rfl hd (k p e s m args below meth c H locs cells slots ls Cx Rp hS hl hc hs)
/-- a call on a text -/
theorem tr_s_call (hlc : lc ≤ R.cells) (hlz : lz ≤ R.slots) {idx d n r : Nat} {N : tr_MI} {as rest : List tr_V} {Q : tr_Q} (hd : decode (mB M) pc = .ok (.invokevirtual idx, 3)) (hN : tr_Mok N n) (hh : mH N = []) (hK : mK N = 0) (hR : tr_Rok R (d + 1)) (hw : Cond.methodLink (mY M).cls idx (mY N) ∈ tr_LW)
    (hcl : (mY N).cls = "java/lang/String") (htg : ht h r = 18) (hn : as.length = n) (hwd : tr_wds rest ≤ 8) (hmc : mC N ≤ rc) (hms : mS N ≤ rs) (hC : tr_Cd E d N (.inr (.inr r) :: as) h Q)
    (kr : ∀ v h', Q (.inl v) h' → tr_W E M R lc lz Z (pc + 3) lv (v.toList ++ rest) h' (rc - mC N) (rs - mS N)) (kx : ∀ k h', k < 3 → Q (.inr k) h' → tr_T E M R lc lz Z pc lv rest h' (rc - mC N) (rs - mS N) k) :
    tr_W E M R lc lz Z pc lv ((.inr (.inr r) :: as).reverse ++ rest) h rc rs := by
  intro p e s m args below meth c H locs cells slots ls Cx Rp hS hl hc hs
  obtain ⟨hX, hB, hML, hown, hts, hW, -⟩ := id Cx
  obtain ⟨a, rfl⟩ := tr_o_of Rp.1 htg
  obtain ⟨v, s1, s2, s3, s4, -⟩ := (Rp.2.2.1 a).2.2.2.2 htg
  obtain ⟨cell, g1, g2, g3, g4⟩ := va_O.moved hW.alike s1
  have hlt : a < elo E := (Array.getElem?_eq_some_iff.mp g1).1
  have hkw : (Cond.instanceMethod (mY N)).before args s = true := by
    have := hts _ hN.2.2.1
    unfold tr_kw at this
    rw [hK] at this
    exact this
  have hsw : (Cond.selects (mY N).cls (mY N) (mY N)).before args s = true := by
    have := hts _ hN.2.2.2.1
    unfold tr_sw at this
    rw [hK] at this
    exact this
  refine tr_after Cx Rp hS hl hc hs hmc hms (vx_runV (C := (mY N).cls) (b := a) (As := as.map tr_cv) (rest := rest.map tr_cv) (g := F0 m pc ls _) ⟨hX, hB, hML, hown, hts⟩ hC ⟨tr_callB Cx hN hh hR (hts _ hw), hkw, hsw⟩ ⟨tr_Pc_blind, ⟨cell, by rw [Rp.2.1.2 a hlt]; exact g1, g2, by rw [hcl]; exact g3⟩, tr_Pc_of Cx Rp rfl⟩ rfl (by rw [List.length_map]; exact hn) hl.1 tr_stk1 (lv_room (by rw [tr_wds_eq]; exact hwd)) hd ⟨by omega, by omega⟩) kr kx
end TRS
end
section
/-! THE TEXTS' OWN METHODS, walked -/
theorem tr_s_k : ∀ k : Fin 128, ii (k.val : Nat) &&& ii 255 = ii (k.val : Nat) ∧ ((ii (k.val : Nat)).toUInt32 % 65536).toInt32 = ii (k.val : Nat) ∧ narrow .char (.int (ii (k.val : Nat))) = .int (ii (k.val : Nat)) := by decide +kernel
theorem tr_s_ix {x : Int32} {n : Nat} (hx : ixo x n) (hn : n ≤ 1000) : ¬ x < ii 0 ∧ x < ii (n : Nat) := by
  obtain ⟨h1, h2⟩ := hx
  have e0 : (ii 0).toInt = 0 := by decide
  have en : (ii (n : Nat)).toInt = (n : Int) := by
    rw [tr_iiN]; exact nI_toInt (by omega)
  rw [Int32.lt_iff_toInt_lt, Int32.lt_iff_toInt_lt, e0, en]
  omega
theorem tr_s_shr (x : Int32) : x >>> (ii 0 &&& 31) = x := by
  rw [show (ii 0 &&& (31 : Int32)) = 0 by decide]
  simp
section TRS2
variable {E : tr_Env} {h : tr_H} {Q : tr_Q}
set_option maxRecDepth 10000 in
theorem c_J3_checkIndex {x : Int32} {n t : Nat} (hx : ixo x n) (hn : n ≤ 1000) (q : Q (.inl (some (.inl x))) h) : tr_Cd E 1 mi_J3_checkIndex [.inl x, .inl (ii (n : Nat)), .inr (.inr t)] h Q := by
  refine tr_Cd_of ok_J3_checkIndex.1 (by decide +kernel) (by rw [tr_ws_eq]; exact Nat.le_of_ble_eq_true rfl) ?_
  have z := tr_s_ix hx hn
  refine tr_r_iload_n (k := 0) (by decide +kernel) rfl ?_
  refine tr_r_if_lt (off := 8) (tgt := 9) (by decide +kernel) rfl (fun g => absurd g z.1) (fun _ => ?_)
  refine tr_r_iload_n (k := 0) (by decide +kernel) rfl ?_
  refine tr_r_iload_n (k := 1) (by decide +kernel) rfl ?_
  refine tr_r_icmp_lt (off := 10) (tgt := 16) (by decide +kernel) rfl (fun _ => ?_) (fun g => absurd z.2 g)
  refine tr_r_iload_n (k := 0) (by decide +kernel) rfl ?_
  exact tr_r_iret (Nat.le_refl _) (Nat.le_refl _) (by decide +kernel) rfl q
set_option maxRecDepth 10000 in
theorem c_J0_checkIndex (ok : tr_ok E) (so : tr_sok E) {x : Int32} {n : Nat} (hx : ixo x n) (hn : n ≤ 1000) (q : Q (.inl none) h) : tr_Cd E 2 mi_J0_checkIndex [.inl x, .inl (ii (n : Nat))] h Q := by
  refine tr_Cd_of ok_J0_checkIndex.1 (by decide +kernel) (by rw [tr_ws_eq]; exact Nat.le_of_ble_eq_true rfl) ?_
  refine tr_r_iload_n (k := 0) (by decide +kernel) rfl ?_
  refine tr_r_iload_n (k := 1) (by decide +kernel) rfl ?_
  refine tr_s_fm so rfl (by decide +kernel) (fun t => ?_)
  refine tr_r_callS (Q := fun o h' => o = .inl (some (.inl x)) ∧ h' = h) (as := [.inl x, .inl (ii (n : Nat)), .inr (.inr t)]) (rest := []) (N := mi_J3_checkIndex) (d := 1) ok (Nat.le_refl _) (Nat.le_refl _) (by decide +kernel) ok_J3_checkIndex rfl ⟨Nat.le_of_ble_eq_true rfl, Nat.le_of_ble_eq_true rfl⟩ tr_ssw.2.2.2.2.1 rfl (Nat.le_of_ble_eq_true rfl) (Nat.le_refl _) (Nat.le_refl _) (c_J3_checkIndex hx hn ⟨rfl, rfl⟩) (fun v h' e => ?_) (fun k h' _ e => by cases e.1)
  obtain ⟨e1, e2⟩ := e
  obtain rfl := Sum.inl.inj e1
  have e3 := e2.symm
  subst e3
  refine tr_r_popI (x := x) (by decide +kernel) ?_
  exact tr_r_vret (Nat.le_refl _) (Nat.le_refl _) (by decide +kernel) rfl q
set_option maxRecDepth 10000 in
theorem c_J1_charAt (ok : tr_ok E) (so : tr_sok E) {x : Int32} {r v : Nat} (hB : tr_sB E h r v) (hx : ixo x (hn h r)) (hb : hn h r ≤ 1000) (hk : ∃ k : Fin 128, hI h r (ixn x) = ii (k.val : Nat)) (q : Q (.inl (some (.inl (hI h r (ixn x))))) h) : tr_Cd E 3 mi_J1_charAt [.inr (.inr v), .inl x] h Q := by
  refine tr_Cd_of ok_J1_charAt.1 (by decide +kernel) (by rw [tr_ws_eq]; exact Nat.le_of_ble_eq_true rfl) ?_
  obtain ⟨k, hk⟩ := hk
  obtain ⟨z1, z2, z3⟩ := tr_s_k k
  refine tr_r_iload_n (k := 1) (by decide +kernel) rfl ?_
  refine tr_r_aload_n (k := 0) (by decide +kernel) rfl ?_
  refine tr_s_len hB (by decide +kernel) ?_
  refine tr_r_callS (Q := fun o h' => o = .inl none ∧ h' = h) (as := [.inl x, .inl (ii (hn h r : Nat))]) (rest := []) (N := mi_J0_checkIndex) (d := 2) ok (Nat.le_refl _) (Nat.le_refl _) (by decide +kernel) ok_J0_checkIndex rfl ⟨Nat.le_of_ble_eq_true rfl, Nat.le_of_ble_eq_true rfl⟩ tr_ssw.2.2.2.2.2.1 rfl (Nat.le_of_ble_eq_true rfl) (Nat.le_refl _) (Nat.le_refl _) (c_J0_checkIndex ok so hx hb ⟨rfl, rfl⟩) (fun v h' e => ?_) (fun k h' _ e => by cases e.1)
  obtain ⟨e1, e2⟩ := e
  obtain rfl := Sum.inl.inj e1
  have e3 := e2.symm
  subst e3
  refine tr_r_aload_n (k := 0) (by decide +kernel) rfl ?_
  refine tr_r_iload_n (k := 1) (by decide +kernel) rfl ?_
  refine tr_s_at hB hx (by decide +kernel) ?_
  refine tr_r_sipush (n := 255) (by decide +kernel) (by decide) ?_
  refine tr_r_iand (by decide +kernel) ?_
  rw [hk, z1]
  refine tr_r_i2c (by decide +kernel) z2 ?_
  rw [hk] at q
  exact tr_r_nret (Nat.le_refl _) (Nat.le_refl _) (by decide +kernel) rfl z3 q
set_option maxRecDepth 10000 in
theorem c_J0_isLatin1 (so : tr_sok E) {r : Nat} (tg : ht h r = 18) (q : Q (.inl (some (.inl (ii 1)))) h) : tr_Cd E 1 mi_J0_isLatin1 [.inr (.inr r)] h Q := by
  refine tr_Cd_of ok_J0_isLatin1.1 (by decide +kernel) (by rw [tr_ws_eq]; exact Nat.le_of_ble_eq_true rfl) ?_
  refine tr_s_cs so rfl (by decide +kernel) ?_
  refine tr_r_if_eq (off := 14) (tgt := 17) (by decide +kernel) rfl (fun g => absurd g (by decide)) (fun _ => ?_)
  refine tr_r_aload_n (k := 0) (by decide +kernel) rfl ?_
  refine tr_s_cod rfl (by decide +kernel) tg ?_
  refine tr_r_if_ne (off := 7) (tgt := 17) (by decide +kernel) rfl (fun _ => ?_) (fun g => absurd rfl g)
  refine tr_r_iconst (n := 1) (by decide +kernel) ?_
  refine tr_r_goto (off := 4) (tgt := 18) (by decide +kernel) rfl ?_
  exact tr_r_nret (Nat.le_refl _) (Nat.le_refl _) (by decide +kernel) rfl (by decide) q
set_option maxRecDepth 10000 in
theorem c_J0_coder (so : tr_sok E) {r : Nat} (tg : ht h r = 18) (q : Q (.inl (some (.inl (ii 0)))) h) : tr_Cd E 1 mi_J0_coder [.inr (.inr r)] h Q := by
  refine tr_Cd_of ok_J0_coder.1 (by decide +kernel) (by rw [tr_ws_eq]; exact Nat.le_of_ble_eq_true rfl) ?_
  refine tr_s_cs so rfl (by decide +kernel) ?_
  refine tr_r_if_eq (off := 10) (tgt := 13) (by decide +kernel) rfl (fun g => absurd g (by decide)) (fun _ => ?_)
  refine tr_r_aload_n (k := 0) (by decide +kernel) rfl ?_
  refine tr_s_cod rfl (by decide +kernel) tg ?_
  refine tr_r_goto (off := 4) (tgt := 14) (by decide +kernel) rfl ?_
  exact tr_r_nret (Nat.le_refl _) (Nat.le_refl _) (by decide +kernel) rfl (by decide) q
set_option maxRecDepth 10000 in
theorem c_J0_length (so : tr_sok E) {r : Nat} (tg : ht h r = 18) (q : Q (.inl (some (.inl (ii (hn h r : Nat))))) h) : tr_Cd E 2 mi_J0_length [.inr (.inr r)] h Q := by
  refine tr_Cd_of ok_J0_length.1 (by decide +kernel) (by rw [tr_ws_eq]; exact Nat.le_of_ble_eq_true rfl) ?_
  refine tr_r_aload_n (k := 0) (by decide +kernel) rfl ?_
  refine tr_s_val rfl (by decide +kernel) tg (fun v hB => ?_)
  refine tr_s_len hB (by decide +kernel) ?_
  refine tr_r_aload_n (k := 0) (by decide +kernel) rfl ?_
  refine tr_s_call (Q := fun o h' => o = .inl (some (.inl (ii 0))) ∧ h' = h) (r := r) (as := []) (rest := [.inl (ii (hn h r : Nat))]) (N := mi_J0_coder) (d := 1) (Nat.le_refl _) (Nat.le_refl _) (by decide +kernel) ok_J0_coder rfl rfl ⟨Nat.le_of_ble_eq_true rfl, Nat.le_of_ble_eq_true rfl⟩ tr_ssw.2.2.2.2.2.2.2.2.1 rfl tg rfl (Nat.le_of_ble_eq_true rfl) (Nat.le_refl _) (Nat.le_refl _) (c_J0_coder so tg ⟨rfl, rfl⟩) (fun v h' e => ?_) (fun k h' _ e => by cases e.1)
  obtain ⟨e1, e2⟩ := e
  obtain rfl := Sum.inl.inj e1
  have e3 := e2.symm
  subst e3
  refine tr_r_ishr (x := ii (hn h r : Nat)) (y := ii 0) (by decide +kernel) ?_
  rw [tr_s_shr]
  exact tr_r_iret (Nat.le_refl _) (Nat.le_refl _) (by decide +kernel) rfl q
set_option maxRecDepth 10000 in
theorem c_J0_charAt (ok : tr_ok E) (so : tr_sok E) {x : Int32} {r : Nat} (tg : ht h r = 18) (hx : ixo x (hn h r)) (hb : hn h r ≤ 1000) (hk : ∃ k : Fin 128, hI h r (ixn x) = ii (k.val : Nat)) (q : Q (.inl (some (.inl (hI h r (ixn x))))) h) : tr_Cd E 4 mi_J0_charAt [.inr (.inr r), .inl x] h Q := by
  refine tr_Cd_of ok_J0_charAt.1 (by decide +kernel) (by rw [tr_ws_eq]; exact Nat.le_of_ble_eq_true rfl) ?_
  refine tr_r_aload_n (k := 0) (by decide +kernel) rfl ?_
  refine tr_s_call (Q := fun o h' => o = .inl (some (.inl (ii 1))) ∧ h' = h) (r := r) (as := []) (rest := []) (N := mi_J0_isLatin1) (d := 1) (Nat.le_refl _) (Nat.le_refl _) (by decide +kernel) ok_J0_isLatin1 rfl rfl ⟨Nat.le_of_ble_eq_true rfl, Nat.le_of_ble_eq_true rfl⟩ tr_ssw.2.2.2.2.2.2.2.1 rfl tg rfl (Nat.le_of_ble_eq_true rfl) (Nat.le_refl _) (Nat.le_refl _) (c_J0_isLatin1 so tg ⟨rfl, rfl⟩) (fun v h' e => ?_) (fun k h' _ e => by cases e.1)
  obtain ⟨e1, e2⟩ := e
  obtain rfl := Sum.inl.inj e1
  have e3 := e2.symm
  subst e3
  refine tr_r_if_eq (x := ii 1) (off := 12) (tgt := 16) (by decide +kernel) rfl (fun g => absurd g (by decide)) (fun _ => ?_)
  refine tr_r_aload_n (k := 0) (by decide +kernel) rfl ?_
  refine tr_s_val rfl (by decide +kernel) tg (fun v hB => ?_)
  refine tr_r_iload_n (k := 1) (by decide +kernel) rfl ?_
  refine tr_r_callS (Q := fun o h' => o = .inl (some (.inl (hI h r (ixn x)))) ∧ h' = h) (as := [.inr (.inr v), .inl x]) (rest := []) (N := mi_J1_charAt) (d := 3) ok (Nat.le_refl _) (Nat.le_refl _) (by decide +kernel) ok_J1_charAt rfl ⟨Nat.le_of_ble_eq_true rfl, Nat.le_of_ble_eq_true rfl⟩ tr_ssw.2.2.2.2.2.2.1 rfl (Nat.le_of_ble_eq_true rfl) (Nat.le_refl _) (Nat.le_refl _) (c_J1_charAt ok so hB hx hb hk ⟨rfl, rfl⟩) (fun v h' e => ?_) (fun k h' _ e => by cases e.1)
  obtain ⟨e1, e2⟩ := e
  obtain rfl := Sum.inl.inj e1
  have e3 := e2.symm
  subst e3
  obtain ⟨k, hk⟩ := hk
  exact tr_r_nret (x := hI h r (ixn x)) (Nat.le_refl _) (Nat.le_refl _) (by decide +kernel) rfl (by rw [hk]; exact (tr_s_k k).2.2) q
end TRS2
end
section
/-! THE THROW OF NoSuchElementException: its constructor's link stands at entry 13 -/
def tr_nx : ByteArray := ⟨#[0x2a, 0x2b, 0xb7, 0x00, 0x0d, 0xb1]⟩
def tr_nN : String := "java/util/NoSuchElementException"
def tr_nR : String := "java/lang/RuntimeException"
def tr_nT : List Cond := [Cond.methodLink RX7 300 (Bundle.initS tr_nN), Cond.instantiable tr_nN 6, Cond.castable tr_nN tr_nN, Cond.selects tr_nN Bundle.tFill0 Bundle.tFill0, Cond.selects tr_nN Bundle.tFill Bundle.tFill,
  Cond.lays tr_nN Bundle.tN "cause" "Ljava/lang/Throwable;", Cond.lays tr_nN Bundle.tN "stackTrace" Bundle.steD, Cond.lays tr_nN Bundle.tN "suppressedExceptions" Bundle.listD, Cond.lays tr_nN Bundle.tN "detailMessage" "Ljava/lang/String;",
  Cond.isRef (.static Bundle.tN "UNASSIGNED_STACK" Bundle.steD), Cond.isRef (.static Bundle.tN "SUPPRESSED_SENTINEL" Bundle.listD),
  Cond.fieldLink Bundle.tN 198 Bundle.tN "backtrace" "Ljava/lang/Object;", Cond.lays Bundle.tN Bundle.tN "backtrace" "Ljava/lang/Object;", Cond.lays tr_nN Bundle.tN "backtrace" "Ljava/lang/Object;"]
/-- all words of that throw -/
def tr_nA : List Cond := Bundle.throwableAtoms ++ (Bundle.throwableSAtoms ++ (Bundle.passSAtoms tr_nN tr_nR 13 tr_nx ++ (Bundle.chainSAtoms tr_nR ["java/lang/Exception"] ++ tr_nT)))
theorem tr_n1 : ∀ w ∈ Bundle.throwableAtoms, w ∈ tr_nA := fun w h => List.mem_append_left _ h
theorem tr_n2 : ∀ w ∈ Bundle.throwableSAtoms, w ∈ tr_nA := fun w h => List.mem_append_right _ (List.mem_append_left _ h)
theorem tr_n3 : ∀ w ∈ Bundle.passSAtoms tr_nN tr_nR 13 tr_nx, w ∈ tr_nA := fun w h => List.mem_append_right _ (List.mem_append_right _ (List.mem_append_left _ h))
theorem tr_n4 : ∀ w ∈ Bundle.chainSAtoms tr_nR ["java/lang/Exception"], w ∈ tr_nA := fun w h => List.mem_append_right _ (List.mem_append_right _ (List.mem_append_right _ (List.mem_append_left _ h)))
theorem tr_n5 : ∀ w ∈ tr_nT, w ∈ tr_nA := fun w h => List.mem_append_right _ (List.mem_append_right _ (List.mem_append_right _ (List.mem_append_right _ h)))
section TRX
variable {p : Program} {l : Launch} {e : Env} {R : Room} {s : State} {m : MethodId} {args : Array Value} {below : List Frame} {meth : Method} {c : Code}
set_option maxHeartbeats 1000000 in
/-- the constructor's call, and the throw behind it -/
theorem tr_ctorN {V : State} {cells slots : Nat} (X : Stand p l e R s m args below meth c V [] cells slots) (hexec : p.tables.exec = Jvm.exec) (htr : e.platform.stackTraces = false) (hown : s.vm.findClass RX7 = some m.cls) (h : ∀ w ∈ tr_nA, w.before args s = true)
    {a : Addr} {cX : ClassId} {kX : Class} (hfX : s.vm.findClass tr_nN = some cX) (hkX : s.vm.classes[cX]? = some kX) (hcell : V.heap[a]? = some (freshCell cX kX)) (hnew : s.heap.size ≤ a) {msg : Value} (hmsg : msg.isRef = true)
    {g : JFrame} (hg : g.method = m) (hsize : g.locals.size = c.maxLocals) (hlocked : g.locked = none) (hentered : g.entered = []) {rest : List Value} (hstack : g.stack = msg :: .ref a :: .ref a :: rest)
    (hd6 : decode c.code g.pc = .ok (.invokespecial 300, 3)) (hd9 : decode c.code (g.pc + 3) = .ok (.athrow, 1)) (hout : ∀ x ∈ c.exceptionTable.toList, covers x (g.pc + 3) = false)
    (hRf : 5 < R.frames) (hRl : 2 * g.monitorRoom + ((Value.ref a :: rest).map fun v => v.category).sum + 81 ≤ R.locals) (hlocks : meth.locks = false) :
    ∃ U : State, Steps p.tables e below (V.setTop g) U ∧ U.status = .running ∧ Ended U below (.threw a) ∧ s.WarmedH U.vm ∧ s.sameButNew ({ U with vm := s.vm } : State) [] cells slots ∧ ∃ ce, U.heap[a]? = some ce ∧ ce.vm = .none ∧ ce.cls = cX := by
  have hpl : e.platform.magicAccessors = ({} : Platform).magicAccessors := by rw [X.admits.platform]
  have t' : ∀ w ∈ tr_nT, w.holds args s none s [] = true := fun w hw => h w (tr_n5 w hw)
  obtain ⟨T, Z0, L, -, Y⟩ := ThrowableC.of_atoms (args := args) (s := s) (pl := e.platform) (by rw [X.admits.platform]) (by rw [X.admits.platform]) hpl (fun w hw => h w (tr_n1 w hw))
  obtain ⟨Z, M, LZ, LM, hnZ⟩ := Init0T.ofS_atoms (args := args) hpl L Y (fun w hw => h w (tr_n2 w hw))
  obtain ⟨P0, L0, hm0, hs0⟩ := PassC.ofS_atoms (args := args) (s := s) (pl := e.platform) hpl (X := tr_nN) (Y := tr_nR) (index := 13) (bytes := tr_nx) (by decide +kernel) (by decide +kernel) (by decide +kernel) (by decide +kernel) (by decide +kernel) (by decide +kernel) (fun w hw => h w (tr_n3 w hw))
  obtain ⟨P1, Ps, hlen, L1, hL, hm1, hsup, hpass⟩ := Bundle.chainS (args := args) hpl hnZ ["java/lang/Exception"] tr_nR (by decide +kernel) (fun n hn => by rw [List.mem_singleton.mp hn]; decide +kernel) (fun w hw => h w (tr_n4 w hw))
  have hsup0 : P0.sup = P1.m := Option.some.inj (hs0.symm.trans hm1)
  have hPs : ∀ P, P ∈ P0 :: P1 :: Ps → P.LinksS e.platform s := by
    intro P hP
    rcases List.mem_cons.mp hP with rfl | hP
    · exact L0
    · rcases List.mem_cons.mp hP with rfl | hP
      · exact L1
      · exact hL P hP
  have hln : (P0 :: P1 :: Ps).length = 3 := by simp only [List.length_cons, hlen]; rfl
  have hc0 : s.vm.findClass tr_nN = some P0.m.cls := findClass_of_methodNamed hm0
  cases Option.some.inj (hfX.symm.trans hc0)
  obtain ⟨c1, k1, hc1, hk1, hord, -, -, -⟩ := Cond.instantiable_spec (t' (.instantiable tr_nN 6) (by simp [tr_nT]))
  cases Option.some.inj (hc1.symm.trans hc0)
  cases Option.some.inj (hkX.symm.trans hk1)
  have hsel0 : selectMethod e.platform s.vm P0.m.cls T.fill0 = .method T.fill0 := by
    obtain ⟨c2, r2, m2, q1, q2, q3, q4, -⟩ := Cond.selects_spec (t' (.selects tr_nN Bundle.tFill0 Bundle.tFill0) (by simp [tr_nT]))
    cases Option.some.inj (q1.symm.trans hc0)
    cases Option.some.inj (q2.symm.trans (State.methodFound?_of_named Y.fill0 (by decide)))
    cases Option.some.inj (q3.symm.trans Y.fill0)
    rw [Launch.admits_selectMethod X.admits]
    exact q4
  have hselF : selectMethod e.platform s.vm P0.m.cls T.fill = .method T.fill := by
    obtain ⟨c2, r2, m2, q1, q2, q3, q4, -⟩ := Cond.selects_spec (t' (.selects tr_nN Bundle.tFill Bundle.tFill) (by simp [tr_nT]))
    cases Option.some.inj (q1.symm.trans hc0)
    cases Option.some.inj (q2.symm.trans (State.methodFound?_of_named Y.fill (by decide)))
    cases Option.some.inj (q3.symm.trans Y.fill)
    rw [Launch.admits_selectMethod X.admits]
    exact q4
  obtain ⟨cs, hcs, hiss⟩ := Y.statics
  obtain ⟨u0, hu0⟩ := Cond.staticRefV Y.unassigned L.unassignedStatic L.statics hcs hiss (t' (.isRef (.static Bundle.tN "UNASSIGNED_STACK" Bundle.steD)) (by simp [tr_nT]))
  obtain ⟨sen, hsen⟩ := Cond.staticRefV Y.sentinel L.sentinelStatic L.statics hcs hiss (t' (.isRef (.static Bundle.tN "SUPPRESSED_SENTINEL" Bundle.listD)) (by simp [tr_nT]))
  obtain ⟨ci, ib, fB, hk198, hg198, ha198, hsB, -, hnB, htB, hffB⟩ := Cond.ownField (t := .object "java/lang/Object") Y.found L.cls (by decide +kernel) (t' (.fieldLink Bundle.tN 198 Bundle.tN "backtrace" "Ljava/lang/Object;") (by simp [tr_nT])) (t' (.lays Bundle.tN Bundle.tN "backtrace" "Ljava/lang/Object;") (by simp [tr_nT])) e.platform hpl
  obtain ⟨cS, hcS, heS, -, hkeep⟩ := X.same.2.2.2.2.2 T.aS cs hcs
  have hcS : V.heap[T.aS]? = some cS := hcS
  have hkS : cS.vm ≠ .unknown := by
    rw [heS]
    intro hu
    rw [show cs.vm = .unknown from hu] at hiss
    cases hiss
  have hno : ∀ i, (⟨T.aS, i⟩ : Loc) ∉ ([] : List Loc) := fun i hm => nomatch hm
  have hneS : T.aS ≠ a := Nat.ne_of_lt (Nat.lt_of_lt_of_le (Array.getElem?_eq_some_iff.mp hcs).1 hnew)
  obtain ⟨iM, hffM⟩ := Y.msg
  obtain ⟨tyC, dC, hdC, hdnC⟩ := Cond.laysAt hc0 hkX Y.cause (t' (.lays tr_nN Bundle.tN "cause" "Ljava/lang/Throwable;") (by simp [tr_nT]))
  obtain ⟨tyS, dS, hdS, hdnS⟩ := Cond.laysAt hc0 hkX Y.stack (t' (.lays tr_nN Bundle.tN "stackTrace" Bundle.steD) (by simp [tr_nT]))
  obtain ⟨tyP, dP, hdP, hdnP⟩ := Cond.laysAt hc0 hkX Y.supp (t' (.lays tr_nN Bundle.tN "suppressedExceptions" Bundle.listD) (by simp [tr_nT]))
  obtain ⟨tyM, dM, hdM, hdnM⟩ := Cond.laysAt hc0 hkX hffM (t' (.lays tr_nN Bundle.tN "detailMessage" "Ljava/lang/String;") (by simp [tr_nT]))
  obtain ⟨tyB, dB, hdB, hdnB⟩ := Cond.laysAt hc0 hkX hffB (t' (.lays tr_nN Bundle.tN "backtrace" "Ljava/lang/Object;") (by simp [tr_nT]))
  have bC := Cond.laysApart hdB hdC hdnB hdnC (by rw [hnB, Y.causeName]; decide)
  have bS := Cond.laysApart hdB hdS hdnB hdnS (by rw [hnB, Y.stackName]; decide)
  have bP := Cond.laysApart hdB hdP hdnB hdnP (by rw [hnB, Y.suppName]; decide)
  have hskip : SkipFacts T e.platform s (fun u => u) u0 ((preparedCellV T.toThrowableT (freshCell P0.m.cls kX) a u0 sen).withEntry V.cur) :=
    ⟨{ ci198 := ci, i198 := ib, fBack := fB }, ⟨hk198, hg198, ha198, hsB⟩, by
      have := fresh_default (c := P0.m.cls) tyB
      rw [htB] at this
      simpa [preparedCellV, Cell.setSlot, Cell.withEntry, Array.getElem?_setIfInBounds, bC, bS, bP, bC.symm, bS.symm, bP.symm, defaultValue] using this, fun _ _ => rfl⟩
  obtain ⟨tm, -, -, -, vm1, hnC, -, -, -, -, -, -, -, hW1, st1⟩ := Steps.initColdS (tb := p.tables) (e := e) (below := below) (s := s) (U := V) X.here hexec X.warmed hpl hown (t := Bundle.initS tr_nN) rfl rfl (by decide +kernel) (t' (.methodLink RX7 300 (Bundle.initS tr_nN)) (by simp [tr_nT]))
    (h (.instanceMethod (Bundle.initS tr_nN)) (tr_n3 _ (by simp [Bundle.passSAtoms]))) (bytes := tr_nx) (maxL := 2) (h (.code (Bundle.initS tr_nN) tr_nx 2 none) (tr_n3 _ (by simp [Bundle.passSAtoms]))) (f := g) hg (a := a) (msg := msg) (rest := .ref a :: rest) hstack hd6
  cases Option.some.inj (hnC.symm.trans hm0)
  have X1 := X.noted hW1
  obtain ⟨vm2, X2, st2⟩ := X1.ctorMessageOffV hexec (g := { g with stack := .ref a :: rest }) hg hsize T L Z LZ M LM (P0 :: P1 :: Ps) hPs ⟨hsup0, hsup, hpass⟩ (u0 := u0) (sen := sen) (self := a) hmsg (cell := freshCell P0.m.cls kX) (cellS := cS)
    hcell (fun _ => by simp) (by simp) rfl rfl hsel0 hselF hcS hneS hkS (by rw [hkeep _ (hno _)]; exact hu0) (by rw [hkeep _ (hno _)]; exact hsen)
    (Takes.of_laid hkX hord tyC (by rw [Y.causeType]; rfl)) (Takes.of_laid hkX hord tyS (by rw [Y.stackType]; exact fits_refV_array _ u0)) (Takes.of_laid hkX hord tyP (by rw [Y.suppType]; exact fits_refV_object _ sen))
    (Takes.of_laid hkX hord tyM (by rw [Y.msgType]; exact fits_refV_object _ ⟨msg, hmsg⟩)) Y.objLocals hskip htr [] hd6 (by rw [hln]; exact hRf) (by rw [hln]; exact hRl)
  obtain ⟨hwalk, hrun, hended, hWU, hsame⟩ := X2.athrowLeaves hexec (g := { g with stack := .ref a :: rest, pc := g.pc + 3 }) hg hlocked hentered hout (a := a) (rest := rest) rfl hd9 hlocks
  have hlt : a < ((V.setVm vm1).setVm vm2).heap.size := (Array.getElem?_eq_some_iff.mp hcell).1
  have hU := heapAt_setCell_self (s := (V.setVm vm1).setVm vm2) (plainBareV T.toThrowableT (freshCell P0.m.cls kX) a u0 sen msg) hlt
  refine ⟨_, st1 _ (fun acts => ?_), hrun, hended, hWU, hsame.weaken (fun y hy hlt' => ?_) (Nat.le_refl _) (Nat.le_refl _), _, hU, rfl, rfl⟩
  · rw [doInvoke_state]
    exact st2 _ hwalk
  · exfalso
    have hb : y.base = a := by
      rcases List.mem_append.mp hy with h1 | h1
      · cases h1
      · simp only [List.mem_cons, List.not_mem_nil, or_false] at h1
        rcases h1 with rfl | rfl | rfl | rfl | rfl <;> rfl
    rw [hb] at hlt'
    exact Nat.not_lt.mpr hnew hlt'
end TRX
theorem tr_nw : ∀ w ∈ (tr_nA.filter vx_no).filter goodWord, w ∈ tr_LW := fun w hw => List.mem_filter.mpr ⟨(show ∀ w ∈ (tr_nA.filter vx_no).filter goodWord, w ∈ lw_tbl by decide +kernel) w hw, (List.mem_filter.mp hw).2⟩
theorem tr_nv : ∀ w ∈ (tr_nA.filter vx_no).filter (fun w => !goodWord w), w ∈ tr_exB "java/util/NoSuchElementException" := by decide +kernel
theorem tr_n_in : Cond.classLink RX7 296 tr_nN ∈ tr_LW ∧ Cond.initialized tr_nN ∈ tr_LW ∧ (∀ w ∈ tr_exB tr_nN, w ∈ lw_tbl) ∧ ∀ w ∈ Cond.classLink RX7 296 tr_nN :: Cond.initialized tr_nN :: tr_nA.filter vx_no, vx_ot w = true := ⟨List.mem_filter.mpr ⟨by decide +kernel, by decide⟩, List.mem_filter.mpr ⟨by decide +kernel, by decide⟩, by decide +kernel, by decide +kernel⟩
end
section
/-! THE TEXTS' OWN METHODS, AND WHAT IS THROWN BY AN ENTRY OF ITS OWN, as rows -/
section TRO
variable {E : tr_Env} {M : tr_MI} {R : Room} {lc lz : Nat} {Z : List Frame → Array Value → State → State → Prop} {pc : Nat} {lv : tr_L} {st : List tr_V} {h : tr_H} {rc rs : Nat} {Q : tr_Q} {mc ms : Nat}
theorem tr_Rok_le {a b : Nat} (h : tr_Rok R b) (hab : a ≤ b) : tr_Rok R a := ⟨Nat.le_trans hab h.1, Nat.le_trans (Nat.mul_le_mul_left 64 hab) h.2⟩
theorem tr_sll_w {o idx : Nat} (hi : (o, idx) ∈ tr_sll) : Cond.methodLink (tr_R o) idx yJ0_length_8abf5 ∈ tr_LW := by
  simp only [tr_sll, List.mem_cons, List.not_mem_nil, or_false, Prod.mk.injEq] at hi
  rcases hi with ⟨rfl, rfl⟩ | ⟨rfl, rfl⟩
  · exact tr_ssw.2.2.2.2.2.2.2.2.2.1
  · exact tr_ssw.2.2.2.2.2.2.2.2.2.2.1
theorem tr_scl_w {o idx : Nat} (hi : (o, idx) ∈ tr_scl) : Cond.methodLink (tr_R o) idx yJ0_charAt_5068e ∈ tr_LW := by
  simp only [tr_scl, List.mem_cons, List.not_mem_nil, or_false, Prod.mk.injEq] at hi
  rcases hi with ⟨rfl, rfl⟩ | ⟨rfl, rfl⟩
  · exact tr_ssw.2.2.2.2.2.2.2.2.2.2.2.1
  · exact tr_ssw.2.2.2.2.2.2.2.2.2.2.2.2
theorem tr_ok_s (ok : tr_ok E) : tr_sok E := ok.2.2.2.2.2.2.2.2.2.2.2
theorem tr_r_slength (ok : tr_ok E) (hlc : lc ≤ R.cells) (hlz : lz ≤ R.slots) {idx q : Nat} (hd : decode (mB M) pc = .ok (.invokevirtual idx, 3)) (hO : tr_R (mO M) = (mY M).cls) (hi : (mO M, idx) ∈ tr_sll) (hRk : tr_Rok R 8) (hwd : tr_wds st ≤ 8) (hq : ht h q = 18) (k : tr_W E M R lc lz Z (pc + 3) lv (.inl (ii (hn h q : Nat)) :: st) h rc rs) : tr_W E M R lc lz Z pc lv (.inr (.inr q) :: st) h rc rs := by
  have hw := tr_sll_w hi
  rw [hO] at hw
  refine tr_s_call (Q := fun o h' => o = .inl (some (.inl (ii (hn h q : Nat)))) ∧ h' = h) (r := q) (as := []) (rest := st) (N := mi_J0_length) (d := 2) hlc hlz hd ok_J0_length rfl rfl (tr_Rok_le hRk (by decide)) hw rfl hq rfl hwd (Nat.zero_le _) (Nat.zero_le _) (c_J0_length (tr_ok_s ok) hq ⟨rfl, rfl⟩) (fun v h' e => ?_) (fun k h' _ e => by cases e.1)
  obtain ⟨e1, e2⟩ := e
  obtain rfl := Sum.inl.inj e1
  have e3 := e2.symm
  subst e3
  exact k
theorem tr_r_scharat (ok : tr_ok E) (hlc : lc ≤ R.cells) (hlz : lz ≤ R.slots) {idx q : Nat} {x : Int32} (hd : decode (mB M) pc = .ok (.invokevirtual idx, 3)) (hO : tr_R (mO M) = (mY M).cls) (hi : (mO M, idx) ∈ tr_scl) (hRk : tr_Rok R 8) (hwd : tr_wds st ≤ 8) (hq : ht h q = 18) (hx : ixo x (hn h q)) (k : tr_W E M R lc lz Z (pc + 3) lv (.inl (hI h q (ixn x)) :: st) h rc rs) : tr_W E M R lc lz Z pc lv (.inl x :: .inr (.inr q) :: st) h rc rs := by
  have hw := tr_scl_w hi
  rw [hO] at hw
  intro p e s m args below meth c H locs cells slots ls Cx Rp hS hl hc hs
  obtain ⟨a, ha⟩ := tr_o_of Rp.1 hq
  have hstr : hn h q ≤ 1000 ∧ ∀ j, j < hn h q → ∃ k : Fin 128, hI h q j = ii (k.val : Nat) := by
    rw [ha] at hq ⊢
    obtain ⟨v, s1, s2, s3, s4, s5, s6⟩ := (Rp.2.2.1 a).2.2.2.2 hq
    exact ⟨s5, s6⟩
  have hxn : ixn x < hn h q := by
    obtain ⟨h1, h2⟩ := hx
    show x.toInt.toNat < hn h q
    omega
  refine tr_s_call (Q := fun o h' => o = .inl (some (.inl (hI h q (ixn x)))) ∧ h' = h) (r := q) (as := [.inl x]) (rest := st) (N := mi_J0_charAt) (d := 4) hlc hlz hd ok_J0_charAt rfl rfl (tr_Rok_le hRk (by decide)) hw rfl hq rfl hwd (Nat.zero_le _) (Nat.zero_le _) (c_J0_charAt ok (tr_ok_s ok) hq hx hstr.1 (hstr.2 _ hxn) ⟨rfl, rfl⟩) (fun v h' e => ?_) (fun k h' _ e => by cases e.1) p e s m args below meth c H locs cells slots ls Cx Rp hS hl hc hs
  obtain ⟨e1, e2⟩ := e
  obtain rfl := Sum.inl.inj e1
  have e3 := e2.symm
  subst e3
  exact k
theorem tr_r_throw0 (ok : tr_ok E) (hlc : lc ≤ mc) (hlz : lz ≤ ms) (hlc' : lc ≤ R.cells) (hlz' : lz ≤ R.slots) (hcls : (mY M).cls = RX7) (hh : mH M = []) (d0 : decode (mB M) pc = .ok (.new (tr_exi 0).1, 3)) (d3 : decode (mB M) (pc + 3) = .ok (.dup, 1)) (d4 : decode (mB M) (pc + 4) = .ok (.ldc_w (tr_exi 0).2.1, 3)) (d7 : decode (mB M) (pc + 7) = .ok (.invokespecial (tr_exi 0).2.2, 3)) (d10 : decode (mB M) (pc + 10) = .ok (.athrow, 1))
    (hR : tr_Rok R 8) (hwd : tr_wds st ≤ 8) (hrc : 1 ≤ rc) (hrs : 6 ≤ rs) (hq : Q (.inr 0) h) : tr_W E M R lc lz (tr_Z E Q mc ms) pc lv st h rc rs := by
  intro p e s m args below meth c H locs cells slots ls Cx Rp hS hl hc hs
  obtain ⟨hX, hB, hML, hown, hts, hW, hrt, hlk, hnm, htb, hb1, hb2⟩ := id Cx
  obtain ⟨w1, w2, w3, w4⟩ := tr_n_in
  obtain ⟨o1, o2, o3, o4, o5, o6, o7, o8, o9, o10⟩ := id ok
  obtain ⟨sa, hsa⟩ := o9 0 (by decide)
  have hkp : ∀ a : Nat, a < (eS E).heap.size → ¬ eO E a → s.heap[a]? = (eS E).heap[a]? := fun a h1 _ => hb2 a h1
  have hU := (vx_Zq.moved hW.alike o6).kept hkp
  have hN := (vx_Zq.moved hW.alike o7).kept hkp
  have hstr : vk_R RX7 298 (tr_exm 0) sa s := vk_R.warm hW hsa
  rw [hcls] at hown
  have hat : ∀ w ∈ tr_nA.filter vx_no, w.before args s = true := vx_hat (fun w hw => hts w (tr_nw w hw)) tr_nv (tr_exB_at ok hW w3)
  have hRf : 5 < R.frames := by have := hR.1; omega
  have hRl : tr_wds st + 82 ≤ R.locals := by have := hR.2; omega
  rw [← tr_wds_eq] at hRl
  intro T hT X
  have htr : e.platform.stackTraces = false := (show e.platform.stackTraces = (eL E).stackTraces by rw [X.admits.platform]).trans o1
  have Y := vx_rebase X (R' := { frames := R.frames, locals := R.locals, cells := 1, slots := 6 }) (Nat.le_refl _) (Nat.le_refl _) (show cells + 1 ≤ R.cells by omega) (show slots + 6 ≤ R.slots by omega)
  obtain ⟨s', hA⟩ : ∃ z, z = (T.setVm s.vm).setFrames (.invoking m args :: below) := ⟨_, rfl⟩
  rw [← hA] at Y
  have hvm : s'.vm = s.vm := by rw [hA]; rfl
  have hhp : s'.heap = H := by rw [hA]; exact hT
  have hW0 : s.WarmedH s'.vm := by rw [hvm]; exact State.WarmedH.refl s
  have hat' : ∀ w ∈ tr_nA.filter vx_no, w.before args s' = true := fun w hw => vx_ot_at hW0 hvm.symm (w4 w (List.mem_cons_of_mem _ (List.mem_cons_of_mem _ hw))) (hat w hw)
  have hk' : (Cond.classLink RX7 296 tr_nN).before args s' = true := vx_ot_at hW0 hvm.symm (w4 _ List.mem_cons_self) (hts _ w1)
  have hini' : (Cond.initialized tr_nN).before args s' = true := vx_ot_at hW0 hvm.symm (w4 _ (List.mem_cons_of_mem _ List.mem_cons_self)) (hts _ w2)
  have hU' : vx_Zq Bundle.tN "UNASSIGNED_STACK" Bundle.steD (eO E) s' s'.heap := by rw [hhp]; exact vx_Zq.moved hW0.alike (hU.kept hS.2.1)
  have hN' : vx_Zq Bundle.tN "SUPPRESSED_SENTINEL" Bundle.listD (eO E) s' s'.heap := by rw [hhp]; exact vx_Zq.moved hW0.alike (hN.kept hS.2.1)
  have hall : ∀ w ∈ tr_nA, w.before args s' = true := vx_own hat' (vx_isRefq hU'.1) (vx_isRefq hN'.1) hU'.2.word hN'.2.word
  have hown' : s'.vm.findClass RX7 = some m.cls := by rw [hvm]; exact hown
  have hins : (Cond.instantiable tr_nN 6).before args s' = true := hall _ (tr_n5 _ (by simp [tr_nT]))
  have d0' : decode c.code pc = .ok (.new 296, 3) := by rw [hB]; exact d0
  have d3' : decode c.code (pc + 3) = .ok (.dup, 1) := by rw [hB]; exact d3
  have d4' : decode c.code (pc + 4) = .ok (.ldc_w 298, 3) := by rw [hB]; exact d4
  have d7' : decode c.code (pc + 7) = .ok (.invokespecial 300, 3) := by rw [hB]; exact d7
  have d10' : decode c.code (pc + 10) = .ok (.athrow, 1) := by rw [hB]; exact d10
  obtain ⟨vm₁, cX, kX, hfX, hkX, -, -, X₁, st1⟩ := Y.newCold hX (own := RX7) (C := tr_nN) (index := 296) (n := 6) hown' hk' hins hini' (g := F0 m pc ls (st.map tr_cv)) rfl d0' (Nat.le_refl _) (Nat.le_refl _)
  generalize hT1 : (T.setVm vm₁).pushCell { cls := cX, slots := kX.instanceTypes.map defaultValue, vm := .none } = T1 at X₁ st1
  have hcat : (Value.ref T.heap.size).category = 1 := rfl
  have hcellA : T1.heap[T.heap.size]? = some (freshCell cX kX) := by rw [← hT1]; exact State.heap_pushCell_size _ _
  have hstr' : vk_R RX7 298 (tr_exm 0) sa s' := vk_R.warm hW0 hstr
  obtain ⟨U, hsteps, hrun, hend, hWU, hsame, ce, hce, hvmn, hccl⟩ := tr_ctorN X₁ hX htr hown' hall hfX hkX hcellA (by rw [hhp, hT]; exact Nat.le_refl _) (msg := .ref sa) rfl
    (g := { method := m, pc := pc + 7, locals := ls, stack := .ref sa :: .ref T.heap.size :: .ref T.heap.size :: st.map tr_cv, locked := none }) rfl (hl.1.trans hML.symm) rfl rfl (rest := st.map tr_cv) rfl d7' d10' (fun x hx => by rw [htb, hh] at hx; cases hx) hRf (by simp only [List.map_cons, List.sum_cons, hcat]; first | omega | (show 2 * 0 + _ + 81 ≤ R.locals; omega)) hlk
  obtain ⟨f1, f2⟩ := vx_frame hsame
  rw [hhp] at f1 f2
  have hWs : s.WarmedH U.vm := State.WarmedH.trans hW0 hWU
  have hcl : s.vm.findClass tr_nN = some ce.cls := by rw [hccl, ← hvm]; exact hfX
  have hal : s.sameButNew ({ U with vm := s.vm } : State) locs mc ms := by
    subst hA
    obtain ⟨e1, e2⟩ := hsame
    rw [State.setFrames_setFrames] at e1
    have h2 : (T.setVm s.vm).sameButNew ({ U with vm := s.vm } : State) [] (0 + 1) (0 + 6) := ⟨e1, e2⟩
    have h3 := X.same.trans h2
    rw [List.append_nil] at h3
    exact h3.mono (by omega) (by omega)
  refine ⟨U, ?_, .threw T.heap.size, hrun, hend, Or.inr ⟨T.heap.size, rfl, tr_nN, ce, locs, ⟨0, h, by decide, rfl, Rp.grow f1 (fun q hq => f2 q hq (fun z hz => nomatch hz)), hq⟩, hce, hvmn, hcl, hWs, hal, hS.2.2⟩⟩
  refine st1 _ ?_
  show Steps p.tables e below (T1.setTop { method := m, pc := pc + 3, locals := ls, stack := .ref T.heap.size :: st.map tr_cv, locked := none }) _
  jvm_step X₁.here [X₁.here.top, hX, d3', Value.category]
  exact X₁.ldcStringW hX (own := RX7) (text := tr_exm 0) (index := 298) (a := sa) hown' hstr'.1 hstr'.2 (g := { method := m, pc := pc + 4, locals := ls, stack := .ref T.heap.size :: .ref T.heap.size :: st.map tr_cv, locked := none }) rfl d4' _ hsteps
end TRO
end
section
def tr_pok (M : tr_MI) (a b : Nat) : Bool := match vwCl[a - 1]? with
  | some q => !(q.2.1 b).2.2.2 || (decide ((mY M).name = "<init>") && decide (q.1 = (mY M).cls))
  | none => false
/-- what stands behind a 'new' of an exception -/
def tr_thr (b : ByteArray) (pc k : Nat) : Bool := decide (decode b (pc + 3) = .ok (.dup, 1)) && (decide (decode b (pc + 4) = .ok (.ldc_w (tr_exi k).2.1, 3)) && (decide (decode b (pc + 7) = .ok (.invokespecial (tr_exi k).2.2, 3)) && decide (decode b (pc + 10) = .ok (.athrow, 1))))
/-- an entry of a method's table is right; dm: frames that there are at least, dk: which methods may be called -/
def tr_eok (M : tr_MI) (dm : Nat) (dk : Nat → Bool) (pc : Nat) (i : Instr) (len a b c d e f : Nat) : Bool :=
  match i with
  | .aload _ => Nat.beq len 2
  | .aload_n _ => Nat.beq len 1
  | .iload _ => Nat.beq len 2
  | .iload_n _ => Nat.beq len 1
  | .lload _ => Nat.beq len 2
  | .lload_n _ => Nat.beq len 1
  | .istore k => Nat.beq len 2 && Nat.blt k (mL M)
  | .istore_n k => Nat.beq len 1 && Nat.blt k.val (mL M)
  | .astore k => Nat.beq len 2 && Nat.blt k (mL M)
  | .astore_n k => Nat.beq len 1 && Nat.blt k.val (mL M)
  | .lstore k => Nat.beq len 2 && Nat.blt (k + 1) (mL M)
  | .lstore_n k => Nat.beq len 1 && Nat.blt (k.val + 1) (mL M)
  | .iinc k _ => Nat.beq len 3 && Nat.blt k (mL M)
  | .iconst _ => Nat.beq len 1
  | .bipush n => Nat.beq len 2 && decide ((Int8.ofInt n).toInt32 = ii n)
  | .sipush n => Nat.beq len 3 && decide ((Int16.ofInt n).toInt32 = ii n)
  | .lconst _ => Nat.beq len 1
  | .ldc idx => Nat.beq len 2 && (match c with
    | 0 => decide ((mO M, idx, b) ∈ tr_l1)
    | _ => Nat.blt b 8 && decide ((mO M, idx, b) ∈ tr_sidx))
  | .ldc2_w idx => Nat.beq len 3 && decide ((mO M, idx, b) ∈ tr_l2)
  | .getfield idx => Nat.beq len 3 && decide ((mO M, idx, a, b, c) ∈ tr_ft)
  | .putfield idx => Nat.beq len 3 && (decide ((mO M, idx, a, b, c) ∈ tr_ft) && tr_pok M a b)
  | .iaload => Nat.beq len 1 && (Nat.beq a 11 || Nat.beq a 17)
  | .baload => Nat.beq len 1 && (Nat.beq a 12 || Nat.beq a 13)
  | .laload => Nat.beq len 1 && Nat.beq a 14
  | .aaload => Nat.beq len 1 && (Nat.beq a 15 || Nat.beq a 16)
  | .iastore => Nat.beq len 1 && Nat.beq a 11
  | .bastore => Nat.beq len 1 && ((Nat.beq a 12 && Nat.beq c 0) || (Nat.beq a 13 && Nat.beq c 1))
  | .lastore => Nat.beq len 1 && Nat.beq a 14
  | .aastore => Nat.beq len 1 && ((Nat.beq a 15 && Nat.beq b 7) || (Nat.beq a 16 && Nat.beq b 4))
  | .arraylength => Nat.beq len 1 && (Nat.beq a 11 || (Nat.beq a 12 || (Nat.beq a 13 || (Nat.beq a 14 || Nat.beq a 17))))
  | .new idx => Nat.beq len 3 && (match c with
    | 0 => Nat.ble 1 a && (decide ((mO M, idx, a) ∈ tr_nl) && (match vwCl[a - 1]? with | some q => Nat.beq q.2.2 b | none => false))
    | _ => Nat.blt a 3 && (Nat.beq idx (tr_exi a).1 && (decide ((mY M).cls = RX7) && (decide (mH M = []) && (Nat.ble 8 dm && tr_thr (mB M) pc a)))))
  | .newarray t => Nat.beq len 2 && (Nat.ble b 20000 && ((decide (t = .int) && Nat.beq a 11) || ((decide (t = .byte) && Nat.beq a 12) || ((decide (t = .boolean) && Nat.beq a 13) || (decide (t = .long) && Nat.beq a 14)))))
  | .anewarray idx => Nat.beq len 3 && (Nat.ble b 20000 && (decide ((mO M, idx, a) ∈ tr_an) && (Nat.beq a 15 || Nat.beq a 16)))
  | .checkcast idx => Nat.beq len 3 && (decide ((mO M, idx, a) ∈ tr_kc) && (Nat.ble 11 a && Nat.blt a 17))
  | .iadd => Nat.beq len 1
  | .isub => Nat.beq len 1
  | .imul => Nat.beq len 1
  | .iand => Nat.beq len 1
  | .ior => Nat.beq len 1
  | .ixor => Nat.beq len 1
  | .ishl => Nat.beq len 1
  | .ishr => Nat.beq len 1
  | .ladd => Nat.beq len 1
  | .lsub => Nat.beq len 1
  | .lmul => Nat.beq len 1
  | .irem => Nat.beq len 1
  | .ldiv => Nat.beq len 1
  | .lrem => Nat.beq len 1
  | .lcmp => Nat.beq len 1
  | .i2l => Nat.beq len 1
  | .i2b => Nat.beq len 1
  | .dup => Nat.beq len 1
  | .dup2 => Nat.beq len 1
  | .pop => Nat.beq len 1
  | .ifCond _ off => Nat.beq len 3 && decide ((pc : Int) + off = (a : Int))
  | .if_icmp _ off => Nat.beq len 3 && decide ((pc : Int) + off = (a : Int))
  | .goto off => Nat.beq len 3 && decide ((pc : Int) + off = (a : Int))
  | .tableswitch dflt lo hi offs => decide ((pc : Int) + dflt = (a : Int)) && (decide (-2147483648 ≤ lo) && (decide (hi + 1 = lo + offs.toList.length) && (decide (hi ≤ 2147483647) && decide (∀ o ∈ offs.toList, 0 ≤ (pc : Int) + o))))
  | .lookupswitch dflt ps => decide ((pc : Int) + dflt = (a : Int)) && ((ps.toList.zip (ps.toList.drop 1)).all (fun (a, next) => a.1 < next.1) && decide (∀ q ∈ ps.toList, -2147483648 ≤ q.1 ∧ q.1 < 2147483648 ∧ 0 ≤ (pc : Int) + q.2))
  | .invokevirtual idx => Nat.beq len 3 && (match a with
    | 1004 => decide ((mO M, idx, b) ∈ tr_kl) && ((Nat.beq b 11 || Nat.beq b 16) && Nat.ble 2 dm)
    | 1005 => decide ((mO M, idx) ∈ tr_sll) && Nat.ble 8 dm
    | 1006 => decide ((mO M, idx) ∈ tr_scl) && Nat.ble 8 dm
    | a => Nat.blt a 229 && (decide ((mO M, idx, a) ∈ tr_mt) && (Nat.beq (mK (tr_mi a)) 0 && (decide (mH (tr_mi a) = []) && (Nat.beq b (tr_na a + 1) && (Nat.ble 1 d && ((match vwCl[d - 1]? with | some q => decide (q.1 = (mY (tr_mi a)).cls) | none => false) && (Nat.beq e (mC (tr_mi a)) && (Nat.beq f (mS (tr_mi a)) && dk a)))))))))
  | .invokespecial idx => Nat.beq len 3 && (match a with
    | 9999 => true
    | 1000 => decide ((mO M, idx) ∈ tr_ob) && Nat.ble 2 dm
    | a => Nat.blt a 229 && ((decide ((mO M, idx, a) ∈ tr_mt) || (decide ((mO M, idx, a) ∈ tr_nt) && Nat.beq (mO M) 7)) && (Nat.beq (mK (tr_mi a)) 1 && (decide (mH (tr_mi a) = []) && (Nat.beq b (tr_na a + 1) && (Nat.ble 1 d && (decide ((mY (tr_mi a)).name = "<init>") && (decide (mR (tr_mi a) = none) && (Nat.beq e (mC (tr_mi a)) && (Nat.beq f (mS (tr_mi a)) && dk a))))))))))
  | .invokestatic idx => Nat.beq len 3 && (match a with
    | 1001 => decide ((mO M, idx) ∈ tr_mnl) && Nat.ble 2 dm
    | 1002 => decide ((mO M, idx) ∈ tr_mxl) && Nat.ble 2 dm
    | 1003 => decide ((mO M, idx) ∈ tr_acl) && Nat.ble 2 dm
    | a => Nat.blt a 229 && (decide ((mO M, idx, a) ∈ tr_mt) && (Nat.beq (mK (tr_mi a)) 2 && (Nat.beq b (tr_na a) && (Nat.beq e (mC (tr_mi a)) && (Nat.beq f (mS (tr_mi a)) && dk a))))))
  | .ireturn => Nat.beq len 1 && (match c with
    | 0 => decide (mR M = some .int)
    | _ => decide (mR M = some .boolean))
  | .lreturn => Nat.beq len 1 && decide (mR M = some .long)
  | .return_ => Nat.beq len 1 && decide (mR M = none)
  | _ => true
def tr_dk (b : ByteArray) (e : tr_En) : Bool := decide (decode b e.1 = .ok (e.2.1, e.2.2.1))
def tr_tok (M : tr_MI) (dm : Nat) (dk : Nat → Bool) : List tr_En → Bool
  | [] => true
  | e :: es => tr_dk (mB M) e && (tr_eok M dm dk e.1 e.2.1 e.2.2.1 e.2.2.2.1 e.2.2.2.2.1 e.2.2.2.2.2.1 e.2.2.2.2.2.2.1 e.2.2.2.2.2.2.2.1 e.2.2.2.2.2.2.2.2 && ((match es with | [] => true | e2 :: _ => Nat.beq e2.1 (e.1 + e.2.2.1)) && tr_tok M dm dk es))
/-- the ends of a method: what Q says there is enough -/
def tr_Ends (E : tr_Env) (M : tr_MI) (R : Room) (lc lz : Nat) (Z : List Frame → Array Value → State → State → Prop) (Q : tr_Q) : Prop :=
  (∀ pc x lv h rc rs, decode (mB M) pc = .ok (.ireturn, 1) → mR M = some .int → Q (.inl (some (.inl x))) h → tr_W E M R lc lz Z pc lv [.inl x] h rc rs) ∧
  (∀ pc x lv h rc rs, decode (mB M) pc = .ok (.ireturn, 1) → mR M = some .boolean → Q (.inl (some (.inl (tr_nb x)))) h → tr_W E M R lc lz Z pc lv [.inl x] h rc rs) ∧
  (∀ pc x lv h rc rs, decode (mB M) pc = .ok (.lreturn, 1) → mR M = some .long → Q (.inl (some (.inr (.inl x)))) h → tr_W E M R lc lz Z pc lv [.inr (.inl x)] h rc rs) ∧
  (∀ pc lv h rc rs, decode (mB M) pc = .ok (.return_, 1) → mR M = none → Q (.inl none) h → tr_W E M R lc lz Z pc lv [] h rc rs) ∧
  (∀ pc k lv st h rc rs, k < 3 → (mY M).cls = RX7 → mH M = [] → decode (mB M) pc = .ok (.new (tr_exi k).1, 3) → tr_thr (mB M) pc k = true → tr_Rok R 8 → tr_wds st ≤ 8 → 1 ≤ rc → 6 ≤ rs → Q (.inr k) h → tr_W E M R lc lz Z pc lv st h rc rs) ∧
  (∀ pc k lv st h rc rs, k < 3 → tr_X (mH M) Q k h → tr_T E M R lc lz Z pc lv st h rc rs k) ∧
  (∀ pc k hp lv st h rc rs, k < 3 → tr_hd (mH M) pc k = some hp → (∀ r, tr_W E M R lc lz Z hp lv [.inr (.inr r)] h rc rs) → tr_T E M R lc lz Z pc lv st h rc rs k)
theorem tr_bq {a b : Nat} (h : Nat.beq a b = true) : a = b := Nat.eq_of_beq_eq_true h
theorem tr_ck_of {b r : Nat} {P : Prop} (h : tr_ck b r P) : b ≤ r ∧ P := by
  unfold tr_ck at h
  split at h
  · next g => exact ⟨Nat.le_of_ble_eq_true g, h⟩
  · exact h.elim
theorem tr_wds4 {st : List tr_V} (h : st.length ≤ 4) : tr_wds st ≤ 8 := by
  have key : ∀ l : List tr_V, tr_wds l ≤ 2 * l.length := by
    intro l
    induction l with
    | nil => exact Nat.le_refl _
    | cons v l ih =>
      have h1 : (tr_cv v).category ≤ 2 := by
        rcases v with x | x | x
        · exact Nat.le_of_ble_eq_true rfl
        · exact Nat.le_of_ble_eq_true rfl
        · rw [tr_cat1]; exact Nat.le_of_ble_eq_true rfl
      show (tr_cv v).category + tr_wds l ≤ 2 * (l.length + 1)
      omega
  have := key st
  omega
theorem tr_wds_le {st st' : List tr_V} (h : st.length ≤ 4) (e : st = st') : tr_wds st' ≤ 8 := e ▸ tr_wds4 h
section TRM
variable {E : tr_Env} {M : tr_MI} {R : Room} {lc lz : Nat} {Z : List Frame → Array Value → State → State → Prop} {pc : Nat} {lv : tr_L} {st : List tr_V} {h : tr_H} {rc rs : Nat} {Q : tr_Q} {D : Nat → Nat} {dm : Nat} {dk : Nat → Bool} {jmp : Nat → tr_K} {nxt : tr_K}
theorem tr_Rok.le {a b : Nat} (h : tr_Rok R b) (hab : a ≤ b) : tr_Rok R a := ⟨Nat.le_trans hab h.1, Nat.le_trans (Nat.mul_le_mul_left 64 hab) h.2⟩

theorem tr_tsw_mono {j1 j2 : Nat → Prop} {dflt pc : Nat} {x : Int32} (hm : ∀ t, j1 t → j2 t) : ∀ (os : List Int) (k : Int), tr_tsw j1 dflt pc x k os → tr_tsw j2 dflt pc x k os
  | [], _, h => hm _ h
  | _ :: os, k, h => ⟨fun q => hm _ (h.1 q), fun q => tr_tsw_mono hm os (k + 1) (h.2 q)⟩
theorem tr_lsw_mono {j1 j2 : Nat → Prop} {dflt pc : Nat} {x : Int32} (hm : ∀ t, j1 t → j2 t) : ∀ (os : List (Int × Int)), tr_lsw j1 dflt pc x os → tr_lsw j2 dflt pc x os
  | [], h => hm _ h
  | (_, _) :: os, h => ⟨fun q => hm _ (h.1 q), fun q => tr_lsw_mono hm os (h.2 q)⟩
theorem word_over {A A' : Array Value} {s U : State} {C : String} (hW : s.WarmedH U.vm) (h : (Cond.arrayOver (.object C)).before A s = true) : (Cond.arrayOver (.object C)).before A' U = true := va_AO.use (va_AO.moved hW.alike (va_AO.of h))
/-- the call itself, once the callee's kind is known -/
theorem tr_call_ok {hdl : Nat → Option Nat} {X : Nat → tr_H → Prop} {C : Nat → List tr_V → tr_H → tr_Q → Prop} {a b c d e f : Nat} {len : Nat} (hlen : len = 3)
    (hn : ∀ lv st h rc rs, nxt lv st h rc rs → tr_W E M R lc lz Z (pc + len) lv st h rc rs) (hj : ∀ t lv st h rc rs, jmp t lv st h rc rs → tr_W E M R lc lz Z t lv st h rc rs)
    (hX : ∀ k lv st h rc rs, k < 3 → X k h → tr_T E M R lc lz Z pc lv st h rc rs k) (hH : ∀ k hp lv st h rc rs, k < 3 → hdl k = some hp → (∀ r, tr_W E M R lc lz Z hp lv [.inr (.inr r)] h rc rs) → tr_T E M R lc lz Z pc lv st h rc rs k)
    (hs : tr_call C hdl X jmp nxt a b c d e f lv st h rc rs) :
    b ≤ st.length ∧ (st.drop b).length ≤ 4 ∧ e ≤ rc ∧ f ≤ rs ∧ (d ≠ 0 → ∃ r as, (st.take b).reverse = .inr (.inr r) :: as ∧ ht h r = d) ∧ ∃ Q' : tr_Q, C a (st.take b).reverse h Q' ∧ (∀ v h', Q' (.inl v) h' → tr_W E M R lc lz Z (pc + 3) lv (v.toList ++ st.drop b) h' (rc - e) (rs - f)) ∧ ∀ k h', k < 3 → Q' (.inr k) h' → tr_T E M R lc lz Z pc lv (st.drop b) h' (rc - e) (rs - f) k := by
  subst hlen
  unfold tr_call at hs
  dsimp only at hs
  have thr : ∀ k h', k < 3 → (match hdl k with | none => X k h' | some p => ∀ r, jmp p lv [.inr (.inr r)] h' (rc - e) (rs - f)) → tr_T E M R lc lz Z pc lv (st.drop b) h' (rc - e) (rs - f) k := by
    intro k h' hk hq
    cases hh : hdl k with
    | none => rw [hh] at hq; exact hX k _ _ _ _ _ hk hq
    | some p => rw [hh] at hq; exact hH k p _ _ _ _ _ hk hh (fun r => hj _ _ _ _ _ _ (hq r))
  have body : ∀ hs : tr_ck b st.length (tr_ck (st.drop b).length 4 (tr_ck e rc (tr_ck f rs (C a (st.take b).reverse h (match (generalizing := false) c with
    | 0 => kV (fun h' => nxt lv (st.drop b) h' (rc - e) (rs - f)) (fun E h' => match hdl E with | none => X E h' | some p => ∀ r, jmp p lv [.inr (.inr r)] h' (rc - e) (rs - f))
    | 1 => kI (fun v h' => nxt lv (.inl v :: st.drop b) h' (rc - e) (rs - f)) (fun E h' => match hdl E with | none => X E h' | some p => ∀ r, jmp p lv [.inr (.inr r)] h' (rc - e) (rs - f))
    | _ => kJ (fun v h' => nxt lv (.inr (.inl v) :: st.drop b) h' (rc - e) (rs - f)) (fun E h' => match hdl E with | none => X E h' | some p => ∀ r, jmp p lv [.inr (.inr r)] h' (rc - e) (rs - f))))))),
    b ≤ st.length ∧ (st.drop b).length ≤ 4 ∧ e ≤ rc ∧ f ≤ rs ∧ ∃ Q' : tr_Q, C a (st.take b).reverse h Q' ∧ (∀ v h', Q' (.inl v) h' → tr_W E M R lc lz Z (pc + 3) lv (v.toList ++ st.drop b) h' (rc - e) (rs - f)) ∧ ∀ k h', k < 3 → Q' (.inr k) h' → tr_T E M R lc lz Z pc lv (st.drop b) h' (rc - e) (rs - f) k := by
    intro hs
    obtain ⟨g0, hs⟩ := tr_ck_of hs
    obtain ⟨g1, hs⟩ := tr_ck_of hs
    obtain ⟨g2, hs⟩ := tr_ck_of hs
    obtain ⟨g3, hs⟩ := tr_ck_of hs
    refine ⟨g0, g1, g2, g3, _, hs, fun v h' hq => ?_, fun k h' hk hq => ?_⟩
    · split at hq
      · unfold kV at hq
        split at hq
        · next hv => cases hv; exact hn _ _ _ _ _ hq
        · next hv => cases hv
        · exact hq.elim
      · unfold kI at hq
        split at hq
        · next hv => cases hv; exact hn _ _ _ _ _ hq
        · next hv => cases hv
        · exact hq.elim
      · unfold kJ at hq
        split at hq
        · next hv => cases hv; exact hn _ _ _ _ _ hq
        · next hv => cases hv
        · exact hq.elim
    · split at hq
      · exact thr k h' hk hq
      · exact thr k h' hk hq
      · exact thr k h' hk hq
  split at hs
  · obtain ⟨g0, g1, g2, g3, g4⟩ := body hs
    exact ⟨g0, g1, g2, g3, fun q => absurd rfl q, g4⟩
  · split at hs
    · next r as hr =>
      obtain ⟨g0, g1, g2, g3, g4⟩ := body hs.2
      exact ⟨g0, g1, g2, g3, fun _ => ⟨_, _, hr, hs.1⟩, g4⟩
    · exact hs.elim

theorem tr_inv_v (ok : tr_ok E) (hlc : lc ≤ R.cells) (hlz : lz ≤ R.slots) (hO : tr_R (mO M) = (mY M).cls) (hRd : tr_Rok R dm) (hdk : ∀ a, dk a = true → tr_Rok R (D a + 1)) (hE : tr_Ends E M R lc lz Z Q) {idx len a b c d e f : Nat}
    (hn : ∀ lv st h rc rs, nxt lv st h rc rs → tr_W E M R lc lz Z (pc + len) lv st h rc rs) (hj : ∀ t lv st h rc rs, jmp t lv st h rc rs → tr_W E M R lc lz Z t lv st h rc rs)
    (hd : decode (mB M) pc = .ok (.invokevirtual idx, len)) (hok : tr_eok M dm dk pc (.invokevirtual idx) len a b c d e f = true) (hs : tr_step (fun a as h Q => tr_Cd E (D a) (tr_mi a) as h Q) tr_txt (tr_hd (mH M) pc) (tr_X (mH M) Q) jmp nxt Q pc (.invokevirtual idx) a b c d e f lv st h rc rs) : tr_W E M R lc lz Z pc lv st h rc rs := by
  obtain ⟨hl, hv⟩ := Bool.and_eq_true_iff.mp hok
  have hl := tr_bq hl
  have hX : ∀ k lv st h rc rs, k < 3 → tr_X (mH M) Q k h → tr_T E M R lc lz Z pc lv st h rc rs k := fun k lv st h rc rs => hE.2.2.2.2.2.1 pc k lv st h rc rs
  have hH : ∀ k hp lv st h rc rs, k < 3 → tr_hd (mH M) pc k = some hp → (∀ r, tr_W E M R lc lz Z hp lv [.inr (.inr r)] h rc rs) → tr_T E M R lc lz Z pc lv st h rc rs k := fun k hp lv st h rc rs => hE.2.2.2.2.2.2 pc k hp lv st h rc rs
  unfold tr_step at hs
  dsimp only at hs
  unfold ts_invokevirtual at hs
  try dsimp only at hs
  split at hs
  · subst hl
    have hv : (decide ((mO M, idx, b) ∈ tr_kl) && ((Nat.beq b 11 || Nat.beq b 16) && Nat.ble 2 dm)) = true := hv
    obtain ⟨g1, hv⟩ := Bool.and_eq_true_iff.mp hv
    obtain ⟨g2, g3⟩ := Bool.and_eq_true_iff.mp hv
    have hw := tr_kl_in _ (List.mem_map.mpr ⟨_, of_decide_eq_true g1, rfl⟩)
    have hw : Cond.methodLink (tr_R (mO M)) idx ⟨"[" ++ (tr_aty (b - 11)).toString, "clone", "()Ljava/lang/Object;"⟩ ∈ tr_LW := hw
    rw [hO] at hw
    have hb : b - 11 = 0 ∨ b - 11 = 5 := by rcases Bool.or_eq_true_iff.mp g2 with g | g <;> have g := tr_bq g <;> omega
    have hb2 : b = (b - 11) + 11 := by rcases Bool.or_eq_true_iff.mp g2 with g | g <;> have g := tr_bq g <;> omega
    obtain ⟨w1, w2, w3, w4, w5⟩ := tr_cln_in _ hb
    split at hs
    · obtain ⟨q1, q2, q3⟩ := hs
      obtain ⟨q3, q4⟩ := tr_ck_of q3
      obtain ⟨q4, q5⟩ := tr_ck_of q4
      obtain ⟨q5, q6⟩ := tr_ck_of q5
      exact tr_r_clone ok hlc hlz hb hd rfl hw w1 w2 w3 w4 w5 (hRd.le (Nat.le_of_ble_eq_true g3)) (tr_wds4 q3) (q1.trans hb2) q2 q4 q5 (fun r h1 h2 => hn _ _ _ _ _ (q6 r h1 h2 _ rfl))
    · exact hs.elim
  · subst hl
    have hv : (decide ((mO M, idx) ∈ tr_sll) && Nat.ble 8 dm) = true := hv
    obtain ⟨g1, g2⟩ := Bool.and_eq_true_iff.mp hv
    split at hs
    · obtain ⟨q1, q2⟩ := hs
      obtain ⟨q2, q3⟩ := tr_ck_of q2
      exact tr_r_slength ok hlc hlz hd hO (of_decide_eq_true g1) (hRd.le (Nat.le_of_ble_eq_true g2)) (tr_wds4 q2) q1 (hn _ _ _ _ _ q3)
    · exact hs.elim
  · subst hl
    have hv : (decide ((mO M, idx) ∈ tr_scl) && Nat.ble 8 dm) = true := hv
    obtain ⟨g1, g2⟩ := Bool.and_eq_true_iff.mp hv
    split at hs
    · obtain ⟨q1, q0, q2⟩ := hs
      obtain ⟨q2, q3⟩ := tr_ck_of q2
      exact tr_r_scharat ok hlc hlz hd hO (of_decide_eq_true g1) (hRd.le (Nat.le_of_ble_eq_true g2)) (tr_wds4 q2) q1 q0 (hn _ _ _ _ _ q3)
    · exact hs.elim
  · next n1 n2 n3 =>
    have hv : (Nat.blt a 229 && (decide ((mO M, idx, a) ∈ tr_mt) && (Nat.beq (mK (tr_mi a)) 0 && (decide (mH (tr_mi a) = []) && (Nat.beq b (tr_na a + 1) && (Nat.ble 1 d && ((match vwCl[d - 1]? with | some q => decide (q.1 = (mY (tr_mi a)).cls) | none => false) && (Nat.beq e (mC (tr_mi a)) && (Nat.beq f (mS (tr_mi a)) && dk a))))))))) = true := by
      split at hv
      · exact absurd rfl n1
      · exact absurd rfl n2
      · exact absurd rfl n3
      · exact hv
    simp only [Bool.and_eq_true, Nat.blt_eq, Nat.beq_eq, Nat.ble_eq, decide_eq_true_eq] at hv
    obtain ⟨v1, v2, v3, v4, v5, v6, v7, v8, v9, v10⟩ := hv
    obtain ⟨hb, g1, g2, g3, g4, Q', g5, g6, g7⟩ := tr_call_ok hl hn hj hX hH hs
    subst v8; subst v9
    obtain ⟨r, as, hr, hrt⟩ := g4 (by omega)
    have hst : st = (.inr (.inr r) :: as).reverse ++ st.drop b := by rw [← hr, List.reverse_reverse, List.take_append_drop]
    have hlen : as.length = tr_na a := by
      have h1 : ((st.take b).reverse).length = as.length + 1 := by rw [hr]; rfl
      rw [List.length_reverse, List.length_take, Nat.min_eq_left hb] at h1
      omega
    cases hq : vwCl[d - 1]? with
    | none => rw [hq] at v7; cases v7
    | some q =>
      rw [hq] at v7
      have hw := tr_mw_in _ (List.mem_map.mpr ⟨_, v2, rfl⟩)
      have hw : Cond.methodLink (tr_R (mO M)) idx (mY (tr_mi a)) ∈ tr_LW := hw
      rw [hO] at hw
      rw [hr] at g5
      rw [hst]
      exact tr_r_callV ok hlc hlz (hl ▸ hd) (tr_Mok_of v1) v4 v3 (hdk a v10) hw hq (of_decide_eq_true v7) (by rw [hrt]; omega) hlen (tr_wds4 g1) g2 g3 g5 g6 g7

theorem tr_inv_i (ok : tr_ok E) (hlc : lc ≤ R.cells) (hlz : lz ≤ R.slots) (hO : tr_R (mO M) = (mY M).cls) (hRd : tr_Rok R dm) (hdk : ∀ a, dk a = true → tr_Rok R (D a + 1)) (hE : tr_Ends E M R lc lz Z Q) {idx len a b c d e f : Nat}
    (hn : ∀ lv st h rc rs, nxt lv st h rc rs → tr_W E M R lc lz Z (pc + len) lv st h rc rs) (hj : ∀ t lv st h rc rs, jmp t lv st h rc rs → tr_W E M R lc lz Z t lv st h rc rs)
    (hd : decode (mB M) pc = .ok (.invokespecial idx, len)) (hok : tr_eok M dm dk pc (.invokespecial idx) len a b c d e f = true) (hs : tr_step (fun a as h Q => tr_Cd E (D a) (tr_mi a) as h Q) tr_txt (tr_hd (mH M) pc) (tr_X (mH M) Q) jmp nxt Q pc (.invokespecial idx) a b c d e f lv st h rc rs) : tr_W E M R lc lz Z pc lv st h rc rs := by
  obtain ⟨hl, hv⟩ := Bool.and_eq_true_iff.mp hok
  have hl := tr_bq hl
  have hX : ∀ k lv st h rc rs, k < 3 → tr_X (mH M) Q k h → tr_T E M R lc lz Z pc lv st h rc rs k := fun k lv st h rc rs => hE.2.2.2.2.2.1 pc k lv st h rc rs
  have hH : ∀ k hp lv st h rc rs, k < 3 → tr_hd (mH M) pc k = some hp → (∀ r, tr_W E M R lc lz Z hp lv [.inr (.inr r)] h rc rs) → tr_T E M R lc lz Z pc lv st h rc rs k := fun k hp lv st h rc rs => hE.2.2.2.2.2.2 pc k hp lv st h rc rs
  unfold tr_step at hs
  dsimp only at hs
  unfold ts_invokespecial at hs
  try dsimp only at hs
  split at hs
  · exact hs.elim
  · subst hl
    have hv : (decide ((mO M, idx) ∈ tr_ob) && Nat.ble 2 dm) = true := hv
    obtain ⟨g1, g2⟩ := Bool.and_eq_true_iff.mp hv
    have hw := tr_ob_in _ (List.mem_map.mpr ⟨_, of_decide_eq_true g1, rfl⟩)
    have hw : Cond.methodLink (tr_R (mO M)) idx objectInit ∈ tr_LW := hw
    rw [hO] at hw
    split at hs
    · obtain ⟨q1, q2⟩ := hs
      obtain ⟨q2, q3⟩ := tr_ck_of q2
      exact tr_r_obj hd hw tr_lib_in.1 tr_lib_in.2.1 (hRd.le (Nat.le_of_ble_eq_true g2)) (tr_wds4 q2) q1 (hn _ _ _ _ _ q3)
    · exact hs.elim
  · next n1 n2 =>
    have hv : (Nat.blt a 229 && ((decide ((mO M, idx, a) ∈ tr_mt) || (decide ((mO M, idx, a) ∈ tr_nt) && Nat.beq (mO M) 7)) && (Nat.beq (mK (tr_mi a)) 1 && (decide (mH (tr_mi a) = []) && (Nat.beq b (tr_na a + 1) && (Nat.ble 1 d && (decide ((mY (tr_mi a)).name = "<init>") && (decide (mR (tr_mi a) = none) && (Nat.beq e (mC (tr_mi a)) && (Nat.beq f (mS (tr_mi a)) && dk a)))))))))) = true := by
      split at hv
      · exact absurd rfl n1
      · exact absurd rfl n2
      · exact hv
    simp only [Bool.and_eq_true, Bool.or_eq_true, Nat.blt_eq, Nat.beq_eq, Nat.ble_eq, decide_eq_true_eq] at hv
    obtain ⟨v1, v2, v3, v4, v5, v6, v7, v7b, v8, v9, v10⟩ := hv
    obtain ⟨hb, g1, g2, g3, g4, Q', g5, g6, g7⟩ := tr_call_ok hl hn hj hX hH hs
    subst v8; subst v9
    obtain ⟨r, as, hr, hrt⟩ := g4 (by omega)
    have hst : st = (.inr (.inr r) :: as).reverse ++ st.drop b := by rw [← hr, List.reverse_reverse, List.take_append_drop]
    have hlen : as.length = tr_na a := by
      have h1 : ((st.take b).reverse).length = as.length + 1 := by rw [hr]; rfl
      rw [List.length_reverse, List.length_take, Nat.min_eq_left hb] at h1
      omega
    rw [hr] at g5
    rw [hst]
    rcases v2 with v2 | ⟨v2, v2b⟩
    · have hw := tr_mw_in _ (List.mem_map.mpr ⟨_, v2, rfl⟩)
      have hw : Cond.methodLink (tr_R (mO M)) idx (mY (tr_mi a)) ∈ tr_LW := hw
      rw [hO] at hw
      exact tr_r_callI ok hlc hlz (hl ▸ hd) (tr_Mok_of v1) v4 v3 v7 v7b (hdk a v10) hw (by rw [hrt]; omega) hlen (tr_wds4 g1) g2 g3 g5 g6 g7
    · have hw := tr_nt_in _ (List.mem_map.mpr ⟨_, v2, rfl⟩)
      have hw : Cond.methodLinkNest (tr_R (mO M)) idx (mY (tr_mi a)) RX7 ∈ lw_tbl := hw
      rw [hO] at hw
      exact tr_r_callIN ok hlc hlz (hl ▸ hd) (tr_Mok_of v1) v4 v3 v7 v7b (hdk a v10) hw (by rw [hrt]; omega) hlen (tr_wds4 g1) g2 g3 g5 g6 g7

theorem tr_inv_s (ok : tr_ok E) (hlc : lc ≤ R.cells) (hlz : lz ≤ R.slots) (hO : tr_R (mO M) = (mY M).cls) (hRd : tr_Rok R dm) (hdk : ∀ a, dk a = true → tr_Rok R (D a + 1)) (hE : tr_Ends E M R lc lz Z Q) {idx len a b c d e f : Nat}
    (hn : ∀ lv st h rc rs, nxt lv st h rc rs → tr_W E M R lc lz Z (pc + len) lv st h rc rs) (hj : ∀ t lv st h rc rs, jmp t lv st h rc rs → tr_W E M R lc lz Z t lv st h rc rs)
    (hd : decode (mB M) pc = .ok (.invokestatic idx, len)) (hok : tr_eok M dm dk pc (.invokestatic idx) len a b c d e f = true) (hs : tr_step (fun a as h Q => tr_Cd E (D a) (tr_mi a) as h Q) tr_txt (tr_hd (mH M) pc) (tr_X (mH M) Q) jmp nxt Q pc (.invokestatic idx) a b c d e f lv st h rc rs) : tr_W E M R lc lz Z pc lv st h rc rs := by
  obtain ⟨hl, hv⟩ := Bool.and_eq_true_iff.mp hok
  have hl := tr_bq hl
  have hX : ∀ k lv st h rc rs, k < 3 → tr_X (mH M) Q k h → tr_T E M R lc lz Z pc lv st h rc rs k := fun k lv st h rc rs => hE.2.2.2.2.2.1 pc k lv st h rc rs
  have hH : ∀ k hp lv st h rc rs, k < 3 → tr_hd (mH M) pc k = some hp → (∀ r, tr_W E M R lc lz Z hp lv [.inr (.inr r)] h rc rs) → tr_T E M R lc lz Z pc lv st h rc rs k := fun k hp lv st h rc rs => hE.2.2.2.2.2.2 pc k hp lv st h rc rs
  unfold tr_step at hs
  dsimp only at hs
  unfold ts_invokestatic at hs
  try dsimp only at hs
  split at hs
  · subst hl
    have hv : (decide ((mO M, idx) ∈ tr_mnl) && Nat.ble 2 dm) = true := hv
    obtain ⟨g1, g2⟩ := Bool.and_eq_true_iff.mp hv
    have hw := tr_mnl_in _ (List.mem_map.mpr ⟨_, of_decide_eq_true g1, rfl⟩)
    have hw : Cond.methodLink (tr_R (mO M)) idx Lib.Math.min.name ∈ tr_LW := hw
    rw [hO] at hw
    obtain ⟨-, -, w1, w2, w3, -⟩ := tr_lib_in
    split at hs
    · obtain ⟨q2, q3⟩ := tr_ck_of hs
      exact tr_r_min hlc hlz hd hw w1 w2 w3 (hRd.le (Nat.le_of_ble_eq_true g2)) (tr_wds4 q2) (hn _ _ _ _ _ q3)
    · exact hs.elim
  · subst hl
    have hv : (decide ((mO M, idx) ∈ tr_mxl) && Nat.ble 2 dm) = true := hv
    obtain ⟨g1, g2⟩ := Bool.and_eq_true_iff.mp hv
    have hw := tr_mxl_in _ (List.mem_map.mpr ⟨_, of_decide_eq_true g1, rfl⟩)
    have hw : Cond.methodLink (tr_R (mO M)) idx Lib.Math.max.name ∈ tr_LW := hw
    rw [hO] at hw
    obtain ⟨-, -, -, w2, -, w1, w3, -⟩ := tr_lib_in
    split at hs
    · obtain ⟨q2, q3⟩ := tr_ck_of hs
      exact tr_r_max hlc hlz hd hw w1 w2 w3 (hRd.le (Nat.le_of_ble_eq_true g2)) (tr_wds4 q2) (hn _ _ _ _ _ q3)
    · exact hs.elim
  · subst hl
    have hv : (decide ((mO M, idx) ∈ tr_acl) && Nat.ble 2 dm) = true := hv
    obtain ⟨g1, g2⟩ := Bool.and_eq_true_iff.mp hv
    have hw := tr_acl_in _ (List.mem_map.mpr ⟨_, of_decide_eq_true g1, rfl⟩)
    have hw : Cond.methodLink (tr_R (mO M)) idx arraycopyName ∈ tr_LW := hw
    rw [hO] at hw
    obtain ⟨-, -, -, -, -, -, -, w1, w2, w3⟩ := tr_lib_in
    split at hs
    · obtain ⟨q1, q2, q3, q4, q5, q6, q7, q8, q9⟩ := hs
      obtain ⟨q9, q10⟩ := tr_ck_of q9
      exact tr_r_acopy ok hd hw w1 w2 w3 (hRd.le (Nat.le_of_ble_eq_true g2)) (tr_wds4 q9) q1 q2 q3 q4 q5 q6 q7 q8 (hn _ _ _ _ _ (q10 _ rfl))
    · exact hs.elim
  · next n1 n2 n3 =>
    have hv : (Nat.blt a 229 && (decide ((mO M, idx, a) ∈ tr_mt) && (Nat.beq (mK (tr_mi a)) 2 && (Nat.beq b (tr_na a) && (Nat.beq e (mC (tr_mi a)) && (Nat.beq f (mS (tr_mi a)) && dk a)))))) = true := by
      split at hv
      · exact absurd rfl n1
      · exact absurd rfl n2
      · exact absurd rfl n3
      · exact hv
    simp only [Bool.and_eq_true, Nat.blt_eq, Nat.beq_eq, Nat.ble_eq, decide_eq_true_eq] at hv
    obtain ⟨v1, v2, v3, v5, v8, v9, v10⟩ := hv
    obtain ⟨hb, g1, g2, g3, g4, Q', g5, g6, g7⟩ := tr_call_ok hl hn hj hX hH hs
    subst v8; subst v9
    have hst : st = (st.take b).reverse.reverse ++ st.drop b := by rw [List.reverse_reverse, List.take_append_drop]
    have hlen : ((st.take b).reverse).length = tr_na a := by
      rw [List.length_reverse, List.length_take, Nat.min_eq_left hb]
      exact v5
    have hw := tr_mw_in _ (List.mem_map.mpr ⟨_, v2, rfl⟩)
    have hw : Cond.methodLink (tr_R (mO M)) idx (mY (tr_mi a)) ∈ tr_LW := hw
    rw [hO] at hw
    rw [hst]
    exact tr_r_callS ok hlc hlz (hl ▸ hd) (tr_Mok_of v1) v3 (hdk a v10) hw hlen (tr_wds4 g1) g2 g3 g5 g6 g7

theorem tr_step_ok (ok : tr_ok E) (hlc : lc ≤ R.cells) (hlz : lz ≤ R.slots) (hO : tr_R (mO M) = (mY M).cls) (hRd : tr_Rok R dm) (hdk : ∀ a, dk a = true → tr_Rok R (D a + 1)) (hE : tr_Ends E M R lc lz Z Q) {i : Instr} {len a b c d e f : Nat}
    (hn : ∀ lv st h rc rs, nxt lv st h rc rs → tr_W E M R lc lz Z (pc + len) lv st h rc rs) (hj : ∀ t lv st h rc rs, jmp t lv st h rc rs → tr_W E M R lc lz Z t lv st h rc rs)
    (hd : decode (mB M) pc = .ok (i, len)) (hok : tr_eok M dm dk pc i len a b c d e f = true) (hs : tr_step (fun a as h Q => tr_Cd E (D a) (tr_mi a) as h Q) tr_txt (tr_hd (mH M) pc) (tr_X (mH M) Q) jmp nxt Q pc i a b c d e f lv st h rc rs) : tr_W E M R lc lz Z pc lv st h rc rs := by
  cases i with
  | aload k => 
    have hl := tr_bq hok
    subst hl
    unfold tr_step at hs
    dsimp only at hs
    unfold ts_aload at hs
    try dsimp only at hs
    split at hs
    · next r hv => exact tr_r_aload hd hv (hn _ _ _ _ _ hs)
    · exact hs.elim
  | aload_n k => 
    have hl := tr_bq hok
    subst hl
    unfold tr_step at hs
    dsimp only at hs
    unfold ts_aload_n at hs
    try dsimp only at hs
    split at hs
    · next r hv => exact tr_r_aload_n hd hv (hn _ _ _ _ _ hs)
    · exact hs.elim
  | iload k => 
    have hl := tr_bq hok
    subst hl
    unfold tr_step at hs
    dsimp only at hs
    unfold ts_iload at hs
    try dsimp only at hs
    split at hs
    · next r hv => exact tr_r_iload hd hv (hn _ _ _ _ _ hs)
    · exact hs.elim
  | iload_n k => 
    have hl := tr_bq hok
    subst hl
    unfold tr_step at hs
    dsimp only at hs
    unfold ts_iload_n at hs
    try dsimp only at hs
    split at hs
    · next r hv => exact tr_r_iload_n hd hv (hn _ _ _ _ _ hs)
    · exact hs.elim
  | lload k => 
    have hl := tr_bq hok
    subst hl
    unfold tr_step at hs
    dsimp only at hs
    unfold ts_lload at hs
    try dsimp only at hs
    split at hs
    · next r hv => exact tr_r_lload hd hv (hn _ _ _ _ _ hs)
    · exact hs.elim
  | lload_n k => 
    have hl := tr_bq hok
    subst hl
    unfold tr_step at hs
    dsimp only at hs
    unfold ts_lload_n at hs
    try dsimp only at hs
    split at hs
    · next r hv => exact tr_r_lload_n hd hv (hn _ _ _ _ _ hs)
    · exact hs.elim
  | istore k => 
    obtain ⟨hl, hk⟩ := Bool.and_eq_true_iff.mp hok
    have hl := tr_bq hl
    subst hl
    unfold tr_step at hs
    dsimp only at hs
    unfold ts_istore at hs
    try dsimp only at hs
    split at hs
    · rw [lvn_eq] at hs
      exact tr_r_istore hd (Nat.blt_eq.mp hk) (hn _ _ _ _ _ hs)
    · exact hs.elim
  | istore_n k => 
    obtain ⟨hl, hk⟩ := Bool.and_eq_true_iff.mp hok
    have hl := tr_bq hl
    subst hl
    unfold tr_step at hs
    dsimp only at hs
    unfold ts_istore_n at hs
    try dsimp only at hs
    split at hs
    · rw [lvn_eq] at hs
      exact tr_r_istore_n hd (Nat.blt_eq.mp hk) (hn _ _ _ _ _ hs)
    · exact hs.elim
  | astore k => 
    obtain ⟨hl, hk⟩ := Bool.and_eq_true_iff.mp hok
    have hl := tr_bq hl
    subst hl
    unfold tr_step at hs
    dsimp only at hs
    unfold ts_astore at hs
    try dsimp only at hs
    split at hs
    · rw [lvn_eq] at hs
      exact tr_r_astore hd (Nat.blt_eq.mp hk) (hn _ _ _ _ _ hs)
    · exact hs.elim
  | astore_n k => 
    obtain ⟨hl, hk⟩ := Bool.and_eq_true_iff.mp hok
    have hl := tr_bq hl
    subst hl
    unfold tr_step at hs
    dsimp only at hs
    unfold ts_astore_n at hs
    try dsimp only at hs
    split at hs
    · rw [lvn_eq] at hs
      exact tr_r_astore_n hd (Nat.blt_eq.mp hk) (hn _ _ _ _ _ hs)
    · exact hs.elim
  | lstore k => 
    obtain ⟨hl, hk⟩ := Bool.and_eq_true_iff.mp hok
    have hl := tr_bq hl
    subst hl
    unfold tr_step at hs
    dsimp only at hs
    unfold ts_lstore at hs
    try dsimp only at hs
    split at hs
    · rw [lvn_eq] at hs
      exact tr_r_lstore hd (Nat.blt_eq.mp hk) (hn _ _ _ _ _ hs)
    · exact hs.elim
  | lstore_n k => 
    obtain ⟨hl, hk⟩ := Bool.and_eq_true_iff.mp hok
    have hl := tr_bq hl
    subst hl
    unfold tr_step at hs
    dsimp only at hs
    unfold ts_lstore_n at hs
    try dsimp only at hs
    split at hs
    · rw [lvn_eq] at hs
      exact tr_r_lstore_n hd (Nat.blt_eq.mp hk) (hn _ _ _ _ _ hs)
    · exact hs.elim
  | iinc k n => 
    obtain ⟨hl, hk⟩ := Bool.and_eq_true_iff.mp hok
    have hl := tr_bq hl
    subst hl
    unfold tr_step at hs
    dsimp only at hs
    unfold ts_iinc at hs
    try dsimp only at hs
    split at hs
    · next x hv =>
      rw [lvn_eq] at hs
      exact tr_r_iinc hd (Nat.blt_eq.mp hk) hv (hn _ _ _ _ _ hs)
    · exact hs.elim
  | iconst n => 
    have hl := tr_bq hok
    subst hl
    exact tr_r_iconst hd (hn _ _ _ _ _ hs)
  | bipush n => 
    obtain ⟨hl, hv⟩ := Bool.and_eq_true_iff.mp hok
    have hl := tr_bq hl
    subst hl
    exact tr_r_bipush hd (of_decide_eq_true hv) (hn _ _ _ _ _ hs)
  | sipush n => 
    obtain ⟨hl, hv⟩ := Bool.and_eq_true_iff.mp hok
    have hl := tr_bq hl
    subst hl
    exact tr_r_sipush hd (of_decide_eq_true hv) (hn _ _ _ _ _ hs)
  | lconst n => 
    have hl := tr_bq hok
    subst hl
    exact tr_r_lconst hd (hn _ _ _ _ _ hs)
  | ldc idx => 
    obtain ⟨hl, hv⟩ := Bool.and_eq_true_iff.mp hok
    have hl := tr_bq hl
    subst hl
    cases c with
    | zero =>
      have hv : decide ((mO M, idx, b) ∈ tr_l1) = true := hv
      have hw := tr_l1_in _ (List.mem_map.mpr ⟨_, of_decide_eq_true hv, rfl⟩)
      have hw : Cond.constant (tr_R (mO M)) idx (ii (b : Nat)) ∈ tr_LW := hw
      rw [hO] at hw
      exact tr_r_ldc hd hw (hn _ _ _ _ _ hs)
    | succ c =>
      have hv : (Nat.blt b 8 && decide ((mO M, idx, b) ∈ tr_sidx)) = true := hv
      obtain ⟨h1, h2⟩ := Bool.and_eq_true_iff.mp hv
      have hs : ∀ r, tr_tx h r (tr_txt b) → nxt lv (.inr (.inr r) :: st) h rc rs := hs
      exact tr_r_ldcs ok hd hO (Nat.blt_eq.mp h1) (of_decide_eq_true h2) (fun r hr => hn _ _ _ _ _ (hs r hr))
  | ldc2_w idx => 
    obtain ⟨hl, hv⟩ := Bool.and_eq_true_iff.mp hok
    have hl := tr_bq hl
    subst hl
    have hw := tr_l2_in _ (List.mem_map.mpr ⟨_, of_decide_eq_true hv, rfl⟩)
    have hw : Cond.constantLong (tr_R (mO M)) idx (jj (b : Nat)) ∈ tr_LW := hw
    rw [hO] at hw
    exact tr_r_ldc2 hd hw (hn _ _ _ _ _ hs)
  | getfield idx => 
    obtain ⟨hl, hv⟩ := Bool.and_eq_true_iff.mp hok
    have hl := tr_bq hl
    subst hl
    unfold tr_step at hs
    dsimp only at hs
    unfold ts_getfield at hs
    try dsimp only at hs
    split at hs
    · next r st' =>
      refine tr_r_getf ok hd (of_decide_eq_true hv) hO hs.1 (hn _ _ _ _ _ ?_)
      have hs2 := hs.2
      unfold tr_fval
      match c, hs2 with
      | 0, hs2 => exact hs2
      | 1, hs2 => exact hs2
      | c + 2, hs2 => exact hs2
    · exact hs.elim
  | putfield idx => 
    obtain ⟨hl, hv⟩ := Bool.and_eq_true_iff.mp hok
    obtain ⟨hv, hp⟩ := Bool.and_eq_true_iff.mp hv
    have hl := tr_bq hl
    subst hl
    have hf := of_decide_eq_true hv
    have hfin : ∀ q : vw_C, vwCl[a - 1]? = some q → (q.2.1 b).2.2.2 = true → (mY M).name = "<init>" ∧ q.1 = (mY M).cls := by
      intro q hq hfn
      unfold tr_pok at hp
      rw [hq] at hp
      simpa [hfn] using hp
    unfold tr_step at hs
    dsimp only at hs
    unfold ts_putfield at hs
    try dsimp only at hs
    split at hs
    · exact tr_r_putI ok hd hf hO hfin hs.1 (hn _ _ _ _ _ (hs.2 _ rfl))
    · exact tr_r_putJ ok hd hf hO hfin hs.1 (hn _ _ _ _ _ (hs.2 _ rfl))
    · exact tr_r_putR ok hd hf hO hfin hs.1 (hn _ _ _ _ _ (hs.2 _ rfl))
    · exact hs.elim
  | iaload => 
    obtain ⟨hl, hv⟩ := Bool.and_eq_true_iff.mp hok
    have hl := tr_bq hl
    subst hl
    unfold tr_step at hs
    dsimp only at hs
    unfold ts_iaload at hs
    try dsimp only at hs
    split at hs
    · have hv := Bool.or_eq_true_iff.mp hv
      rcases hv with g | g <;> have g := tr_bq g
      · exact tr_r_iald ok hd (hs.1.trans g) hs.2.1 (hn _ _ _ _ _ hs.2.2)
      · exact tr_r_sald ok hd (hs.1.trans g) hs.2.1 (hn _ _ _ _ _ hs.2.2)
    · exact hs.elim
  | baload => 
    obtain ⟨hl, hv⟩ := Bool.and_eq_true_iff.mp hok
    have hl := tr_bq hl
    subst hl
    unfold tr_step at hs
    dsimp only at hs
    unfold ts_baload at hs
    try dsimp only at hs
    split at hs
    · have hv := Bool.or_eq_true_iff.mp hv
      rcases hv with g | g <;> have g := tr_bq g
      · exact tr_r_bald ok hd (hs.1.trans g) hs.2.1 (hn _ _ _ _ _ hs.2.2)
      · exact tr_r_zald ok hd (hs.1.trans g) hs.2.1 (hn _ _ _ _ _ hs.2.2)
    · exact hs.elim
  | laload => 
    obtain ⟨hl, hv⟩ := Bool.and_eq_true_iff.mp hok
    have hl := tr_bq hl
    subst hl
    unfold tr_step at hs
    dsimp only at hs
    unfold ts_laload at hs
    try dsimp only at hs
    split at hs
    · have g := tr_bq hv
      · exact tr_r_lald ok hd (hs.1.trans g) hs.2.1 (hn _ _ _ _ _ hs.2.2)
    · exact hs.elim
  | aaload => 
    obtain ⟨hl, hv⟩ := Bool.and_eq_true_iff.mp hok
    have hl := tr_bq hl
    subst hl
    unfold tr_step at hs
    dsimp only at hs
    unfold ts_aaload at hs
    try dsimp only at hs
    split at hs
    · have hv := Bool.or_eq_true_iff.mp hv
      rcases hv with g | g <;> have g := tr_bq g
      · exact tr_r_aald4 ok hd (hs.1.trans g) hs.2.1 (hn _ _ _ _ _ hs.2.2)
      · exact tr_r_aald5 ok hd (hs.1.trans g) hs.2.1 (hn _ _ _ _ _ hs.2.2)
    · exact hs.elim
  | iastore => 
    obtain ⟨hl, hv⟩ := Bool.and_eq_true_iff.mp hok
    have hl := tr_bq hl
    subst hl
    have g := tr_bq hv
    unfold tr_step at hs
    dsimp only at hs
    unfold ts_iastore at hs
    try dsimp only at hs
    split at hs
    · exact tr_r_iast ok hd (hs.1.trans g) hs.2.1 (hn _ _ _ _ _ (hs.2.2 _ rfl))
    · exact hs.elim
  | lastore => 
    obtain ⟨hl, hv⟩ := Bool.and_eq_true_iff.mp hok
    have hl := tr_bq hl
    subst hl
    have g := tr_bq hv
    unfold tr_step at hs
    dsimp only at hs
    unfold ts_lastore at hs
    try dsimp only at hs
    split at hs
    · exact tr_r_last ok hd (hs.1.trans g) hs.2.1 (hn _ _ _ _ _ (hs.2.2 _ rfl))
    · exact hs.elim
  | bastore => 
    obtain ⟨hl, hv⟩ := Bool.and_eq_true_iff.mp hok
    have hl := tr_bq hl
    subst hl
    unfold tr_step at hs
    dsimp only at hs
    unfold ts_bastore at hs
    try dsimp only at hs
    split at hs
    · rcases Bool.or_eq_true_iff.mp hv with g | g <;> obtain ⟨g1, g2⟩ := Bool.and_eq_true_iff.mp g <;> have g1 := tr_bq g1 <;> have g2 := tr_bq g2 <;> subst g2
      · exact tr_r_bast ok hd (hs.1.trans g1) hs.2.1 (hn _ _ _ _ _ (hs.2.2 _ rfl))
      · exact tr_r_zast ok hd (hs.1.trans g1) hs.2.1 (hn _ _ _ _ _ (hs.2.2 _ rfl))
    · exact hs.elim
  | aastore => 
    obtain ⟨hl, hv⟩ := Bool.and_eq_true_iff.mp hok
    have hl := tr_bq hl
    subst hl
    unfold tr_step at hs
    dsimp only at hs
    unfold ts_aastore at hs
    try dsimp only at hs
    split at hs
    · rcases Bool.or_eq_true_iff.mp hv with g | g <;> obtain ⟨g1, g2⟩ := Bool.and_eq_true_iff.mp g <;> have g1 := tr_bq g1 <;> have g2 := tr_bq g2
      · exact tr_r_aast4 ok hd (hs.1.trans g1) hs.2.1 (hs.2.2.1.trans g2) (hn _ _ _ _ _ (hs.2.2.2 _ rfl))
      · exact tr_r_aast5 ok hd (hs.1.trans g1) hs.2.1 (hs.2.2.1.trans g2) (hn _ _ _ _ _ (hs.2.2.2 _ rfl))
    · exact hs.elim
  | arraylength => 
    obtain ⟨hl, hv⟩ := Bool.and_eq_true_iff.mp hok
    have hl := tr_bq hl
    subst hl
    unfold tr_step at hs
    dsimp only at hs
    unfold ts_arraylength at hs
    try dsimp only at hs
    split at hs
    · rcases Bool.or_eq_true_iff.mp hv with g | hv
      · exact tr_r_alen0 ok hd (hs.1.trans (tr_bq g)) (hn _ _ _ _ _ hs.2)
      rcases Bool.or_eq_true_iff.mp hv with g | hv
      · exact tr_r_alen1 ok hd (hs.1.trans (tr_bq g)) (hn _ _ _ _ _ hs.2)
      rcases Bool.or_eq_true_iff.mp hv with g | hv
      · exact tr_r_alen2 ok hd (hs.1.trans (tr_bq g)) (hn _ _ _ _ _ hs.2)
      rcases Bool.or_eq_true_iff.mp hv with g | hv
      · exact tr_r_alen3 ok hd (hs.1.trans (tr_bq g)) (hn _ _ _ _ _ hs.2)
      · exact tr_r_slen ok hd (hs.1.trans (tr_bq hv)) (hn _ _ _ _ _ hs.2)
    · exact hs.elim
  | new idx => 
    obtain ⟨hl, hv⟩ := Bool.and_eq_true_iff.mp hok
    have hl := tr_bq hl
    subst hl
    cases c with
    | zero =>
      have hv : (Nat.ble 1 a && (decide ((mO M, idx, a) ∈ tr_nl) && (match vwCl[a - 1]? with | some q => Nat.beq q.2.2 b | none => false))) = true := hv
      obtain ⟨g1, hv⟩ := Bool.and_eq_true_iff.mp hv
      obtain ⟨g2, g3⟩ := Bool.and_eq_true_iff.mp hv
      have hs : tr_ck 1 rc (tr_ck b rs (∀ r, r ≠ 0 → ht h r = 0 → ∀ h', h' = hnw h r a 0 → nxt lv (.inr (.inr r) :: st) h' (rc - 1) (rs - b))) := hs
      obtain ⟨k1, hs⟩ := tr_ck_of hs
      obtain ⟨k2, hs⟩ := tr_ck_of hs
      have hw := tr_nl_in _ (List.mem_map.mpr ⟨_, of_decide_eq_true g2, rfl⟩)
      cases hq : vwCl[a - 1]? with
      | none => rw [hq] at g3; cases g3
      | some q =>
        rw [hq] at g3
        have hw2 : Cond.classLink (tr_R (mO M)) idx ((vwCl.getD (a - 1) (RX0, TX0, 0)).1) ∈ tr_LW := hw
        rw [List.getD_eq_getElem?_getD, hq, hO] at hw2
        have ha : a - 1 + 1 = a := by have := Nat.le_of_ble_eq_true g1; omega
        refine tr_r_new ok hlc hlz hd hq (tr_bq g3) hw2 k1 k2 (fun r h1 h2 => ?_)
        rw [ha]
        exact hn _ _ _ _ _ (hs r h1 h2 _ rfl)
    | succ c =>
      have hv : (Nat.blt a 3 && (Nat.beq idx (tr_exi a).1 && (decide ((mY M).cls = RX7) && (decide (mH M = []) && (Nat.ble 8 dm && tr_thr (mB M) pc a))))) = true := hv
      obtain ⟨g1, hv⟩ := Bool.and_eq_true_iff.mp hv
      obtain ⟨g2, hv⟩ := Bool.and_eq_true_iff.mp hv
      obtain ⟨g3, hv⟩ := Bool.and_eq_true_iff.mp hv
      obtain ⟨g4, hv⟩ := Bool.and_eq_true_iff.mp hv
      obtain ⟨g5, g6⟩ := Bool.and_eq_true_iff.mp hv
      have hs : tr_ck st.length 4 (tr_ck 1 rc (tr_ck 6 rs (Q (.inr a) h))) := hs
      obtain ⟨k0, hs1⟩ := tr_ck_of hs
      obtain ⟨k1, hs2⟩ := tr_ck_of hs1
      obtain ⟨k2, hs3⟩ := tr_ck_of hs2
      have g2 := tr_bq g2
      rw [g2] at hd
      exact hE.2.2.2.2.1 pc a lv st h rc rs (Nat.blt_eq.mp g1) (of_decide_eq_true g3) (of_decide_eq_true g4) hd g6 (hRd.le (Nat.le_of_ble_eq_true g5)) (tr_wds4 k0) k1 k2 hs3
  | newarray t => 
    obtain ⟨hl, hv⟩ := Bool.and_eq_true_iff.mp hok
    obtain ⟨hb, hv⟩ := Bool.and_eq_true_iff.mp hv
    have hl := tr_bq hl
    subst hl
    have hb := Nat.le_of_ble_eq_true hb
    unfold tr_step at hs
    dsimp only at hs
    unfold ts_newarray at hs
    try dsimp only at hs
    split at hs
    · next n st' =>
      have key : 0 ≤ n.toInt ∧ n.toInt ≤ 20000 ∧ 1 ≤ rc ∧ ixn n ≤ rs ∧ ∀ r, r ≠ 0 → ht h r = 0 → ∀ h', h' = hnw h r a (ixn n) → nxt lv (.inr (.inr r) :: st') h' (rc - 1) (rs - ixn n) := by
        split at hs
        · obtain ⟨q1, q2, q3⟩ := hs
          obtain ⟨q3, q4, q5⟩ := tr_ck_of q3
          exact ⟨q1, q2, q3, q4, q5⟩
        · obtain ⟨rfl, q3⟩ := hs
          obtain ⟨q3, q4⟩ := tr_ck_of q3
          obtain ⟨q4, q5⟩ := tr_ck_of q4
          have hbb : (ii (b : Nat)).toInt = (b : Int) := by rw [tr_iiN]; exact nI_toInt (by omega)
          have hbx : ixn (ii (b : Nat)) = b := by unfold ixn; rw [tr_iiN]; exact nI_clamp (by omega)
          rw [hbx, hbb]
          exact ⟨by omega, by omega, q3, q4, q5⟩
      obtain ⟨q1, q2, q3, q4, q5⟩ := key
      rcases Bool.or_eq_true_iff.mp hv with g | hv
      · obtain ⟨g1, g2⟩ := Bool.and_eq_true_iff.mp g
        have g1 := of_decide_eq_true g1; subst g1; have g2 := tr_bq g2; subst g2
        exact tr_r_newa0 ok hlc hlz hd (tr_arrc_in _ (Or.inl rfl)) q1 q2 q3 q4 (fun r h1 h2 => hn _ _ _ _ _ (q5 r h1 h2 _ rfl))
      rcases Bool.or_eq_true_iff.mp hv with g | hv
      · obtain ⟨g1, g2⟩ := Bool.and_eq_true_iff.mp g
        have g1 := of_decide_eq_true g1; subst g1; have g2 := tr_bq g2; subst g2
        exact tr_r_newa1 ok hlc hlz hd (tr_arrc_in _ (Or.inr (Or.inl rfl))) q1 q2 q3 q4 (fun r h1 h2 => hn _ _ _ _ _ (q5 r h1 h2 _ rfl))
      rcases Bool.or_eq_true_iff.mp hv with g | g
      · obtain ⟨g1, g2⟩ := Bool.and_eq_true_iff.mp g
        have g1 := of_decide_eq_true g1; subst g1; have g2 := tr_bq g2; subst g2
        exact tr_r_newa2 ok hlc hlz hd (tr_arrc_in _ (Or.inr (Or.inr (Or.inl rfl)))) q1 q2 q3 q4 (fun r h1 h2 => hn _ _ _ _ _ (q5 r h1 h2 _ rfl))
      · obtain ⟨g1, g2⟩ := Bool.and_eq_true_iff.mp g
        have g1 := of_decide_eq_true g1; subst g1; have g2 := tr_bq g2; subst g2
        exact tr_r_newa3 ok hlc hlz hd (tr_arrc_in _ (Or.inr (Or.inr (Or.inr rfl)))) q1 q2 q3 q4 (fun r h1 h2 => hn _ _ _ _ _ (q5 r h1 h2 _ rfl))
    · exact hs.elim
  | anewarray idx => 
    obtain ⟨hl, hv⟩ := Bool.and_eq_true_iff.mp hok
    obtain ⟨hb, hv⟩ := Bool.and_eq_true_iff.mp hv
    obtain ⟨hi, hv⟩ := Bool.and_eq_true_iff.mp hv
    have hl := tr_bq hl
    subst hl
    have hb := Nat.le_of_ble_eq_true hb
    unfold tr_step at hs
    dsimp only at hs
    unfold ts_anewarray at hs
    try dsimp only at hs
    have hw := tr_an_in _ (List.mem_map.mpr ⟨_, of_decide_eq_true hi, rfl⟩)
    have hw : Cond.classLink (tr_R (mO M)) idx (if Nat.beq a 15 then RX6 else RX3) ∈ tr_LW := hw
    rw [hO] at hw
    split at hs
    · obtain ⟨rfl, p3⟩ := hs
      obtain ⟨q3, p4⟩ := tr_ck_of p3
      obtain ⟨q4, q5⟩ := tr_ck_of p4
      have hbb : (ii (b : Nat)).toInt = (b : Int) := by rw [tr_iiN]; exact nI_toInt (by omega)
      have hbx : ixn (ii (b : Nat)) = b := by unfold ixn; rw [tr_iiN]; exact nI_clamp (by omega)
      rcases Bool.or_eq_true_iff.mp hv with g | g <;> have g := tr_bq g <;> subst g
      · exact tr_r_newq4 ok hlc hlz hd hw (fun A U hW => word_over hW (ok.2.2.2.2.2.2.2.1 _ tr_over_in.1)) (by omega) (by omega) q3 (by rw [hbx]; exact q4) (fun r h1 h2 => by rw [hbx]; exact hn _ _ _ _ _ (q5 r h1 h2 _ rfl))
      · exact tr_r_newq5 ok hlc hlz hd hw (fun A U hW => word_over hW (ok.2.2.2.2.2.2.2.1 _ tr_over_in.2)) (by omega) (by omega) q3 (by rw [hbx]; exact q4) (fun r h1 h2 => by rw [hbx]; exact hn _ _ _ _ _ (q5 r h1 h2 _ rfl))
    · exact hs.elim
  | checkcast idx => 
    obtain ⟨hl, hv⟩ := Bool.and_eq_true_iff.mp hok
    obtain ⟨hi, hv⟩ := Bool.and_eq_true_iff.mp hv
    obtain ⟨g1, g2⟩ := Bool.and_eq_true_iff.mp hv
    have hl := tr_bq hl
    subst hl
    have g1 := Nat.le_of_ble_eq_true g1
    have g2 := Nat.blt_eq.mp g2
    have hw := tr_kc_in _ (List.mem_map.mpr ⟨_, of_decide_eq_true hi, rfl⟩)
    have hw : Cond.classLink (tr_R (mO M)) idx ("[" ++ (tr_aty (a - 11)).toString) ∈ tr_LW := hw
    rw [hO] at hw
    unfold tr_step at hs
    dsimp only at hs
    unfold ts_checkcast at hs
    try dsimp only at hs
    split at hs
    · exact tr_r_cast ok (k := a - 11) (by omega) hd hw rfl (by rw [hs.1]; omega) (hn _ _ _ _ _ hs.2)
    · exact hs.elim
  | iadd => 
    have hl := tr_bq hok
    subst hl
    unfold tr_step at hs
    dsimp only at hs
    unfold ts_iadd at hs
    try dsimp only at hs
    split at hs
    · exact tr_r_iadd hd (hn _ _ _ _ _ hs)
    · exact hs.elim
  | isub => 
    have hl := tr_bq hok
    subst hl
    unfold tr_step at hs
    dsimp only at hs
    unfold ts_isub at hs
    try dsimp only at hs
    split at hs
    · exact tr_r_isub hd (hn _ _ _ _ _ hs)
    · exact hs.elim
  | imul => 
    have hl := tr_bq hok
    subst hl
    unfold tr_step at hs
    dsimp only at hs
    unfold ts_imul at hs
    try dsimp only at hs
    split at hs
    · exact tr_r_imul hd (hn _ _ _ _ _ hs)
    · exact hs.elim
  | iand => 
    have hl := tr_bq hok
    subst hl
    unfold tr_step at hs
    dsimp only at hs
    unfold ts_iand at hs
    try dsimp only at hs
    split at hs
    · exact tr_r_iand hd (hn _ _ _ _ _ hs)
    · exact hs.elim
  | ior => 
    have hl := tr_bq hok
    subst hl
    unfold tr_step at hs
    dsimp only at hs
    unfold ts_ior at hs
    try dsimp only at hs
    split at hs
    · exact tr_r_ior hd (hn _ _ _ _ _ hs)
    · exact hs.elim
  | ixor => 
    have hl := tr_bq hok
    subst hl
    unfold tr_step at hs
    dsimp only at hs
    unfold ts_ixor at hs
    try dsimp only at hs
    split at hs
    · exact tr_r_ixor hd (hn _ _ _ _ _ hs)
    · exact hs.elim
  | ishl => 
    have hl := tr_bq hok
    subst hl
    unfold tr_step at hs
    dsimp only at hs
    unfold ts_ishl at hs
    try dsimp only at hs
    split at hs
    · exact tr_r_ishl hd (hn _ _ _ _ _ hs)
    · exact hs.elim
  | ishr => 
    have hl := tr_bq hok
    subst hl
    unfold tr_step at hs
    dsimp only at hs
    unfold ts_ishr at hs
    try dsimp only at hs
    split at hs
    · exact tr_r_ishr hd (hn _ _ _ _ _ hs)
    · exact hs.elim
  | ladd => 
    have hl := tr_bq hok
    subst hl
    unfold tr_step at hs
    dsimp only at hs
    unfold ts_ladd at hs
    try dsimp only at hs
    split at hs
    · exact tr_r_ladd hd (hn _ _ _ _ _ hs)
    · exact hs.elim
  | lsub => 
    have hl := tr_bq hok
    subst hl
    unfold tr_step at hs
    dsimp only at hs
    unfold ts_lsub at hs
    try dsimp only at hs
    split at hs
    · exact tr_r_lsub hd (hn _ _ _ _ _ hs)
    · exact hs.elim
  | lmul => 
    have hl := tr_bq hok
    subst hl
    unfold tr_step at hs
    dsimp only at hs
    unfold ts_lmul at hs
    try dsimp only at hs
    split at hs
    · exact tr_r_lmul hd (hn _ _ _ _ _ hs)
    · exact hs.elim
  | irem => 
    have hl := tr_bq hok
    subst hl
    unfold tr_step at hs
    dsimp only at hs
    unfold ts_irem at hs
    try dsimp only at hs
    split at hs
    · exact tr_r_irem hd hs.1 (hn _ _ _ _ _ hs.2)
    · exact hs.elim
  | ldiv => 
    have hl := tr_bq hok
    subst hl
    unfold tr_step at hs
    dsimp only at hs
    unfold ts_ldiv at hs
    try dsimp only at hs
    split at hs
    · exact tr_r_ldiv hd hs.1 (hn _ _ _ _ _ hs.2)
    · exact hs.elim
  | lrem => 
    have hl := tr_bq hok
    subst hl
    unfold tr_step at hs
    dsimp only at hs
    unfold ts_lrem at hs
    try dsimp only at hs
    split at hs
    · exact tr_r_lrem hd hs.1 (hn _ _ _ _ _ hs.2)
    · exact hs.elim
  | lcmp => 
    have hl := tr_bq hok
    subst hl
    unfold tr_step at hs
    dsimp only at hs
    unfold ts_lcmp at hs
    try dsimp only at hs
    split at hs
    · exact tr_r_lcmp hd (hn _ _ _ _ _ hs)
    · exact hs.elim
  | i2l => 
    have hl := tr_bq hok
    subst hl
    unfold tr_step at hs
    dsimp only at hs
    unfold ts_i2l at hs
    try dsimp only at hs
    split at hs
    · exact tr_r_i2l hd (hn _ _ _ _ _ hs)
    · exact hs.elim
  | i2b => 
    have hl := tr_bq hok
    subst hl
    unfold tr_step at hs
    dsimp only at hs
    unfold ts_i2b at hs
    try dsimp only at hs
    split at hs
    · exact tr_r_i2b hd (hn _ _ _ _ _ hs)
    · exact hs.elim
  | dup2 => 
    have hl := tr_bq hok
    subst hl
    unfold tr_step at hs
    dsimp only at hs
    unfold ts_dup2 at hs
    try dsimp only at hs
    split at hs
    · exact tr_r_dup2 hd (hn _ _ _ _ _ hs)
    · exact hs.elim
  | dup => 
    have hl := tr_bq hok
    subst hl
    unfold tr_step at hs
    dsimp only at hs
    unfold ts_dup at hs
    try dsimp only at hs
    split at hs
    · exact tr_r_dupI hd (hn _ _ _ _ _ hs)
    · exact tr_r_dupR hd (hn _ _ _ _ _ hs)
    · exact hs.elim
  | pop => 
    have hl := tr_bq hok
    subst hl
    unfold tr_step at hs
    dsimp only at hs
    unfold ts_pop at hs
    try dsimp only at hs
    split at hs
    · exact tr_r_popI hd (hn _ _ _ _ _ hs)
    · exact tr_r_popR hd (hn _ _ _ _ _ hs)
    · exact hs.elim
  | ifCond cd off => 
    obtain ⟨hl, ht⟩ := Bool.and_eq_true_iff.mp hok
    have hl := tr_bq hl
    subst hl
    have ht := of_decide_eq_true ht
    unfold tr_step at hs
    dsimp only at hs
    unfold ts_ifCond at hs
    try dsimp only at hs
    split at hs
    · cases cd with
      | eq => exact tr_r_if_eq hd ht (fun q => hj _ _ _ _ _ _ (hs.1 q)) (fun q => hn _ _ _ _ _ (hs.2 q))
      | ne => exact tr_r_if_ne hd ht (fun q => hn _ _ _ _ _ (hs.1 q)) (fun q => hj _ _ _ _ _ _ (hs.2 q))
      | lt => exact tr_r_if_lt hd ht (fun q => hj _ _ _ _ _ _ (hs.1 q)) (fun q => hn _ _ _ _ _ (hs.2 q))
      | ge => exact tr_r_if_ge hd ht (fun q => hn _ _ _ _ _ (hs.1 q)) (fun q => hj _ _ _ _ _ _ (hs.2 q))
      | gt => exact tr_r_if_gt hd ht (fun q => hn _ _ _ _ _ (hs.1 q)) (fun q => hj _ _ _ _ _ _ (hs.2 q))
      | le => exact tr_r_if_le hd ht (fun q => hj _ _ _ _ _ _ (hs.1 q)) (fun q => hn _ _ _ _ _ (hs.2 q))
    · exact hs.elim
  | if_icmp cd off => 
    obtain ⟨hl, ht⟩ := Bool.and_eq_true_iff.mp hok
    have hl := tr_bq hl
    subst hl
    have ht := of_decide_eq_true ht
    unfold tr_step at hs
    dsimp only at hs
    unfold ts_if_icmp at hs
    try dsimp only at hs
    split at hs
    · cases cd with
      | eq => exact tr_r_icmp_eq hd ht (fun q => hj _ _ _ _ _ _ (hs.1 q)) (fun q => hn _ _ _ _ _ (hs.2 q))
      | ne => exact tr_r_icmp_ne hd ht (fun q => hn _ _ _ _ _ (hs.1 q)) (fun q => hj _ _ _ _ _ _ (hs.2 q))
      | lt => exact tr_r_icmp_lt hd ht (fun q => hj _ _ _ _ _ _ (hs.1 q)) (fun q => hn _ _ _ _ _ (hs.2 q))
      | ge => exact tr_r_icmp_ge hd ht (fun q => hn _ _ _ _ _ (hs.1 q)) (fun q => hj _ _ _ _ _ _ (hs.2 q))
      | gt => exact tr_r_icmp_gt hd ht (fun q => hn _ _ _ _ _ (hs.1 q)) (fun q => hj _ _ _ _ _ _ (hs.2 q))
      | le => exact tr_r_icmp_le hd ht (fun q => hj _ _ _ _ _ _ (hs.1 q)) (fun q => hn _ _ _ _ _ (hs.2 q))
    · exact hs.elim
  | goto off => 
    obtain ⟨hl, ht⟩ := Bool.and_eq_true_iff.mp hok
    have hl := tr_bq hl
    subst hl
    exact tr_r_goto hd (of_decide_eq_true ht) (hj _ _ _ _ _ _ hs)
  | tableswitch dflt lo hi offs => 
    obtain ⟨g1, hok⟩ := Bool.and_eq_true_iff.mp hok
    obtain ⟨g2, hok⟩ := Bool.and_eq_true_iff.mp hok
    obtain ⟨g3, hok⟩ := Bool.and_eq_true_iff.mp hok
    obtain ⟨g4, g5⟩ := Bool.and_eq_true_iff.mp hok
    unfold tr_step at hs
    dsimp only at hs
    unfold ts_tableswitch at hs
    try dsimp only at hs
    split at hs
    · exact tr_r_tsw hd (of_decide_eq_true g1) (of_decide_eq_true g2) (of_decide_eq_true g3) (of_decide_eq_true g4) (of_decide_eq_true g5) (tr_tsw_mono (fun t g => hj _ _ _ _ _ _ g) _ _ hs)
    · exact hs.elim
  | lookupswitch dflt ps => 
    obtain ⟨g1, hok⟩ := Bool.and_eq_true_iff.mp hok
    obtain ⟨g2, g3⟩ := Bool.and_eq_true_iff.mp hok
    unfold tr_step at hs
    dsimp only at hs
    unfold ts_lookupswitch at hs
    try dsimp only at hs
    split at hs
    · exact tr_r_lsw hd g2 (of_decide_eq_true g1) (of_decide_eq_true g3) (tr_lsw_mono (fun t g => hj _ _ _ _ _ _ g) _ hs)
    · exact hs.elim
  | ireturn => 
    obtain ⟨hl, hv⟩ := Bool.and_eq_true_iff.mp hok
    have hl := tr_bq hl
    subst hl
    unfold tr_step at hs
    dsimp only at hs
    unfold ts_ireturn at hs
    try dsimp only at hs
    split at hs
    · cases c with
      | zero => exact hE.1 _ _ _ _ _ _ hd (of_decide_eq_true hv) hs
      | succ c => exact hE.2.1 _ _ _ _ _ _ hd (of_decide_eq_true hv) hs
    · exact hs.elim
  | lreturn => 
    obtain ⟨hl, hv⟩ := Bool.and_eq_true_iff.mp hok
    have hl := tr_bq hl
    subst hl
    unfold tr_step at hs
    dsimp only at hs
    unfold ts_lreturn at hs
    try dsimp only at hs
    split at hs
    · exact hE.2.2.1 _ _ _ _ _ _ hd (of_decide_eq_true hv) hs
    · exact hs.elim
  | return_ => 
    obtain ⟨hl, hv⟩ := Bool.and_eq_true_iff.mp hok
    have hl := tr_bq hl
    subst hl
    unfold tr_step at hs
    dsimp only at hs
    unfold ts_return_ at hs
    try dsimp only at hs
    split at hs
    · exact hE.2.2.2.1 _ _ _ _ _ hd (of_decide_eq_true hv) hs
    · exact hs.elim
  | invokevirtual idx => 
    exact tr_inv_v ok hlc hlz hO hRd hdk hE hn hj hd hok hs
  | invokespecial idx => 
    exact tr_inv_i ok hlc hlz hO hRd hdk hE hn hj hd hok hs
  | invokestatic idx => 
    exact tr_inv_s ok hlc hlz hO hRd hdk hE hn hj hd hok hs
  | _ => exact False.elim hs
end TRM
end
section
/-! THE WEAKEST STARTS ARE RIGHT; CONTRACTS OUT OF THEM -/
section TRQ
variable {E : tr_Env} {M : tr_MI} {R : Room} {lc lz : Nat} {Z : List Frame → Array Value → State → State → Prop} {Q : tr_Q} {D : Nat → Nat} {dm : Nat} {dk : Nat → Bool} {tbl : List tr_En} {cuts : List (Nat × List Bool)} {K : Nat → tr_K}
theorem tr_sfx_ok (t : Nat) : ∀ es : List tr_En, tr_tok M dm dk es = true → tr_tok M dm dk (tr_sfx t es) = true ∧ ∀ e es', tr_sfx t es = e :: es' → e.1 = t
  | [], _ => ⟨rfl, fun _ _ h => by cases h⟩
  | e :: es, h => by
    unfold tr_sfx
    by_cases hb : Nat.beq e.1 t = true
    · rw [if_pos hb]
      exact ⟨h, fun e2 es2 g => by cases g; exact tr_bq hb⟩
    · rw [if_neg hb]
      have h2 : tr_tok M dm dk es = true := by
        unfold tr_tok at h
        simp only [Bool.and_eq_true] at h
        exact h.2.2.2
      exact tr_sfx_ok t es h2
theorem tr_wp_sound (ok : tr_ok E) (hlc : lc ≤ R.cells) (hlz : lz ≤ R.slots) (hO : tr_R (mO M) = (mY M).cls) (hRd : tr_Rok R dm) (hdk : ∀ a, dk a = true → tr_Rok R (D a + 1)) (hE : tr_Ends E M R lc lz Z Q) (hT : tr_tok M dm dk tbl = true) (hK : ∀ pc lv st h rc rs, K pc lv st h rc rs → tr_W E M R lc lz Z pc lv st h rc rs) :
    ∀ (n : Nat) (es : List tr_En), tr_tok M dm dk es = true → ∀ lv st h rc rs, tr_wp (fun a as h Q => tr_Cd E (D a) (tr_mi a) as h Q) tr_txt tbl (mH M) cuts K Q n es lv st h rc rs → ∀ e es', es = e :: es' → tr_W E M R lc lz Z e.1 lv st h rc rs
  | 0, es, _, lv, st, h, rc, rs, hw, e, es', he => by cases hw
  | n + 1, es, hes, lv, st, h, rc, rs, hw, e, es', he => by
    subst he
    rw [tr_wp_succ] at hw
    have hes0 := hes
    unfold tr_tok at hes
    simp only [Bool.and_eq_true] at hes
    obtain ⟨h1, h2, h3, h4⟩ := hes
    have hat : ∀ (es2 : List tr_En), tr_tok M dm dk es2 = true → ∀ lv st h rc rs, tr_at cuts K (tr_wp (fun a as h Q => tr_Cd E (D a) (tr_mi a) as h Q) tr_txt tbl (mH M) cuts K Q n) es2 lv st h rc rs → ∃ e2 es3, es2 = e2 :: es3 ∧ tr_W E M R lc lz Z e2.1 lv st h rc rs := by
      intro es2 h5 lv st h rc rs h6
      unfold tr_at at h6
      cases es2 with
      | nil => exact h6.elim
      | cons e2 es3 =>
        refine ⟨e2, es3, rfl, ?_⟩
        dsimp only at h6
        split at h6
        · exact tr_weak (hK _ _ _ _ _ _ h6)
        · exact tr_wp_sound ok hlc hlz hO hRd hdk hE hT hK n (e2 :: es3) h5 lv st h rc rs h6 e2 es3 rfl
    refine tr_step_ok ok hlc hlz hO hRd hdk hE (pc := e.1) (len := e.2.2.1) (fun lv st h rc rs h6 => ?_) (fun t lv st h rc rs h6 => ?_) (of_decide_eq_true h1) h2 hw
    · obtain ⟨e2, es3, rfl, h7⟩ := hat es' h4 lv st h rc rs h6
      have : e2.1 = e.1 + e.2.2.1 := tr_bq h3
      rw [← this]
      exact h7
    · obtain ⟨e2, es3, h8, h7⟩ := hat _ (tr_sfx_ok t tbl hT).1 lv st h rc rs h6
      have := (tr_sfx_ok t tbl hT).2 e2 es3 h8
      rw [← this]
      exact h7
theorem tr_Ends_of (ok : tr_ok E) (hlc : lc ≤ R.cells) (hlz : lz ≤ R.slots) {mc ms : Nat} (hm : lc ≤ mc) (hs : lz ≤ ms) (hh : mH M = [] ∨ (mY M).cls = RL) : tr_Ends E M R lc lz (tr_Z E Q mc ms) Q := by
  refine ⟨fun pc x lv h rc rs h1 h2 h3 => tr_r_iret hm hs h1 h2 h3, fun pc x lv h rc rs h1 h2 h3 => tr_r_zret hm hs h1 h2 h3, fun pc x lv h rc rs h1 h2 h3 => tr_r_lret hm hs h1 h2 h3, fun pc lv h rc rs h1 h2 h3 => tr_r_vret hm hs h1 h2 h3, fun pc k lv st h rc rs hk h1 h2 h3 h4 h5 h6 h7 h8 h9 => ?_, fun pc k lv st h rc rs hk hx => ?_, fun pc k hp lv st h rc rs hk h1 h2 => ?_⟩
  · unfold tr_thr at h4
    simp only [Bool.and_eq_true, decide_eq_true_eq] at h4
    obtain ⟨d1, d2, d3, d4⟩ := h4
    rcases (show k = 0 ∨ (k = 1 ∨ k = 2) by omega) with rfl | hk2
    · exact tr_r_throw0 ok hm hs hlc hlz h1 h2 h3 d1 d2 d3 d4 h5 h6 h7 h8 h9
    · exact tr_r_throw12 ok hm hs hlc hlz hk2 h1 h2 h3 d1 d2 d3 d4 h5 h6 h7 h8 h9
  · unfold tr_X at hx
    cases hM : mH M with
    | nil => rw [hM] at hx; exact tr_r_out hm hs hk hM hx
    | cons a b => rw [hM] at hx; exact hx.elim
  · rcases hh with hh | hh
    · rw [hh] at h1; cases h1
    · exact tr_r_catch ok hk hh h1 h2
end TRQ
/-- the room of the plain methods: what they call needs less -/
def tr_dkm (M : tr_MI) (a : Nat) : Bool := Nat.ble (mD (tr_mi a) + 1) (mD M)
theorem tr_room_ok (d mc ms : Nat) : tr_Rok (tr_room d mc ms) d := ⟨Nat.le_refl _, Nat.le_refl _⟩
/-- at a place of a plain method -/
def tr_G (E : tr_Env) (a : Nat) (Q : tr_Q) (pc : Nat) (lv : tr_L) (st : List tr_V) (h : tr_H) (rc rs : Nat) : Prop := tr_W E (tr_mi a) (tr_room (mD (tr_mi a)) (mC (tr_mi a)) (mS (tr_mi a))) (mC (tr_mi a)) (mS (tr_mi a)) (tr_Z E Q (mC (tr_mi a)) (mS (tr_mi a))) pc lv st h rc rs
/-- what is checked of a method's table -/
def tr_mtok (a : Nat) (tbl : List tr_En) : Bool := Nat.blt a 229 && (decide (tr_R (mO (tr_mi a)) = (mY (tr_mi a)).cls) && ((decide (mH (tr_mi a) = []) || decide ((mY (tr_mi a)).cls = RL)) && (plainName (mY (tr_mi a)).cls && tr_tok (tr_mi a) (mD (tr_mi a)) (tr_dkm (tr_mi a)) tbl)))
theorem tr_G_wp {E : tr_Env} {Q : tr_Q} {tbl : List tr_En} (a : Nat) (hs0 : List (Nat × Nat × Nat × Nat)) (cuts : List (Nat × List Bool)) (n : Nat) (pc : Nat) (hT : tr_mtok a tbl = true) (hh0 : mH (tr_mi a) = hs0) (ok : tr_ok E) {lv : tr_L} {st : List tr_V} {h : tr_H} {rc rs : Nat}
    (hw : tr_wp (tr_C E) tr_txt tbl hs0 cuts (tr_G E a Q) Q n (tr_sfx pc tbl) lv st h rc rs) : tr_G E a Q pc lv st h rc rs := by
  subst hh0
  unfold tr_mtok at hT
  simp only [Bool.and_eq_true, Bool.or_eq_true, Nat.blt_eq, decide_eq_true_eq] at hT
  obtain ⟨h1, h2, h3, h4, h5⟩ := hT
  have h6 := tr_sfx_ok (M := tr_mi a) (dm := mD (tr_mi a)) (dk := tr_dkm (tr_mi a)) pc tbl h5
  generalize tr_sfx pc tbl = es0 at hw h6
  cases es0 with
  | nil => cases n <;> exact hw.elim
  | cons e es =>
    have h7 := h6.2 e es rfl
    rw [← h7]
    exact tr_wp_sound ok (Nat.le_refl _) (Nat.le_refl _) h2 (tr_room_ok _ _ _) (fun b hb => (tr_room_ok _ _ _).le (Nat.le_of_ble_eq_true hb)) (tr_Ends_of ok (Nat.le_refl _) (Nat.le_refl _) (Nat.le_refl _) (Nat.le_refl _) h3) h5 (fun _ _ _ _ _ _ g => g) n (e :: es) h6.1 lv st h rc rs hw e es rfl
theorem tr_C_of {E : tr_Env} {Q : tr_Q} {tbl : List tr_En} (a L mc ms : Nat) (hT : tr_mtok a tbl = true) (hL : mL (tr_mi a) = L) (hmc : mC (tr_mi a) = mc) (hms : mS (tr_mi a) = ms) {as : List tr_V} {h : tr_H} (hsl : tr_wsT as ≤ L) (hG : tr_G E a Q 0 (tr_ent L as) [] h mc ms) : tr_C E a as h Q := by
  subst hL; subst hmc; subst hms
  unfold tr_mtok at hT
  simp only [Bool.and_eq_true, Bool.or_eq_true, Nat.blt_eq, decide_eq_true_eq] at hT
  obtain ⟨h1, h2, h3, h4, h5⟩ := hT
  exact tr_Cd_of (tr_Mok_of h1).1 h4 (by rw [tr_ws_eq]; exact hsl) hG
theorem tr_Gweak {E : tr_Env} {a : Nat} {Q : tr_Q} {pc : Nat} (bs : List Bool) {lv : tr_L} {st : List tr_V} {h : tr_H} {rc rs : Nat} (H : tr_G E a Q pc (lvp bs lv) st h rc rs) : tr_G E a Q pc lv st h rc rs := tr_weak H
end
section
/-! THE LAW'S OWN END, AND WHAT HOLDS AT ITS START -/
def R_law : String := "PacketTrailLaw"
def lw_P (b : Addr) (xs : List Int32) (args : Array Value) (s : State) : Prop := args = #[.ref b] ∧ s.IntsAt b xs ∧ xs.length ≤ 3072 ∧ (Jvm.Cond.and given_1 narrow_1).before args s = true
def lw_Q (_ : Array Value) (s : State) (o : Outcome) (t : State) : Prop := o = .returned (some (.int 1)) ∧ Framed s o t [] 601024 7293034
def lw_Z (below : List Frame) (a : Array Value) (s : State) : State → Prop := fun t => ∃ o, t.status = .running ∧ Ended t below o ∧ lw_Q a s o t
/-- .. as seen from the surroundings: nothing that was there before has been written -/
def tr_lZ (E : tr_Env) : List Frame → Array Value → State → State → Prop := fun below args s t => s.heap.size ≤ elo E → lw_Z below args s t
def tr_lQ : tr_Q := fun o _ => o = .inl (some (.inl (ii 1)))
section TRLF
variable {p : Program} {l : Launch} {e : Env} {R : Room} {s : State} {m : MethodId} {args : Array Value} {below : List Frame} {meth : Method} {c : Code} {H : Heap} {locs : List Loc} {cells slots : Nat}
theorem tr_l_ret {cc : ByteArray} {v : Int32} {ty : FieldType} {n0 : Nat} (hexec : p.tables.exec = Jvm.exec) (hb : c.code = cc) (hr : meth.sig.returnType = some ty) (hn : narrow ty (.int v) = .int 1) (hf : ∀ q ∈ locs, n0 ≤ q.base) (hc : cells ≤ 601024) (hs : slots ≤ 7293034)
    {pc : Nat} {ls : Array Slot} (hdg : decode cc pc = .ok (.ireturn, 1)) (hlocks : meth.locks = false) : W p l e R s m args below meth c H locs cells slots (fun t => s.heap.size ≤ n0 → lw_Z below args s t) (F0 m pc ls [.int v]) := by
  intro T hT X
  obtain ⟨fs, hret, hrun, hended, hW, hframe⟩ := X.leave (v := some (.int 1)) (fun h => by rw [hr] at h; cases h)
  have hmeth' : T.vm.method? m = some meth := X.method'
  refine ⟨T.setFrames fs, ?_, fun hz => ⟨.returned (some (.int 1)), hrun, hended, rfl, ⟨_, rfl⟩, hW, ?_⟩⟩
  · jvm_step X.here [X.here.top, hexec, hb, hdg, hmeth', hr, hn]
    (try refine ⟨rfl, ?_⟩); (try refine ⟨rfl, ?_⟩)
    first | (intro acts; rw [hret _ acts rfl rfl rfl]) | rw [hret _ _ rfl rfl rfl]
    exact Steps.refl _
  · refine hframe.weaken (fun y hy hlt => ?_) hc hs
    have g := hf y hy
    exact absurd hlt (Nat.not_lt.mpr (Nat.le_trans hz g))
end TRLF
section TRLE
variable {E : tr_Env} {lc lz : Nat} {pc : Nat} {lv : tr_L} {h : tr_H} {rc rs : Nat}
theorem tr_l_zret (hlc : lc ≤ room_1.cells) (hlz : lz ≤ room_1.slots) {x : Int32} (hd : decode (mB mi_L_law) pc = .ok (.ireturn, 1)) (hx : tr_nb x = ii 1) : tr_W E mi_L_law room_1 lc lz (tr_lZ E) pc lv [.inl x] h rc rs := by
  intro p e s m args below meth c H locs cells slots ls Cx Rp hS hl hc hs
  obtain ⟨hX, hB, hML, hown, hts, hW, hrt, hlk, -⟩ := id Cx
  have hn : narrow .boolean (.int x) = .int 1 := by
    have e1 : narrow .boolean (.int x) = .int (tr_nb x) := rfl
    rw [e1, hx]
    rfl
  have c1 : lc ≤ 601024 := hlc
  have c2 : lz ≤ 7293034 := hlz
  exact tr_l_ret hX hB hrt hn (fun q hq => hS.2.2 q hq) (by omega) (by omega) hd hlk
theorem tr_lEnds (hlc : lc ≤ room_1.cells) (hlz : lz ≤ room_1.slots) : tr_Ends E mi_L_law room_1 lc lz (tr_lZ E) tr_lQ := by
  refine ⟨?_, ?_, ?_, ?_, ?_, ?_, ?_⟩
  · intro pc x lv h rc rs h1 h2 h3
    cases h2
  · intro pc x lv h rc rs h1 h2 h3
    have h4 : (.inl (some (.inl (tr_nb x))) : tr_Rs) = .inl (some (.inl (ii 1))) := h3
    exact tr_l_zret hlc hlz h1 (Sum.inl.inj (Option.some.inj (Sum.inl.inj h4)))
  · intro pc x lv h rc rs h1 h2 h3
    cases h2
  · intro pc lv h rc rs h1 h2 h3
    cases h2
  · intro pc k lv st h rc rs hk h1 h2 h3 h4 h5 h6 h7 h8 h9
    have h10 : (.inr k : tr_Rs) = .inl (some (.inl (ii 1))) := h9
    cases h10
  · intro pc k lv st h rc rs hk hx
    have h4 : (.inr k : tr_Rs) = .inl (some (.inl (ii 1))) := hx
    cases h4
  · intro pc k hp lv st h rc rs hk h1 h2
    cases h1
end TRLE
/-- what holds at the law's entry -/
def lw_At (p : Program) (s : State) (m : MethodId) (meth : Method) (c : Code) (b L : Nat) (xs : Nat → Int32) : Prop :=
  p.tables.exec = Jvm.exec ∧ c.code = code ∧ meth.sig.returnType = ret ∧ c.maxLocals = 8 ∧ s.vm.findClass R_law = some m.cls ∧ (∀ w ∈ lw_tbl, w.before #[Value.ref b] s = true) ∧ va_X b L xs s s.heap ∧ b < s.heap.size ∧ meth.locks = false ∧ (Jvm.Cond.and given_1 narrow_1).before #[Value.ref b] s = true ∧ meth.name = "law" ∧ c.exceptionTable.toList = []
/-- the texts' places: entries of the class's constants, lengths, bytes -/
def tr_q4 : List Nat := [51, 70, 76, 81, 86, 91, 93, 95]
def tr_qln : List Nat := [4, 4, 3, 5, 4, 3, 4, 6]
def tr_qby : List (List Int32) := [[104, 111, 112, 115], [108, 105, 110, 107], [99, 117, 116], [114, 111, 117, 116, 101], [98, 97, 115, 101], [107, 101, 121], [109, 97, 115, 107], [108, 97, 98, 101, 108, 115]]
def tr_qtm (i : Nat) : Term := .string RX4 (tr_q4.getD i 0)
def tr_qfl : List Cond := flatC (Jvm.Cond.and given_1 narrow_1)
def tr_has (w : Cond) : Bool := decide (w ∈ tr_qfl)
def tr_qw1 (i : Nat) : List Cond := [Cond.exactly (tr_qtm i) "java/lang/String", Cond.eq (.field (tr_qtm i) "java/lang/String" "coder" "B") (.int 0), Cond.arrayOf (.field (tr_qtm i) "java/lang/String" "value" "[B") .byte, Cond.eq (.length (.field (tr_qtm i) "java/lang/String" "value" "[B")) (.int (Int32.ofNat (tr_qln.getD i 0)))]
def tr_qw2 (i j : Nat) : Cond := Cond.eq (.elem (.field (tr_qtm i) "java/lang/String" "value" "[B") (.int (Int32.ofNat j))) (.int ((tr_qby.getD i []).getD j 0))
def tr_qw3 (i j : Nat) : Cond := Cond.not (Cond.eq (tr_qtm i) (tr_qtm j))
set_option maxRecDepth 100000 in
theorem tr_q1 : ((List.range 8).all fun i => (tr_qw1 i).all tr_has) = true := by decide +kernel
set_option maxRecDepth 100000 in
theorem tr_q2 : ((List.range 8).all fun i => (List.range (tr_qln.getD i 0)).all fun j => tr_has (tr_qw2 i j)) = true := by decide +kernel
set_option maxRecDepth 100000 in
theorem tr_q3 : ((List.range 8).all fun i => (List.range 8).all fun j => Nat.beq i j || (tr_has (tr_qw3 i j) || tr_has (tr_qw3 j i))) = true := by decide +kernel
theorem tr_all8 {P : Nat → Bool} (h : (List.range 8).all P = true) {i : Nat} (hi : i < 8) : P i = true := List.all_eq_true.mp h i (List.mem_range.mpr hi)
/-- the texts, as the start has them -/
theorem tr_texts {b : Nat} {s : State} (hgv : (Jvm.Cond.and given_1 narrow_1).before #[Value.ref b] s = true) : ∃ adK adV : Nat → Nat, vk_S 8 tr_qln tr_qby adK adV (fun q => s.heap.size ≤ q) s s.heap ∧ ∀ i : Nat, i < 8 → (tr_qtm i).eval #[Value.ref b] s none [] s = some (.ref (adK i)) := by
  have hs : ∀ w : Cond, tr_has w = true → w.before #[Value.ref b] s = true := fun w hw => flat_of_before _ hgv w (of_decide_eq_true hw)
  have h1 : ∀ i, i < 8 → ∀ w ∈ tr_qw1 i, w.before #[Value.ref b] s = true := fun i hi w hw => hs w (List.all_eq_true.mp (tr_all8 tr_q1 hi) w hw)
  refine vk_Sof (fun i hi => ?_) (fun i hi => h1 i hi _ (by simp [tr_qw1])) (fun i hi => h1 i hi _ (by simp [tr_qw1])) (fun i hi => h1 i hi _ (by simp [tr_qw1])) (fun i hi => h1 i hi _ (by simp [tr_qw1])) (fun i hi j hj => hs _ (List.all_eq_true.mp (tr_all8 tr_q2 hi) j (List.mem_range.mpr hj))) (fun i j hi hj hij => ?_) (fun a ha g => absurd ha (Nat.not_lt.mpr g))
  · have : ∀ i : Fin 8, tr_qln.getD i.val 0 < 2 ^ 31 := by decide
    exact this ⟨i, hi⟩
  · have h3 := tr_all8 (tr_all8 tr_q3 hi) hj
    simp only [Bool.or_eq_true] at h3
    rcases h3 with h3 | h3 | h3
    · exact absurd (Nat.eq_of_beq_eq_true h3) hij
    · exact Or.inl (hs _ h3)
    · exact Or.inr (hs _ h3)
end
section
/-! THE START: a heap that stands for it, and what holds of the surroundings -/
def tr_xw (ad : Nat → Nat) (r : Nat) : Nat := ((List.range 8).find? (fun i => Nat.beq (ad i + 1) r)).getD 8
theorem tr_xw_lt {ad : Nat → Nat} {r : Nat} (h : tr_xw ad r < 8) : r = ad (tr_xw ad r) + 1 := by
  cases hf : (List.range 8).find? (fun i => Nat.beq (ad i + 1) r) with
  | none =>
    have e : tr_xw ad r = 8 := by unfold tr_xw; rw [hf]; rfl
    omega
  | some i =>
    have e : tr_xw ad r = i := by unfold tr_xw; rw [hf]; rfl
    rw [e]
    have h1 := List.find?_some hf
    exact (Nat.eq_of_beq_eq_true h1).symm
theorem tr_xw_eq {ad : Nat → Nat} (hi : ∀ i j : Nat, i < 8 → j < 8 → ad i = ad j → i = j) {i : Nat} (h8 : i < 8) : tr_xw ad (ad i + 1) = i := by
  cases hf : (List.range 8).find? (fun k => Nat.beq (ad k + 1) (ad i + 1)) with
  | none =>
    have h1 := List.find?_eq_none.mp hf i (List.mem_range.mpr h8)
    exact absurd (Nat.beq_refl _) h1
  | some k =>
    have e : tr_xw ad (ad i + 1) = k := by unfold tr_xw; rw [hf]; rfl
    rw [e]
    have h0 := List.find?_some hf
    have h1 : ad k + 1 = ad i + 1 := Nat.eq_of_beq_eq_true h0
    have h2 := List.mem_range.mp (List.mem_of_find?_eq_some hf)
    exact hi k i h2 h8 (by omega)
def tr_h0 (b L : Nat) (xs : Nat → Int32) (ad : Nat → Nat) : tr_H := (fun r => if r = b + 1 then 17 else if tr_xw ad r < 8 then 18 else 0, fun r => if r = b + 1 then L else (tr_txt (tr_xw ad r)).length, fun r j => if r = b + 1 then xs j else ii ((tr_txt (tr_xw ad r)).getD j 0 : Nat), fun _ _ => 0, fun _ _ => 0)
theorem tr_qok : ∀ i : Fin 8, tr_qln.getD i.val 0 = (tr_txt i.val).length ∧ (tr_txt i.val).length ≤ 6 ∧ ∀ j : Fin 6, (tr_txt i.val).getD j.val 0 < 128 ∧ (j.val < (tr_txt i.val).length → (tr_qby.getD i.val []).getD j.val 0 = ii ((tr_txt i.val).getD j.val 0 : Nat)) := by decide +kernel
theorem tr_rep0 {E : tr_Env} {ad adV : Nat → Nat} (hb : eb E < elo E) (hX : va_X (eb E) (eN E) (eX E) (eS E) (eS E).heap) (hS : vk_S 8 tr_qln tr_qby ad adV (eO E) (eS E) (eS E).heap) (hT : ∀ j, j < 8 → eT E j = ad j + 1) : tr_Rep E (tr_h0 (eb E) (eN E) (eX E) ad) (eS E).heap := by
  have hne : ∀ i, i < 8 → ¬ (ad i + 1 = eb E + 1) := by
    intro i hi e
    obtain ⟨scr, g1, g2, g3, g4, g5⟩ := hX
    obtain ⟨cf, k, ix, f, cell, f1, f2, f3, f4, f5, -⟩ := (hS.1 i hi).2.2.1
    rw [show ad i = eb E by omega] at f3
    cases Option.some.inj (g1.symm.trans f3)
    have hl : f.slot < scr.slots.size := (Array.getElem?_eq_some_iff.mp f5).1
    rw [g4] at hl
    rw [g5 _ hl] at f5
    cases f5
  have t18 : ∀ r, ¬ (r = eb E + 1) → tr_xw ad r < 8 → ht (tr_h0 (eb E) (eN E) (eX E) ad) r = 18 := fun r h1 h2 => (if_neg h1).trans (if_pos h2)
  have t0 : ∀ r, ¬ (r = eb E + 1) → ¬ (tr_xw ad r < 8) → ht (tr_h0 (eb E) (eN E) (eX E) ad) r = 0 := fun r h1 h2 => (if_neg h1).trans (if_neg h2)
  have tn : ∀ r, ¬ (r = eb E + 1) → hn (tr_h0 (eb E) (eN E) (eX E) ad) r = (tr_txt (tr_xw ad r)).length := fun r h1 => if_neg h1
  have ti : ∀ r j, ¬ (r = eb E + 1) → hI (tr_h0 (eb E) (eN E) (eX E) ad) r j = ii ((tr_txt (tr_xw ad r)).getD j 0 : Nat) := fun r j h1 => if_neg h1
  refine ⟨t0 0 (by omega) (fun g => by have := tr_xw_lt g; omega), ⟨Nat.le_refl _, fun q _ => rfl⟩, fun r => ?_, fun j hj => ?_⟩
  · by_cases e : r + 1 = eb E + 1
    · have t17 : ht (tr_h0 (eb E) (eN E) (eX E) ad) (r + 1) = 17 := if_pos e
      refine ⟨fun _ => by rw [show r = eb E by omega]; exact hb, fun c q g hq => ?_, fun k hk g => ?_, fun _ => ⟨by omega, if_pos e, fun j _ => if_pos e⟩, fun g => ?_⟩
      · rw [t17] at g
        have hc : c = 16 := by omega
        subst hc
        cases hq
      · rw [t17] at g; omega
      · rw [t17] at g; cases g
    · by_cases w : tr_xw ad (r + 1) < 8
      · have t := t18 _ e w
        have hr : r = ad (tr_xw ad (r + 1)) := by have := tr_xw_lt w; omega
        obtain ⟨s1, s2, s3, s4⟩ := hS.1 _ w
        rw [← hr] at s1 s2 s3
        have hq := tr_qok ⟨tr_xw ad (r + 1), w⟩
        dsimp only at hq
        obtain ⟨q1, q2, q3⟩ := hq
        refine ⟨fun _ => ?_, fun c q g hq => ?_, fun k hk g => ?_, fun g => ?_, fun _ => ⟨adV (tr_xw ad (r + 1)), s1, s2, s3, ?_, ?_, fun j hj => ?_⟩⟩
        · obtain ⟨cell, c1, -⟩ := s1
          exact (Array.getElem?_eq_some_iff.mp c1).1
        · rw [t] at g
          have hc : c = 17 := by omega
          subst hc
          cases hq
        · rw [t] at g; omega
        · rw [t] at g; cases g
        · rw [tn _ e]
          obtain ⟨cell, c1, c2, c3, c4, c5, c6, c7⟩ := s4
          rw [q1] at c4 c5 c6
          refine ⟨cell, c1, c2, c3, c4, c5, fun j hj => ?_, c7⟩
          rw [c6 j hj]
          show some (Value.int ((tr_qby.getD (tr_xw ad (r + 1)) []).getD j 0)) = some (Value.int (hI (tr_h0 (eb E) (eN E) (eX E) ad) (r + 1) j))
          rw [ti _ _ e]
          exact congrArg (fun z => some (Value.int z)) ((q3 ⟨j, by omega⟩).2 hj)
        · rw [tn _ e]; omega
        · rw [tn _ e] at hj
          rw [ti _ _ e]
          exact ⟨⟨_, (q3 ⟨j, by omega⟩).1⟩, rfl⟩
      · have t := t0 _ e w
        refine ⟨fun g => absurd t g, fun c q g hq => ?_, fun k hk g => ?_, fun g => ?_, fun g => ?_⟩ <;> (rw [t] at g; first | omega | cases g)
  · rw [hT j hj]
    have e := tr_xw_eq hS.2 hj
    refine ⟨t18 _ (hne j hj) (by rw [e]; exact hj), ?_, fun k hk => ?_⟩
    · rw [tn _ (hne j hj), e]
    · rw [ti _ _ (hne j hj), e]
set_option maxRecDepth 100000 in
theorem tr_q5 : ∀ q ∈ tr_sidx, q.2.2 < 8 ∧ Cond.stringRef (tr_R q.1) q.2.1 (tr_ts q.2.2) ∈ lw_tbl ∧ ((tr_R q.1 = RX4 ∧ q.2.1 = tr_q4.getD q.2.2 0) ∨ tr_has (Cond.eq (tr_qtm q.2.2) (.string (tr_R q.1) q.2.1)) = true) := by decide +kernel
set_option maxRecDepth 100000 in
theorem tr_q6 : ∀ k : Fin 3, Cond.stringRef RX7 (tr_exi k.val).2.1 (tr_exm k.val) ∈ lw_tbl ∧ tr_has (Cond.exactly (.string RX7 (tr_exi k.val).2.1) "java/lang/String") = true := by decide +kernel
set_option maxRecDepth 100000 in
theorem tr_q7 : tr_has (Cond.not (.castable (tr_ex 1) (tr_ex 0))) = true ∧ tr_has (Cond.not (.castable (tr_ex 2) (tr_ex 1))) = true := by decide +kernel
set_option maxRecDepth 100000 in
theorem tr_q8 : tr_has (Cond.isRef (.static Bundle.tN "UNASSIGNED_STACK" Bundle.steD)) = true ∧ tr_has (Cond.isRef (.static Bundle.tN "SUPPRESSED_SENTINEL" Bundle.listD)) = true ∧ tr_has (Cond.eq (.static "java/lang/String" "COMPACT_STRINGS" "Z") (.int 1)) = true ∧ tr_has (Cond.isRef (.static "jdk/internal/util/Preconditions" "SIOOBE_FORMATTER" "Ljava/util/function/BiFunction;")) = true := by decide +kernel
set_option maxRecDepth 100000 in
theorem tr_q9 : Cond.laysStatic Bundle.tN "UNASSIGNED_STACK" Bundle.steD ∈ lw_tbl ∧ Cond.laysStatic Bundle.tN "SUPPRESSED_SENTINEL" Bundle.listD ∈ lw_tbl ∧ Cond.initialized Bundle.tN ∈ lw_tbl ∧ Cond.laysStatic "java/lang/String" "COMPACT_STRINGS" "Z" ∈ lw_tbl ∧ Cond.initialized "java/lang/String" ∈ lw_tbl ∧ Cond.laysStatic "jdk/internal/util/Preconditions" "SIOOBE_FORMATTER" "Ljava/util/function/BiFunction;" ∈ lw_tbl ∧ Cond.initialized "jdk/internal/util/Preconditions" ∈ lw_tbl := by decide +kernel
set_option maxRecDepth 100000 in
theorem tr_qa : Cond.arrayClass .int ∈ lw_tbl ∧ Cond.arrayClass .byte ∈ lw_tbl ∧ Cond.arrayClass .boolean ∈ lw_tbl ∧ Cond.arrayClass .long ∈ lw_tbl := by decide +kernel
theorem tr_arr0 {s : State} {args : Array Value} {ty : FieldType} (h : (Cond.arrayClass ty).before args s = true) (hty : ∀ C, ty ≠ .object C) : ∃ cA : ClassId, ArrOfT s cA ty ∧ va_RA s cA ty := by
  obtain ⟨c, k, comp, h1, h2, h3⟩ := Cond.arrayClass_spec h
  refine ⟨c, fun N z => ⟨fun k h => (by cases h), k, h2, comp, h3⟩, ?_⟩
  unfold va_RA
  split
  · next C => exact absurd rfl (hty C)
  · exact h1
theorem tr_arr1 {s : State} {args : Array Value} {C : String} (h : (Cond.arrayOver (.object C)).before args s = true) : ∃ cA : ClassId, ArrOfT s cA (.object C) ∧ va_RA s cA (.object C) := by
  obtain ⟨comp, c, k, h1, -, h2, h3, h4⟩ := Cond.arrayOver_spec h
  exact ⟨c, fun N z => ⟨fun k h => (by cases h), k, h2, comp, h3⟩, k, comp, h2, h3, h1, h4⟩
set_option maxHeartbeats 1000000 in
/-- the law's walk, out of the abstract one -/
theorem tr_begin {p : Program} {e : Env} {s : State} {m : MethodId} {below : List Frame} {meth : Method} {c : Code} (l : Launch) (hflags : l.flags = flags0) {b L : Nat} {xs : Nat → Int32} (hL : L ≤ 3072) (C0 : lw_At p s m meth c b L xs)
    (HG : ∀ (E : tr_Env) (h : tr_H), tr_ok E → eN E ≤ 3072 → ht h (eb E + 1) = 17 → hn h (eb E + 1) = eN E → (∀ j, hI h (eb E + 1) j = eX E j) → tr_W E mi_L_law room_1 100 20000 (tr_lZ E) 0 [some (.inr (.inr (eb E + 1))), none, none, none, none, none, none, none] [] h 100 20000) :
    W p l e room_1 s m #[Value.ref b] below meth c s.heap [] 0 0 (lw_Z below #[Value.ref b] s) (entryFrame m ([Value.ref b] : List Value).toArray 8) := by
  obtain ⟨hx, hb, hr, hml, hown, hts, hX, hbl, hlocks, hgv, hnm, htb⟩ := C0
  have hs : ∀ w : Cond, tr_has w = true → w.before #[Value.ref b] s = true := fun w hw => flat_of_before _ hgv w (of_decide_eq_true hw)
  have hA : ∀ a : Nat, a < s.heap.size → ¬ (fun q : Nat => s.heap.size ≤ q) a := fun a ha g => absurd ha (Nat.not_lt.mpr g)
  obtain ⟨ad, adV, hS, hR⟩ := tr_texts hgv
  have hk : ∀ c : Nat, ∃ D : ClassId × (Nat → Nat), ∀ q, vwCl[c]? = some q → u_Kn s q.1 q.2.1 q.2.2 D.1 D.2 := by
    intro c
    cases hq : vwCl[c]? with
    | none => exact ⟨(0, fun _ => 0), fun q h => by cases h⟩
    | some q =>
      obtain ⟨cC, iS, h⟩ := u_known (ws := lw_tbl) (N := q.2.2) (n := q.2.2) hts (fun w hw => (List.mem_filter.mp (tr_cls_in hq w hw)).1) (hts _ (List.mem_filter.mp (tr_inst_in _ (List.mem_map.mpr ⟨q, List.mem_of_getElem? hq, rfl⟩))).1)
      exact ⟨(cC, iS), fun q' h' => by cases h'; exact h⟩
  obtain ⟨D, hD⟩ := Classical.axiomOfChoice hk
  have ha : ∀ k : Nat, ∃ cA : ClassId, k < 6 → ArrOfT s cA (tr_aty k) ∧ va_RA s cA (tr_aty k) := by
    intro k
    match k with
    | 0 => obtain ⟨cA, h⟩ := tr_arr0 (hts _ tr_qa.1) (fun C h => by cases h); exact ⟨cA, fun _ => h⟩
    | 1 => obtain ⟨cA, h⟩ := tr_arr0 (hts _ tr_qa.2.1) (fun C h => by cases h); exact ⟨cA, fun _ => h⟩
    | 2 => obtain ⟨cA, h⟩ := tr_arr0 (hts _ tr_qa.2.2.1) (fun C h => by cases h); exact ⟨cA, fun _ => h⟩
    | 3 => obtain ⟨cA, h⟩ := tr_arr0 (hts _ tr_qa.2.2.2) (fun C h => by cases h); exact ⟨cA, fun _ => h⟩
    | 4 => obtain ⟨cA, h⟩ := tr_arr1 (hts _ tr_over_in.1); exact ⟨cA, fun _ => h⟩
    | 5 => obtain ⟨cA, h⟩ := tr_arr1 (hts _ tr_over_in.2); exact ⟨cA, fun _ => h⟩
    | k + 6 => exact ⟨0, fun h => absurd h (by omega)⟩
  obtain ⟨A, hAr⟩ := Classical.axiomOfChoice ha
  have hst : l.stackTraces = false := by
    show (!l.flags.contains noTraceFlag) = false
    rw [hflags]
    decide +kernel
  obtain ⟨E, hE⟩ : ∃ E : tr_Env, E = (l, s, (fun c => (D c).1, fun c => (D c).2), A, b, L, xs, fun j => ad j + 1) := ⟨_, rfl⟩
  have eL1 : eL E = l := by rw [hE]; rfl
  have eS1 : eS E = s := by rw [hE]; rfl
  have eD1 : eD E = (fun c => (D c).1, fun c => (D c).2) := by rw [hE]; rfl
  have eA1 : eA E = A := by rw [hE]; rfl
  have eb1 : eb E = b := by rw [hE]; rfl
  have eN1 : eN E = L := by rw [hE]; rfl
  have eX1 : eX E = xs := by rw [hE]; rfl
  have eT1 : eT E = fun j => ad j + 1 := by rw [hE]; rfl
  have eO1 : eO E = fun q : Nat => s.heap.size ≤ q := by unfold eO elo; rw [eS1]
  have elo1 : elo E = s.heap.size := by unfold elo; rw [eS1]
  have ok : tr_ok E := by
    refine ⟨by rw [eL1]; exact hst, ?_, by rw [eb1, eN1, eX1, eS1]; exact hX, by rw [eb1, elo1]; exact hbl, by rw [eN1]; omega, ?_, ?_, by rw [eb1, eS1]; exact hts, fun k hk => ?_, fun q hq => ?_, fun k x hkx => ?_, ?_, ?_⟩
    · rw [eD1, eS1]
      refine ⟨fun c q hq => hD c q hq, fun k q hq => ?_⟩
      unfold tr_tys at hq
      rw [eA1] at hq
      match k, hq with
      | 0, hq => cases hq; exact hAr 0 (by decide)
      | 1, hq => cases hq; exact hAr 1 (by decide)
      | 2, hq => cases hq; exact hAr 2 (by decide)
      | 3, hq => cases hq; exact hAr 3 (by decide)
      | 4, hq => cases hq; exact hAr 4 (by decide)
      | 5, hq => cases hq; exact hAr 5 (by decide)
      | k + 6, hq => cases hq
    · rw [eO1, eS1]; exact vx_Zqof (hts _ tr_q9.1) (hts _ tr_q9.2.2.1) (hs _ tr_q8.1) hA
    · rw [eO1, eS1]; exact vx_Zqof (hts _ tr_q9.2.1) (hts _ tr_q9.2.2.1) (hs _ tr_q8.2.1) hA
    · rw [eS1]
      obtain ⟨h1, h2⟩ := tr_q6 ⟨k, hk⟩
      obtain ⟨a, c9, cell, k9, g1, -⟩ := Cond.exactly_spec (hs _ h2)
      exact ⟨a, vk_R.of (hts _ h1) g1⟩
    · rw [eS1, eT1]
      obtain ⟨h1, h2, h3⟩ := tr_q5 q hq
      refine ⟨ad q.2.2, rfl, vk_R.of (hts _ h2) ?_⟩
      rcases h3 with ⟨e1, e2⟩ | h3
      · rw [e1, e2]
        exact hR _ h1
      · exact va_eqR (hs _ h3) (hR _ h1)
    · rw [eS1]
      unfold tr_np at hkx
      simp only [Bool.or_eq_true, Bool.and_eq_true] at hkx
      rcases hkx with ⟨h1, h2⟩ | ⟨h1, h2⟩
      · rw [Nat.eq_of_beq_eq_true h1, Nat.eq_of_beq_eq_true h2]
        exact va_Nc.of (hs _ tr_q7.1)
      · rw [Nat.eq_of_beq_eq_true h1, Nat.eq_of_beq_eq_true h2]
        exact va_Nc.of (hs _ tr_q7.2)
    · rw [eO1, eS1]; exact va_Zof (hts _ tr_q9.2.2.2.1) (hts _ tr_q9.2.2.2.2.1) (va_eqt (hs _ tr_q8.2.2.1)) hA
    · rw [eO1, eS1]; exact va_Zqof (hts _ tr_q9.2.2.2.2.2.1) (hts _ tr_q9.2.2.2.2.2.2) (hs _ tr_q8.2.2.2) hA
  have Rp : tr_Rep E (tr_h0 (eb E) (eN E) (eX E) ad) (eS E).heap := tr_rep0 (adV := adV) (by rw [eb1, elo1]; exact hbl) (by rw [eb1, eN1, eX1, eS1]; exact hX) (by rw [eO1, eS1]; exact hS) (fun j _ => by rw [eT1])
  have G := HG E (tr_h0 (eb E) (eN E) (eX E) ad) ok (by rw [eN1]; exact hL) (if_pos rfl) (if_pos rfl) (fun j => if_pos rfl)
  rw [eS1] at Rp
  have hl := lv_entry ([.ref b]) (n := 8) (Nat.le_of_ble_eq_true rfl)
  rw [lg_entry_eq]
  generalize (lg_sl ([.ref b]) ++ List.replicate (8 - (lg_sl ([.ref b])).length) Slot.unset).toArray = ls at hl ⊢
  have hl2 : lv_has ls 8 (tr_al (tr_ent 8 [.inr (.inr (eb E + 1))])) := tr_ent_ok (by rw [eb1]; exact hl)
  have hLW : ∀ w ∈ tr_LW, w.before #[Value.ref b] s = true := fun w hw => hts w (List.mem_filter.mp hw).1
  have hWm : (eS E).WarmedH s.vm := by rw [eS1]; exact State.WarmedH.refl s
  have Cx : tr_Cx E mi_L_law p s m #[Value.ref b] meth c := ⟨hx, hb, hml, hown, hLW, hWm, hr, hlocks, hnm, htb, by rw [elo1, eS1]; exact ⟨Nat.le_refl _, fun _ _ => rfl⟩⟩
  have hSv : va_S (eO E) s.heap s.heap [] := va_S.rf
  have K := G p e s m #[Value.ref b] below meth c s.heap [] 0 0 ls Cx Rp hSv hl2 (by decide) (by decide)
  rw [eL1] at K
  intro T hT X
  obtain ⟨t, a1, b1⟩ := K T hT X
  exact ⟨t, a1, b1 (by rw [elo1]; exact Nat.le_refl _)⟩
end
