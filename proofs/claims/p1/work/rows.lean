section
-- ===== PART A: goes FIRST, ahead of the names: the tables' words, and 'selects' of the private methods out of them =====
/-- a private method of a class that the tables say can be made, by its rows of tables_1 -/
def lw_okq (q : MethodName × Nat) : Prop := (q.1.cls ≠ "java/lang/invoke/MethodHandle" ∧ q.1.cls ≠ "java/lang/invoke/VarHandle") ∧ Cond.instantiable q.1.cls q.2 ∈ tables_1 ∧ Cond.privateMethod q.1 ∈ tables_1 ∧ Cond.instanceMethod q.1 ∈ tables_1
theorem lw_p0 : lw_okq (⟨"LaneDoors$Lexer", "takeWord", "()V"⟩, 7) := ⟨⟨by decide +kernel, by decide +kernel⟩, List.mem_of_getElem? (i := 181) (by decide +kernel), List.mem_of_getElem? (i := 525) (by decide +kernel), List.mem_of_getElem? (i := 526) (by decide +kernel)⟩
theorem lw_p1 : lw_okq (⟨"LaneDoors$Lexer", "wordKind", "()I"⟩, 7) := ⟨⟨by decide +kernel, by decide +kernel⟩, List.mem_of_getElem? (i := 181) (by decide +kernel), List.mem_of_getElem? (i := 529) (by decide +kernel), List.mem_of_getElem? (i := 530) (by decide +kernel)⟩
theorem lw_p2 : lw_okq (⟨"LaneDoors$Lexer", "takeNumber", "()V"⟩, 7) := ⟨⟨by decide +kernel, by decide +kernel⟩, List.mem_of_getElem? (i := 181) (by decide +kernel), List.mem_of_getElem? (i := 536) (by decide +kernel), List.mem_of_getElem? (i := 537) (by decide +kernel)⟩
theorem lw_p3 : lw_okq (⟨"LaneDoors$Reader", "readLine", "()Z"⟩, 7) := ⟨⟨by decide +kernel, by decide +kernel⟩, List.mem_of_getElem? (i := 48) (by decide +kernel), List.mem_of_getElem? (i := 600) (by decide +kernel), List.mem_of_getElem? (i := 601) (by decide +kernel)⟩
theorem lw_p4 : lw_okq (⟨"LaneDoors$Reader", "readLane", "()Z"⟩, 7) := ⟨⟨by decide +kernel, by decide +kernel⟩, List.mem_of_getElem? (i := 48) (by decide +kernel), List.mem_of_getElem? (i := 604) (by decide +kernel), List.mem_of_getElem? (i := 605) (by decide +kernel)⟩
theorem lw_p5 : lw_okq (⟨"LaneDoors$Reader", "readNewName", "([JI)Z"⟩, 7) := ⟨⟨by decide +kernel, by decide +kernel⟩, List.mem_of_getElem? (i := 48) (by decide +kernel), List.mem_of_getElem? (i := 609) (by decide +kernel), List.mem_of_getElem? (i := 610) (by decide +kernel)⟩
theorem lw_p6 : lw_okq (⟨"LaneDoors$Reader", "refuse", "(I)Z"⟩, 7) := ⟨⟨by decide +kernel, by decide +kernel⟩, List.mem_of_getElem? (i := 48) (by decide +kernel), List.mem_of_getElem? (i := 613) (by decide +kernel), List.mem_of_getElem? (i := 614) (by decide +kernel)⟩
theorem lw_p7 : lw_okq (⟨"LaneDoors$Reader", "expect", "(I)Z"⟩, 7) := ⟨⟨by decide +kernel, by decide +kernel⟩, List.mem_of_getElem? (i := 48) (by decide +kernel), List.mem_of_getElem? (i := 617) (by decide +kernel), List.mem_of_getElem? (i := 618) (by decide +kernel)⟩
theorem lw_p8 : lw_okq (⟨"LaneDoors$Reader", "readNumber", "(II)I"⟩, 7) := ⟨⟨by decide +kernel, by decide +kernel⟩, List.mem_of_getElem? (i := 48) (by decide +kernel), List.mem_of_getElem? (i := 621) (by decide +kernel), List.mem_of_getElem? (i := 622) (by decide +kernel)⟩
theorem lw_p9 : lw_okq (⟨"LaneDoors$Reader", "readDoor", "()Z"⟩, 7) := ⟨⟨by decide +kernel, by decide +kernel⟩, List.mem_of_getElem? (i := 48) (by decide +kernel), List.mem_of_getElem? (i := 629) (by decide +kernel), List.mem_of_getElem? (i := 630) (by decide +kernel)⟩
theorem lw_p10 : lw_okq (⟨"LaneDoors$Reader", "readLaneName", "()I"⟩, 7) := ⟨⟨by decide +kernel, by decide +kernel⟩, List.mem_of_getElem? (i := 48) (by decide +kernel), List.mem_of_getElem? (i := 633) (by decide +kernel), List.mem_of_getElem? (i := 634) (by decide +kernel)⟩
theorem lw_p11 : lw_okq (⟨"LaneDoors$Reader", "laneOfName", "()I"⟩, 7) := ⟨⟨by decide +kernel, by decide +kernel⟩, List.mem_of_getElem? (i := 48) (by decide +kernel), List.mem_of_getElem? (i := 637) (by decide +kernel), List.mem_of_getElem? (i := 638) (by decide +kernel)⟩
theorem lw_p12 : lw_okq (⟨"LaneDoors$Reader", "readHinge", "()Z"⟩, 7) := ⟨⟨by decide +kernel, by decide +kernel⟩, List.mem_of_getElem? (i := 48) (by decide +kernel), List.mem_of_getElem? (i := 650) (by decide +kernel), List.mem_of_getElem? (i := 651) (by decide +kernel)⟩
theorem lw_p13 : lw_okq (⟨"LaneDoors$Reader", "readSide", "()Z"⟩, 7) := ⟨⟨by decide +kernel, by decide +kernel⟩, List.mem_of_getElem? (i := 48) (by decide +kernel), List.mem_of_getElem? (i := 654) (by decide +kernel), List.mem_of_getElem? (i := 655) (by decide +kernel)⟩
theorem lw_p14 : lw_okq (⟨"LaneDoors$Reader", "readDoorWords", "()V"⟩, 7) := ⟨⟨by decide +kernel, by decide +kernel⟩, List.mem_of_getElem? (i := 48) (by decide +kernel), List.mem_of_getElem? (i := 665) (by decide +kernel), List.mem_of_getElem? (i := 666) (by decide +kernel)⟩
theorem lw_p15 : lw_okq (⟨"LaneDoors$Reader", "readCorner", "()Z"⟩, 7) := ⟨⟨by decide +kernel, by decide +kernel⟩, List.mem_of_getElem? (i := 48) (by decide +kernel), List.mem_of_getElem? (i := 669) (by decide +kernel), List.mem_of_getElem? (i := 670) (by decide +kernel)⟩
def lw_privs_1 : List (MethodName × Nat) := [(⟨"LaneDoors$Lexer", "takeWord", "()V"⟩, 7), (⟨"LaneDoors$Lexer", "wordKind", "()I"⟩, 7), (⟨"LaneDoors$Lexer", "takeNumber", "()V"⟩, 7), (⟨"LaneDoors$Reader", "readLine", "()Z"⟩, 7), (⟨"LaneDoors$Reader", "readLane", "()Z"⟩, 7), (⟨"LaneDoors$Reader", "readNewName", "([JI)Z"⟩, 7), (⟨"LaneDoors$Reader", "refuse", "(I)Z"⟩, 7), (⟨"LaneDoors$Reader", "expect", "(I)Z"⟩, 7), (⟨"LaneDoors$Reader", "readNumber", "(II)I"⟩, 7), (⟨"LaneDoors$Reader", "readDoor", "()Z"⟩, 7), (⟨"LaneDoors$Reader", "readLaneName", "()I"⟩, 7), (⟨"LaneDoors$Reader", "laneOfName", "()I"⟩, 7), (⟨"LaneDoors$Reader", "readHinge", "()Z"⟩, 7), (⟨"LaneDoors$Reader", "readSide", "()Z"⟩, 7), (⟨"LaneDoors$Reader", "readDoorWords", "()V"⟩, 7), (⟨"LaneDoors$Reader", "readCorner", "()Z"⟩, 7)]
theorem lw_r1 : ∀ q ∈ lw_privs_1, lw_okq q := List.forall_mem_cons.mpr ⟨lw_p0, List.forall_mem_cons.mpr ⟨lw_p1, List.forall_mem_cons.mpr ⟨lw_p2, List.forall_mem_cons.mpr ⟨lw_p3, List.forall_mem_cons.mpr ⟨lw_p4, List.forall_mem_cons.mpr ⟨lw_p5, List.forall_mem_cons.mpr ⟨lw_p6, List.forall_mem_cons.mpr ⟨lw_p7, List.forall_mem_cons.mpr ⟨lw_p8, List.forall_mem_cons.mpr ⟨lw_p9, List.forall_mem_cons.mpr ⟨lw_p10, List.forall_mem_cons.mpr ⟨lw_p11, List.forall_mem_cons.mpr ⟨lw_p12, List.forall_mem_cons.mpr ⟨lw_p13, List.forall_mem_cons.mpr ⟨lw_p14, List.forall_mem_cons.mpr ⟨lw_p15, fun _ h => absurd h List.not_mem_nil⟩⟩⟩⟩⟩⟩⟩⟩⟩⟩⟩⟩⟩⟩⟩⟩
theorem lw_p16 : lw_okq (⟨"LaneDoors$Reader", "beginOnce", "(I)Z"⟩, 7) := ⟨⟨by decide +kernel, by decide +kernel⟩, List.mem_of_getElem? (i := 48) (by decide +kernel), List.mem_of_getElem? (i := 682) (by decide +kernel), List.mem_of_getElem? (i := 683) (by decide +kernel)⟩
theorem lw_p17 : lw_okq (⟨"LaneDoors$Reader", "readChain", "(II)Z"⟩, 7) := ⟨⟨by decide +kernel, by decide +kernel⟩, List.mem_of_getElem? (i := 48) (by decide +kernel), List.mem_of_getElem? (i := 686) (by decide +kernel), List.mem_of_getElem? (i := 687) (by decide +kernel)⟩
theorem lw_p18 : lw_okq (⟨"LaneDoors$Reader", "readPart", "(II)Z"⟩, 7) := ⟨⟨by decide +kernel, by decide +kernel⟩, List.mem_of_getElem? (i := 48) (by decide +kernel), List.mem_of_getElem? (i := 690) (by decide +kernel), List.mem_of_getElem? (i := 691) (by decide +kernel)⟩
theorem lw_p19 : lw_okq (⟨"LaneDoors$Reader", "readOne", "(I)Z"⟩, 7) := ⟨⟨by decide +kernel, by decide +kernel⟩, List.mem_of_getElem? (i := 48) (by decide +kernel), List.mem_of_getElem? (i := 694) (by decide +kernel), List.mem_of_getElem? (i := 695) (by decide +kernel)⟩
theorem lw_p20 : lw_okq (⟨"LaneDoors$Reader", "readUnit", "(I)Z"⟩, 7) := ⟨⟨by decide +kernel, by decide +kernel⟩, List.mem_of_getElem? (i := 48) (by decide +kernel), List.mem_of_getElem? (i := 702) (by decide +kernel), List.mem_of_getElem? (i := 703) (by decide +kernel)⟩
theorem lw_p21 : lw_okq (⟨"LaneDoors$Reader", "readStock", "()Z"⟩, 7) := ⟨⟨by decide +kernel, by decide +kernel⟩, List.mem_of_getElem? (i := 48) (by decide +kernel), List.mem_of_getElem? (i := 712) (by decide +kernel), List.mem_of_getElem? (i := 713) (by decide +kernel)⟩
theorem lw_p22 : lw_okq (⟨"LaneDoors$Reader", "readDraw", "()Z"⟩, 7) := ⟨⟨by decide +kernel, by decide +kernel⟩, List.mem_of_getElem? (i := 48) (by decide +kernel), List.mem_of_getElem? (i := 716) (by decide +kernel), List.mem_of_getElem? (i := 717) (by decide +kernel)⟩
theorem lw_p23 : lw_okq (⟨"LaneDoors$Formula", "put", "(I)V"⟩, 5) := ⟨⟨by decide +kernel, by decide +kernel⟩, List.mem_of_getElem? (i := 60) (by decide +kernel), List.mem_of_getElem? (i := 839) (by decide +kernel), List.mem_of_getElem? (i := 840) (by decide +kernel)⟩
theorem lw_p24 : lw_okq (⟨"LaneDoors$Formula", "take", "()I"⟩, 5) := ⟨⟨by decide +kernel, by decide +kernel⟩, List.mem_of_getElem? (i := 60) (by decide +kernel), List.mem_of_getElem? (i := 843) (by decide +kernel), List.mem_of_getElem? (i := 844) (by decide +kernel)⟩
theorem lw_p25 : lw_okq (⟨"LaneDoors$Formula", "putOther", "(I)V"⟩, 5) := ⟨⟨by decide +kernel, by decide +kernel⟩, List.mem_of_getElem? (i := 60) (by decide +kernel), List.mem_of_getElem? (i := 850) (by decide +kernel), List.mem_of_getElem? (i := 851) (by decide +kernel)⟩
theorem lw_p26 : lw_okq (⟨"LaneDoors$History", "at", "(I)I"⟩, 4) := ⟨⟨by decide +kernel, by decide +kernel⟩, List.mem_of_getElem? (i := 291) (by decide +kernel), List.mem_of_getElem? (i := 877) (by decide +kernel), List.mem_of_getElem? (i := 878) (by decide +kernel)⟩
theorem lw_p27 : lw_okq (⟨"LaneDoors", "pushedShut", "(IIII)I"⟩, 12) := ⟨⟨by decide +kernel, by decide +kernel⟩, List.mem_of_getElem? (i := 24) (by decide +kernel), List.mem_of_getElem? (i := 912) (by decide +kernel), List.mem_of_getElem? (i := 913) (by decide +kernel)⟩
theorem lw_p28 : lw_okq (⟨"LaneDoors$History", "swap", "(LLaneDoors$State;)LLaneDoors$State;"⟩, 4) := ⟨⟨by decide +kernel, by decide +kernel⟩, List.mem_of_getElem? (i := 291) (by decide +kernel), List.mem_of_getElem? (i := 952) (by decide +kernel), List.mem_of_getElem? (i := 953) (by decide +kernel)⟩
theorem lw_p29 : lw_okq (⟨"LaneDoors", "isShutSet", "(I)Z"⟩, 12) := ⟨⟨by decide +kernel, by decide +kernel⟩, List.mem_of_getElem? (i := 24) (by decide +kernel), List.mem_of_getElem? (i := 972) (by decide +kernel), List.mem_of_getElem? (i := 973) (by decide +kernel)⟩
theorem lw_p30 : lw_okq (⟨"LaneDoors$Opener", "countOnward", "(II)I"⟩, 7) := ⟨⟨by decide +kernel, by decide +kernel⟩, List.mem_of_getElem? (i := 377) (by decide +kernel), List.mem_of_getElem? (i := 995) (by decide +kernel), List.mem_of_getElem? (i := 996) (by decide +kernel)⟩
theorem lw_p31 : lw_okq (⟨"LaneDoors$Opener", "comesNext", "(III)Z"⟩, 7) := ⟨⟨by decide +kernel, by decide +kernel⟩, List.mem_of_getElem? (i := 377) (by decide +kernel), List.mem_of_getElem? (i := 999) (by decide +kernel), List.mem_of_getElem? (i := 1000) (by decide +kernel)⟩
def lw_privs_2 : List (MethodName × Nat) := [(⟨"LaneDoors$Reader", "beginOnce", "(I)Z"⟩, 7), (⟨"LaneDoors$Reader", "readChain", "(II)Z"⟩, 7), (⟨"LaneDoors$Reader", "readPart", "(II)Z"⟩, 7), (⟨"LaneDoors$Reader", "readOne", "(I)Z"⟩, 7), (⟨"LaneDoors$Reader", "readUnit", "(I)Z"⟩, 7), (⟨"LaneDoors$Reader", "readStock", "()Z"⟩, 7), (⟨"LaneDoors$Reader", "readDraw", "()Z"⟩, 7), (⟨"LaneDoors$Formula", "put", "(I)V"⟩, 5), (⟨"LaneDoors$Formula", "take", "()I"⟩, 5), (⟨"LaneDoors$Formula", "putOther", "(I)V"⟩, 5), (⟨"LaneDoors$History", "at", "(I)I"⟩, 4), (⟨"LaneDoors", "pushedShut", "(IIII)I"⟩, 12), (⟨"LaneDoors$History", "swap", "(LLaneDoors$State;)LLaneDoors$State;"⟩, 4), (⟨"LaneDoors", "isShutSet", "(I)Z"⟩, 12), (⟨"LaneDoors$Opener", "countOnward", "(II)I"⟩, 7), (⟨"LaneDoors$Opener", "comesNext", "(III)Z"⟩, 7)]
theorem lw_r2 : ∀ q ∈ lw_privs_2, lw_okq q := List.forall_mem_cons.mpr ⟨lw_p16, List.forall_mem_cons.mpr ⟨lw_p17, List.forall_mem_cons.mpr ⟨lw_p18, List.forall_mem_cons.mpr ⟨lw_p19, List.forall_mem_cons.mpr ⟨lw_p20, List.forall_mem_cons.mpr ⟨lw_p21, List.forall_mem_cons.mpr ⟨lw_p22, List.forall_mem_cons.mpr ⟨lw_p23, List.forall_mem_cons.mpr ⟨lw_p24, List.forall_mem_cons.mpr ⟨lw_p25, List.forall_mem_cons.mpr ⟨lw_p26, List.forall_mem_cons.mpr ⟨lw_p27, List.forall_mem_cons.mpr ⟨lw_p28, List.forall_mem_cons.mpr ⟨lw_p29, List.forall_mem_cons.mpr ⟨lw_p30, List.forall_mem_cons.mpr ⟨lw_p31, fun _ h => absurd h List.not_mem_nil⟩⟩⟩⟩⟩⟩⟩⟩⟩⟩⟩⟩⟩⟩⟩⟩
theorem lw_p32 : lw_okq (⟨"LaneDoors$Opener", "yieldsBehind", "(II)Z"⟩, 7) := ⟨⟨by decide +kernel, by decide +kernel⟩, List.mem_of_getElem? (i := 377) (by decide +kernel), List.mem_of_getElem? (i := 1004) (by decide +kernel), List.mem_of_getElem? (i := 1005) (by decide +kernel)⟩
theorem lw_p33 : lw_okq (⟨"LaneDoors$Opener", "doorsOnward", "(II)I"⟩, 7) := ⟨⟨by decide +kernel, by decide +kernel⟩, List.mem_of_getElem? (i := 377) (by decide +kernel), List.mem_of_getElem? (i := 1013) (by decide +kernel), List.mem_of_getElem? (i := 1014) (by decide +kernel)⟩
theorem lw_p34 : lw_okq (⟨"LaneDoors", "mostOpen", "(II)I"⟩, 12) := ⟨⟨by decide +kernel, by decide +kernel⟩, List.mem_of_getElem? (i := 24) (by decide +kernel), List.mem_of_getElem? (i := 1032) (by decide +kernel), List.mem_of_getElem? (i := 1033) (by decide +kernel)⟩
theorem lw_p35 : lw_okq (⟨"LaneDoors$Opener", "markReached", "()V"⟩, 7) := ⟨⟨by decide +kernel, by decide +kernel⟩, List.mem_of_getElem? (i := 377) (by decide +kernel), List.mem_of_getElem? (i := 1040) (by decide +kernel), List.mem_of_getElem? (i := 1041) (by decide +kernel)⟩
theorem lw_p36 : lw_okq (⟨"LaneDoors$Opener", "lastOf", "(I)I"⟩, 7) := ⟨⟨by decide +kernel, by decide +kernel⟩, List.mem_of_getElem? (i := 377) (by decide +kernel), List.mem_of_getElem? (i := 1044) (by decide +kernel), List.mem_of_getElem? (i := 1045) (by decide +kernel)⟩
theorem lw_p37 : lw_okq (⟨"LaneDoors$Opener", "isReached", "(I)Z"⟩, 7) := ⟨⟨by decide +kernel, by decide +kernel⟩, List.mem_of_getElem? (i := 377) (by decide +kernel), List.mem_of_getElem? (i := 1048) (by decide +kernel), List.mem_of_getElem? (i := 1049) (by decide +kernel)⟩
theorem lw_p38 : lw_okq (⟨"LaneDoors$Opener", "isStuck", "(I)Z"⟩, 7) := ⟨⟨by decide +kernel, by decide +kernel⟩, List.mem_of_getElem? (i := 377) (by decide +kernel), List.mem_of_getElem? (i := 1063) (by decide +kernel), List.mem_of_getElem? (i := 1064) (by decide +kernel)⟩
theorem lw_p39 : lw_okq (⟨"LaneDoors", "neverBoth", "(III)Z"⟩, 12) := ⟨⟨by decide +kernel, by decide +kernel⟩, List.mem_of_getElem? (i := 24) (by decide +kernel), List.mem_of_getElem? (i := 1088) (by decide +kernel), List.mem_of_getElem? (i := 1089) (by decide +kernel)⟩
theorem lw_p40 : lw_okq (⟨"LaneDoors", "fewestTurned", "(I)I"⟩, 12) := ⟨⟨by decide +kernel, by decide +kernel⟩, List.mem_of_getElem? (i := 24) (by decide +kernel), List.mem_of_getElem? (i := 1096) (by decide +kernel), List.mem_of_getElem? (i := 1097) (by decide +kernel)⟩
theorem lw_p41 : lw_okq (⟨"LaneDoors$Streets", "walkOn", "(LLaneDoors$Plan;III)I"⟩, 5) := ⟨⟨by decide +kernel, by decide +kernel⟩, List.mem_of_getElem? (i := 406) (by decide +kernel), List.mem_of_getElem? (i := 1144) (by decide +kernel), List.mem_of_getElem? (i := 1145) (by decide +kernel)⟩
theorem lw_p42 : lw_okq (⟨"LaneDoors$Streets", "stepTo", "(IIII)V"⟩, 5) := ⟨⟨by decide +kernel, by decide +kernel⟩, List.mem_of_getElem? (i := 406) (by decide +kernel), List.mem_of_getElem? (i := 1148) (by decide +kernel), List.mem_of_getElem? (i := 1149) (by decide +kernel)⟩
theorem lw_p43 : lw_okq (⟨"LaneDoors$Opener", "winningMove", "(II)I"⟩, 7) := ⟨⟨by decide +kernel, by decide +kernel⟩, List.mem_of_getElem? (i := 377) (by decide +kernel), List.mem_of_getElem? (i := 1211) (by decide +kernel), List.mem_of_getElem? (i := 1212) (by decide +kernel)⟩
theorem lw_p44 : lw_okq (⟨"LaneDoors", "isTaleSet", "(I)Z"⟩, 12) := ⟨⟨by decide +kernel, by decide +kernel⟩, List.mem_of_getElem? (i := 24) (by decide +kernel), List.mem_of_getElem? (i := 1248) (by decide +kernel), List.mem_of_getElem? (i := 1249) (by decide +kernel)⟩
theorem lw_p45 : lw_okq (⟨"LaneDoors", "startTales", "(II)V"⟩, 12) := ⟨⟨by decide +kernel, by decide +kernel⟩, List.mem_of_getElem? (i := 24) (by decide +kernel), List.mem_of_getElem? (i := 1252) (by decide +kernel), List.mem_of_getElem? (i := 1253) (by decide +kernel)⟩
theorem lw_p46 : lw_okq (⟨"LaneDoorsModel", "clearBank", "()V"⟩, 72) := ⟨⟨by decide +kernel, by decide +kernel⟩, List.mem_of_getElem? (i := 1288) (by decide +kernel), List.mem_of_getElem? (i := 1294) (by decide +kernel), List.mem_of_getElem? (i := 1295) (by decide +kernel)⟩
theorem lw_p47 : lw_okq (⟨"LaneDoorsModel", "startAnew", "()V"⟩, 72) := ⟨⟨by decide +kernel, by decide +kernel⟩, List.mem_of_getElem? (i := 1288) (by decide +kernel), List.mem_of_getElem? (i := 1298) (by decide +kernel), List.mem_of_getElem? (i := 1299) (by decide +kernel)⟩
def lw_privs_3 : List (MethodName × Nat) := [(⟨"LaneDoors$Opener", "yieldsBehind", "(II)Z"⟩, 7), (⟨"LaneDoors$Opener", "doorsOnward", "(II)I"⟩, 7), (⟨"LaneDoors", "mostOpen", "(II)I"⟩, 12), (⟨"LaneDoors$Opener", "markReached", "()V"⟩, 7), (⟨"LaneDoors$Opener", "lastOf", "(I)I"⟩, 7), (⟨"LaneDoors$Opener", "isReached", "(I)Z"⟩, 7), (⟨"LaneDoors$Opener", "isStuck", "(I)Z"⟩, 7), (⟨"LaneDoors", "neverBoth", "(III)Z"⟩, 12), (⟨"LaneDoors", "fewestTurned", "(I)I"⟩, 12), (⟨"LaneDoors$Streets", "walkOn", "(LLaneDoors$Plan;III)I"⟩, 5), (⟨"LaneDoors$Streets", "stepTo", "(IIII)V"⟩, 5), (⟨"LaneDoors$Opener", "winningMove", "(II)I"⟩, 7), (⟨"LaneDoors", "isTaleSet", "(I)Z"⟩, 12), (⟨"LaneDoors", "startTales", "(II)V"⟩, 12), (⟨"LaneDoorsModel", "clearBank", "()V"⟩, 72), (⟨"LaneDoorsModel", "startAnew", "()V"⟩, 72)]
theorem lw_r3 : ∀ q ∈ lw_privs_3, lw_okq q := List.forall_mem_cons.mpr ⟨lw_p32, List.forall_mem_cons.mpr ⟨lw_p33, List.forall_mem_cons.mpr ⟨lw_p34, List.forall_mem_cons.mpr ⟨lw_p35, List.forall_mem_cons.mpr ⟨lw_p36, List.forall_mem_cons.mpr ⟨lw_p37, List.forall_mem_cons.mpr ⟨lw_p38, List.forall_mem_cons.mpr ⟨lw_p39, List.forall_mem_cons.mpr ⟨lw_p40, List.forall_mem_cons.mpr ⟨lw_p41, List.forall_mem_cons.mpr ⟨lw_p42, List.forall_mem_cons.mpr ⟨lw_p43, List.forall_mem_cons.mpr ⟨lw_p44, List.forall_mem_cons.mpr ⟨lw_p45, List.forall_mem_cons.mpr ⟨lw_p46, List.forall_mem_cons.mpr ⟨lw_p47, fun _ h => absurd h List.not_mem_nil⟩⟩⟩⟩⟩⟩⟩⟩⟩⟩⟩⟩⟩⟩⟩⟩
theorem lw_p48 : lw_okq (⟨"LaneDoorsModel", "goOn", "()V"⟩, 72) := ⟨⟨by decide +kernel, by decide +kernel⟩, List.mem_of_getElem? (i := 1288) (by decide +kernel), List.mem_of_getElem? (i := 1523) (by decide +kernel), List.mem_of_getElem? (i := 1524) (by decide +kernel)⟩
theorem lw_p49 : lw_okq (⟨"LaneDoorsModel", "sign", "(I)I"⟩, 72) := ⟨⟨by decide +kernel, by decide +kernel⟩, List.mem_of_getElem? (i := 1288) (by decide +kernel), List.mem_of_getElem? (i := 1527) (by decide +kernel), List.mem_of_getElem? (i := 1528) (by decide +kernel)⟩
theorem lw_p50 : lw_okq (⟨"LaneDoorsModel", "isGood", "()Z"⟩, 72) := ⟨⟨by decide +kernel, by decide +kernel⟩, List.mem_of_getElem? (i := 1288) (by decide +kernel), List.mem_of_getElem? (i := 1568) (by decide +kernel), List.mem_of_getElem? (i := 1569) (by decide +kernel)⟩
theorem lw_p51 : lw_okq (⟨"LaneDoorsModel", "readLine", "()V"⟩, 72) := ⟨⟨by decide +kernel, by decide +kernel⟩, List.mem_of_getElem? (i := 1288) (by decide +kernel), List.mem_of_getElem? (i := 1572) (by decide +kernel), List.mem_of_getElem? (i := 1573) (by decide +kernel)⟩
theorem lw_p52 : lw_okq (⟨"LaneDoorsModel", "isFull", "()Z"⟩, 72) := ⟨⟨by decide +kernel, by decide +kernel⟩, List.mem_of_getElem? (i := 1288) (by decide +kernel), List.mem_of_getElem? (i := 1576) (by decide +kernel), List.mem_of_getElem? (i := 1577) (by decide +kernel)⟩
theorem lw_p53 : lw_okq (⟨"LaneDoorsModel", "isWord", "(J)Z"⟩, 72) := ⟨⟨by decide +kernel, by decide +kernel⟩, List.mem_of_getElem? (i := 1288) (by decide +kernel), List.mem_of_getElem? (i := 1580) (by decide +kernel), List.mem_of_getElem? (i := 1581) (by decide +kernel)⟩
theorem lw_p54 : lw_okq (⟨"LaneDoorsModel", "misplaced", "()V"⟩, 72) := ⟨⟨by decide +kernel, by decide +kernel⟩, List.mem_of_getElem? (i := 1288) (by decide +kernel), List.mem_of_getElem? (i := 1584) (by decide +kernel), List.mem_of_getElem? (i := 1585) (by decide +kernel)⟩
theorem lw_p55 : lw_okq (⟨"LaneDoorsModel", "fails", "(II)V"⟩, 72) := ⟨⟨by decide +kernel, by decide +kernel⟩, List.mem_of_getElem? (i := 1288) (by decide +kernel), List.mem_of_getElem? (i := 1588) (by decide +kernel), List.mem_of_getElem? (i := 1589) (by decide +kernel)⟩
theorem lw_p56 : lw_okq (⟨"LaneDoorsModel", "readLane", "()V"⟩, 72) := ⟨⟨by decide +kernel, by decide +kernel⟩, List.mem_of_getElem? (i := 1288) (by decide +kernel), List.mem_of_getElem? (i := 1592) (by decide +kernel), List.mem_of_getElem? (i := 1593) (by decide +kernel)⟩
theorem lw_p57 : lw_okq (⟨"LaneDoorsModel", "laneHere", "()I"⟩, 72) := ⟨⟨by decide +kernel, by decide +kernel⟩, List.mem_of_getElem? (i := 1288) (by decide +kernel), List.mem_of_getElem? (i := 1596) (by decide +kernel), List.mem_of_getElem? (i := 1597) (by decide +kernel)⟩
theorem lw_p58 : lw_okq (⟨"LaneDoorsModel", "here", "([JII)I"⟩, 72) := ⟨⟨by decide +kernel, by decide +kernel⟩, List.mem_of_getElem? (i := 1288) (by decide +kernel), List.mem_of_getElem? (i := 1600) (by decide +kernel), List.mem_of_getElem? (i := 1601) (by decide +kernel)⟩
theorem lw_p59 : lw_okq (⟨"LaneDoorsModel", "fresh", "(I)J"⟩, 72) := ⟨⟨by decide +kernel, by decide +kernel⟩, List.mem_of_getElem? (i := 1288) (by decide +kernel), List.mem_of_getElem? (i := 1604) (by decide +kernel), List.mem_of_getElem? (i := 1605) (by decide +kernel)⟩
theorem lw_p60 : lw_okq (⟨"LaneDoorsModel", "after", "(JII)I"⟩, 72) := ⟨⟨by decide +kernel, by decide +kernel⟩, List.mem_of_getElem? (i := 1288) (by decide +kernel), List.mem_of_getElem? (i := 1608) (by decide +kernel), List.mem_of_getElem? (i := 1609) (by decide +kernel)⟩
theorem lw_p61 : lw_okq (⟨"LaneDoorsModel", "must", "(Z)V"⟩, 72) := ⟨⟨by decide +kernel, by decide +kernel⟩, List.mem_of_getElem? (i := 1288) (by decide +kernel), List.mem_of_getElem? (i := 1612) (by decide +kernel), List.mem_of_getElem? (i := 1613) (by decide +kernel)⟩
theorem lw_p62 : lw_okq (⟨"LaneDoorsModel", "numeral", "(II)I"⟩, 72) := ⟨⟨by decide +kernel, by decide +kernel⟩, List.mem_of_getElem? (i := 1288) (by decide +kernel), List.mem_of_getElem? (i := 1616) (by decide +kernel), List.mem_of_getElem? (i := 1617) (by decide +kernel)⟩
theorem lw_p63 : lw_okq (⟨"LaneDoorsModel", "readDoor", "()V"⟩, 72) := ⟨⟨by decide +kernel, by decide +kernel⟩, List.mem_of_getElem? (i := 1288) (by decide +kernel), List.mem_of_getElem? (i := 1620) (by decide +kernel), List.mem_of_getElem? (i := 1621) (by decide +kernel)⟩
def lw_privs_4 : List (MethodName × Nat) := [(⟨"LaneDoorsModel", "goOn", "()V"⟩, 72), (⟨"LaneDoorsModel", "sign", "(I)I"⟩, 72), (⟨"LaneDoorsModel", "isGood", "()Z"⟩, 72), (⟨"LaneDoorsModel", "readLine", "()V"⟩, 72), (⟨"LaneDoorsModel", "isFull", "()Z"⟩, 72), (⟨"LaneDoorsModel", "isWord", "(J)Z"⟩, 72), (⟨"LaneDoorsModel", "misplaced", "()V"⟩, 72), (⟨"LaneDoorsModel", "fails", "(II)V"⟩, 72), (⟨"LaneDoorsModel", "readLane", "()V"⟩, 72), (⟨"LaneDoorsModel", "laneHere", "()I"⟩, 72), (⟨"LaneDoorsModel", "here", "([JII)I"⟩, 72), (⟨"LaneDoorsModel", "fresh", "(I)J"⟩, 72), (⟨"LaneDoorsModel", "after", "(JII)I"⟩, 72), (⟨"LaneDoorsModel", "must", "(Z)V"⟩, 72), (⟨"LaneDoorsModel", "numeral", "(II)I"⟩, 72), (⟨"LaneDoorsModel", "readDoor", "()V"⟩, 72)]
theorem lw_r4 : ∀ q ∈ lw_privs_4, lw_okq q := List.forall_mem_cons.mpr ⟨lw_p48, List.forall_mem_cons.mpr ⟨lw_p49, List.forall_mem_cons.mpr ⟨lw_p50, List.forall_mem_cons.mpr ⟨lw_p51, List.forall_mem_cons.mpr ⟨lw_p52, List.forall_mem_cons.mpr ⟨lw_p53, List.forall_mem_cons.mpr ⟨lw_p54, List.forall_mem_cons.mpr ⟨lw_p55, List.forall_mem_cons.mpr ⟨lw_p56, List.forall_mem_cons.mpr ⟨lw_p57, List.forall_mem_cons.mpr ⟨lw_p58, List.forall_mem_cons.mpr ⟨lw_p59, List.forall_mem_cons.mpr ⟨lw_p60, List.forall_mem_cons.mpr ⟨lw_p61, List.forall_mem_cons.mpr ⟨lw_p62, List.forall_mem_cons.mpr ⟨lw_p63, fun _ h => absurd h List.not_mem_nil⟩⟩⟩⟩⟩⟩⟩⟩⟩⟩⟩⟩⟩⟩⟩⟩
theorem lw_p64 : lw_okq (⟨"LaneDoorsModel", "known", "(I)I"⟩, 72) := ⟨⟨by decide +kernel, by decide +kernel⟩, List.mem_of_getElem? (i := 1288) (by decide +kernel), List.mem_of_getElem? (i := 1624) (by decide +kernel), List.mem_of_getElem? (i := 1625) (by decide +kernel)⟩
theorem lw_p65 : lw_okq (⟨"LaneDoorsModel", "either", "(JJ)Z"⟩, 72) := ⟨⟨by decide +kernel, by decide +kernel⟩, List.mem_of_getElem? (i := 1288) (by decide +kernel), List.mem_of_getElem? (i := 1628) (by decide +kernel), List.mem_of_getElem? (i := 1629) (by decide +kernel)⟩
theorem lw_p66 : lw_okq (⟨"LaneDoorsModel", "isTaken", "(IZ)Z"⟩, 72) := ⟨⟨by decide +kernel, by decide +kernel⟩, List.mem_of_getElem? (i := 1288) (by decide +kernel), List.mem_of_getElem? (i := 1632) (by decide +kernel), List.mem_of_getElem? (i := 1633) (by decide +kernel)⟩
theorem lw_p67 : lw_okq (⟨"LaneDoorsModel", "perhaps", "(J)Z"⟩, 72) := ⟨⟨by decide +kernel, by decide +kernel⟩, List.mem_of_getElem? (i := 1288) (by decide +kernel), List.mem_of_getElem? (i := 1636) (by decide +kernel), List.mem_of_getElem? (i := 1637) (by decide +kernel)⟩
theorem lw_p68 : lw_okq (⟨"LaneDoorsModel", "readCorner", "()V"⟩, 72) := ⟨⟨by decide +kernel, by decide +kernel⟩, List.mem_of_getElem? (i := 1288) (by decide +kernel), List.mem_of_getElem? (i := 1640) (by decide +kernel), List.mem_of_getElem? (i := 1641) (by decide +kernel)⟩
theorem lw_p69 : lw_okq (⟨"LaneDoorsModel", "readRule", "()V"⟩, 72) := ⟨⟨by decide +kernel, by decide +kernel⟩, List.mem_of_getElem? (i := 1288) (by decide +kernel), List.mem_of_getElem? (i := 1644) (by decide +kernel), List.mem_of_getElem? (i := 1645) (by decide +kernel)⟩
theorem lw_p70 : lw_okq (⟨"LaneDoorsModel", "e", "()V"⟩, 72) := ⟨⟨by decide +kernel, by decide +kernel⟩, List.mem_of_getElem? (i := 1288) (by decide +kernel), List.mem_of_getElem? (i := 1648) (by decide +kernel), List.mem_of_getElem? (i := 1649) (by decide +kernel)⟩
theorem lw_p71 : lw_okq (⟨"LaneDoorsModel", "pushE", "(II)V"⟩, 72) := ⟨⟨by decide +kernel, by decide +kernel⟩, List.mem_of_getElem? (i := 1288) (by decide +kernel), List.mem_of_getElem? (i := 1652) (by decide +kernel), List.mem_of_getElem? (i := 1653) (by decide +kernel)⟩
theorem lw_p72 : lw_okq (⟨"LaneDoorsModel", "unit", "()Z"⟩, 72) := ⟨⟨by decide +kernel, by decide +kernel⟩, List.mem_of_getElem? (i := 1288) (by decide +kernel), List.mem_of_getElem? (i := 1656) (by decide +kernel), List.mem_of_getElem? (i := 1657) (by decide +kernel)⟩
theorem lw_p73 : lw_okq (⟨"LaneDoorsModel", "isSignHere", "(I)Z"⟩, 72) := ⟨⟨by decide +kernel, by decide +kernel⟩, List.mem_of_getElem? (i := 1288) (by decide +kernel), List.mem_of_getElem? (i := 1660) (by decide +kernel), List.mem_of_getElem? (i := 1661) (by decide +kernel)⟩
theorem lw_p74 : lw_okq (⟨"LaneDoorsModel", "wordHere", "()I"⟩, 72) := ⟨⟨by decide +kernel, by decide +kernel⟩, List.mem_of_getElem? (i := 1288) (by decide +kernel), List.mem_of_getElem? (i := 1664) (by decide +kernel), List.mem_of_getElem? (i := 1665) (by decide +kernel)⟩
theorem lw_p75 : lw_okq (⟨"LaneDoorsModel", "emit", "(II)V"⟩, 72) := ⟨⟨by decide +kernel, by decide +kernel⟩, List.mem_of_getElem? (i := 1288) (by decide +kernel), List.mem_of_getElem? (i := 1668) (by decide +kernel), List.mem_of_getElem? (i := 1669) (by decide +kernel)⟩
theorem lw_p76 : lw_okq (⟨"LaneDoorsModel", "behindUnit", "()Z"⟩, 72) := ⟨⟨by decide +kernel, by decide +kernel⟩, List.mem_of_getElem? (i := 1288) (by decide +kernel), List.mem_of_getElem? (i := 1672) (by decide +kernel), List.mem_of_getElem? (i := 1673) (by decide +kernel)⟩
theorem lw_p77 : lw_okq (⟨"LaneDoorsModel", "rankHere", "()I"⟩, 72) := ⟨⟨by decide +kernel, by decide +kernel⟩, List.mem_of_getElem? (i := 1288) (by decide +kernel), List.mem_of_getElem? (i := 1676) (by decide +kernel), List.mem_of_getElem? (i := 1677) (by decide +kernel)⟩
theorem lw_p78 : lw_okq (⟨"LaneDoorsModel", "isCompared", "()Z"⟩, 72) := ⟨⟨by decide +kernel, by decide +kernel⟩, List.mem_of_getElem? (i := 1288) (by decide +kernel), List.mem_of_getElem? (i := 1680) (by decide +kernel), List.mem_of_getElem? (i := 1681) (by decide +kernel)⟩
theorem lw_p79 : lw_okq (⟨"LaneDoorsModel", "isDoor", "(I)Z"⟩, 72) := ⟨⟨by decide +kernel, by decide +kernel⟩, List.mem_of_getElem? (i := 1288) (by decide +kernel), List.mem_of_getElem? (i := 1692) (by decide +kernel), List.mem_of_getElem? (i := 1693) (by decide +kernel)⟩
def lw_privs_5 : List (MethodName × Nat) := [(⟨"LaneDoorsModel", "known", "(I)I"⟩, 72), (⟨"LaneDoorsModel", "either", "(JJ)Z"⟩, 72), (⟨"LaneDoorsModel", "isTaken", "(IZ)Z"⟩, 72), (⟨"LaneDoorsModel", "perhaps", "(J)Z"⟩, 72), (⟨"LaneDoorsModel", "readCorner", "()V"⟩, 72), (⟨"LaneDoorsModel", "readRule", "()V"⟩, 72), (⟨"LaneDoorsModel", "e", "()V"⟩, 72), (⟨"LaneDoorsModel", "pushE", "(II)V"⟩, 72), (⟨"LaneDoorsModel", "unit", "()Z"⟩, 72), (⟨"LaneDoorsModel", "isSignHere", "(I)Z"⟩, 72), (⟨"LaneDoorsModel", "wordHere", "()I"⟩, 72), (⟨"LaneDoorsModel", "emit", "(II)V"⟩, 72), (⟨"LaneDoorsModel", "behindUnit", "()Z"⟩, 72), (⟨"LaneDoorsModel", "rankHere", "()I"⟩, 72), (⟨"LaneDoorsModel", "isCompared", "()Z"⟩, 72), (⟨"LaneDoorsModel", "isDoor", "(I)Z"⟩, 72)]
theorem lw_r5 : ∀ q ∈ lw_privs_5, lw_okq q := List.forall_mem_cons.mpr ⟨lw_p64, List.forall_mem_cons.mpr ⟨lw_p65, List.forall_mem_cons.mpr ⟨lw_p66, List.forall_mem_cons.mpr ⟨lw_p67, List.forall_mem_cons.mpr ⟨lw_p68, List.forall_mem_cons.mpr ⟨lw_p69, List.forall_mem_cons.mpr ⟨lw_p70, List.forall_mem_cons.mpr ⟨lw_p71, List.forall_mem_cons.mpr ⟨lw_p72, List.forall_mem_cons.mpr ⟨lw_p73, List.forall_mem_cons.mpr ⟨lw_p74, List.forall_mem_cons.mpr ⟨lw_p75, List.forall_mem_cons.mpr ⟨lw_p76, List.forall_mem_cons.mpr ⟨lw_p77, List.forall_mem_cons.mpr ⟨lw_p78, List.forall_mem_cons.mpr ⟨lw_p79, fun _ h => absurd h List.not_mem_nil⟩⟩⟩⟩⟩⟩⟩⟩⟩⟩⟩⟩⟩⟩⟩⟩
theorem lw_p80 : lw_okq (⟨"LaneDoorsModel", "many", "()I"⟩, 72) := ⟨⟨by decide +kernel, by decide +kernel⟩, List.mem_of_getElem? (i := 1288) (by decide +kernel), List.mem_of_getElem? (i := 1696) (by decide +kernel), List.mem_of_getElem? (i := 1697) (by decide +kernel)⟩
theorem lw_p81 : lw_okq (⟨"LaneDoorsModel", "lane", "(I)I"⟩, 72) := ⟨⟨by decide +kernel, by decide +kernel⟩, List.mem_of_getElem? (i := 1288) (by decide +kernel), List.mem_of_getElem? (i := 1703) (by decide +kernel), List.mem_of_getElem? (i := 1704) (by decide +kernel)⟩
theorem lw_p82 : lw_okq (⟨"LaneDoorsModel", "first", "(I)I"⟩, 72) := ⟨⟨by decide +kernel, by decide +kernel⟩, List.mem_of_getElem? (i := 1288) (by decide +kernel), List.mem_of_getElem? (i := 1707) (by decide +kernel), List.mem_of_getElem? (i := 1708) (by decide +kernel)⟩
theorem lw_p83 : lw_okq (⟨"LaneDoorsModel", "broad", "(I)I"⟩, 72) := ⟨⟨by decide +kernel, by decide +kernel⟩, List.mem_of_getElem? (i := 1288) (by decide +kernel), List.mem_of_getElem? (i := 1711) (by decide +kernel), List.mem_of_getElem? (i := 1712) (by decide +kernel)⟩
theorem lw_p84 : lw_okq (⟨"LaneDoorsModel", "hingeOf", "(II)I"⟩, 72) := ⟨⟨by decide +kernel, by decide +kernel⟩, List.mem_of_getElem? (i := 1288) (by decide +kernel), List.mem_of_getElem? (i := 1715) (by decide +kernel), List.mem_of_getElem? (i := 1716) (by decide +kernel)⟩
theorem lw_p85 : lw_okq (⟨"LaneDoorsModel", "layHinderers", "(I)V"⟩, 72) := ⟨⟨by decide +kernel, by decide +kernel⟩, List.mem_of_getElem? (i := 1288) (by decide +kernel), List.mem_of_getElem? (i := 1729) (by decide +kernel), List.mem_of_getElem? (i := 1730) (by decide +kernel)⟩
theorem lw_p86 : lw_okq (⟨"LaneDoorsModel", "doesHinder", "(III)Z"⟩, 72) := ⟨⟨by decide +kernel, by decide +kernel⟩, List.mem_of_getElem? (i := 1288) (by decide +kernel), List.mem_of_getElem? (i := 1733) (by decide +kernel), List.mem_of_getElem? (i := 1734) (by decide +kernel)⟩
theorem lw_p87 : lw_okq (⟨"LaneDoorsModel", "isSouth", "(I)Z"⟩, 72) := ⟨⟨by decide +kernel, by decide +kernel⟩, List.mem_of_getElem? (i := 1288) (by decide +kernel), List.mem_of_getElem? (i := 1737) (by decide +kernel), List.mem_of_getElem? (i := 1738) (by decide +kernel)⟩
theorem lw_p88 : lw_okq (⟨"LaneDoorsModel", "reach", "(I)I"⟩, 72) := ⟨⟨by decide +kernel, by decide +kernel⟩, List.mem_of_getElem? (i := 1288) (by decide +kernel), List.mem_of_getElem? (i := 1741) (by decide +kernel), List.mem_of_getElem? (i := 1742) (by decide +kernel)⟩
theorem lw_p89 : lw_okq (⟨"LaneDoorsModel", "wide", "(I)I"⟩, 72) := ⟨⟨by decide +kernel, by decide +kernel⟩, List.mem_of_getElem? (i := 1288) (by decide +kernel), List.mem_of_getElem? (i := 1745) (by decide +kernel), List.mem_of_getElem? (i := 1746) (by decide +kernel)⟩
theorem lw_p90 : lw_okq (⟨"LaneDoorsModel", "moving", "()I"⟩, 72) := ⟨⟨by decide +kernel, by decide +kernel⟩, List.mem_of_getElem? (i := 1288) (by decide +kernel), List.mem_of_getElem? (i := 1749) (by decide +kernel), List.mem_of_getElem? (i := 1750) (by decide +kernel)⟩
theorem lw_p91 : lw_okq (⟨"LaneDoorsModel", "canOpen", "(III)Z"⟩, 72) := ⟨⟨by decide +kernel, by decide +kernel⟩, List.mem_of_getElem? (i := 1288) (by decide +kernel), List.mem_of_getElem? (i := 1753) (by decide +kernel), List.mem_of_getElem? (i := 1754) (by decide +kernel)⟩
theorem lw_p92 : lw_okq (⟨"LaneDoorsModel", "isPlace", "(II)Z"⟩, 72) := ⟨⟨by decide +kernel, by decide +kernel⟩, List.mem_of_getElem? (i := 1288) (by decide +kernel), List.mem_of_getElem? (i := 1765) (by decide +kernel), List.mem_of_getElem? (i := 1766) (by decide +kernel)⟩
theorem lw_p93 : lw_okq (⟨"LaneDoorsModel", "isLane", "(I)Z"⟩, 72) := ⟨⟨by decide +kernel, by decide +kernel⟩, List.mem_of_getElem? (i := 1288) (by decide +kernel), List.mem_of_getElem? (i := 1769) (by decide +kernel), List.mem_of_getElem? (i := 1770) (by decide +kernel)⟩
theorem lw_p94 : lw_okq (⟨"LaneDoorsModel", "freeAt", "(III)I"⟩, 72) := ⟨⟨by decide +kernel, by decide +kernel⟩, List.mem_of_getElem? (i := 1288) (by decide +kernel), List.mem_of_getElem? (i := 1773) (by decide +kernel), List.mem_of_getElem? (i := 1774) (by decide +kernel)⟩
theorem lw_p95 : lw_okq (⟨"LaneDoorsModel", "oilOf", "(I)I"⟩, 72) := ⟨⟨by decide +kernel, by decide +kernel⟩, List.mem_of_getElem? (i := 1288) (by decide +kernel), List.mem_of_getElem? (i := 1781) (by decide +kernel), List.mem_of_getElem? (i := 1782) (by decide +kernel)⟩
def lw_privs_6 : List (MethodName × Nat) := [(⟨"LaneDoorsModel", "many", "()I"⟩, 72), (⟨"LaneDoorsModel", "lane", "(I)I"⟩, 72), (⟨"LaneDoorsModel", "first", "(I)I"⟩, 72), (⟨"LaneDoorsModel", "broad", "(I)I"⟩, 72), (⟨"LaneDoorsModel", "hingeOf", "(II)I"⟩, 72), (⟨"LaneDoorsModel", "layHinderers", "(I)V"⟩, 72), (⟨"LaneDoorsModel", "doesHinder", "(III)Z"⟩, 72), (⟨"LaneDoorsModel", "isSouth", "(I)Z"⟩, 72), (⟨"LaneDoorsModel", "reach", "(I)I"⟩, 72), (⟨"LaneDoorsModel", "wide", "(I)I"⟩, 72), (⟨"LaneDoorsModel", "moving", "()I"⟩, 72), (⟨"LaneDoorsModel", "canOpen", "(III)Z"⟩, 72), (⟨"LaneDoorsModel", "isPlace", "(II)Z"⟩, 72), (⟨"LaneDoorsModel", "isLane", "(I)Z"⟩, 72), (⟨"LaneDoorsModel", "freeAt", "(III)I"⟩, 72), (⟨"LaneDoorsModel", "oilOf", "(I)I"⟩, 72)]
theorem lw_r6 : ∀ q ∈ lw_privs_6, lw_okq q := List.forall_mem_cons.mpr ⟨lw_p80, List.forall_mem_cons.mpr ⟨lw_p81, List.forall_mem_cons.mpr ⟨lw_p82, List.forall_mem_cons.mpr ⟨lw_p83, List.forall_mem_cons.mpr ⟨lw_p84, List.forall_mem_cons.mpr ⟨lw_p85, List.forall_mem_cons.mpr ⟨lw_p86, List.forall_mem_cons.mpr ⟨lw_p87, List.forall_mem_cons.mpr ⟨lw_p88, List.forall_mem_cons.mpr ⟨lw_p89, List.forall_mem_cons.mpr ⟨lw_p90, List.forall_mem_cons.mpr ⟨lw_p91, List.forall_mem_cons.mpr ⟨lw_p92, List.forall_mem_cons.mpr ⟨lw_p93, List.forall_mem_cons.mpr ⟨lw_p94, List.forall_mem_cons.mpr ⟨lw_p95, fun _ h => absurd h List.not_mem_nil⟩⟩⟩⟩⟩⟩⟩⟩⟩⟩⟩⟩⟩⟩⟩⟩
theorem lw_p96 : lw_okq (⟨"LaneDoorsModel", "asked", "(III)I"⟩, 72) := ⟨⟨by decide +kernel, by decide +kernel⟩, List.mem_of_getElem? (i := 1288) (by decide +kernel), List.mem_of_getElem? (i := 1785) (by decide +kernel), List.mem_of_getElem? (i := 1786) (by decide +kernel)⟩
theorem lw_p97 : lw_okq (⟨"LaneDoorsModel", "keepAct", "()V"⟩, 72) := ⟨⟨by decide +kernel, by decide +kernel⟩, List.mem_of_getElem? (i := 1288) (by decide +kernel), List.mem_of_getElem? (i := 1797) (by decide +kernel), List.mem_of_getElem? (i := 1798) (by decide +kernel)⟩
theorem lw_p98 : lw_okq (⟨"LaneDoorsModel", "isIdle", "(I)Z"⟩, 72) := ⟨⟨by decide +kernel, by decide +kernel⟩, List.mem_of_getElem? (i := 1288) (by decide +kernel), List.mem_of_getElem? (i := 1809) (by decide +kernel), List.mem_of_getElem? (i := 1810) (by decide +kernel)⟩
theorem lw_p99 : lw_okq (⟨"LaneDoorsModel", "pushedBy", "(IIII)I"⟩, 72) := ⟨⟨by decide +kernel, by decide +kernel⟩, List.mem_of_getElem? (i := 1288) (by decide +kernel), List.mem_of_getElem? (i := 1821) (by decide +kernel), List.mem_of_getElem? (i := 1822) (by decide +kernel)⟩
theorem lw_p100 : lw_okq (⟨"LaneDoorsModel", "blows", "(I)I"⟩, 72) := ⟨⟨by decide +kernel, by decide +kernel⟩, List.mem_of_getElem? (i := 1288) (by decide +kernel), List.mem_of_getElem? (i := 1837) (by decide +kernel), List.mem_of_getElem? (i := 1838) (by decide +kernel)⟩
theorem lw_p101 : lw_okq (⟨"LaneDoorsModel", "blownBy", "(II)I"⟩, 72) := ⟨⟨by decide +kernel, by decide +kernel⟩, List.mem_of_getElem? (i := 1288) (by decide +kernel), List.mem_of_getElem? (i := 1841) (by decide +kernel), List.mem_of_getElem? (i := 1842) (by decide +kernel)⟩
theorem lw_p102 : lw_okq (⟨"LaneDoorsModel", "exchange", "()V"⟩, 72) := ⟨⟨by decide +kernel, by decide +kernel⟩, List.mem_of_getElem? (i := 1288) (by decide +kernel), List.mem_of_getElem? (i := 1865) (by decide +kernel), List.mem_of_getElem? (i := 1866) (by decide +kernel)⟩
theorem lw_p103 : lw_okq (⟨"LaneDoorsModel", "isShutSet", "(I)Z"⟩, 72) := ⟨⟨by decide +kernel, by decide +kernel⟩, List.mem_of_getElem? (i := 1288) (by decide +kernel), List.mem_of_getElem? (i := 1881) (by decide +kernel), List.mem_of_getElem? (i := 1882) (by decide +kernel)⟩
theorem lw_p104 : lw_okq (⟨"LaneDoorsModel", "isSet", "(I)Z"⟩, 72) := ⟨⟨by decide +kernel, by decide +kernel⟩, List.mem_of_getElem? (i := 1288) (by decide +kernel), List.mem_of_getElem? (i := 1885) (by decide +kernel), List.mem_of_getElem? (i := 1886) (by decide +kernel)⟩
theorem lw_p105 : lw_okq (⟨"LaneDoorsModel", "ordersBy", "(II)I"⟩, 72) := ⟨⟨by decide +kernel, by decide +kernel⟩, List.mem_of_getElem? (i := 1288) (by decide +kernel), List.mem_of_getElem? (i := 1889) (by decide +kernel), List.mem_of_getElem? (i := 1890) (by decide +kernel)⟩
theorem lw_p106 : lw_okq (⟨"LaneDoorsModel", "clearAhead", "()V"⟩, 72) := ⟨⟨by decide +kernel, by decide +kernel⟩, List.mem_of_getElem? (i := 1288) (by decide +kernel), List.mem_of_getElem? (i := 1893) (by decide +kernel), List.mem_of_getElem? (i := 1894) (by decide +kernel)⟩
theorem lw_p107 : lw_okq (⟨"LaneDoorsModel", "layWays", "(III)I"⟩, 72) := ⟨⟨by decide +kernel, by decide +kernel⟩, List.mem_of_getElem? (i := 1288) (by decide +kernel), List.mem_of_getElem? (i := 1897) (by decide +kernel), List.mem_of_getElem? (i := 1898) (by decide +kernel)⟩
theorem lw_p108 : lw_okq (⟨"LaneDoorsModel", "comesNext", "(IIIII)Z"⟩, 72) := ⟨⟨by decide +kernel, by decide +kernel⟩, List.mem_of_getElem? (i := 1288) (by decide +kernel), List.mem_of_getElem? (i := 1901) (by decide +kernel), List.mem_of_getElem? (i := 1902) (by decide +kernel)⟩
theorem lw_p109 : lw_okq (⟨"LaneDoorsModel", "layFirst", "(III)V"⟩, 72) := ⟨⟨by decide +kernel, by decide +kernel⟩, List.mem_of_getElem? (i := 1288) (by decide +kernel), List.mem_of_getElem? (i := 1905) (by decide +kernel), List.mem_of_getElem? (i := 1906) (by decide +kernel)⟩
theorem lw_p110 : lw_okq (⟨"LaneDoorsModel", "mostBy", "(II)I"⟩, 72) := ⟨⟨by decide +kernel, by decide +kernel⟩, List.mem_of_getElem? (i := 1288) (by decide +kernel), List.mem_of_getElem? (i := 1913) (by decide +kernel), List.mem_of_getElem? (i := 1914) (by decide +kernel)⟩
theorem lw_p111 : lw_okq (⟨"LaneDoorsModel", "layComes", "(III)V"⟩, 72) := ⟨⟨by decide +kernel, by decide +kernel⟩, List.mem_of_getElem? (i := 1288) (by decide +kernel), List.mem_of_getElem? (i := 1917) (by decide +kernel), List.mem_of_getElem? (i := 1918) (by decide +kernel)⟩
def lw_privs_7 : List (MethodName × Nat) := [(⟨"LaneDoorsModel", "asked", "(III)I"⟩, 72), (⟨"LaneDoorsModel", "keepAct", "()V"⟩, 72), (⟨"LaneDoorsModel", "isIdle", "(I)Z"⟩, 72), (⟨"LaneDoorsModel", "pushedBy", "(IIII)I"⟩, 72), (⟨"LaneDoorsModel", "blows", "(I)I"⟩, 72), (⟨"LaneDoorsModel", "blownBy", "(II)I"⟩, 72), (⟨"LaneDoorsModel", "exchange", "()V"⟩, 72), (⟨"LaneDoorsModel", "isShutSet", "(I)Z"⟩, 72), (⟨"LaneDoorsModel", "isSet", "(I)Z"⟩, 72), (⟨"LaneDoorsModel", "ordersBy", "(II)I"⟩, 72), (⟨"LaneDoorsModel", "clearAhead", "()V"⟩, 72), (⟨"LaneDoorsModel", "layWays", "(III)I"⟩, 72), (⟨"LaneDoorsModel", "comesNext", "(IIIII)Z"⟩, 72), (⟨"LaneDoorsModel", "layFirst", "(III)V"⟩, 72), (⟨"LaneDoorsModel", "mostBy", "(II)I"⟩, 72), (⟨"LaneDoorsModel", "layComes", "(III)V"⟩, 72)]
theorem lw_r7 : ∀ q ∈ lw_privs_7, lw_okq q := List.forall_mem_cons.mpr ⟨lw_p96, List.forall_mem_cons.mpr ⟨lw_p97, List.forall_mem_cons.mpr ⟨lw_p98, List.forall_mem_cons.mpr ⟨lw_p99, List.forall_mem_cons.mpr ⟨lw_p100, List.forall_mem_cons.mpr ⟨lw_p101, List.forall_mem_cons.mpr ⟨lw_p102, List.forall_mem_cons.mpr ⟨lw_p103, List.forall_mem_cons.mpr ⟨lw_p104, List.forall_mem_cons.mpr ⟨lw_p105, List.forall_mem_cons.mpr ⟨lw_p106, List.forall_mem_cons.mpr ⟨lw_p107, List.forall_mem_cons.mpr ⟨lw_p108, List.forall_mem_cons.mpr ⟨lw_p109, List.forall_mem_cons.mpr ⟨lw_p110, List.forall_mem_cons.mpr ⟨lw_p111, fun _ h => absurd h List.not_mem_nil⟩⟩⟩⟩⟩⟩⟩⟩⟩⟩⟩⟩⟩⟩⟩⟩
theorem lw_p112 : lw_okq (⟨"LaneDoorsModel", "isStuck", "(I)Z"⟩, 72) := ⟨⟨by decide +kernel, by decide +kernel⟩, List.mem_of_getElem? (i := 1288) (by decide +kernel), List.mem_of_getElem? (i := 1928) (by decide +kernel), List.mem_of_getElem? (i := 1929) (by decide +kernel)⟩
theorem lw_p113 : lw_okq (⟨"LaneDoorsModel", "oils", "(I)I"⟩, 72) := ⟨⟨by decide +kernel, by decide +kernel⟩, List.mem_of_getElem? (i := 1288) (by decide +kernel), List.mem_of_getElem? (i := 1936) (by decide +kernel), List.mem_of_getElem? (i := 1937) (by decide +kernel)⟩
theorem lw_p114 : lw_okq (⟨"LaneDoorsModel", "areFit", "(IIIII)Z"⟩, 72) := ⟨⟨by decide +kernel, by decide +kernel⟩, List.mem_of_getElem? (i := 1288) (by decide +kernel), List.mem_of_getElem? (i := 1968) (by decide +kernel), List.mem_of_getElem? (i := 1969) (by decide +kernel)⟩
theorem lw_p115 : lw_okq (⟨"LaneDoorsModel", "wayBy", "(IIIIIII)I"⟩, 72) := ⟨⟨by decide +kernel, by decide +kernel⟩, List.mem_of_getElem? (i := 1288) (by decide +kernel), List.mem_of_getElem? (i := 1972) (by decide +kernel), List.mem_of_getElem? (i := 1973) (by decide +kernel)⟩
theorem lw_p116 : lw_okq (⟨"LaneDoorsModel", "laySteps", "(IIII)V"⟩, 72) := ⟨⟨by decide +kernel, by decide +kernel⟩, List.mem_of_getElem? (i := 1288) (by decide +kernel), List.mem_of_getElem? (i := 1976) (by decide +kernel), List.mem_of_getElem? (i := 1977) (by decide +kernel)⟩
theorem lw_p117 : lw_okq (⟨"LaneDoorsModel", "comeTo", "(IIIII)V"⟩, 72) := ⟨⟨by decide +kernel, by decide +kernel⟩, List.mem_of_getElem? (i := 1288) (by decide +kernel), List.mem_of_getElem? (i := 1980) (by decide +kernel), List.mem_of_getElem? (i := 1981) (by decide +kernel)⟩
theorem lw_p118 : lw_okq (⟨"LaneDoorsModel", "isFreeFor", "(IIII)Z"⟩, 72) := ⟨⟨by decide +kernel, by decide +kernel⟩, List.mem_of_getElem? (i := 1288) (by decide +kernel), List.mem_of_getElem? (i := 1984) (by decide +kernel), List.mem_of_getElem? (i := 1985) (by decide +kernel)⟩
theorem lw_p119 : lw_okq (⟨"LaneDoorsModel", "winsBy", "(II)I"⟩, 72) := ⟨⟨by decide +kernel, by decide +kernel⟩, List.mem_of_getElem? (i := 1288) (by decide +kernel), List.mem_of_getElem? (i := 2016) (by decide +kernel), List.mem_of_getElem? (i := 2017) (by decide +kernel)⟩
theorem lw_p120 : lw_okq (⟨"LaneDoorsModel", "isTale", "(I)Z"⟩, 72) := ⟨⟨by decide +kernel, by decide +kernel⟩, List.mem_of_getElem? (i := 1288) (by decide +kernel), List.mem_of_getElem? (i := 2037) (by decide +kernel), List.mem_of_getElem? (i := 2038) (by decide +kernel)⟩
theorem lw_p121 : lw_okq (⟨"LaneDoorsModel", "layHeard", "(I)V"⟩, 72) := ⟨⟨by decide +kernel, by decide +kernel⟩, List.mem_of_getElem? (i := 1288) (by decide +kernel), List.mem_of_getElem? (i := 2041) (by decide +kernel), List.mem_of_getElem? (i := 2042) (by decide +kernel)⟩
def lw_privs_8 : List (MethodName × Nat) := [(⟨"LaneDoorsModel", "isStuck", "(I)Z"⟩, 72), (⟨"LaneDoorsModel", "oils", "(I)I"⟩, 72), (⟨"LaneDoorsModel", "areFit", "(IIIII)Z"⟩, 72), (⟨"LaneDoorsModel", "wayBy", "(IIIIIII)I"⟩, 72), (⟨"LaneDoorsModel", "laySteps", "(IIII)V"⟩, 72), (⟨"LaneDoorsModel", "comeTo", "(IIIII)V"⟩, 72), (⟨"LaneDoorsModel", "isFreeFor", "(IIII)Z"⟩, 72), (⟨"LaneDoorsModel", "winsBy", "(II)I"⟩, 72), (⟨"LaneDoorsModel", "isTale", "(I)Z"⟩, 72), (⟨"LaneDoorsModel", "layHeard", "(I)V"⟩, 72)]
theorem lw_r8 : ∀ q ∈ lw_privs_8, lw_okq q := List.forall_mem_cons.mpr ⟨lw_p112, List.forall_mem_cons.mpr ⟨lw_p113, List.forall_mem_cons.mpr ⟨lw_p114, List.forall_mem_cons.mpr ⟨lw_p115, List.forall_mem_cons.mpr ⟨lw_p116, List.forall_mem_cons.mpr ⟨lw_p117, List.forall_mem_cons.mpr ⟨lw_p118, List.forall_mem_cons.mpr ⟨lw_p119, List.forall_mem_cons.mpr ⟨lw_p120, List.forall_mem_cons.mpr ⟨lw_p121, fun _ h => absurd h List.not_mem_nil⟩⟩⟩⟩⟩⟩⟩⟩⟩⟩
def lw_privs : List (MethodName × Nat) := lw_privs_1 ++ (lw_privs_2 ++ (lw_privs_3 ++ (lw_privs_4 ++ (lw_privs_5 ++ (lw_privs_6 ++ (lw_privs_7 ++ (lw_privs_8)))))))
def lw_tbl : List Cond := k2_sels lw_privs ++ tables_1
theorem lw_privs_ok : ∀ q ∈ lw_privs, lw_okq q := by
  show ∀ q ∈ lw_privs_1 ++ (lw_privs_2 ++ (lw_privs_3 ++ (lw_privs_4 ++ (lw_privs_5 ++ (lw_privs_6 ++ (lw_privs_7 ++ (lw_privs_8))))))), lw_okq q
  exact List.forall_mem_append.mpr ⟨lw_r1, List.forall_mem_append.mpr ⟨lw_r2, List.forall_mem_append.mpr ⟨lw_r3, List.forall_mem_append.mpr ⟨lw_r4, List.forall_mem_append.mpr ⟨lw_r5, List.forall_mem_append.mpr ⟨lw_r6, List.forall_mem_append.mpr ⟨lw_r7, lw_r8⟩⟩⟩⟩⟩⟩⟩
end
section
def RX0 : String := "LaneDoors$Formula"
def TX0 : u_T := fun k => match k with
  | 0 => ("LaneDoors$Formula", "steps", "[I", true)
  | 1 => ("LaneDoors$Formula", "stack", "[I", true)
  | 2 => ("LaneDoors$Formula", "size", "I", false)
  | 3 => ("LaneDoors$Formula", "height", "I", false)
  | _ => ("LaneDoors$Formula", "units", "I", false)
def tyX0 : Nat → FieldType := fun k => match k with
  | 0 => .array .int
  | 1 => .array .int
  | 2 => .int
  | 3 => .int
  | _ => .int
theorem nmX0 : ∀ a, a < 5 → ∀ b, b < 5 → a ≠ b → (TX0 a).2.1 ≠ (TX0 b).2.1 := by decide +kernel
theorem tyX0_ok : ∀ k, k < 5 → parseFieldDescriptor (TX0 k).2.2.1 = some (tyX0 k) := by decide +kernel
def RX1 : String := "LaneDoors$Hearsay"
def TX1 : u_T := fun k => match k with
  | 0 => ("LaneDoors$Hearsay", "first", "[I", true)
  | 1 => ("LaneDoors$Hearsay", "second", "[I", true)
  | 2 => ("LaneDoors$Hearsay", "told", "[I", true)
  | 3 => ("LaneDoors$Hearsay", "untold", "[I", true)
  | 4 => ("LaneDoors$Hearsay", "count", "I", false)
  | _ => ("LaneDoors$Hearsay", "time", "I", false)
def tyX1 : Nat → FieldType := fun k => match k with
  | 0 => .array .int
  | 1 => .array .int
  | 2 => .array .int
  | 3 => .array .int
  | 4 => .int
  | _ => .int
theorem nmX1 : ∀ a, a < 6 → ∀ b, b < 6 → a ≠ b → (TX1 a).2.1 ≠ (TX1 b).2.1 := by decide +kernel
theorem tyX1_ok : ∀ k, k < 6 → parseFieldDescriptor (TX1 k).2.2.1 = some (tyX1 k) := by decide +kernel
def RX2 : String := "LaneDoors$History"
def TX2 : u_T := fun k => match k with
  | 0 => ("LaneDoors$History", "kept", "[LLaneDoors$State;", true)
  | 1 => ("LaneDoors$History", "first", "I", false)
  | 2 => ("LaneDoors$History", "done", "I", false)
  | _ => ("LaneDoors$History", "all", "I", false)
def tyX2 : Nat → FieldType := fun k => match k with
  | 0 => .array (.object "LaneDoors$State")
  | 1 => .int
  | 2 => .int
  | _ => .int
theorem nmX2 : ∀ a, a < 4 → ∀ b, b < 4 → a ≠ b → (TX2 a).2.1 ≠ (TX2 b).2.1 := by decide +kernel
theorem tyX2_ok : ∀ k, k < 4 → parseFieldDescriptor (TX2 k).2.2.1 = some (tyX2 k) := by decide +kernel
def RX3 : String := "LaneDoors$Lexer"
def TX3 : u_T := fun k => match k with
  | 0 => ("LaneDoors$Lexer", "tape", "LLaneDoors$Tape;", true)
  | 1 => ("LaneDoors$Lexer", "ownWords", "[J", true)
  | 2 => ("LaneDoors$Lexer", "next", "I", false)
  | 3 => ("LaneDoors$Lexer", "kind", "I", false)
  | 4 => ("LaneDoors$Lexer", "place", "I", false)
  | 5 => ("LaneDoors$Lexer", "number", "I", false)
  | _ => ("LaneDoors$Lexer", "word", "J", false)
def tyX3 : Nat → FieldType := fun k => match k with
  | 0 => .object "LaneDoors$Tape"
  | 1 => .array .long
  | 2 => .int
  | 3 => .int
  | 4 => .int
  | 5 => .int
  | _ => .long
theorem nmX3 : ∀ a, a < 7 → ∀ b, b < 7 → a ≠ b → (TX3 a).2.1 ≠ (TX3 b).2.1 := by decide +kernel
theorem tyX3_ok : ∀ k, k < 7 → parseFieldDescriptor (TX3 k).2.2.1 = some (tyX3 k) := by decide +kernel
def RX4 : String := "LaneDoors$Opener"
def TX4 : u_T := fun k => match k with
  | 0 => ("LaneDoors$Opener", "against", "[I", true)
  | 1 => ("LaneDoors$Opener", "earlier", "[I", true)
  | 2 => ("LaneDoors$Opener", "prices", "[I", true)
  | 3 => ("LaneDoors$Opener", "ways", "[I", true)
  | 4 => ("LaneDoors$Opener", "marks", "[Z", true)
  | 5 => ("LaneDoors$Opener", "open", "I", false)
  | _ => ("LaneDoors$Opener", "ready", "I", false)
def tyX4 : Nat → FieldType := fun k => match k with
  | 0 => .array .int
  | 1 => .array .int
  | 2 => .array .int
  | 3 => .array .int
  | 4 => .array .boolean
  | 5 => .int
  | _ => .int
theorem nmX4 : ∀ a, a < 7 → ∀ b, b < 7 → a ≠ b → (TX4 a).2.1 ≠ (TX4 b).2.1 := by decide +kernel
theorem tyX4_ok : ∀ k, k < 7 → parseFieldDescriptor (TX4 k).2.2.1 = some (tyX4 k) := by decide +kernel
def RX5 : String := "LaneDoors$Pile"
def TX5 : u_T := fun k => match k with
  | 0 => ("LaneDoors$Pile", "numbers", "[I", true)
  | _ => ("LaneDoors$Pile", "size", "I", false)
def tyX5 : Nat → FieldType := fun k => match k with
  | 0 => .array .int
  | _ => .int
theorem nmX5 : ∀ a, a < 2 → ∀ b, b < 2 → a ≠ b → (TX5 a).2.1 ≠ (TX5 b).2.1 := by decide +kernel
theorem tyX5_ok : ∀ k, k < 2 → parseFieldDescriptor (TX5 k).2.2.1 = some (tyX5 k) := by decide +kernel
def RX6 : String := "LaneDoors$Plan"
def TX6 : u_T := fun k => match k with
  | 0 => ("LaneDoors$Plan", "laneLong", "[I", true)
  | 1 => ("LaneDoors$Plan", "laneWide", "[I", true)
  | 2 => ("LaneDoors$Plan", "doorLane", "[I", true)
  | 3 => ("LaneDoors$Plan", "doorPlace", "[I", true)
  | 4 => ("LaneDoors$Plan", "doorBroad", "[I", true)
  | 5 => ("LaneDoors$Plan", "cornerFrom", "[I", true)
  | 6 => ("LaneDoors$Plan", "cornerTo", "[I", true)
  | 7 => ("LaneDoors$Plan", "oil", "LLaneDoors$Formula;", true)
  | 8 => ("LaneDoors$Plan", "lanes", "I", false)
  | 9 => ("LaneDoors$Plan", "doors", "I", false)
  | 10 => ("LaneDoors$Plan", "corners", "I", false)
  | 11 => ("LaneDoors$Plan", "south", "I", false)
  | 12 => ("LaneDoors$Plan", "right", "I", false)
  | 13 => ("LaneDoors$Plan", "loose", "I", false)
  | 14 => ("LaneDoors$Plan", "tied", "I", false)
  | 15 => ("LaneDoors$Plan", "open", "I", false)
  | 16 => ("LaneDoors$Plan", "stock", "I", false)
  | _ => ("LaneDoors$Plan", "draw", "I", false)
def tyX6 : Nat → FieldType := fun k => match k with
  | 0 => .array .int
  | 1 => .array .int
  | 2 => .array .int
  | 3 => .array .int
  | 4 => .array .int
  | 5 => .array .int
  | 6 => .array .int
  | 7 => .object "LaneDoors$Formula"
  | 8 => .int
  | 9 => .int
  | 10 => .int
  | 11 => .int
  | 12 => .int
  | 13 => .int
  | 14 => .int
  | 15 => .int
  | 16 => .int
  | _ => .int
theorem nmX6 : ∀ a, a < 18 → ∀ b, b < 18 → a ≠ b → (TX6 a).2.1 ≠ (TX6 b).2.1 := by decide +kernel
theorem tyX6_ok : ∀ k, k < 18 → parseFieldDescriptor (TX6 k).2.2.1 = some (tyX6 k) := by decide +kernel
def RX7 : String := "LaneDoors$Reader"
def TX7 : u_T := fun k => match k with
  | 0 => ("LaneDoors$Reader", "lexer", "LLaneDoors$Lexer;", true)
  | 1 => ("LaneDoors$Reader", "laneNames", "[J", true)
  | 2 => ("LaneDoors$Reader", "doorNames", "[J", true)
  | 3 => ("LaneDoors$Reader", "plan", "LLaneDoors$Plan;", false)
  | 4 => ("LaneDoors$Reader", "told", "I", false)
  | 5 => ("LaneDoors$Reader", "fault", "I", false)
  | _ => ("LaneDoors$Reader", "faultPlace", "I", false)
def tyX7 : Nat → FieldType := fun k => match k with
  | 0 => .object "LaneDoors$Lexer"
  | 1 => .array .long
  | 2 => .array .long
  | 3 => .object "LaneDoors$Plan"
  | 4 => .int
  | 5 => .int
  | _ => .int
theorem nmX7 : ∀ a, a < 7 → ∀ b, b < 7 → a ≠ b → (TX7 a).2.1 ≠ (TX7 b).2.1 := by decide +kernel
theorem tyX7_ok : ∀ k, k < 7 → parseFieldDescriptor (TX7 k).2.2.1 = some (tyX7 k) := by decide +kernel
def RX8 : String := "LaneDoors$State"
def TX8 : u_T := fun k => match k with
  | 0 => ("LaneDoors$State", "open", "I", false)
  | 1 => ("LaneDoors$State", "off", "I", false)
  | 2 => ("LaneDoors$State", "right", "I", false)
  | 3 => ("LaneDoors$State", "stock", "I", false)
  | 4 => ("LaneDoors$State", "day", "I", false)
  | 5 => ("LaneDoors$State", "seed", "I", false)
  | _ => ("LaneDoors$State", "times", "[I", true)
def tyX8 : Nat → FieldType := fun k => match k with
  | 0 => .int
  | 1 => .int
  | 2 => .int
  | 3 => .int
  | 4 => .int
  | 5 => .int
  | _ => .array .int
theorem nmX8 : ∀ a, a < 7 → ∀ b, b < 7 → a ≠ b → (TX8 a).2.1 ≠ (TX8 b).2.1 := by decide +kernel
theorem tyX8_ok : ∀ k, k < 7 → parseFieldDescriptor (TX8 k).2.2.1 = some (tyX8 k) := by decide +kernel
def RX9 : String := "LaneDoors$Streets"
def TX9 : u_T := fun k => match k with
  | 0 => ("LaneDoors$Streets", "free", "[I", true)
  | 1 => ("LaneDoors$Streets", "steps", "[I", true)
  | 2 => ("LaneDoors$Streets", "queue", "[I", true)
  | 3 => ("LaneDoors$Streets", "queued", "I", false)
  | _ => ("LaneDoors$Streets", "parts", "I", false)
def tyX9 : Nat → FieldType := fun k => match k with
  | 0 => .array .int
  | 1 => .array .int
  | 2 => .array .int
  | 3 => .int
  | _ => .int
theorem nmX9 : ∀ a, a < 5 → ∀ b, b < 5 → a ≠ b → (TX9 a).2.1 ≠ (TX9 b).2.1 := by decide +kernel
theorem tyX9_ok : ∀ k, k < 5 → parseFieldDescriptor (TX9 k).2.2.1 = some (tyX9 k) := by decide +kernel
def RX10 : String := "LaneDoors$Tape"
def TX10 : u_T := fun k => match k with
  | 0 => ("LaneDoors$Tape", "bytes", "[B", true)
  | _ => ("LaneDoors$Tape", "length", "I", false)
def tyX10 : Nat → FieldType := fun k => match k with
  | 0 => .array .byte
  | _ => .int
theorem nmX10 : ∀ a, a < 2 → ∀ b, b < 2 → a ≠ b → (TX10 a).2.1 ≠ (TX10 b).2.1 := by decide +kernel
theorem tyX10_ok : ∀ k, k < 2 → parseFieldDescriptor (TX10 k).2.2.1 = some (tyX10 k) := by decide +kernel
def RX11 : String := "LaneDoors"
def TX11 : u_T := fun k => match k with
  | 0 => ("LaneDoors", "tape", "LLaneDoors$Tape;", true)
  | 1 => ("LaneDoors", "reader", "LLaneDoors$Reader;", true)
  | 2 => ("LaneDoors", "history", "LLaneDoors$History;", true)
  | 3 => ("LaneDoors", "trial", "LLaneDoors$State;", true)
  | 4 => ("LaneDoors", "boxes", "[LLaneDoors$State;", true)
  | 5 => ("LaneDoors", "hearsay", "LLaneDoors$Hearsay;", true)
  | 6 => ("LaneDoors", "opener", "LLaneDoors$Opener;", true)
  | 7 => ("LaneDoors", "streets", "LLaneDoors$Streets;", true)
  | 8 => ("LaneDoors", "pile", "LLaneDoors$Pile;", true)
  | 9 => ("LaneDoors", "plan", "LLaneDoors$Plan;", false)
  | 10 => ("LaneDoors", "now", "LLaneDoors$State;", false)
  | _ => ("LaneDoors", "boxesKept", "I", false)
def tyX11 : Nat → FieldType := fun k => match k with
  | 0 => .object "LaneDoors$Tape"
  | 1 => .object "LaneDoors$Reader"
  | 2 => .object "LaneDoors$History"
  | 3 => .object "LaneDoors$State"
  | 4 => .array (.object "LaneDoors$State")
  | 5 => .object "LaneDoors$Hearsay"
  | 6 => .object "LaneDoors$Opener"
  | 7 => .object "LaneDoors$Streets"
  | 8 => .object "LaneDoors$Pile"
  | 9 => .object "LaneDoors$Plan"
  | 10 => .object "LaneDoors$State"
  | _ => .int
theorem nmX11 : ∀ a, a < 12 → ∀ b, b < 12 → a ≠ b → (TX11 a).2.1 ≠ (TX11 b).2.1 := by decide +kernel
theorem tyX11_ok : ∀ k, k < 12 → parseFieldDescriptor (TX11 k).2.2.1 = some (tyX11 k) := by decide +kernel
def RX12 : String := "LaneDoorsModel"
def TX12 : u_T := fun k => match k with
  | 0 => ("LaneDoorsModel", "tape", "[B", true)
  | 1 => ("LaneDoorsModel", "text", "[B", true)
  | 2 => ("LaneDoorsModel", "taped", "I", false)
  | 3 => ("LaneDoorsModel", "size", "I", false)
  | 4 => ("LaneDoorsModel", "faultKind", "I", false)
  | 5 => ("LaneDoorsModel", "faultPlace", "I", false)
  | 6 => ("LaneDoorsModel", "at", "I", false)
  | 7 => ("LaneDoorsModel", "end", "I", false)
  | 8 => ("LaneDoorsModel", "token", "I", false)
  | 9 => ("LaneDoorsModel", "number", "I", false)
  | 10 => ("LaneDoorsModel", "name", "J", false)
  | 11 => ("LaneDoorsModel", "lanes", "[I", true)
  | 12 => ("LaneDoorsModel", "doors", "[I", true)
  | 13 => ("LaneDoorsModel", "corners", "[I", true)
  | 14 => ("LaneDoorsModel", "units", "[I", true)
  | 15 => ("LaneDoorsModel", "stock", "[I", true)
  | 16 => ("LaneDoorsModel", "draw", "[I", true)
  | 17 => ("LaneDoorsModel", "longOf", "[I", true)
  | 18 => ("LaneDoorsModel", "wideOf", "[I", true)
  | 19 => ("LaneDoorsModel", "laneOf", "[I", true)
  | 20 => ("LaneDoorsModel", "placeOf", "[I", true)
  | 21 => ("LaneDoorsModel", "broadOf", "[I", true)
  | 22 => ("LaneDoorsModel", "oneLane", "[I", true)
  | 23 => ("LaneDoorsModel", "onePlace", "[I", true)
  | 24 => ("LaneDoorsModel", "otherLane", "[I", true)
  | 25 => ("LaneDoorsModel", "otherPlace", "[I", true)
  | 26 => ("LaneDoorsModel", "ruleFrom", "[I", true)
  | 27 => ("LaneDoorsModel", "ruleTo", "[I", true)
  | 28 => ("LaneDoorsModel", "toldOpen", "[I", true)
  | 29 => ("LaneDoorsModel", "toldRight", "[I", true)
  | 30 => ("LaneDoorsModel", "southern", "[I", true)
  | 31 => ("LaneDoorsModel", "loose", "[I", true)
  | 32 => ("LaneDoorsModel", "tied", "[I", true)
  | 33 => ("LaneDoorsModel", "isStock", "[Z", true)
  | 34 => ("LaneDoorsModel", "isDraw", "[Z", true)
  | 35 => ("LaneDoorsModel", "hasOil", "[Z", true)
  | 36 => ("LaneDoorsModel", "lName", "[J", true)
  | 37 => ("LaneDoorsModel", "dName", "[J", true)
  | 38 => ("LaneDoorsModel", "code", "[I", true)
  | 39 => ("LaneDoorsModel", "codeNumber", "[I", true)
  | 40 => ("LaneDoorsModel", "eWhat", "[I", true)
  | 41 => ("LaneDoorsModel", "eSign", "[I", true)
  | 42 => ("LaneDoorsModel", "pile", "[I", true)
  | 43 => ("LaneDoorsModel", "bank", "I", false)
  | 44 => ("LaneDoorsModel", "rb", "I", false)
  | 45 => ("LaneDoorsModel", "codes", "I", false)
  | 46 => ("LaneDoorsModel", "within", "I", false)
  | 47 => ("LaneDoorsModel", "piled", "I", false)
  | 48 => ("LaneDoorsModel", "unitsInRule", "I", false)
  | 49 => ("LaneDoorsModel", "all", "[I", true)
  | 50 => ("LaneDoorsModel", "hinderers", "[I", true)
  | 51 => ("LaneDoorsModel", "was", "[I", true)
  | 52 => ("LaneDoorsModel", "acts", "I", false)
  | 53 => ("LaneDoorsModel", "undone", "I", false)
  | 54 => ("LaneDoorsModel", "ways", "[I", true)
  | 55 => ("LaneDoorsModel", "ahead", "[I", true)
  | 56 => ("LaneDoorsModel", "laidRow", "[I", true)
  | 57 => ("LaneDoorsModel", "laid", "I", false)
  | 58 => ("LaneDoorsModel", "comesTo", "[Z", true)
  | 59 => ("LaneDoorsModel", "steps", "[I", true)
  | 60 => ("LaneDoorsModel", "queue", "[I", true)
  | 61 => ("LaneDoorsModel", "queued", "I", false)
  | 62 => ("LaneDoorsModel", "isMet", "[Z", true)
  | 63 => ("LaneDoorsModel", "wins", "[Z", true)
  | 64 => ("LaneDoorsModel", "hOne", "[I", true)
  | 65 => ("LaneDoorsModel", "hOther", "[I", true)
  | 66 => ("LaneDoorsModel", "hTold", "[I", true)
  | 67 => ("LaneDoorsModel", "hUntold", "[I", true)
  | 68 => ("LaneDoorsModel", "sounds", "I", false)
  | 69 => ("LaneDoorsModel", "time", "I", false)
  | 70 => ("LaneDoorsModel", "boxAll", "[I", true)
  | _ => ("LaneDoorsModel", "isBoxed", "[Z", true)
def tyX12 : Nat → FieldType := fun k => match k with
  | 0 => .array .byte
  | 1 => .array .byte
  | 2 => .int
  | 3 => .int
  | 4 => .int
  | 5 => .int
  | 6 => .int
  | 7 => .int
  | 8 => .int
  | 9 => .int
  | 10 => .long
  | 11 => .array .int
  | 12 => .array .int
  | 13 => .array .int
  | 14 => .array .int
  | 15 => .array .int
  | 16 => .array .int
  | 17 => .array .int
  | 18 => .array .int
  | 19 => .array .int
  | 20 => .array .int
  | 21 => .array .int
  | 22 => .array .int
  | 23 => .array .int
  | 24 => .array .int
  | 25 => .array .int
  | 26 => .array .int
  | 27 => .array .int
  | 28 => .array .int
  | 29 => .array .int
  | 30 => .array .int
  | 31 => .array .int
  | 32 => .array .int
  | 33 => .array .boolean
  | 34 => .array .boolean
  | 35 => .array .boolean
  | 36 => .array .long
  | 37 => .array .long
  | 38 => .array .int
  | 39 => .array .int
  | 40 => .array .int
  | 41 => .array .int
  | 42 => .array .int
  | 43 => .int
  | 44 => .int
  | 45 => .int
  | 46 => .int
  | 47 => .int
  | 48 => .int
  | 49 => .array .int
  | 50 => .array .int
  | 51 => .array .int
  | 52 => .int
  | 53 => .int
  | 54 => .array .int
  | 55 => .array .int
  | 56 => .array .int
  | 57 => .int
  | 58 => .array .boolean
  | 59 => .array .int
  | 60 => .array .int
  | 61 => .int
  | 62 => .array .boolean
  | 63 => .array .boolean
  | 64 => .array .int
  | 65 => .array .int
  | 66 => .array .int
  | 67 => .array .int
  | 68 => .int
  | 69 => .int
  | 70 => .array .int
  | _ => .array .boolean
theorem nmX12 : ∀ a, a < 72 → ∀ b, b < 72 → a ≠ b → (TX12 a).2.1 ≠ (TX12 b).2.1 := by decide +kernel
theorem tyX12_ok : ∀ k, k < 72 → parseFieldDescriptor (TX12 k).2.2.1 = some (tyX12 k) := by decide +kernel
abbrev vwCl : List vw_C := [(RX0, TX0, 5), (RX1, TX1, 6), (RX2, TX2, 4), (RX3, TX3, 7), (RX4, TX4, 7), (RX5, TX5, 2), (RX6, TX6, 18), (RX7, TX7, 7), (RX8, TX8, 7), (RX9, TX9, 5), (RX10, TX10, 2), (RX11, TX11, 12), (RX12, TX12, 72)]
end
section
/-! A walker over numbers: values are (kind, n, m); it runs the class's bytecode on a world whose numbers are known or lie in an interval -/
abbrev zx_V : Type := Nat × Nat × Nat
abbrev zx_L : Type := List (Nat × Nat)
abbrev zx_C : Type := Nat × Nat × Nat × Nat × List zx_V
abbrev zx_E : Type := Nat × Instr × Nat × Nat × Nat
abbrev zx_M : Type := (MethodName × ByteArray × Nat × Option FieldType) × (Nat × Nat × Nat × Nat × Nat) × List (Nat × List zx_E)
abbrev zx_F : Type := zx_M × Nat × Nat × List (Nat × zx_V) × List zx_V × Nat × Nat
noncomputable def zx_fn (n : Nat) (k : Nat → Bool) : Bool := @Nat.rec (fun _ => Bool) (k 0) (fun m _ => k (Nat.succ m)) n
theorem zx_fn_eq (n : Nat) (k : Nat → Bool) : zx_fn n k = k n := by cases n <;> rfl
noncomputable def zx_fl {α : Type} (l : List α) (k : List α → Bool) : Bool := @List.rec α (fun _ => (List α → Bool) → Bool) (fun k => k []) (fun a _ ih k => ih (fun t => k (a :: t))) l k
theorem zx_fl_eq {α : Type} (l : List α) : ∀ (k : List α → Bool), zx_fl l k = k l := by
  induction l with
  | nil => intro k; rfl
  | cons a l ih => intro k; exact ih (fun t => k (a :: t))
def zx_at (c : List (Nat × List zx_E)) (pc : Nat) : Option zx_E := match c with
  | [] => none
  | (h, es) :: r => bif Nat.blt pc h then es.find? (fun q => Nat.beq q.1 pc) else zx_at r pc
theorem zx_at_in : ∀ (c : List (Nat × List zx_E)) (pc : Nat) (q : zx_E), zx_at c pc = some q → q.1 = pc ∧ ∃ r ∈ c, q ∈ r.2 := by
  intro c
  induction c with
  | nil => intro pc q h; cases h
  | cons a c ih =>
    intro pc q h
    obtain ⟨hh, es⟩ := a
    unfold zx_at at h
    cases hb : Nat.blt pc hh with
    | true =>
      rw [hb] at h
      have h1 : es.find? (fun q => Nat.beq q.1 pc) = some q := h
      exact ⟨Nat.eq_of_beq_eq_true (List.find?_some (p := fun q : zx_E => Nat.beq q.1 pc) h1), (hh, es), List.mem_cons_self, List.mem_of_find?_eq_some h1⟩
    | false =>
      rw [hb] at h
      obtain ⟨h1, r, h2, h3⟩ := ih pc q h
      exact ⟨h1, r, List.mem_cons_of_mem _ h2, h3⟩
/-! numbers -/
def zx_bi (n : Nat) : Nat := (n + 2147483648) % 4294967296
def zx_bz (x : Int32) : Nat := (x.toInt + 2147483648).toNat
theorem zx_rg (x : Int32) : -2147483648 ≤ x.toInt ∧ x.toInt < 2147483648 := ⟨Int32.le_toInt x, Int32.toInt_lt x⟩
theorem zx_bz_int (x : Int32) : (zx_bz x : Int) = x.toInt + 2147483648 := by
  have := zx_rg x
  unfold zx_bz
  omega
theorem zx_bz_lt (x : Int32) : zx_bz x < 4294967296 := by
  have h1 := zx_bz_int x
  have := zx_rg x
  omega
theorem zx_lt (x y : Int32) : x < y ↔ zx_bz x < zx_bz y := by
  rw [Int32.lt_iff_toInt_lt]
  have h1 := zx_bz_int x
  have h2 := zx_bz_int y
  omega
theorem zx_eq (x y : Int32) : x = y ↔ zx_bz x = zx_bz y := by
  rw [← Int32.toInt_inj]
  have h1 := zx_bz_int x
  have h2 := zx_bz_int y
  omega
theorem zx_le (x y : Int32) : x ≤ y ↔ zx_bz x ≤ zx_bz y := by
  rw [Int32.le_iff_toInt_le]
  have h1 := zx_bz_int x
  have h2 := zx_bz_int y
  omega
theorem zx_nI_int (n : Nat) (h : n < 4294967296) : (nI n).toInt = if n < 2147483648 then (n : Int) else (n : Int) - 4294967296 := by
  have h1 : (nI n).toInt = (nI n).toBitVec.toInt := rfl
  rw [h1, BitVec.toInt_eq_toNat_cond, pk_tn (by omega)]
  split <;> split <;> omega
theorem zx_bz_nI (n : Nat) (h : n < 4294967296) : zx_bz (nI n) = zx_bi n := by
  have h1 := zx_bz_int (nI n)
  rw [zx_nI_int n h] at h1
  unfold zx_bi
  split at h1 <;> omega
theorem zx_of_bz (x : Int32) : x = nI (zx_bi (zx_bz x)) := by
  have hl := zx_bz_lt x
  have h0 : zx_bi (zx_bz x) < 4294967296 := Nat.mod_lt _ (by decide)
  rw [zx_eq, zx_bz_nI _ h0]
  unfold zx_bi
  omega
theorem zx_md (n : Nat) : nI (n % 4294967296) = nI n := by
  have h : ∀ k : Nat, (nI k).toBitVec = BitVec.ofNat 32 k := fun k => rfl
  apply Int32.toBitVec_inj.mp
  rw [h, h]
  apply BitVec.eq_of_toNat_eq
  simp
end
section
/-! the walker itself -/
def zx_ii (a : zx_V) : Bool := match a.1 with
  | 0 => true
  | 1 => true
  | 7 => true
  | _ => false
def zx_jj (a : zx_V) : Bool := match a.1 with
  | 4 => true
  | 5 => true
  | _ => false
def zx_ct (a : zx_V) : Nat := bif zx_jj a then 2 else 1
def zx_rr (a : zx_V) : Bool := match a.1 with
  | 2 => true
  | 3 => true
  | 6 => true
  | 8 => true
  | _ => false
def zx_iv (e : zx_L) (a : zx_V) : Option (Nat × Nat) := match a with
  | (0, n, _) => some (zx_bi n, zx_bi n)
  | (1, k, _) => e[k]?
  | (7, l, h) => some (l, h)
  | _ => none
noncomputable def zx_no (e : zx_L) (a : zx_V) (k : zx_V → Bool) : Bool := match a with
  | (1, i, z) => match e[i]? with
    | some (l, h) => bif Nat.beq l h then zx_fn (zx_bi l) (fun n => k (0, n, 0)) else k (1, i, z)
    | none => k (1, i, z)
  | (7, l, h) => bif Nat.beq l h then zx_fn (zx_bi l) (fun n => k (0, n, 0)) else k (7, l, h)
  | a => k a
def zx_lk (lo : List (Nat × zx_V)) (i : Nat) : Option zx_V := match lo with
  | [] => none
  | (j, a) :: r => bif Nat.beq j i then some a else zx_lk r i
def zx_ld (lo : List (Nat × zx_V)) (i : Nat) (p : zx_V → Bool) (k : zx_V → Bool) : Bool := match zx_lk lo i with
  | some a => bif p a then k a else false
  | none => false
def zx_p1 (lo : List (Nat × zx_V)) (i : Nat) (a : zx_V) : List (Nat × zx_V) := (i, a) :: lo.filter (fun q => !(q.1 == i) && !(q.1 + 1 == i && zx_ct q.2 == 2))
def zx_p2 (lo : List (Nat × zx_V)) (i : Nat) (a : zx_V) : List (Nat × zx_V) := (i, a) :: lo.filter (fun q => !(q.1 == i) && (!(q.1 == i + 1) && !(q.1 + 1 == i && zx_ct q.2 == 2)))
noncomputable def zx_st1 (mx : Nat) (lo : List (Nat × zx_V)) (i : Nat) (st : List zx_V) (p : zx_V → Bool) (k : List (Nat × zx_V) → List zx_V → Bool) : Bool := match st with
  | a :: st => bif p a && Nat.blt i mx then zx_fl (zx_p1 lo i a) (fun lo => k lo st) else false
  | [] => false
/-- two numbers that are known -/
def zx_cb (op x y : Nat) : Nat := match op with
  | 0 => (x + y) % 4294967296
  | 1 => (x + (4294967296 - y)) % 4294967296
  | 2 => (x * y) % 4294967296
  | 3 => x &&& y
  | 4 => x ||| y
  | _ => x ^^^ y
def zx_cs (op x y : Nat) : Nat := match op with
  | 6 => (x * 2 ^ y) % 4294967296
  | 7 => bif Nat.blt x 2147483648 then x / 2 ^ y else 4294967295 - (4294967295 - x) / 2 ^ y
  | _ => x / 2 ^ y
def zx_un : zx_V := (7, 0, 4294967295)
noncomputable def zx_b2 (op : Nat) (a b : zx_V) (k : zx_V → Bool) : Bool := match a, b with
  | (0, x, _), (0, y, _) => zx_fn (zx_cb op x y) (fun n => k (0, n, 0))
  | a, b => bif zx_ii a && zx_ii b then k zx_un else false
/-- 0 and a number, a number and 0 -/
noncomputable def zx_ad (a b : zx_V) (k : zx_V → Bool) : Bool := match a, b with
  | (0, 0, _), (1, i, z) => k (1, i, z)
  | (1, i, z), (0, 0, _) => k (1, i, z)
  | a, b => zx_b2 0 a b k
noncomputable def zx_an (a b : zx_V) (k : zx_V → Bool) : Bool := match a, b with
  | (1, 0, _), (0, 63, _) => k (1, 7, 0)
  | (1, i, z), (0, 4294967295, _) => k (1, i, z)
  | a, b => zx_b2 3 a b k
noncomputable def zx_sh (op : Nat) (a b : zx_V) (k : zx_V → Bool) : Bool := match a, b with
  | (0, x, _), (0, y, _) => bif Nat.blt y 32 then zx_fn (zx_cs op x y) (fun n => k (0, n, 0)) else false
  | a, b => bif zx_ii a && zx_ii b then k zx_un else false
noncomputable def zx_sr (a b : zx_V) (k : zx_V → Bool) : Bool := match a, b with
  | (0, 0, z), (1, _, _) => k (0, 0, z)
  | a, b => zx_sh 7 a b k
noncomputable def zx_dv (op : Nat) (a b : zx_V) (k : zx_V → Bool) : Bool := match a, b with
  | (0, x, _), (0, y, _) => bif Nat.blt x 2147483648 && (Nat.blt 0 y && Nat.blt y 2147483648) then zx_fn (bif Nat.beq op 0 then x / y else x % y) (fun n => k (0, n, 0)) else false
  | _, _ => false
/-- which way a comparison goes: all that it can be, with what is known then -/
def zx_lts (e : zx_L) (a b : zx_V) (l1 h1 l2 h2 : Nat) : List (Bool × zx_L) :=
  bif Nat.blt h1 l2 then [(true, e)] else bif Nat.ble h2 l1 then [(false, e)] else
  bif Nat.beq a.1 1 && Nat.beq l2 h2 then [(true, e.set a.2.1 (l1, l2 - 1)), (false, e.set a.2.1 (l2, h1))] else
  bif Nat.beq b.1 1 && Nat.beq l1 h1 then [(true, e.set b.2.1 (l1 + 1, h2)), (false, e.set b.2.1 (l2, l1))] else [(true, e), (false, e)]
def zx_eqs (e : zx_L) (a b : zx_V) (l1 h1 l2 h2 : Nat) : List (Bool × zx_L) :=
  bif Nat.blt h1 l2 || Nat.blt h2 l1 then [(false, e)] else bif Nat.beq l1 h1 && Nat.beq l2 h2 then [(true, e)] else
  bif Nat.beq a.1 1 && (Nat.beq b.1 1 && Nat.beq a.2.1 b.2.1) then [(true, e)] else
  bif Nat.beq a.1 1 && Nat.beq l2 h2 then (true, e.set a.2.1 (l2, l2)) :: ((bif Nat.blt l1 l2 then [(false, e.set a.2.1 (l1, l2 - 1))] else []) ++ (bif Nat.blt l2 h1 then [(false, e.set a.2.1 (l2 + 1, h1))] else [])) else
  bif Nat.beq b.1 1 && Nat.beq l1 h1 then (true, e.set b.2.1 (l1, l1)) :: ((bif Nat.blt l2 l1 then [(false, e.set b.2.1 (l2, l1 - 1))] else []) ++ (bif Nat.blt l1 h2 then [(false, e.set b.2.1 (l1 + 1, h2))] else [])) else [(true, e), (false, e)]
def zx_cmp (c : ClassFile.Cond) (e : zx_L) (a b : zx_V) : Option (List (Bool × zx_L)) := match zx_iv e a, zx_iv e b with
  | some (l1, h1), some (l2, h2) => some (match c with
    | .lt => zx_lts e a b l1 h1 l2 h2
    | .ge => (zx_lts e a b l1 h1 l2 h2).map (fun q => (!q.1, q.2))
    | .gt => zx_lts e b a l2 h2 l1 h1
    | .le => (zx_lts e b a l2 h2 l1 h1).map (fun q => (!q.1, q.2))
    | .eq => zx_eqs e a b l1 h1 l2 h2
    | .ne => (zx_eqs e a b l1 h1 l2 h2).map (fun q => (!q.1, q.2)))
  | _, _ => none
noncomputable def zx_fe (e : zx_L) (k : zx_L → Bool) : Bool := zx_fl e k
noncomputable def zx_jmp (pc np : Nat) (off : Int) (alts : Option (List (Bool × zx_L))) (k : Nat → zx_L → Bool) : Bool := match alts with
  | none => false
  | some l => bif decide (0 ≤ (pc : Int) + off) then zx_fn ((pc : Int) + off).toNat (fun t => l.all (fun q => zx_fl q.2 (fun e => bif q.1 then k t e else k np e))) else false
/-- array places -/
def zx_dg (c j : Nat) : Nat := Nat.shiftRight c (32 * j) % 4294967296
def zx_sd (c j x : Nat) : Nat := Nat.xor c (Nat.shiftLeft (Nat.xor (zx_dg c j) x) (32 * j))
/-- a place of an array of n: known, or surely within -/
def zx_in (e : zx_L) (i : zx_V) (n : Nat) : Bool := match zx_iv e i with
  | some (l, h) => Nat.ble 2147483648 l && Nat.blt h (n + 2147483648)
  | none => false
noncomputable def zx_split (e : zx_L) (i : Nat) (k : zx_L → Bool) : Bool := match e[i]? with
  | some (l, h) => bif Nat.blt h (l + 4) then (List.range (h + 1 - l)).all (fun d => zx_fn (l + d) (fun v => zx_fl (e.set i (v, v)) k)) else false
  | none => false
def zx_nr (t x : Nat) : Nat := match t with
  | 0 => x
  | 1 => bif Nat.blt (x % 256) 128 then x % 256 else (x % 256) + 4294967040
  | _ => x % 2
end
section
/-! what the walker's values stand for -/
def zx_r (ads : List Nat) (ex : Nat → Nat) (nu : Nat → Int32) (a : zx_V) (v : Value) : Prop := match a.1 with
  | 0 => v = .int (nI a.2.1) ∧ a.2.1 < 4294967296
  | 1 => v = .int (nu a.2.1)
  | 2 => ∃ q, ads[a.2.1]? = some q ∧ v = .ref q
  | 3 => v = .null
  | 4 => v = .long (lN a.2.1)
  | 5 => ∃ x, v = .long x
  | 6 => v = .ref (ex a.2.1)
  | 7 => ∃ x, v = .int x ∧ a.2.1 ≤ zx_bz x ∧ zx_bz x ≤ a.2.2
  | 8 => v = .null ∨ ∃ q, v = .ref q
  | _ => False
def zx_ev (nu : Nat → Int32) (e : zx_L) : Prop := ∀ (k : Nat) (q : Nat × Nat), e[k]? = some q → q.1 ≤ zx_bz (nu k) ∧ zx_bz (nu k) ≤ q.2
section ZR
variable {ads : List Nat} {ex : Nat → Nat} {nu : Nat → Int32} {e : zx_L}
theorem zx_r_c {n : Nat} (z : Nat) (h : n < 4294967296) : zx_r ads ex nu (0, n, z) (.int (nI n)) := ⟨rfl, h⟩
theorem zx_r_un (x : Int32) : zx_r ads ex nu zx_un (.int x) := ⟨x, rfl, Nat.zero_le _, Nat.le_of_lt_succ (zx_bz_lt x)⟩
/-- an int: its value, and its interval -/
theorem zx_r_i {a : zx_V} {v : Value} (hi : zx_ii a = true) (h : zx_r ads ex nu a v) : ∃ x : Int32, v = .int x := by
  obtain ⟨t, n, m⟩ := a
  match t, hi, h with
  | 0, _, h => exact ⟨_, h.1⟩
  | 1, _, h => exact ⟨_, h⟩
  | 7, _, h => exact ⟨_, h.choose_spec.1⟩
theorem zx_r_iv {a : zx_V} {v : Value} {q : Nat × Nat} (he : zx_ev nu e) (hi : zx_iv e a = some q) (h : zx_r ads ex nu a v) : ∃ x : Int32, v = .int x ∧ q.1 ≤ zx_bz x ∧ zx_bz x ≤ q.2 ∧ (a.1 = 1 → x = nu a.2.1) := by
  obtain ⟨t, n, m⟩ := a
  match t, hi, h with
  | 0, hi, h =>
    obtain ⟨h1, h2⟩ := h
    have hi : some (zx_bi n, zx_bi n) = some q := hi
    have hq := Option.some.inj hi
    subst hq
    refine ⟨_, h1, ?_, ?_, fun z => by cases z⟩ <;> rw [zx_bz_nI _ h2] <;> exact Nat.le_refl _
  | 1, hi, h =>
    have h2 := he n q hi
    exact ⟨_, h, h2.1, h2.2, fun _ => rfl⟩
  | 7, hi, h =>
    obtain ⟨x, h1, h2, h3⟩ := h
    have hi : some (n, m) = some q := hi
    have hq := Option.some.inj hi
    subst hq
    exact ⟨x, h1, h2, h3, fun z => by cases z⟩
theorem zx_r_j {a : zx_V} {v : Value} (hi : zx_jj a = true) (h : zx_r ads ex nu a v) : ∃ x : Int64, v = .long x := by
  obtain ⟨t, n, m⟩ := a
  match t, hi, h with
  | 4, _, h => exact ⟨_, h⟩
  | 5, _, h => exact h
theorem zx_r_r {a : zx_V} {v : Value} (hi : zx_rr a = true) (h : zx_r ads ex nu a v) : v = .null ∨ ∃ q, v = .ref q := by
  obtain ⟨t, n, m⟩ := a
  match t, hi, h with
  | 2, _, h => exact Or.inr ⟨_, h.choose_spec.2⟩
  | 3, _, h => exact Or.inl h
  | 6, _, h => exact Or.inr ⟨_, h⟩
  | 8, _, h => exact h
theorem zx_r_cat {a : zx_V} {v : Value} (h : zx_r ads ex nu a v) : v.category = zx_ct a := by
  obtain ⟨t, n, m⟩ := a
  match t, h with
  | 0, h => rw [h.1]; rfl
  | 1, h => rw [show v = .int (nu n) from h]; rfl
  | 2, h => obtain ⟨q, -, rfl⟩ := h; rfl
  | 3, h => rw [show v = .null from h]; rfl
  | 4, h => rw [show v = .long (lN n) from h]; rfl
  | 5, h => obtain ⟨q, rfl⟩ := h; rfl
  | 6, h => rw [show v = .ref (ex n) from h]; rfl
  | 7, h => obtain ⟨q, rfl, -⟩ := h; rfl
  | 8, h => rcases h with rfl | ⟨q, rfl⟩ <;> rfl
  | (k + 9), h => exact h.elim
theorem zx_r_mono {ads' : List Nat} (hp : ∀ (i q : Nat), ads[i]? = some q → ads'[i]? = some q) {a : zx_V} {v : Value} (h : zx_r ads ex nu a v) : zx_r ads' ex nu a v := by
  obtain ⟨t, n, m⟩ := a
  match t, h with
  | 0, h => exact h
  | 1, h => exact h
  | 2, h => obtain ⟨q, h1, h2⟩ := h; exact ⟨q, hp _ _ h1, h2⟩
  | 3, h => exact h
  | 4, h => exact h
  | 5, h => exact h
  | 6, h => exact h
  | 7, h => exact h
  | 8, h => exact h
  | (k + 9), h => exact h.elim
/-- a value as it is known now -/
theorem zx_no_s (he : zx_ev nu e) {a : zx_V} {v : Value} (h : zx_r ads ex nu a v) {k : zx_V → Bool} (hk : zx_no e a k = true) : ∃ a' : zx_V, zx_r ads ex nu a' v ∧ k a' = true := by
  obtain ⟨t, n, m⟩ := a
  match t, h, hk with
  | 0, h, hk => exact ⟨_, h, hk⟩
  | 1, h, hk =>
    unfold zx_no at hk
    cases hq : e[n]? with
    | none => simp only [hq] at hk; exact ⟨_, h, hk⟩
    | some q =>
      obtain ⟨l, hh⟩ := q
      simp only [hq] at hk
      cases hb : Nat.beq l hh with
      | false => rw [hb] at hk; exact ⟨_, h, hk⟩
      | true =>
        rw [hb, cond_true, zx_fn_eq] at hk
        have h1 := Nat.eq_of_beq_eq_true hb
        have h2 := he n _ hq
        have h3 : zx_bz (nu n) = l := by have := h2.1; have := h2.2; simp only at *; omega
        refine ⟨(0, zx_bi l, 0), ⟨?_, Nat.mod_lt _ (by decide)⟩, hk⟩
        rw [show v = .int (nu n) from h, ← h3]
        exact congrArg Value.int (zx_of_bz (nu n))
  | 2, h, hk => exact ⟨_, h, hk⟩
  | 3, h, hk => exact ⟨_, h, hk⟩
  | 4, h, hk => exact ⟨_, h, hk⟩
  | 5, h, hk => exact ⟨_, h, hk⟩
  | 6, h, hk => exact ⟨_, h, hk⟩
  | 7, h, hk =>
    have hk : (bif Nat.beq n m then zx_fn (zx_bi n) (fun n => k (0, n, 0)) else k (7, n, m)) = true := hk
    cases hb : Nat.beq n m with
    | false => rw [hb] at hk; exact ⟨_, h, hk⟩
    | true =>
      rw [hb, cond_true, zx_fn_eq] at hk
      have h1 := Nat.eq_of_beq_eq_true hb
      obtain ⟨x, hx, h2, h3⟩ := h
      have h4 : zx_bz x = n := by simp only at *; omega
      refine ⟨(0, zx_bi n, 0), ⟨?_, Nat.mod_lt _ (by decide)⟩, hk⟩
      rw [hx, ← h4]
      exact congrArg Value.int (zx_of_bz x)
  | 8, h, hk => exact ⟨_, h, hk⟩
  | (k + 9), h, _ => exact h.elim
end ZR
end
section
/-! the walker's arithmetic is the machine's -/
theorem zx_and (a b : Nat) : nI a &&& nI b = nI (a &&& b) := by
  apply Int32.toBitVec_inj.1
  show BitVec.ofNat 32 a &&& BitVec.ofNat 32 b = BitVec.ofNat 32 (a &&& b)
  apply BitVec.eq_of_getLsbD_eq
  intro i hi
  simp [hi]
theorem zx_or (a b : Nat) : nI a ||| nI b = nI (a ||| b) := by
  apply Int32.toBitVec_inj.1
  show BitVec.ofNat 32 a ||| BitVec.ofNat 32 b = BitVec.ofNat 32 (a ||| b)
  apply BitVec.eq_of_getLsbD_eq
  intro i hi
  simp [hi]
theorem zx_xor (a b : Nat) : nI a ^^^ nI b = nI (a ^^^ b) := by
  apply Int32.toBitVec_inj.1
  show BitVec.ofNat 32 a ^^^ BitVec.ofNat 32 b = BitVec.ofNat 32 (a ^^^ b)
  apply BitVec.eq_of_getLsbD_eq
  intro i hi
  simp [hi]
theorem zx_sl : ∀ n, n < 32 → ((nI n &&& 31).toBitVec.smod 32).toNat = n := by decide +kernel
theorem zx_su : ∀ n, n < 32 → (((nI n).toUInt32 &&& Int32.toUInt32 31).toBitVec % 32).toNat = n := by decide +kernel
theorem zx_sub (x y : Nat) (hy : y < 4294967296) : nI x - nI y = nI ((x + (4294967296 - y)) % 4294967296) := by
  rw [zx_md]
  have h : nI x = nI (x + (4294967296 - y)) + nI y := by
    rw [nI_add, ← zx_md x, ← zx_md (x + (4294967296 - y) + y)]
    congr 1
    omega
  rw [h, Int32.add_sub_cancel]
theorem zx_cb_lt (op x y : Nat) (hx : x < 4294967296) (hy : y < 4294967296) : zx_cb op x y < 4294967296 := by
  match op with
  | 0 => exact Nat.mod_lt _ (by decide)
  | 1 => exact Nat.mod_lt _ (by decide)
  | 2 => exact Nat.mod_lt _ (by decide)
  | 3 => exact Nat.and_lt_two_pow (n := 32) x hy
  | 4 => exact Nat.or_lt_two_pow (n := 32) hx hy
  | (k + 5) => exact Nat.xor_lt_two_pow (n := 32) hx hy
theorem zx_shl (x y : Nat) (hx : x < 4294967296) (hy : y < 32) : nI x <<< (nI y &&& 31) = nI (zx_cs 6 x y) := by
  apply Int32.toBitVec_inj.1
  apply BitVec.eq_of_toNat_eq
  rw [pk_shl (nI x) (nI y &&& 31) y (zx_sl y hy), pk_tn (by omega)]
  show _ = (nI ((x * 2 ^ y) % 4294967296)).toBitVec.toNat
  rw [pk_tn (Nat.mod_lt _ (by decide))]
theorem zx_cs_lt (op x y : Nat) (hx : x < 4294967296) : zx_cs op x y < 4294967296 := by
  have hd : x / 2 ^ y ≤ x := Nat.div_le_self _ _
  unfold zx_cs
  split
  · exact Nat.mod_lt _ (by decide)
  · cases Nat.blt x 2147483648
    · exact Nat.lt_of_le_of_lt (Nat.sub_le _ _) (by decide)
    · exact Nat.lt_of_le_of_lt hd hx
  · omega
theorem zx_shr (x y : Nat) (hx : x < 4294967296) (hy : y < 32) : nI x >>> (nI y &&& 31) = nI (zx_cs 7 x y) := by
  apply Int32.toInt_inj.1
  have hl := zx_cs_lt 7 x y hx
  have hd : x / 2 ^ y ≤ x := Nat.div_le_self _ _
  rw [pk_shr (nI x) (nI y &&& 31) y (zx_sl y hy), zx_nI_int _ hx, zx_nI_int _ hl, Int.shiftRight_eq_div_pow]
  show _ = if (bif Nat.blt x 2147483648 then x / 2 ^ y else 4294967295 - (4294967295 - x) / 2 ^ y) < 2147483648 then ((bif Nat.blt x 2147483648 then x / 2 ^ y else 4294967295 - (4294967295 - x) / 2 ^ y : Nat) : Int) else ((bif Nat.blt x 2147483648 then x / 2 ^ y else 4294967295 - (4294967295 - x) / 2 ^ y : Nat) : Int) - 4294967296
  by_cases h : x < 2147483648
  · rw [if_pos h, show Nat.blt x 2147483648 = true from decide_eq_true h |> fun _ => Nat.ble_eq_true_of_le h, cond_true, if_pos (by omega)]
    simp
  · have hb : Nat.blt x 2147483648 = false := by
      cases hb : Nat.blt x 2147483648 with
      | false => rfl
      | true => exact absurd (Nat.le_of_ble_eq_true hb) h
    rw [if_neg h, hb, cond_false]
    have hm : (4294967295 - x) / 2 ^ y ≤ 4294967295 - x := Nat.div_le_self _ _
    rw [if_neg (by omega)]
    have e1 : (x : Int) - 4294967296 = Int.negSucc (4294967295 - x) := by omega
    have hp : (0 : Int) < ((2 ^ y : Nat) : Int) := by exact_mod_cast Nat.pow_pos (by decide : 0 < 2)
    rw [e1, Int.negSucc_ediv _ hp]
    have e2 : Int.ediv ((4294967295 - x : Nat) : Int) ((2 ^ y : Nat) : Int) = (((4294967295 - x) / 2 ^ y : Nat) : Int) := rfl
    rw [e2]
    omega
theorem zx_ushr (x y : Nat) (hx : x < 4294967296) (hy : y < 32) : ((nI x).toUInt32 >>> ((nI y).toUInt32 &&& Int32.toUInt32 31)).toInt32 = nI (zx_cs 8 x y) := pk_ushrN (by omega) (nI y) y (zx_su y hy)
/-! array places as digits -/
theorem zx_dg_lt (c j : Nat) : zx_dg c j < 4294967296 := Nat.mod_lt _ (by decide)
theorem zx_sd_same (c j x : Nat) (hx : x < 4294967296) : zx_dg (zx_sd c j x) j = x := by
  show ((c ^^^ ((zx_dg c j ^^^ x) <<< (32 * j))) >>> (32 * j)) % 2 ^ 32 = x
  rw [Nat.shiftRight_xor_distrib, Nat.shiftLeft_shiftRight, Nat.xor_mod_two_pow]
  have h1 : (c >>> (32 * j)) % 2 ^ 32 = zx_dg c j := rfl
  have h2 : (zx_dg c j ^^^ x) % 2 ^ 32 = zx_dg c j ^^^ x := Nat.mod_eq_of_lt (Nat.xor_lt_two_pow (zx_dg_lt c j) hx)
  rw [h1, h2, ← Nat.xor_assoc, Nat.xor_self, Nat.zero_xor]
theorem zx_sd_other (c j x i : Nat) (hx : x < 4294967296) (hij : i ≠ j) : zx_dg (zx_sd c j x) i = zx_dg c i := by
  show ((c ^^^ ((zx_dg c j ^^^ x) <<< (32 * j))) >>> (32 * i)) % 2 ^ 32 = (c >>> (32 * i)) % 2 ^ 32
  have hd : zx_dg c j ^^^ x < 2 ^ 32 := Nat.xor_lt_two_pow (zx_dg_lt c j) hx
  rw [Nat.shiftRight_xor_distrib, Nat.xor_mod_two_pow]
  have hz : ((zx_dg c j ^^^ x) <<< (32 * j)) >>> (32 * i) % 2 ^ 32 = 0 := by
    generalize zx_dg c j ^^^ x = d at hd
    rw [Nat.shiftRight_eq_div_pow, Nat.shiftLeft_eq]
    rcases Nat.lt_or_gt_of_ne hij with h | h
    · have e : 32 * j = 32 * i + (32 + 32 * (j - i - 1)) := by omega
      rw [e, Nat.pow_add, Nat.pow_add, Nat.mul_left_comm, Nat.mul_div_cancel_left _ (Nat.pow_pos (by decide)), ← Nat.mul_assoc, Nat.mul_comm d, Nat.mul_assoc, Nat.mul_mod_right]
    · have e : 32 * i = 32 * j + (32 + 32 * (i - j - 1)) := by omega
      have hlt : d * 2 ^ (32 * j) / 2 ^ (32 * i) = 0 := by
        apply Nat.div_eq_of_lt
        rw [e, Nat.pow_add, Nat.mul_comm]
        refine Nat.mul_lt_mul_of_pos_left ?_ (Nat.pow_pos (by decide))
        exact Nat.lt_of_lt_of_le hd (Nat.pow_le_pow_right (by decide) (by omega))
      rw [hlt]
  rw [hz, Nat.xor_zero]
end
section
/-! what the walker's choices cover -/
section ZO
variable {ads : List Nat} {ex : Nat → Nat} {nu : Nat → Int32} {e : zx_L}
theorem zx_and_b {a b : Bool} (h : (a && b) = true) : a = true ∧ b = true := by cases a <;> cases b <;> simp_all
/-- a number that the walker knows of two that it knows; what the machine makes of them is f -/
theorem zx_b2_s {op : Nat} {f : Int32 → Int32 → Int32} (hf : ∀ x y : Nat, x < 4294967296 → y < 4294967296 → f (nI x) (nI y) = nI (zx_cb op x y)) {a b : zx_V} {x y : Int32} (ha : zx_r ads ex nu a (.int x)) (hb : zx_r ads ex nu b (.int y)) {k : zx_V → Bool} (hk : zx_b2 op a b k = true) :
    ∃ c : zx_V, zx_r ads ex nu c (.int (f x y)) ∧ k c = true := by
  unfold zx_b2 at hk
  split at hk
  · rw [zx_fn_eq] at hk
    obtain ⟨h1, h2⟩ := ha
    obtain ⟨h3, h4⟩ := hb
    cases h1
    cases h3
    refine ⟨_, ?_, hk⟩
    rw [hf _ _ h2 h4]
    exact zx_r_c 0 (zx_cb_lt _ _ _ h2 h4)
  · cases hc : zx_ii a && zx_ii b with
    | false => rw [hc] at hk; cases hk
    | true => rw [hc] at hk; exact ⟨_, zx_r_un _, hk⟩
theorem zx_sh_s {op : Nat} {f : Int32 → Int32 → Int32} (hf : ∀ x y : Nat, x < 4294967296 → y < 32 → f (nI x) (nI y) = nI (zx_cs op x y)) {a b : zx_V} {x y : Int32} (ha : zx_r ads ex nu a (.int x)) (hb : zx_r ads ex nu b (.int y)) {k : zx_V → Bool} (hk : zx_sh op a b k = true) :
    ∃ c : zx_V, zx_r ads ex nu c (.int (f x y)) ∧ k c = true := by
  unfold zx_sh at hk
  split at hk
  · rename_i x' z1 y' z2
    cases hc : Nat.blt y' 32 with
    | false => rw [hc] at hk; cases hk
    | true =>
      rw [hc, cond_true, zx_fn_eq] at hk
      obtain ⟨h1, h2⟩ := ha
      obtain ⟨h3, h4⟩ := hb
      cases h1
      cases h3
      refine ⟨_, ?_, hk⟩
      rw [hf _ _ h2 (Nat.le_of_ble_eq_true hc)]
      exact zx_r_c 0 (zx_cs_lt _ _ _ h2)
  · cases hc : zx_ii a && zx_ii b with
    | false => rw [hc] at hk; cases hk
    | true => rw [hc] at hk; exact ⟨_, zx_r_un _, hk⟩
theorem zx_ad_s {a b : zx_V} {x y : Int32} (ha : zx_r ads ex nu a (.int x)) (hb : zx_r ads ex nu b (.int y)) {k : zx_V → Bool} (hk : zx_ad a b k = true) : ∃ c : zx_V, zx_r ads ex nu c (.int (x + y)) ∧ k c = true := by
  unfold zx_ad at hk
  split at hk
  · obtain ⟨h1, -⟩ := ha
    cases h1
    refine ⟨_, ?_, hk⟩
    rw [show (nI 0) = 0 from nI_0, Int32.zero_add]
    exact hb
  · obtain ⟨h1, -⟩ := hb
    cases h1
    refine ⟨_, ?_, hk⟩
    rw [show (nI 0) = 0 from nI_0, Int32.add_zero]
    exact ha
  · exact zx_b2_s (op := 0) (f := fun x y => x + y) (fun x y _ _ => by show nI x + nI y = nI ((x + y) % 4294967296); rw [nI_add, zx_md]) ha hb hk
theorem zx_an_s (h7 : nu 7 = nu 0 &&& 63) {a b : zx_V} {x y : Int32} (ha : zx_r ads ex nu a (.int x)) (hb : zx_r ads ex nu b (.int y)) {k : zx_V → Bool} (hk : zx_an a b k = true) : ∃ c : zx_V, zx_r ads ex nu c (.int (x &&& y)) ∧ k c = true := by
  unfold zx_an at hk
  split at hk
  · obtain ⟨h1, -⟩ := hb
    have ha : Value.int x = .int (nu 0) := ha
    cases h1
    cases ha
    refine ⟨(1, 7, 0), ?_, hk⟩
    show Value.int _ = .int (nu 7)
    rw [h7]
    rfl
  · obtain ⟨h1, -⟩ := hb
    cases h1
    refine ⟨_, ?_, hk⟩
    rw [show (nI 4294967295) = -1 from by decide +kernel, Int32.and_neg_one]
    exact ha
  · exact zx_b2_s (op := 3) (f := fun x y => x &&& y) (fun x y _ _ => zx_and x y) ha hb hk
theorem zx_sr_s {a b : zx_V} {x y : Int32} (ha : zx_r ads ex nu a (.int x)) (hb : zx_r ads ex nu b (.int y)) {k : zx_V → Bool} (hk : zx_sr a b k = true) : ∃ c : zx_V, zx_r ads ex nu c (.int (x >>> (y &&& 31))) ∧ k c = true := by
  unfold zx_sr at hk
  split at hk
  · obtain ⟨h1, -⟩ := ha
    cases h1
    refine ⟨_, ?_, hk⟩
    rw [show (nI 0) = 0 from nI_0, Int32.zero_shiftRight]
    exact ⟨by rw [show (nI 0) = 0 from nI_0], (show (0 : Nat) < 4294967296 by decide)⟩
  · exact zx_sh_s (op := 7) (f := fun x y => x >>> (y &&& 31)) (fun x y hx hy => zx_shr x y hx hy) ha hb hk
theorem zx_dv_s {op : Nat} {a b : zx_V} {x y : Int32} (ha : zx_r ads ex nu a (.int x)) (hb : zx_r ads ex nu b (.int y)) {k : zx_V → Bool} (hk : zx_dv op a b k = true) : ¬ y = 0 ∧ ∃ c : zx_V, zx_r ads ex nu c (.int (bif Nat.beq op 0 then x / y else x - x / y * y)) ∧ k c = true := by
  unfold zx_dv at hk
  split at hk
  · rename_i x' z1 y' z2
    cases hc : Nat.blt x' 2147483648 && (Nat.blt 0 y' && Nat.blt y' 2147483648) with
    | false => rw [hc] at hk; cases hk
    | true =>
      rw [hc, cond_true, zx_fn_eq] at hk
      obtain ⟨q1, q2⟩ := zx_and_b hc
      obtain ⟨q2, q3⟩ := zx_and_b q2
      have q1 : x' < 2147483648 := Nat.le_of_ble_eq_true q1
      have q2 : 0 < y' := Nat.le_of_ble_eq_true q2
      have q3 : y' < 2147483648 := Nat.le_of_ble_eq_true q3
      obtain ⟨h1, h2⟩ := ha
      obtain ⟨h3, h4⟩ := hb
      cases h1
      cases h3
      refine ⟨nI_ne0 q2 q3, _, ?_, hk⟩
      cases Nat.beq op 0
      · rw [cond_false, cond_false, pk_rem q1 q2 q3]
        exact zx_r_c 0 (Nat.lt_of_le_of_lt (Nat.mod_le _ _) h2)
      · rw [cond_true, cond_true, pk_div q1 q2 q3]
        exact zx_r_c 0 (Nat.lt_of_le_of_lt (Nat.div_le_self _ _) h2)
  · cases hk
theorem zx_ev_set {i l h : Nat} (he : zx_ev nu e) (h1 : l ≤ zx_bz (nu i)) (h2 : zx_bz (nu i) ≤ h) : zx_ev nu (e.set i (l, h)) := by
  intro k q hq
  by_cases hk : i = k
  · subst hk
    rw [List.getElem?_set] at hq
    split at hq
    · split at hq
      · cases hq; exact ⟨h1, h2⟩
      · cases hq
    · exact he _ _ hq
  · rw [List.getElem?_set_ne hk] at hq
    exact he _ _ hq
theorem zx_blt_f {a b : Nat} (h : Nat.blt a b = false) : b ≤ a := by
  rcases Nat.lt_or_ge a b with q | q
  · have : Nat.blt a b = true := Nat.ble_eq_true_of_le q
    rw [this] at h; cases h
  · exact q
theorem zx_blt_t {a b : Nat} (h : Nat.blt a b = true) : a < b := Nat.le_of_ble_eq_true h
theorem zx_ble_f {a b : Nat} (h : Nat.ble a b = false) : b < a := by
  rcases Nat.lt_or_ge b a with q | q
  · exact q
  · have : Nat.ble a b = true := Nat.ble_eq_true_of_le q
    rw [this] at h; cases h
theorem zx_beq_t {a b : Nat} (h : Nat.beq a b = true) : a = b := Nat.eq_of_beq_eq_true h
theorem zx_lts_s (he : zx_ev nu e) {a b : zx_V} {x y : Int32} {l1 h1 l2 h2 : Nat} (a1 : l1 ≤ zx_bz x) (a2 : zx_bz x ≤ h1) (a3 : a.1 = 1 → x = nu a.2.1) (b1 : l2 ≤ zx_bz y) (b2 : zx_bz y ≤ h2) (b3 : b.1 = 1 → y = nu b.2.1) :
    ∃ q ∈ zx_lts e a b l1 h1 l2 h2, q.1 = decide (zx_bz x < zx_bz y) ∧ zx_ev nu q.2 := by
  unfold zx_lts
  cases c1 : Nat.blt h1 l2 with
  | true =>
    have := zx_blt_t c1
    exact ⟨_, List.mem_singleton.mpr rfl, (decide_eq_true (by omega)).symm, he⟩
  | false =>
    have := zx_blt_f c1
    rw [cond_false]
    cases c2 : Nat.ble h2 l1 with
    | true =>
      have : h2 ≤ l1 := Nat.le_of_ble_eq_true c2
      exact ⟨_, List.mem_singleton.mpr rfl, (decide_eq_false (by omega)).symm, he⟩
    | false =>
      rw [cond_false]
      cases c3 : Nat.beq a.1 1 && Nat.beq l2 h2 with
      | true =>
        rw [cond_true]
        obtain ⟨d1, d2⟩ := zx_and_b c3
        have d1 := zx_beq_t d1
        have d2 := zx_beq_t d2
        have ex := a3 d1
        by_cases hlt : zx_bz x < zx_bz y
        · exact ⟨_, List.mem_cons_self, (decide_eq_true hlt).symm, zx_ev_set he (by rw [← ex]; exact a1) (by rw [← ex]; omega)⟩
        · exact ⟨_, List.mem_cons_of_mem _ List.mem_cons_self, (decide_eq_false hlt).symm, zx_ev_set he (by rw [← ex]; omega) (by rw [← ex]; exact a2)⟩
      | false =>
        rw [cond_false]
        cases c4 : Nat.beq b.1 1 && Nat.beq l1 h1 with
        | true =>
          rw [cond_true]
          obtain ⟨d1, d2⟩ := zx_and_b c4
          have d1 := zx_beq_t d1
          have d2 := zx_beq_t d2
          have ex := b3 d1
          by_cases hlt : zx_bz x < zx_bz y
          · exact ⟨_, List.mem_cons_self, (decide_eq_true hlt).symm, zx_ev_set he (by rw [← ex]; omega) (by rw [← ex]; exact b2)⟩
          · exact ⟨_, List.mem_cons_of_mem _ List.mem_cons_self, (decide_eq_false hlt).symm, zx_ev_set he (by rw [← ex]; exact b1) (by rw [← ex]; omega)⟩
        | false =>
          rw [cond_false]
          by_cases hlt : zx_bz x < zx_bz y
          · exact ⟨_, List.mem_cons_self, (decide_eq_true hlt).symm, he⟩
          · exact ⟨_, List.mem_cons_of_mem _ List.mem_cons_self, (decide_eq_false hlt).symm, he⟩
theorem zx_eqs_s (he : zx_ev nu e) {a b : zx_V} {x y : Int32} {l1 h1 l2 h2 : Nat} (a1 : l1 ≤ zx_bz x) (a2 : zx_bz x ≤ h1) (a3 : a.1 = 1 → x = nu a.2.1) (b1 : l2 ≤ zx_bz y) (b2 : zx_bz y ≤ h2) (b3 : b.1 = 1 → y = nu b.2.1) :
    ∃ q ∈ zx_eqs e a b l1 h1 l2 h2, q.1 = decide (zx_bz x = zx_bz y) ∧ zx_ev nu q.2 := by
  unfold zx_eqs
  cases c1 : Nat.blt h1 l2 || Nat.blt h2 l1 with
  | true =>
    rw [cond_true]
    have hn : ¬ zx_bz x = zx_bz y := by
      cases d : Nat.blt h1 l2 with
      | true => have := zx_blt_t d; omega
      | false => rw [d, Bool.false_or] at c1; have := zx_blt_t c1; omega
    exact ⟨_, List.mem_singleton.mpr rfl, (decide_eq_false hn).symm, he⟩
  | false =>
    rw [cond_false]
    obtain ⟨e1, e2⟩ : Nat.blt h1 l2 = false ∧ Nat.blt h2 l1 = false := by cases d1 : Nat.blt h1 l2 <;> cases d2 : Nat.blt h2 l1 <;> simp_all
    have e1 := zx_blt_f e1
    have e2 := zx_blt_f e2
    cases c2 : Nat.beq l1 h1 && Nat.beq l2 h2 with
    | true =>
      obtain ⟨d1, d2⟩ := zx_and_b c2
      have d1 := zx_beq_t d1
      have d2 := zx_beq_t d2
      exact ⟨_, List.mem_singleton.mpr rfl, (decide_eq_true (by omega)).symm, he⟩
    | false =>
      rw [cond_false]
      cases c0 : Nat.beq a.1 1 && (Nat.beq b.1 1 && Nat.beq a.2.1 b.2.1) with
      | true =>
        obtain ⟨d1, d2⟩ := zx_and_b c0
        obtain ⟨d2, d3⟩ := zx_and_b d2
        refine ⟨_, List.mem_singleton.mpr rfl, (decide_eq_true ?_).symm, he⟩
        rw [a3 (zx_beq_t d1), b3 (zx_beq_t d2), zx_beq_t d3]
      | false =>
      rw [cond_false]
      cases c3 : Nat.beq a.1 1 && Nat.beq l2 h2 with
      | true =>
        rw [cond_true]
        obtain ⟨d1, d2⟩ := zx_and_b c3
        have d2 := zx_beq_t d2
        have ex := a3 (zx_beq_t d1)
        by_cases heq : zx_bz x = zx_bz y
        · exact ⟨_, List.mem_cons_self, (decide_eq_true heq).symm, zx_ev_set he (by rw [← ex]; omega) (by rw [← ex]; omega)⟩
        · rcases Nat.lt_or_gt_of_ne heq with hl | hl
          · refine ⟨(false, e.set a.2.1 (l1, l2 - 1)), List.mem_cons_of_mem _ (List.mem_append_left _ ?_), (decide_eq_false heq).symm, zx_ev_set he (by rw [← ex]; exact a1) (by rw [← ex]; omega)⟩
            rw [show Nat.blt l1 l2 = true from Nat.ble_eq_true_of_le (by omega : l1 + 1 ≤ l2)]
            exact List.mem_singleton.mpr rfl
          · refine ⟨(false, e.set a.2.1 (l2 + 1, h1)), List.mem_cons_of_mem _ (List.mem_append_right _ ?_), (decide_eq_false heq).symm, zx_ev_set he (by rw [← ex]; omega) (by rw [← ex]; exact a2)⟩
            rw [show Nat.blt l2 h1 = true from Nat.ble_eq_true_of_le (by omega : l2 + 1 ≤ h1)]
            exact List.mem_singleton.mpr rfl
      | false =>
        rw [cond_false]
        cases c4 : Nat.beq b.1 1 && Nat.beq l1 h1 with
        | true =>
          rw [cond_true]
          obtain ⟨d1, d2⟩ := zx_and_b c4
          have d2 := zx_beq_t d2
          have ex := b3 (zx_beq_t d1)
          by_cases heq : zx_bz x = zx_bz y
          · exact ⟨_, List.mem_cons_self, (decide_eq_true heq).symm, zx_ev_set he (by rw [← ex]; omega) (by rw [← ex]; omega)⟩
          · rcases Nat.lt_or_gt_of_ne heq with hl | hl
            · refine ⟨(false, e.set b.2.1 (l1 + 1, h2)), List.mem_cons_of_mem _ (List.mem_append_right _ ?_), (decide_eq_false heq).symm, zx_ev_set he (by rw [← ex]; omega) (by rw [← ex]; exact b2)⟩
              rw [show Nat.blt l1 h2 = true from Nat.ble_eq_true_of_le (by omega : l1 + 1 ≤ h2)]
              exact List.mem_singleton.mpr rfl
            · refine ⟨(false, e.set b.2.1 (l2, l1 - 1)), List.mem_cons_of_mem _ (List.mem_append_left _ ?_), (decide_eq_false heq).symm, zx_ev_set he (by rw [← ex]; exact b1) (by rw [← ex]; omega)⟩
              rw [show Nat.blt l2 l1 = true from Nat.ble_eq_true_of_le (by omega : l2 + 1 ≤ l1)]
              exact List.mem_singleton.mpr rfl
        | false =>
          rw [cond_false]
          by_cases heq : zx_bz x = zx_bz y
          · exact ⟨_, List.mem_cons_self, (decide_eq_true heq).symm, he⟩
          · exact ⟨_, List.mem_cons_of_mem _ List.mem_cons_self, (decide_eq_false heq).symm, he⟩
/-- what a comparison says of two ints -/
def zx_cv (c : ClassFile.Cond) (x y : Int32) : Prop := match c with
  | .lt => x < y
  | .ge => y ≤ x
  | .gt => y < x
  | .le => x ≤ y
  | .eq => x = y
  | .ne => ¬ x = y
theorem zx_cmp_s {c : ClassFile.Cond} (he : zx_ev nu e) {a b : zx_V} {x y : Int32} (ha : zx_r ads ex nu a (.int x)) (hb : zx_r ads ex nu b (.int y)) {l : List (Bool × zx_L)} (hl : zx_cmp c e a b = some l) :
    ∃ q ∈ l, (q.1 = true ↔ zx_cv c x y) ∧ zx_ev nu q.2 := by
  unfold zx_cmp at hl
  cases ha1 : zx_iv e a with
  | none => rw [ha1] at hl; cases hl
  | some q1 =>
    cases hb1 : zx_iv e b with
    | none => rw [ha1, hb1] at hl; cases hl
    | some q2 =>
      rw [ha1, hb1] at hl
      obtain ⟨x', ex1, a1, a2, a3⟩ := zx_r_iv he ha1 ha
      cases ex1
      obtain ⟨y', ey1, b1, b2, b3⟩ := zx_r_iv he hb1 hb
      cases ey1
      obtain ⟨l1, h1⟩ := q1
      obtain ⟨l2, h2⟩ := q2
      have hl := Option.some.inj hl
      subst hl
      have hlt := zx_lts_s he a1 a2 a3 b1 b2 b3
      have hgt := zx_lts_s he b1 b2 b3 a1 a2 a3
      have heq := zx_eqs_s he a1 a2 a3 b1 b2 b3
      cases c with
      | lt => obtain ⟨q, m, t, v⟩ := hlt; exact ⟨q, m, by rw [t, decide_eq_true_iff]; exact (zx_lt x y).symm, v⟩
      | gt => obtain ⟨q, m, t, v⟩ := hgt; exact ⟨q, m, by rw [t, decide_eq_true_iff]; exact (zx_lt y x).symm, v⟩
      | eq => obtain ⟨q, m, t, v⟩ := heq; exact ⟨q, m, by rw [t, decide_eq_true_iff]; exact (zx_eq x y).symm, v⟩
      | ge => obtain ⟨q, m, t, v⟩ := hlt; exact ⟨(!q.1, q.2), List.mem_map.mpr ⟨q, m, rfl⟩, by rw [t, zx_cv, zx_le]; simp, v⟩
      | le => obtain ⟨q, m, t, v⟩ := hgt; exact ⟨(!q.1, q.2), List.mem_map.mpr ⟨q, m, rfl⟩, by rw [t, zx_cv, zx_le]; simp, v⟩
      | ne => obtain ⟨q, m, t, v⟩ := heq; exact ⟨(!q.1, q.2), List.mem_map.mpr ⟨q, m, rfl⟩, by rw [t, zx_cv, zx_eq]; simp, v⟩
theorem zx_jmp_s {c : ClassFile.Cond} (he : zx_ev nu e) {a b : zx_V} {x y : Int32} (ha : zx_r ads ex nu a (.int x)) (hb : zx_r ads ex nu b (.int y)) {pc np : Nat} {off : Int} {k : Nat → zx_L → Bool} (hk : zx_jmp pc np off (zx_cmp c e a b) k = true) :
    ∃ t : Nat, (pc : Int) + off = (t : Int) ∧ ∃ e' : zx_L, zx_ev nu e' ∧ (zx_cv c x y → k t e' = true) ∧ (¬ zx_cv c x y → k np e' = true) := by
  unfold zx_jmp at hk
  cases hl : zx_cmp c e a b with
  | none => rw [hl] at hk; cases hk
  | some l =>
    rw [hl] at hk
    dsimp only at hk
    cases hd : decide (0 ≤ (pc : Int) + off) with
    | false => rw [hd] at hk; cases hk
    | true =>
      rw [hd, cond_true, zx_fn_eq] at hk
      have hd := of_decide_eq_true hd
      obtain ⟨q, m, t, v⟩ := zx_cmp_s he ha hb hl
      have h1 := List.all_eq_true.mp hk q m
      rw [zx_fl_eq] at h1
      refine ⟨_, (Int.toNat_of_nonneg hd).symm, q.2, v, fun hc => ?_, fun hc => ?_⟩
      · rw [t.mpr hc] at h1; exact h1
      · have : q.1 = false := by cases hq : q.1 with
          | false => rfl
          | true => exact absurd (t.mp hq) hc
        rw [this] at h1; exact h1
theorem zx_in_s (he : zx_ev nu e) {i : zx_V} {x : Int32} {n : Nat} (hi : zx_r ads ex nu i (.int x)) (hn : zx_in e i n = true) : vp_in x n := by
  unfold zx_in at hn
  cases h : zx_iv e i with
  | none => rw [h] at hn; cases hn
  | some q =>
    rw [h] at hn
    obtain ⟨x', ex1, a1, a2, -⟩ := zx_r_iv he h hi
    cases ex1
    obtain ⟨q1, q2⟩ := zx_and_b hn
    have q1 := Nat.le_of_ble_eq_true q1
    have q2 := zx_blt_t q2
    have hz := zx_bz_int x
    rw [vp_in_iff]
    omega
end ZO
end
section
/-! locals, stacks and worlds of the walker's values -/
def zx_LR (ads : List Nat) (ex : Nat → Nat) (nu : Nat → Int32) : List (Nat × zx_V) → List (Nat × Value) → Prop
  | [], [] => True
  | a :: l, b :: m => a.1 = b.1 ∧ zx_r ads ex nu a.2 b.2 ∧ zx_LR ads ex nu l m
  | [], _ :: _ => False
  | _ :: _, [] => False
def zx_SR (ads : List Nat) (ex : Nat → Nat) (nu : Nat → Int32) : List zx_V → List Value → Prop
  | [], [] => True
  | a :: l, b :: m => zx_r ads ex nu a b ∧ zx_SR ads ex nu l m
  | [], _ :: _ => False
  | _ :: _, [] => False
def zx_cr (ads : List Nat) (ex : Nat → Nat) (nu : Nat → Int32) (aC : Nat → ClassId) (c : zx_C) (e : va_E) : Prop := match c.1 with
  | 0 => ∃ f : Nat → Int32, e = .inl (aC c.2.1, c.2.2.1, .inl f) ∧ c.2.1 < 3 ∧ ∀ j, j < c.2.2.1 → f j = nI (zx_dg c.2.2.2.1 j)
  | 1 => ∃ f : Nat → Int32, e = .inl (aC c.2.1, c.2.2.1, .inl f) ∧ c.2.1 < 3
  | 2 => ∃ fs : List Value, e = .inr (c.2.1, fs) ∧ zx_SR ads ex nu c.2.2.2.2 fs
  | 3 => ∃ f : Nat → Int64, e = .inl (aC 3, c.2.2.1, .inr (.inl f))
  | 4 => ∃ f : Nat → Option Nat, e = .inl (aC 4, c.2.2.1, .inr (.inr (.inr (.inr f)))) ∧ c.2.2.2.2.length = c.2.2.1 ∧ ∀ (j : Nat) (a : zx_V), c.2.2.2.2[j]? = some a → zx_r ads ex nu a (va_rf (f j))
  | _ => False
def zx_HR (ads : List Nat) (ex : Nat → Nat) (nu : Nat → Int32) (aC : Nat → ClassId) : List zx_C → va_W → Prop
  | [], [] => True
  | c :: h, w :: ws => zx_cr ads ex nu aC c w.2 ∧ zx_HR ads ex nu aC h ws
  | [], _ :: _ => False
  | _ :: _, [] => False
def zx_la : Nat → List zx_V → List (Nat × zx_V)
  | _, [] => []
  | i, a :: l => (i, a) :: zx_la (bif zx_jj a then i + 2 else i + 1) l
def zx_sz : List zx_V → Nat
  | [] => 0
  | a :: l => zx_ct a + zx_sz l
section ZL
variable {ads ads' : List Nat} {ex : Nat → Nat} {nu : Nat → Int32} {aC : Nat → ClassId}
theorem zx_LR_lk : ∀ {lo : List (Nat × zx_V)} {lv : List (Nat × Value)} {i : Nat} {a : zx_V}, zx_LR ads ex nu lo lv → zx_lk lo i = some a → ∃ v, zx_r ads ex nu a v ∧ (i, v) ∈ lv
  | [], [], _, _, _, h => by cases h
  | b :: l, c :: m, i, a, h, hk => by
    obtain ⟨j, x⟩ := b
    obtain ⟨j', y⟩ := c
    obtain ⟨h1, h2, h3⟩ := h
    have h1 : j = j' := h1
    subst h1
    unfold zx_lk at hk
    cases hb : Nat.beq j i with
    | true =>
      rw [hb] at hk
      have hk : some x = some a := hk
      cases hk
      have := Nat.eq_of_beq_eq_true hb
      subst this
      exact ⟨y, h2, List.mem_cons_self⟩
    | false =>
      rw [hb] at hk
      obtain ⟨v, q1, q2⟩ := zx_LR_lk h3 hk
      exact ⟨v, q1, List.mem_cons_of_mem _ q2⟩
  | [], _ :: _, _, _, h, _ => h.elim
  | _ :: _, [], _, _, h, _ => h.elim
theorem zx_ct_eq {a : zx_V} {v : Value} (h : zx_r ads ex nu a v) : (zx_ct a == 2) = (v.category == 2) := by rw [zx_r_cat h]
theorem zx_LR_f1 (i : Nat) : ∀ {lo : List (Nat × zx_V)} {lv : List (Nat × Value)}, zx_LR ads ex nu lo lv → zx_LR ads ex nu (lo.filter (fun q => !(q.1 == i) && !(q.1 + 1 == i && zx_ct q.2 == 2))) (lv.filter (fun q => !(q.1 == i) && !(q.1 + 1 == i && q.2.category == 2)))
  | [], [], _ => trivial
  | a :: l, b :: m, h => by
    obtain ⟨h1, h2, h3⟩ := h
    have ih := zx_LR_f1 i h3
    have he : (!(a.1 == i) && !(a.1 + 1 == i && zx_ct a.2 == 2)) = (!(b.1 == i) && !(b.1 + 1 == i && b.2.category == 2)) := by rw [h1, zx_ct_eq h2]
    rw [List.filter_cons, List.filter_cons, he]
    split
    · exact ⟨h1, h2, ih⟩
    · exact ih
  | [], _ :: _, h => h.elim
  | _ :: _, [], h => h.elim
theorem zx_LR_f2 (i : Nat) : ∀ {lo : List (Nat × zx_V)} {lv : List (Nat × Value)}, zx_LR ads ex nu lo lv → zx_LR ads ex nu (lo.filter (fun q => !(q.1 == i) && (!(q.1 == i + 1) && !(q.1 + 1 == i && zx_ct q.2 == 2)))) (lv.filter (fun q => !(q.1 == i) && (!(q.1 == i + 1) && !(q.1 + 1 == i && q.2.category == 2))))
  | [], [], _ => trivial
  | a :: l, b :: m, h => by
    obtain ⟨h1, h2, h3⟩ := h
    have ih := zx_LR_f2 i h3
    have he : (!(a.1 == i) && (!(a.1 == i + 1) && !(a.1 + 1 == i && zx_ct a.2 == 2))) = (!(b.1 == i) && (!(b.1 == i + 1) && !(b.1 + 1 == i && b.2.category == 2))) := by rw [h1, zx_ct_eq h2]
    rw [List.filter_cons, List.filter_cons, he]
    split
    · exact ⟨h1, h2, ih⟩
    · exact ih
  | [], _ :: _, h => h.elim
  | _ :: _, [], h => h.elim
theorem zx_LR_mono (hp : ∀ (i q : Nat), ads[i]? = some q → ads'[i]? = some q) : ∀ {lo : List (Nat × zx_V)} {lv : List (Nat × Value)}, zx_LR ads ex nu lo lv → zx_LR ads' ex nu lo lv
  | [], [], _ => trivial
  | _ :: _, _ :: _, h => ⟨h.1, zx_r_mono hp h.2.1, zx_LR_mono hp h.2.2⟩
  | [], _ :: _, h => h.elim
  | _ :: _, [], h => h.elim
theorem zx_SR_mono (hp : ∀ (i q : Nat), ads[i]? = some q → ads'[i]? = some q) : ∀ {lo : List zx_V} {lv : List Value}, zx_SR ads ex nu lo lv → zx_SR ads' ex nu lo lv
  | [], [], _ => trivial
  | _ :: _, _ :: _, h => ⟨zx_r_mono hp h.1, zx_SR_mono hp h.2⟩
  | [], _ :: _, h => h.elim
  | _ :: _, [], h => h.elim
theorem zx_cr_mono (hp : ∀ (i q : Nat), ads[i]? = some q → ads'[i]? = some q) {c : zx_C} {e : va_E} (h : zx_cr ads ex nu aC c e) : zx_cr ads' ex nu aC c e := by
  obtain ⟨t, ci, n, cd, fs⟩ := c
  match t, h with
  | 0, h => exact h
  | 1, h => exact h
  | 2, h => obtain ⟨f, h1, h2⟩ := h; exact ⟨f, h1, zx_SR_mono hp h2⟩
  | 3, h => exact h
  | 4, h => obtain ⟨f, h1, h2, h3⟩ := h; exact ⟨f, h1, h2, fun j a ha => zx_r_mono hp (h3 j a ha)⟩
  | (k + 5), h => exact h.elim
theorem zx_HR_mono (hp : ∀ (i q : Nat), ads[i]? = some q → ads'[i]? = some q) : ∀ {h : List zx_C} {ws : va_W}, zx_HR ads ex nu aC h ws → zx_HR ads' ex nu aC h ws
  | [], [], _ => trivial
  | _ :: _, _ :: _, h => ⟨zx_cr_mono hp h.1, zx_HR_mono hp h.2⟩
  | [], _ :: _, h => h.elim
  | _ :: _, [], h => h.elim
theorem zx_HR_get : ∀ {h : List zx_C} {ws : va_W} {i : Nat} {c : zx_C}, zx_HR ads ex nu aC h ws → h[i]? = some c → ∃ w, ws[i]? = some w ∧ zx_cr ads ex nu aC c w.2
  | [], [], _, _, _, h => by cases h
  | a :: l, b :: m, 0, c, h, hk => by
    have hk : some a = some c := hk
    cases hk
    exact ⟨b, rfl, h.1⟩
  | a :: l, b :: m, i + 1, c, h, hk => zx_HR_get (i := i) h.2 hk
  | [], _ :: _, _, _, h, _ => h.elim
  | _ :: _, [], _, _, h, _ => h.elim
theorem zx_HR_set : ∀ {h : List zx_C} {ws : va_W} {i : Nat} {c : zx_C} {w : Nat × va_E}, zx_HR ads ex nu aC h ws → zx_cr ads ex nu aC c w.2 → zx_HR ads ex nu aC (h.set i c) (ws.set i w)
  | [], [], _, _, _, _, _ => trivial
  | a :: l, b :: m, 0, c, w, h, hk => ⟨hk, h.2⟩
  | a :: l, b :: m, i + 1, c, w, h, hk => ⟨h.1, zx_HR_set (i := i) h.2 hk⟩
  | [], _ :: _, _, _, _, h, _ => h.elim
  | _ :: _, [], _, _, _, h, _ => h.elim
theorem zx_HR_len : ∀ {h : List zx_C} {ws : va_W}, zx_HR ads ex nu aC h ws → h.length = ws.length
  | [], [], _ => rfl
  | a :: l, b :: m, h => by rw [List.length_cons, List.length_cons, zx_HR_len h.2]
  | [], _ :: _, h => h.elim
  | _ :: _, [], h => h.elim
theorem zx_HR_push : ∀ {h : List zx_C} {ws : va_W} {c : zx_C} {w : Nat × va_E}, zx_HR ads ex nu aC h ws → zx_cr ads ex nu aC c w.2 → zx_HR ads ex nu aC (h ++ [c]) (ws ++ [w])
  | [], [], _, _, _, hc => ⟨hc, trivial⟩
  | a :: l, b :: m, c, w, h, hc => ⟨h.1, zx_HR_push h.2 hc⟩
  | [], _ :: _, _, _, h, _ => h.elim
  | _ :: _, [], _, _, h, _ => h.elim
theorem zx_ads_set {ws : va_W} {i a : Nat} {e e' : va_E} (h : ws[i]? = some (a, e)) : (ws.set i (a, e')).map (fun w => w.1) = ws.map (fun w => w.1) := by
  rw [List.map_set]
  apply List.ext_getElem?
  intro j
  rw [List.getElem?_set]
  split
  · rename_i hij
    subst hij
    rw [List.getElem?_map, h]
    split
    · rfl
    · rename_i hl
      rw [List.length_map] at hl
      rw [List.getElem?_eq_none (by omega)] at h
      cases h
  · rfl
theorem zx_SR_get : ∀ {fs : List zx_V} {vs : List Value} {i : Nat} {a : zx_V}, zx_SR ads ex nu fs vs → fs[i]? = some a → ∃ v, vs[i]? = some v ∧ zx_r ads ex nu a v
  | [], [], _, _, _, h => by cases h
  | a :: l, b :: m, 0, c, h, hk => by
    have hk : some a = some c := hk
    cases hk
    exact ⟨b, rfl, h.1⟩
  | a :: l, b :: m, i + 1, c, h, hk => zx_SR_get (i := i) h.2 hk
  | [], _ :: _, _, _, h, _ => h.elim
  | _ :: _, [], _, _, h, _ => h.elim
theorem zx_SR_set : ∀ {fs : List zx_V} {vs : List Value} {i : Nat} {a : zx_V} {v : Value}, zx_SR ads ex nu fs vs → zx_r ads ex nu a v → zx_SR ads ex nu (fs.set i a) (vs.set i v)
  | [], [], _, _, _, _, _ => trivial
  | a :: l, b :: m, 0, c, w, h, hk => ⟨hk, h.2⟩
  | a :: l, b :: m, i + 1, c, w, h, hk => ⟨h.1, zx_SR_set (i := i) h.2 hk⟩
  | [], _ :: _, _, _, _, h, _ => h.elim
  | _ :: _, [], _, _, _, h, _ => h.elim
theorem zx_SR_len : ∀ {fs : List zx_V} {vs : List Value}, zx_SR ads ex nu fs vs → fs.length = vs.length
  | [], [], _ => rfl
  | a :: l, b :: m, h => by rw [List.length_cons, List.length_cons, zx_SR_len h.2]
  | [], _ :: _, h => h.elim
  | _ :: _, [], h => h.elim
theorem zx_SR_app : ∀ {f1 f2 : List zx_V} {v1 v2 : List Value}, zx_SR ads ex nu f1 v1 → zx_SR ads ex nu f2 v2 → zx_SR ads ex nu (f1 ++ f2) (v1 ++ v2)
  | [], _, [], _, _, h => h
  | _ :: _, _, _ :: _, _, h, h2 => ⟨h.1, zx_SR_app h.2 h2⟩
  | [], _, _ :: _, _, h, _ => h.elim
  | _ :: _, _, [], _, h, _ => h.elim
theorem zx_SR_rev : ∀ {f : List zx_V} {v : List Value}, zx_SR ads ex nu f v → zx_SR ads ex nu f.reverse v.reverse
  | [], [], _ => trivial
  | a :: l, b :: m, h => by
    rw [List.reverse_cons, List.reverse_cons]
    exact zx_SR_app (zx_SR_rev h.2) ⟨h.1, trivial⟩
  | [], _ :: _, h => h.elim
  | _ :: _, [], h => h.elim
/-- a stack, cut behind its first n -/
theorem zx_SR_cut : ∀ (n : Nat) {f : List zx_V} {v : List Value}, zx_SR ads ex nu f v → zx_SR ads ex nu (f.take n) (v.take n) ∧ zx_SR ads ex nu (f.drop n) (v.drop n)
  | 0, _, _, h => ⟨trivial, h⟩
  | n + 1, [], [], _ => ⟨trivial, trivial⟩
  | n + 1, _ :: _, _ :: _, h => ⟨⟨h.1, (zx_SR_cut n h.2).1⟩, (zx_SR_cut n h.2).2⟩
  | _ + 1, [], _ :: _, h => h.elim
  | _ + 1, _ :: _, [], h => h.elim
theorem zx_la_s : ∀ {f : List zx_V} {v : List Value} (i : Nat), zx_SR ads ex nu f v → zx_LR ads ex nu (zx_la i f) (lv_args i v)
  | [], [], _, _ => trivial
  | a :: l, b :: m, i, h => by
    have hc := zx_r_cat h.1
    have he : (bif zx_jj a then i + 2 else i + 1) = (if b.category = 2 then i + 2 else i + 1) := by
      rw [hc]
      unfold zx_ct
      cases zx_jj a <;> rfl
    unfold zx_la lv_args
    rw [← he]
    exact ⟨rfl, h.1, zx_la_s _ h.2⟩
  | [], _ :: _, _, h => h.elim
  | _ :: _, [], _, h => h.elim
theorem zx_sz_s : ∀ {f : List zx_V} {v : List Value}, zx_SR ads ex nu f v → (lg_sl v).length = zx_sz f ∧ (v.map fun w => w.category).sum = zx_sz f
  | [], [], _ => ⟨rfl, rfl⟩
  | a :: l, b :: m, h => by
    have hc := zx_r_cat h.1
    obtain ⟨i1, i2⟩ := zx_sz_s h.2
    refine ⟨?_, ?_⟩
    · unfold lg_sl at i1 ⊢
      rw [List.flatMap_cons, List.length_append, i1]
      show _ = zx_ct a + zx_sz l
      rw [← hc]
      rcases lv_cat b with q | q <;> rw [q] <;> simp
    · rw [List.map_cons, List.sum_cons, i2, hc]
      rfl
  | [], _ :: _, h => h.elim
  | _ :: _, [], h => h.elim
end ZL
end
section
theorem zx_t1 (n : String) (q : Nat) : narrow (.object n) (.ref q) = .ref q ∧ fits (.object n) (.ref q) = true ∧ narrow (.object n) .null = .null ∧ fits (.object n) .null = true := ⟨rfl, rfl, rfl, rfl⟩
theorem zx_t2 (t : FieldType) (q : Nat) : narrow (.array t) (.ref q) = .ref q ∧ fits (.array t) (.ref q) = true ∧ narrow (.array t) .null = .null ∧ fits (.array t) .null = true := ⟨rfl, rfl, rfl, rfl⟩
theorem zx_t3 (x : Int32) (y : Int64) : narrow .int (.int x) = .int x ∧ fits .int (.int x) = true ∧ narrow .long (.long y) = .long y ∧ fits .long (.long y) = true := ⟨rfl, rfl, rfl, rfl⟩
theorem zx_t4 : (tables_1_1[0]? = some (.initialized "LaneDoorsLaw")) := by decide +kernel
theorem zx_t5 : (k2_sels lw_privs)[0]? = some (.selects "LaneDoors$Lexer" ⟨"LaneDoors$Lexer", "takeWord", "()V"⟩ ⟨"LaneDoors$Lexer", "takeWord", "()V"⟩) := by decide +kernel
end
