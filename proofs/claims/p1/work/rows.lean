section
-- ===== PART A: goes FIRST, ahead of the names: the tables' words, and 'selects' of the private methods out of them =====
/-- a private method of a class that the tables say can be made, by its rows of tables_1 -/
def lw_okq (q : MethodName × Nat) : Prop := (q.1.cls ≠ "java/lang/invoke/MethodHandle" ∧ q.1.cls ≠ "java/lang/invoke/VarHandle") ∧ Cond.instantiable q.1.cls q.2 ∈ tables_1 ∧ Cond.privateMethod q.1 ∈ tables_1 ∧ Cond.instanceMethod q.1 ∈ tables_1
theorem lw_p0 : lw_okq (⟨"LaneDoors$Lexer", "takeWord", "()V"⟩, 7) := ⟨⟨by decide +kernel, by decide +kernel⟩, List.mem_of_getElem? (i := 181) (by decide +kernel), List.mem_of_getElem? (i := 525) (by decide +kernel), List.mem_of_getElem? (i := 526) (by decide +kernel)⟩
theorem lw_p1 : lw_okq (⟨"LaneDoors$Lexer", "wordKind", "()I"⟩, 7) := ⟨⟨by decide +kernel, by decide +kernel⟩, List.mem_of_getElem? (i := 181) (by decide +kernel), List.mem_of_getElem? (i := 529) (by decide +kernel), List.mem_of_getElem? (i := 530) (by decide +kernel)⟩
theorem lw_p2 : lw_okq (⟨"LaneDoors$Lexer", "takeNumber", "()V"⟩, 7) := ⟨⟨by decide +kernel, by decide +kernel⟩, List.mem_of_getElem? (i := 181) (by decide +kernel), List.mem_of_getElem? (i := 536) (by decide +kernel), List.mem_of_getElem? (i := 537) (by decide +kernel)⟩
theorem lw_p3 : lw_okq (⟨"LaneDoors$Reader", "readLine", "()Z"⟩, 7) := ⟨⟨by decide +kernel, by decide +kernel⟩, List.mem_of_getElem? (i := 48) (by decide +kernel), List.mem_of_getElem? (i := 600) (by decide +kernel), List.mem_of_getElem? (i := 601) (by decide +kernel)⟩
theorem lw_p4 : lw_okq (⟨"LaneDoors$Reader", "readLane", "()Z"⟩, 7) := ⟨⟨by decide +kernel, by decide +kernel⟩, List.mem_of_getElem? (i := 48) (by decide +kernel), List.mem_of_getElem? (i := 604) (by decide +kernel), List.mem_of_getElem? (i := 605) (by decide +kernel)⟩
theorem lw_p5 : lw_okq (⟨"LaneDoors$Reader", "readNewName", "([JI)Z"⟩, 7) := ⟨⟨by decide +kernel, by decide +kernel⟩, List.mem_of_getElem? (i := 48) (by decide +kernel), List.mem_of_getElem? (i := 609) (by decide +kernel), List.mem_of_getElem? (i := 610) (by decide +kernel)⟩
theorem lw_p6 : lw_okq (⟨"LaneDoors$Reader", "refuse", "(I)Z"⟩, 7) := ⟨⟨by decide +kernel, by decide +kernel⟩, List.mem_of_getElem? (i := 48) (by decide +kernel), List.mem_of_getElem? (i := 613) (by decide +kernel), List.mem_of_getElem? (i := 614) (by decide +kernel)⟩
theorem lw_p7 : lw_okq (⟨"LaneDoors$Reader", "expect", "(I)Z"⟩, 7) := ⟨⟨by decide +kernel, by decide +kernel⟩, List.mem_of_getElem? (i := 48) (by decide +kernel), List.mem_of_getElem? (i := 617) (by decide +kernel), List.mem_of_getElem? (i := 618) (by decide +kernel)⟩
theorem lw_p8 : lw_okq (⟨"LaneDoors$Reader", "readNumber", "(II)I"⟩, 7) := ⟨⟨by decide +kernel, by decide +kernel⟩, List.mem_of_getElem? (i := 48) (by decide +kernel), List.mem_of_getElem? (i := 621) (by decide +kernel), List.mem_of_getElem? (i := 622) (by decide +kernel)⟩
theorem lw_p9 : lw_okq (⟨"LaneDoors$Reader", "readDoor", "()Z"⟩, 7) := ⟨⟨by decide +kernel, by decide +kernel⟩, List.mem_of_getElem? (i := 48) (by decide +kernel), List.mem_of_getElem? (i := 629) (by decide +kernel), List.mem_of_getElem? (i := 630) (by decide +kernel)⟩
theorem lw_p10 : lw_okq (⟨"LaneDoors$Reader", "readLaneName", "()I"⟩, 7) := ⟨⟨by decide +kernel, by decide +kernel⟩, List.mem_of_getElem? (i := 48) (by decide +kernel), List.mem_of_getElem? (i := 633) (by decide +kernel), List.mem_of_getElem? (i := 634) (by decide +kernel)⟩
theorem lw_p11 : lw_okq (⟨"LaneDoors$Reader", "laneOfName", "()I"⟩, 7) := ⟨⟨by decide +kernel, by decide +kernel⟩, List.mem_of_getElem? (i := 48) (by decide +kernel), List.mem_of_getElem? (i := 637) (by decide +kernel), List.mem_of_getElem? (i := 638) (by decide +kernel)⟩
theorem lw_p12 : lw_okq (⟨"LaneDoors$Reader", "readHinge", "()Z"⟩, 7) := ⟨⟨by decide +kernel, by decide +kernel⟩, List.mem_of_getElem? (i := 48) (by decide +kernel), List.mem_of_getElem? (i := 650) (by decide +kernel), List.mem_of_getElem? (i := 651) (by decide +kernel)⟩
theorem lw_p13 : lw_okq (⟨"LaneDoors$Reader", "readSide", "()Z"⟩, 7) := ⟨⟨by decide +kernel, by decide +kernel⟩, List.mem_of_getElem? (i := 48) (by decide +kernel), List.mem_of_getElem? (i := 654) (by decide +kernel), List.mem_of_getElem? (i := 655) (by decide +kernel)⟩
theorem lw_p14 : lw_okq (⟨"LaneDoors$Reader", "readDoorWords", "()V"⟩, 7) := ⟨⟨by decide +kernel, by decide +kernel⟩, List.mem_of_getElem? (i := 48) (by decide +kernel), List.mem_of_getElem? (i := 665) (by decide +kernel), List.mem_of_getElem? (i := 666) (by decide +kernel)⟩
theorem lw_p15 : lw_okq (⟨"LaneDoors$Reader", "readCorner", "()Z"⟩, 7) := ⟨⟨by decide +kernel, by decide +kernel⟩, List.mem_of_getElem? (i := 48) (by decide +kernel), List.mem_of_getElem? (i := 669) (by decide +kernel), List.mem_of_getElem? (i := 670) (by decide +kernel)⟩
def lw_privs_1 : List (MethodName × Nat) := [(⟨"LaneDoors$Lexer", "takeWord", "()V"⟩, 7), (⟨"LaneDoors$Lexer", "wordKind", "()I"⟩, 7), (⟨"LaneDoors$Lexer", "takeNumber", "()V"⟩, 7), (⟨"LaneDoors$Reader", "readLine", "()Z"⟩, 7), (⟨"LaneDoors$Reader", "readLane", "()Z"⟩, 7), (⟨"LaneDoors$Reader", "readNewName", "([JI)Z"⟩, 7), (⟨"LaneDoors$Reader", "refuse", "(I)Z"⟩, 7), (⟨"LaneDoors$Reader", "expect", "(I)Z"⟩, 7), (⟨"LaneDoors$Reader", "readNumber", "(II)I"⟩, 7), (⟨"LaneDoors$Reader", "readDoor", "()Z"⟩, 7), (⟨"LaneDoors$Reader", "readLaneName", "()I"⟩, 7), (⟨"LaneDoors$Reader", "laneOfName", "()I"⟩, 7), (⟨"LaneDoors$Reader", "readHinge", "()Z"⟩, 7), (⟨"LaneDoors$Reader", "readSide", "()Z"⟩, 7), (⟨"LaneDoors$Reader", "readDoorWords", "()V"⟩, 7), (⟨"LaneDoors$Reader", "readCorner", "()Z"⟩, 7)]
theorem lw_r1 : ∀ q ∈ lw_privs_1, lw_okq q := List.forall_mem_cons.mpr ⟨lw_p0, List.forall_mem_cons.mpr ⟨lw_p1, List.forall_mem_cons.mpr ⟨lw_p2, List.forall_mem_cons.mpr ⟨lw_p3, List.forall_mem_cons.mpr ⟨lw_p4, List.forall_mem_cons.mpr ⟨lw_p5, List.forall_mem_cons.mpr ⟨lw_p6, List.forall_mem_cons.mpr ⟨lw_p7, List.forall_mem_cons.mpr ⟨lw_p8, List.forall_mem_cons.mpr ⟨lw_p9, List.forall_mem_cons.mpr ⟨lw_p10, List.forall_mem_cons.mpr ⟨lw_p11, List.forall_mem_cons.mpr ⟨lw_p12, List.forall_mem_cons.mpr ⟨lw_p13, List.forall_mem_cons.mpr ⟨lw_p14, List.forall_mem_cons.mpr ⟨lw_p15, fun _ h => absurd h List.not_mem_nil⟩⟩⟩⟩⟩⟩⟩⟩⟩⟩⟩⟩⟩⟩⟩⟩
theorem lw_p16 : lw_okq (⟨"LaneDoors$Reader", "beginOnce", "(I)Z"⟩, 7) := ⟨⟨by decide +kernel, by decide +kernel⟩, List.mem_of_getElem? (i := 48) (by decide +kernel), List.mem_of_getElem? (i := 682) (by decide +kernel), List.mem_of_getElem? (i := 683) (by decide +kernel)⟩
theorem lw_p17 : lw_okq (⟨"LaneDoors$Reader", "readChain", "(II)Z"⟩, 7) := ⟨⟨by decide +kernel, by decide +kernel⟩, List.mem_of_getElem? (i := 48) (by decide +kernel), List.mem_of_getElem? (i := 686) (by decide +kernel), List.mem_of_getElem? (i := 687) (by decide +kernel)⟩
theorem lw_p18 : lw_okq (⟨"LaneDoors$Reader", "readPart", "(II)Z"⟩, 7) := ⟨⟨by decide +kernel, by decide +kernel⟩, List.mem_of_getElem? (i := 48) (by decide +kernel), List.mem_of_getElem? (i := 690) (by decide +kernel), List.mem_of_getElem? (i := 691) (by decide +kernel)⟩
theorem lw_p19 : lw_okq (⟨"LaneDoors$Reader", "readOne", "(I)Z"⟩, 7) := ⟨⟨by decide +kernel, by decide +kernel⟩, List.mem_of_getElem? (i := 48) (by decide +kernel), List.mem_of_getElem? (i := 694) (by decide +kernel), List.mem_of_getElem? (i := 695) (by decide +kernel)⟩
theorem lw_p20 : lw_okq (⟨"LaneDoors$Reader", "readUnit", "(I)Z"⟩, 7) := ⟨⟨by decide +kernel, by decide +kernel⟩, List.mem_of_getElem? (i := 48) (by decide +kernel), List.mem_of_getElem? (i := 702) (by decide +kernel), List.mem_of_getElem? (i := 703) (by decide +kernel)⟩
theorem lw_p21 : lw_okq (⟨"LaneDoors$Reader", "readStock", "()Z"⟩, 7) := ⟨⟨by decide +kernel, by decide +kernel⟩, List.mem_of_getElem? (i := 48) (by decide +kernel), List.mem_of_getElem? (i := 712) (by decide +kernel), List.mem_of_getElem? (i := 713) (by decide +kernel)⟩
theorem lw_p22 : lw_okq (⟨"LaneDoors$Reader", "readDraw", "()Z"⟩, 7) := ⟨⟨by decide +kernel, by decide +kernel⟩, List.mem_of_getElem? (i := 48) (by decide +kernel), List.mem_of_getElem? (i := 716) (by decide +kernel), List.mem_of_getElem? (i := 717) (by decide +kernel)⟩
theorem lw_p23 : lw_okq (⟨"LaneDoors$Formula", "put", "(I)V"⟩, 5) := ⟨⟨by decide +kernel, by decide +kernel⟩, List.mem_of_getElem? (i := 60) (by decide +kernel), List.mem_of_getElem? (i := 839) (by decide +kernel), List.mem_of_getElem? (i := 840) (by decide +kernel)⟩
theorem lw_p24 : lw_okq (⟨"LaneDoors$Formula", "take", "()I"⟩, 5) := ⟨⟨by decide +kernel, by decide +kernel⟩, List.mem_of_getElem? (i := 60) (by decide +kernel), List.mem_of_getElem? (i := 843) (by decide +kernel), List.mem_of_getElem? (i := 844) (by decide +kernel)⟩
theorem lw_p25 : lw_okq (⟨"LaneDoors$Formula", "putOther", "(I)V"⟩, 5) := ⟨⟨by decide +kernel, by decide +kernel⟩, List.mem_of_getElem? (i := 60) (by decide +kernel), List.mem_of_getElem? (i := 850) (by decide +kernel), List.mem_of_getElem? (i := 851) (by decide +kernel)⟩
theorem lw_p26 : lw_okq (⟨"LaneDoors$History", "at", "(I)I"⟩, 4) := ⟨⟨by decide +kernel, by decide +kernel⟩, List.mem_of_getElem? (i := 291) (by decide +kernel), List.mem_of_getElem? (i := 877) (by decide +kernel), List.mem_of_getElem? (i := 878) (by decide +kernel)⟩
theorem lw_p27 : lw_okq (⟨"LaneDoors", "pushedShut", "(IIII)I"⟩, 12) := ⟨⟨by decide +kernel, by decide +kernel⟩, List.mem_of_getElem? (i := 24) (by decide +kernel), List.mem_of_getElem? (i := 912) (by decide +kernel), List.mem_of_getElem? (i := 913) (by decide +kernel)⟩
theorem lw_p28 : lw_okq (⟨"LaneDoors$History", "swap", "(LLaneDoors$State;)LLaneDoors$State;"⟩, 4) := ⟨⟨by decide +kernel, by decide +kernel⟩, List.mem_of_getElem? (i := 291) (by decide +kernel), List.mem_of_getElem? (i := 952) (by decide +kernel), List.mem_of_getElem? (i := 953) (by decide +kernel)⟩
theorem lw_p29 : lw_okq (⟨"LaneDoors", "isShutSet", "(I)Z"⟩, 12) := ⟨⟨by decide +kernel, by decide +kernel⟩, List.mem_of_getElem? (i := 24) (by decide +kernel), List.mem_of_getElem? (i := 972) (by decide +kernel), List.mem_of_getElem? (i := 973) (by decide +kernel)⟩
theorem lw_p30 : lw_okq (⟨"LaneDoors$Opener", "countOnward", "(II)I"⟩, 7) := ⟨⟨by decide +kernel, by decide +kernel⟩, List.mem_of_getElem? (i := 377) (by decide +kernel), List.mem_of_getElem? (i := 995) (by decide +kernel), List.mem_of_getElem? (i := 996) (by decide +kernel)⟩
theorem lw_p31 : lw_okq (⟨"LaneDoors$Opener", "comesNext", "(III)Z"⟩, 7) := ⟨⟨by decide +kernel, by decide +kernel⟩, List.mem_of_getElem? (i := 377) (by decide +kernel), List.mem_of_getElem? (i := 999) (by decide +kernel), List.mem_of_getElem? (i := 1000) (by decide +kernel)⟩
def lw_privs_2 : List (MethodName × Nat) := [(⟨"LaneDoors$Reader", "beginOnce", "(I)Z"⟩, 7), (⟨"LaneDoors$Reader", "readChain", "(II)Z"⟩, 7), (⟨"LaneDoors$Reader", "readPart", "(II)Z"⟩, 7), (⟨"LaneDoors$Reader", "readOne", "(I)Z"⟩, 7), (⟨"LaneDoors$Reader", "readUnit", "(I)Z"⟩, 7), (⟨"LaneDoors$Reader", "readStock", "()Z"⟩, 7), (⟨"LaneDoors$Reader", "readDraw", "()Z"⟩, 7), (⟨"LaneDoors$Formula", "put", "(I)V"⟩, 5), (⟨"LaneDoors$Formula", "take", "()I"⟩, 5), (⟨"LaneDoors$Formula", "putOther", "(I)V"⟩, 5), (⟨"LaneDoors$History", "at", "(I)I"⟩, 4), (⟨"LaneDoors", "pushedShut", "(IIII)I"⟩, 12), (⟨"LaneDoors$History", "swap", "(LLaneDoors$State;)LLaneDoors$State;"⟩, 4), (⟨"LaneDoors", "isShutSet", "(I)Z"⟩, 12), (⟨"LaneDoors$Opener", "countOnward", "(II)I"⟩, 7), (⟨"LaneDoors$Opener", "comesNext", "(III)Z"⟩, 7)]
theorem lw_r2 : ∀ q ∈ lw_privs_2, lw_okq q := List.forall_mem_cons.mpr ⟨lw_p16, List.forall_mem_cons.mpr ⟨lw_p17, List.forall_mem_cons.mpr ⟨lw_p18, List.forall_mem_cons.mpr ⟨lw_p19, List.forall_mem_cons.mpr ⟨lw_p20, List.forall_mem_cons.mpr ⟨lw_p21, List.forall_mem_cons.mpr ⟨lw_p22, List.forall_mem_cons.mpr ⟨lw_p23, List.forall_mem_cons.mpr ⟨lw_p24, List.forall_mem_cons.mpr ⟨lw_p25, List.forall_mem_cons.mpr ⟨lw_p26, List.forall_mem_cons.mpr ⟨lw_p27, List.forall_mem_cons.mpr ⟨lw_p28, List.forall_mem_cons.mpr ⟨lw_p29, List.forall_mem_cons.mpr ⟨lw_p30, List.forall_mem_cons.mpr ⟨lw_p31, fun _ h => absurd h List.not_mem_nil⟩⟩⟩⟩⟩⟩⟩⟩⟩⟩⟩⟩⟩⟩⟩⟩
theorem lw_p32 : lw_okq (⟨"LaneDoors$Opener", "yieldsBehind", "(II)Z"⟩, 7) := ⟨⟨by decide +kernel, by decide +kernel⟩, List.mem_of_getElem? (i := 377) (by decide +kernel), List.mem_of_getElem? (i := 1004) (by decide +kernel), List.mem_of_getElem? (i := 1005) (by decide +kernel)⟩
theorem lw_p33 : lw_okq (⟨"LaneDoors$Opener", "doorsOnward", "(II)I"⟩, 7) := ⟨⟨by decide +kernel, by decide +kernel⟩, List.mem_of_getElem? (i := 377) (by decide +kernel), List.mem_of_getElem? (i := 1013) (by decide +kernel), List.mem_of_getElem? (i := 1014) (by decide +kernel)⟩
theorem lw_p34 : lw_okq (⟨"LaneDoors", "mostOpen", "(II)I"⟩, 12) := ⟨⟨by decide +kernel, by decide +kernel⟩, List.mem_of_getElem? (i := 24) (by decide +kernel), List.mem_of_getElem? (i := 1032) (by decide +kernel), List.mem_of_getElem? (i := 1033) (by decide +kernel)⟩
theorem lw_p35 : lw_okq (⟨"LaneDoors$Opener", "markReached", "()V"⟩, 7) := ⟨⟨by decide +kernel, by decide +kernel⟩, List.mem_of_getElem? (i := 377) (by decide +kernel), List.mem_of_getElem? (i := 1040) (by decide +kernel), List.mem_of_getElem? (i := 1041) (by decide +kernel)⟩
theorem lw_p36 : lw_okq (⟨"LaneDoors$Opener", "lastOf", "(I)I"⟩, 7) := ⟨⟨by decide +kernel, by decide +kernel⟩, List.mem_of_getElem? (i := 377) (by decide +kernel), List.mem_of_getElem? (i := 1044) (by decide +kernel), List.mem_of_getElem? (i := 1045) (by decide +kernel)⟩
theorem lw_p37 : lw_okq (⟨"LaneDoors$Opener", "isReached", "(I)Z"⟩, 7) := ⟨⟨by decide +kernel, by decide +kernel⟩, List.mem_of_getElem? (i := 377) (by decide +kernel), List.mem_of_getElem? (i := 1048) (by decide +kernel), List.mem_of_getElem? (i := 1049) (by decide +kernel)⟩
theorem lw_p38 : lw_okq (⟨"LaneDoors$Opener", "isStuck", "(I)Z"⟩, 7) := ⟨⟨by decide +kernel, by decide +kernel⟩, List.mem_of_getElem? (i := 377) (by decide +kernel), List.mem_of_getElem? (i := 1063) (by decide +kernel), List.mem_of_getElem? (i := 1064) (by decide +kernel)⟩
theorem lw_p39 : lw_okq (⟨"LaneDoors", "neverBoth", "(III)Z"⟩, 12) := ⟨⟨by decide +kernel, by decide +kernel⟩, List.mem_of_getElem? (i := 24) (by decide +kernel), List.mem_of_getElem? (i := 1088) (by decide +kernel), List.mem_of_getElem? (i := 1089) (by decide +kernel)⟩
theorem lw_p40 : lw_okq (⟨"LaneDoors", "fewestTurned", "(I)I"⟩, 12) := ⟨⟨by decide +kernel, by decide +kernel⟩, List.mem_of_getElem? (i := 24) (by decide +kernel), List.mem_of_getElem? (i := 1096) (by decide +kernel), List.mem_of_getElem? (i := 1097) (by decide +kernel)⟩
theorem lw_p41 : lw_okq (⟨"LaneDoors$Streets", "walkOn", "(LLaneDoors$Plan;III)I"⟩, 5) := ⟨⟨by decide +kernel, by decide +kernel⟩, List.mem_of_getElem? (i := 406) (by decide +kernel), List.mem_of_getElem? (i := 1144) (by decide +kernel), List.mem_of_getElem? (i := 1145) (by decide +kernel)⟩
theorem lw_p42 : lw_okq (⟨"LaneDoors$Streets", "stepTo", "(IIII)V"⟩, 5) := ⟨⟨by decide +kernel, by decide +kernel⟩, List.mem_of_getElem? (i := 406) (by decide +kernel), List.mem_of_getElem? (i := 1148) (by decide +kernel), List.mem_of_getElem? (i := 1149) (by decide +kernel)⟩
theorem lw_p43 : lw_okq (⟨"LaneDoors$Opener", "winningMove", "(II)I"⟩, 7) := ⟨⟨by decide +kernel, by decide +kernel⟩, List.mem_of_getElem? (i := 377) (by decide +kernel), List.mem_of_getElem? (i := 1211) (by decide +kernel), List.mem_of_getElem? (i := 1212) (by decide +kernel)⟩
theorem lw_p44 : lw_okq (⟨"LaneDoors", "isTaleSet", "(I)Z"⟩, 12) := ⟨⟨by decide +kernel, by decide +kernel⟩, List.mem_of_getElem? (i := 24) (by decide +kernel), List.mem_of_getElem? (i := 1248) (by decide +kernel), List.mem_of_getElem? (i := 1249) (by decide +kernel)⟩
theorem lw_p45 : lw_okq (⟨"LaneDoors", "startTales", "(II)V"⟩, 12) := ⟨⟨by decide +kernel, by decide +kernel⟩, List.mem_of_getElem? (i := 24) (by decide +kernel), List.mem_of_getElem? (i := 1252) (by decide +kernel), List.mem_of_getElem? (i := 1253) (by decide +kernel)⟩
theorem lw_p46 : lw_okq (⟨"LaneDoorsModel", "clearBank", "()V"⟩, 72) := ⟨⟨by decide +kernel, by decide +kernel⟩, List.mem_of_getElem? (i := 1288) (by decide +kernel), List.mem_of_getElem? (i := 1294) (by decide +kernel), List.mem_of_getElem? (i := 1295) (by decide +kernel)⟩
theorem lw_p47 : lw_okq (⟨"LaneDoorsModel", "startAnew", "()V"⟩, 72) := ⟨⟨by decide +kernel, by decide +kernel⟩, List.mem_of_getElem? (i := 1288) (by decide +kernel), List.mem_of_getElem? (i := 1298) (by decide +kernel), List.mem_of_getElem? (i := 1299) (by decide +kernel)⟩
def lw_privs_3 : List (MethodName × Nat) := [(⟨"LaneDoors$Opener", "yieldsBehind", "(II)Z"⟩, 7), (⟨"LaneDoors$Opener", "doorsOnward", "(II)I"⟩, 7), (⟨"LaneDoors", "mostOpen", "(II)I"⟩, 12), (⟨"LaneDoors$Opener", "markReached", "()V"⟩, 7), (⟨"LaneDoors$Opener", "lastOf", "(I)I"⟩, 7), (⟨"LaneDoors$Opener", "isReached", "(I)Z"⟩, 7), (⟨"LaneDoors$Opener", "isStuck", "(I)Z"⟩, 7), (⟨"LaneDoors", "neverBoth", "(III)Z"⟩, 12), (⟨"LaneDoors", "fewestTurned", "(I)I"⟩, 12), (⟨"LaneDoors$Streets", "walkOn", "(LLaneDoors$Plan;III)I"⟩, 5), (⟨"LaneDoors$Streets", "stepTo", "(IIII)V"⟩, 5), (⟨"LaneDoors$Opener", "winningMove", "(II)I"⟩, 7), (⟨"LaneDoors", "isTaleSet", "(I)Z"⟩, 12), (⟨"LaneDoors", "startTales", "(II)V"⟩, 12), (⟨"LaneDoorsModel", "clearBank", "()V"⟩, 72), (⟨"LaneDoorsModel", "startAnew", "()V"⟩, 72)]
theorem lw_r3 : ∀ q ∈ lw_privs_3, lw_okq q := List.forall_mem_cons.mpr ⟨lw_p32, List.forall_mem_cons.mpr ⟨lw_p33, List.forall_mem_cons.mpr ⟨lw_p34, List.forall_mem_cons.mpr ⟨lw_p35, List.forall_mem_cons.mpr ⟨lw_p36, List.forall_mem_cons.mpr ⟨lw_p37, List.forall_mem_cons.mpr ⟨lw_p38, List.forall_mem_cons.mpr ⟨lw_p39, List.forall_mem_cons.mpr ⟨lw_p40, List.forall_mem_cons.mpr ⟨lw_p41, List.forall_mem_cons.mpr ⟨lw_p42, List.forall_mem_cons.mpr ⟨lw_p43, List.forall_mem_cons.mpr ⟨lw_p44, List.forall_mem_cons.mpr ⟨lw_p45, List.forall_mem_cons.mpr ⟨lw_p46, List.forall_mem_cons.mpr ⟨lw_p47, fun _ h => absurd h List.not_mem_nil⟩⟩⟩⟩⟩⟩⟩⟩⟩⟩⟩⟩⟩⟩⟩⟩
theorem lw_p48 : lw_okq (⟨"LaneDoorsModel", "goOn", "()V"⟩, 72) := ⟨⟨by decide +kernel, by decide +kernel⟩, List.mem_of_getElem? (i := 1288) (by decide +kernel), List.mem_of_getElem? (i := 1523) (by decide +kernel), List.mem_of_getElem? (i := 1524) (by decide +kernel)⟩
theorem lw_p49 : lw_okq (⟨"LaneDoorsModel", "sign", "(I)I"⟩, 72) := ⟨⟨by decide +kernel, by decide +kernel⟩, List.mem_of_getElem? (i := 1288) (by decide +kernel), List.mem_of_getElem? (i := 1527) (by decide +kernel), List.mem_of_getElem? (i := 1528) (by decide +kernel)⟩
theorem lw_p50 : lw_okq (⟨"LaneDoorsModel", "isGood", "()Z"⟩, 72) := ⟨⟨by decide +kernel, by decide +kernel⟩, List.mem_of_getElem? (i := 1288) (by decide +kernel), List.mem_of_getElem? (i := 1568) (by decide +kernel), List.mem_of_getElem? (i := 1569) (by decide +kernel)⟩
theorem lw_p51 : lw_okq (⟨"LaneDoorsModel", "readLine", "()V"⟩, 72) := ⟨⟨by decide +kernel, by decide +kernel⟩, List.mem_of_getElem? (i := 1288) (by decide +kernel), List.mem_of_getElem? (i := 1572) (by decide +kernel), List.mem_of_getElem? (i := 1573) (by decide +kernel)⟩
theorem lw_p52 : lw_okq (⟨"LaneDoorsModel", "isFull", "()Z"⟩, 72) := ⟨⟨by decide +kernel, by decide +kernel⟩, List.mem_of_getElem? (i := 1288) (by decide +kernel), List.mem_of_getElem? (i := 1576) (by decide +kernel), List.mem_of_getElem? (i := 1577) (by decide +kernel)⟩
theorem lw_p53 : lw_okq (⟨"LaneDoorsModel", "isWord", "(J)Z"⟩, 72) := ⟨⟨by decide +kernel, by decide +kernel⟩, List.mem_of_getElem? (i := 1288) (by decide +kernel), List.mem_of_getElem? (i := 1580) (by decide +kernel), List.mem_of_getElem? (i := 1581) (by decide +kernel)⟩
theorem lw_p54 : lw_okq (⟨"LaneDoorsModel", "misplaced", "()V"⟩, 72) := ⟨⟨by decide +kernel, by decide +kernel⟩, List.mem_of_getElem? (i := 1288) (by decide +kernel), List.mem_of_getElem? (i := 1584) (by decide +kernel), List.mem_of_getElem? (i := 1585) (by decide +kernel)⟩
theorem lw_p55 : lw_okq (⟨"LaneDoorsModel", "fails", "(II)V"⟩, 72) := ⟨⟨by decide +kernel, by decide +kernel⟩, List.mem_of_getElem? (i := 1288) (by decide +kernel), List.mem_of_getElem? (i := 1588) (by decide +kernel), List.mem_of_getElem? (i := 1589) (by decide +kernel)⟩
theorem lw_p56 : lw_okq (⟨"LaneDoorsModel", "readLane", "()V"⟩, 72) := ⟨⟨by decide +kernel, by decide +kernel⟩, List.mem_of_getElem? (i := 1288) (by decide +kernel), List.mem_of_getElem? (i := 1592) (by decide +kernel), List.mem_of_getElem? (i := 1593) (by decide +kernel)⟩
theorem lw_p57 : lw_okq (⟨"LaneDoorsModel", "laneHere", "()I"⟩, 72) := ⟨⟨by decide +kernel, by decide +kernel⟩, List.mem_of_getElem? (i := 1288) (by decide +kernel), List.mem_of_getElem? (i := 1596) (by decide +kernel), List.mem_of_getElem? (i := 1597) (by decide +kernel)⟩
theorem lw_p58 : lw_okq (⟨"LaneDoorsModel", "here", "([JII)I"⟩, 72) := ⟨⟨by decide +kernel, by decide +kernel⟩, List.mem_of_getElem? (i := 1288) (by decide +kernel), List.mem_of_getElem? (i := 1600) (by decide +kernel), List.mem_of_getElem? (i := 1601) (by decide +kernel)⟩
theorem lw_p59 : lw_okq (⟨"LaneDoorsModel", "fresh", "(I)J"⟩, 72) := ⟨⟨by decide +kernel, by decide +kernel⟩, List.mem_of_getElem? (i := 1288) (by decide +kernel), List.mem_of_getElem? (i := 1604) (by decide +kernel), List.mem_of_getElem? (i := 1605) (by decide +kernel)⟩
theorem lw_p60 : lw_okq (⟨"LaneDoorsModel", "after", "(JII)I"⟩, 72) := ⟨⟨by decide +kernel, by decide +kernel⟩, List.mem_of_getElem? (i := 1288) (by decide +kernel), List.mem_of_getElem? (i := 1608) (by decide +kernel), List.mem_of_getElem? (i := 1609) (by decide +kernel)⟩
theorem lw_p61 : lw_okq (⟨"LaneDoorsModel", "must", "(Z)V"⟩, 72) := ⟨⟨by decide +kernel, by decide +kernel⟩, List.mem_of_getElem? (i := 1288) (by decide +kernel), List.mem_of_getElem? (i := 1612) (by decide +kernel), List.mem_of_getElem? (i := 1613) (by decide +kernel)⟩
theorem lw_p62 : lw_okq (⟨"LaneDoorsModel", "numeral", "(II)I"⟩, 72) := ⟨⟨by decide +kernel, by decide +kernel⟩, List.mem_of_getElem? (i := 1288) (by decide +kernel), List.mem_of_getElem? (i := 1616) (by decide +kernel), List.mem_of_getElem? (i := 1617) (by decide +kernel)⟩
theorem lw_p63 : lw_okq (⟨"LaneDoorsModel", "readDoor", "()V"⟩, 72) := ⟨⟨by decide +kernel, by decide +kernel⟩, List.mem_of_getElem? (i := 1288) (by decide +kernel), List.mem_of_getElem? (i := 1620) (by decide +kernel), List.mem_of_getElem? (i := 1621) (by decide +kernel)⟩
def lw_privs_4 : List (MethodName × Nat) := [(⟨"LaneDoorsModel", "goOn", "()V"⟩, 72), (⟨"LaneDoorsModel", "sign", "(I)I"⟩, 72), (⟨"LaneDoorsModel", "isGood", "()Z"⟩, 72), (⟨"LaneDoorsModel", "readLine", "()V"⟩, 72), (⟨"LaneDoorsModel", "isFull", "()Z"⟩, 72), (⟨"LaneDoorsModel", "isWord", "(J)Z"⟩, 72), (⟨"LaneDoorsModel", "misplaced", "()V"⟩, 72), (⟨"LaneDoorsModel", "fails", "(II)V"⟩, 72), (⟨"LaneDoorsModel", "readLane", "()V"⟩, 72), (⟨"LaneDoorsModel", "laneHere", "()I"⟩, 72), (⟨"LaneDoorsModel", "here", "([JII)I"⟩, 72), (⟨"LaneDoorsModel", "fresh", "(I)J"⟩, 72), (⟨"LaneDoorsModel", "after", "(JII)I"⟩, 72), (⟨"LaneDoorsModel", "must", "(Z)V"⟩, 72), (⟨"LaneDoorsModel", "numeral", "(II)I"⟩, 72), (⟨"LaneDoorsModel", "readDoor", "()V"⟩, 72)]
theorem lw_r4 : ∀ q ∈ lw_privs_4, lw_okq q := List.forall_mem_cons.mpr ⟨lw_p48, List.forall_mem_cons.mpr ⟨lw_p49, List.forall_mem_cons.mpr ⟨lw_p50, List.forall_mem_cons.mpr ⟨lw_p51, List.forall_mem_cons.mpr ⟨lw_p52, List.forall_mem_cons.mpr ⟨lw_p53, List.forall_mem_cons.mpr ⟨lw_p54, List.forall_mem_cons.mpr ⟨lw_p55, List.forall_mem_cons.mpr ⟨lw_p56, List.forall_mem_cons.mpr ⟨lw_p57, List.forall_mem_cons.mpr ⟨lw_p58, List.forall_mem_cons.mpr ⟨lw_p59, List.forall_mem_cons.mpr ⟨lw_p60, List.forall_mem_cons.mpr ⟨lw_p61, List.forall_mem_cons.mpr ⟨lw_p62, List.forall_mem_cons.mpr ⟨lw_p63, fun _ h => absurd h List.not_mem_nil⟩⟩⟩⟩⟩⟩⟩⟩⟩⟩⟩⟩⟩⟩⟩⟩
theorem lw_p64 : lw_okq (⟨"LaneDoorsModel", "known", "(I)I"⟩, 72) := ⟨⟨by decide +kernel, by decide +kernel⟩, List.mem_of_getElem? (i := 1288) (by decide +kernel), List.mem_of_getElem? (i := 1624) (by decide +kernel), List.mem_of_getElem? (i := 1625) (by decide +kernel)⟩
theorem lw_p65 : lw_okq (⟨"LaneDoorsModel", "either", "(JJ)Z"⟩, 72) := ⟨⟨by decide +kernel, by decide +kernel⟩, List.mem_of_getElem? (i := 1288) (by decide +kernel), List.mem_of_getElem? (i := 1628) (by decide +kernel), List.mem_of_getElem? (i := 1629) (by decide +kernel)⟩
theorem lw_p66 : lw_okq (⟨"LaneDoorsModel", "isTaken", "(IZ)Z"⟩, 72) := ⟨⟨by decide +kernel, by decide +kernel⟩, List.mem_of_getElem? (i := 1288) (by decide +kernel), List.mem_of_getElem? (i := 1632) (by decide +kernel), List.mem_of_getElem? (i := 1633) (by decide +kernel)⟩
theorem lw_p67 : lw_okq (⟨"LaneDoorsModel", "perhaps", "(J)Z"⟩, 72) := ⟨⟨by decide +kernel, by decide +kernel⟩, List.mem_of_getElem? (i := 1288) (by decide +kernel), List.mem_of_getElem? (i := 1636) (by decide +kernel), List.mem_of_getElem? (i := 1637) (by decide +kernel)⟩
theorem lw_p68 : lw_okq (⟨"LaneDoorsModel", "readCorner", "()V"⟩, 72) := ⟨⟨by decide +kernel, by decide +kernel⟩, List.mem_of_getElem? (i := 1288) (by decide +kernel), List.mem_of_getElem? (i := 1640) (by decide +kernel), List.mem_of_getElem? (i := 1641) (by decide +kernel)⟩
theorem lw_p69 : lw_okq (⟨"LaneDoorsModel", "readRule", "()V"⟩, 72) := ⟨⟨by decide +kernel, by decide +kernel⟩, List.mem_of_getElem? (i := 1288) (by decide +kernel), List.mem_of_getElem? (i := 1644) (by decide +kernel), List.mem_of_getElem? (i := 1645) (by decide +kernel)⟩
theorem lw_p70 : lw_okq (⟨"LaneDoorsModel", "e", "()V"⟩, 72) := ⟨⟨by decide +kernel, by decide +kernel⟩, List.mem_of_getElem? (i := 1288) (by decide +kernel), List.mem_of_getElem? (i := 1648) (by decide +kernel), List.mem_of_getElem? (i := 1649) (by decide +kernel)⟩
theorem lw_p71 : lw_okq (⟨"LaneDoorsModel", "pushE", "(II)V"⟩, 72) := ⟨⟨by decide +kernel, by decide +kernel⟩, List.mem_of_getElem? (i := 1288) (by decide +kernel), List.mem_of_getElem? (i := 1652) (by decide +kernel), List.mem_of_getElem? (i := 1653) (by decide +kernel)⟩
theorem lw_p72 : lw_okq (⟨"LaneDoorsModel", "unit", "()Z"⟩, 72) := ⟨⟨by decide +kernel, by decide +kernel⟩, List.mem_of_getElem? (i := 1288) (by decide +kernel), List.mem_of_getElem? (i := 1656) (by decide +kernel), List.mem_of_getElem? (i := 1657) (by decide +kernel)⟩
theorem lw_p73 : lw_okq (⟨"LaneDoorsModel", "isSignHere", "(I)Z"⟩, 72) := ⟨⟨by decide +kernel, by decide +kernel⟩, List.mem_of_getElem? (i := 1288) (by decide +kernel), List.mem_of_getElem? (i := 1660) (by decide +kernel), List.mem_of_getElem? (i := 1661) (by decide +kernel)⟩
theorem lw_p74 : lw_okq (⟨"LaneDoorsModel", "wordHere", "()I"⟩, 72) := ⟨⟨by decide +kernel, by decide +kernel⟩, List.mem_of_getElem? (i := 1288) (by decide +kernel), List.mem_of_getElem? (i := 1664) (by decide +kernel), List.mem_of_getElem? (i := 1665) (by decide +kernel)⟩
theorem lw_p75 : lw_okq (⟨"LaneDoorsModel", "emit", "(II)V"⟩, 72) := ⟨⟨by decide +kernel, by decide +kernel⟩, List.mem_of_getElem? (i := 1288) (by decide +kernel), List.mem_of_getElem? (i := 1668) (by decide +kernel), List.mem_of_getElem? (i := 1669) (by decide +kernel)⟩
theorem lw_p76 : lw_okq (⟨"LaneDoorsModel", "behindUnit", "()Z"⟩, 72) := ⟨⟨by decide +kernel, by decide +kernel⟩, List.mem_of_getElem? (i := 1288) (by decide +kernel), List.mem_of_getElem? (i := 1672) (by decide +kernel), List.mem_of_getElem? (i := 1673) (by decide +kernel)⟩
theorem lw_p77 : lw_okq (⟨"LaneDoorsModel", "rankHere", "()I"⟩, 72) := ⟨⟨by decide +kernel, by decide +kernel⟩, List.mem_of_getElem? (i := 1288) (by decide +kernel), List.mem_of_getElem? (i := 1676) (by decide +kernel), List.mem_of_getElem? (i := 1677) (by decide +kernel)⟩
theorem lw_p78 : lw_okq (⟨"LaneDoorsModel", "isCompared", "()Z"⟩, 72) := ⟨⟨by decide +kernel, by decide +kernel⟩, List.mem_of_getElem? (i := 1288) (by decide +kernel), List.mem_of_getElem? (i := 1680) (by decide +kernel), List.mem_of_getElem? (i := 1681) (by decide +kernel)⟩
theorem lw_p79 : lw_okq (⟨"LaneDoorsModel", "isDoor", "(I)Z"⟩, 72) := ⟨⟨by decide +kernel, by decide +kernel⟩, List.mem_of_getElem? (i := 1288) (by decide +kernel), List.mem_of_getElem? (i := 1692) (by decide +kernel), List.mem_of_getElem? (i := 1693) (by decide +kernel)⟩
def lw_privs_5 : List (MethodName × Nat) := [(⟨"LaneDoorsModel", "known", "(I)I"⟩, 72), (⟨"LaneDoorsModel", "either", "(JJ)Z"⟩, 72), (⟨"LaneDoorsModel", "isTaken", "(IZ)Z"⟩, 72), (⟨"LaneDoorsModel", "perhaps", "(J)Z"⟩, 72), (⟨"LaneDoorsModel", "readCorner", "()V"⟩, 72), (⟨"LaneDoorsModel", "readRule", "()V"⟩, 72), (⟨"LaneDoorsModel", "e", "()V"⟩, 72), (⟨"LaneDoorsModel", "pushE", "(II)V"⟩, 72), (⟨"LaneDoorsModel", "unit", "()Z"⟩, 72), (⟨"LaneDoorsModel", "isSignHere", "(I)Z"⟩, 72), (⟨"LaneDoorsModel", "wordHere", "()I"⟩, 72), (⟨"LaneDoorsModel", "emit", "(II)V"⟩, 72), (⟨"LaneDoorsModel", "behindUnit", "()Z"⟩, 72), (⟨"LaneDoorsModel", "rankHere", "()I"⟩, 72), (⟨"LaneDoorsModel", "isCompared", "()Z"⟩, 72), (⟨"LaneDoorsModel", "isDoor", "(I)Z"⟩, 72)]
theorem lw_r5 : ∀ q ∈ lw_privs_5, lw_okq q := List.forall_mem_cons.mpr ⟨lw_p64, List.forall_mem_cons.mpr ⟨lw_p65, List.forall_mem_cons.mpr ⟨lw_p66, List.forall_mem_cons.mpr ⟨lw_p67, List.forall_mem_cons.mpr ⟨lw_p68, List.forall_mem_cons.mpr ⟨lw_p69, List.forall_mem_cons.mpr ⟨lw_p70, List.forall_mem_cons.mpr ⟨lw_p71, List.forall_mem_cons.mpr ⟨lw_p72, List.forall_mem_cons.mpr ⟨lw_p73, List.forall_mem_cons.mpr ⟨lw_p74, List.forall_mem_cons.mpr ⟨lw_p75, List.forall_mem_cons.mpr ⟨lw_p76, List.forall_mem_cons.mpr ⟨lw_p77, List.forall_mem_cons.mpr ⟨lw_p78, List.forall_mem_cons.mpr ⟨lw_p79, fun _ h => absurd h List.not_mem_nil⟩⟩⟩⟩⟩⟩⟩⟩⟩⟩⟩⟩⟩⟩⟩⟩
theorem lw_p80 : lw_okq (⟨"LaneDoorsModel", "many", "()I"⟩, 72) := ⟨⟨by decide +kernel, by decide +kernel⟩, List.mem_of_getElem? (i := 1288) (by decide +kernel), List.mem_of_getElem? (i := 1696) (by decide +kernel), List.mem_of_getElem? (i := 1697) (by decide +kernel)⟩
theorem lw_p81 : lw_okq (⟨"LaneDoorsModel", "lane", "(I)I"⟩, 72) := ⟨⟨by decide +kernel, by decide +kernel⟩, List.mem_of_getElem? (i := 1288) (by decide +kernel), List.mem_of_getElem? (i := 1703) (by decide +kernel), List.mem_of_getElem? (i := 1704) (by decide +kernel)⟩
theorem lw_p82 : lw_okq (⟨"LaneDoorsModel", "first", "(I)I"⟩, 72) := ⟨⟨by decide +kernel, by decide +kernel⟩, List.mem_of_getElem? (i := 1288) (by decide +kernel), List.mem_of_getElem? (i := 1707) (by decide +kernel), List.mem_of_getElem? (i := 1708) (by decide +kernel)⟩
theorem lw_p83 : lw_okq (⟨"LaneDoorsModel", "broad", "(I)I"⟩, 72) := ⟨⟨by decide +kernel, by decide +kernel⟩, List.mem_of_getElem? (i := 1288) (by decide +kernel), List.mem_of_getElem? (i := 1711) (by decide +kernel), List.mem_of_getElem? (i := 1712) (by decide +kernel)⟩
theorem lw_p84 : lw_okq (⟨"LaneDoorsModel", "hingeOf", "(II)I"⟩, 72) := ⟨⟨by decide +kernel, by decide +kernel⟩, List.mem_of_getElem? (i := 1288) (by decide +kernel), List.mem_of_getElem? (i := 1715) (by decide +kernel), List.mem_of_getElem? (i := 1716) (by decide +kernel)⟩
theorem lw_p85 : lw_okq (⟨"LaneDoorsModel", "layHinderers", "(I)V"⟩, 72) := ⟨⟨by decide +kernel, by decide +kernel⟩, List.mem_of_getElem? (i := 1288) (by decide +kernel), List.mem_of_getElem? (i := 1729) (by decide +kernel), List.mem_of_getElem? (i := 1730) (by decide +kernel)⟩
theorem lw_p86 : lw_okq (⟨"LaneDoorsModel", "doesHinder", "(III)Z"⟩, 72) := ⟨⟨by decide +kernel, by decide +kernel⟩, List.mem_of_getElem? (i := 1288) (by decide +kernel), List.mem_of_getElem? (i := 1733) (by decide +kernel), List.mem_of_getElem? (i := 1734) (by decide +kernel)⟩
theorem lw_p87 : lw_okq (⟨"LaneDoorsModel", "isSouth", "(I)Z"⟩, 72) := ⟨⟨by decide +kernel, by decide +kernel⟩, List.mem_of_getElem? (i := 1288) (by decide +kernel), List.mem_of_getElem? (i := 1737) (by decide +kernel), List.mem_of_getElem? (i := 1738) (by decide +kernel)⟩
theorem lw_p88 : lw_okq (⟨"LaneDoorsModel", "reach", "(I)I"⟩, 72) := ⟨⟨by decide +kernel, by decide +kernel⟩, List.mem_of_getElem? (i := 1288) (by decide +kernel), List.mem_of_getElem? (i := 1741) (by decide +kernel), List.mem_of_getElem? (i := 1742) (by decide +kernel)⟩
theorem lw_p89 : lw_okq (⟨"LaneDoorsModel", "wide", "(I)I"⟩, 72) := ⟨⟨by decide +kernel, by decide +kernel⟩, List.mem_of_getElem? (i := 1288) (by decide +kernel), List.mem_of_getElem? (i := 1745) (by decide +kernel), List.mem_of_getElem? (i := 1746) (by decide +kernel)⟩
theorem lw_p90 : lw_okq (⟨"LaneDoorsModel", "moving", "()I"⟩, 72) := ⟨⟨by decide +kernel, by decide +kernel⟩, List.mem_of_getElem? (i := 1288) (by decide +kernel), List.mem_of_getElem? (i := 1749) (by decide +kernel), List.mem_of_getElem? (i := 1750) (by decide +kernel)⟩
theorem lw_p91 : lw_okq (⟨"LaneDoorsModel", "canOpen", "(III)Z"⟩, 72) := ⟨⟨by decide +kernel, by decide +kernel⟩, List.mem_of_getElem? (i := 1288) (by decide +kernel), List.mem_of_getElem? (i := 1753) (by decide +kernel), List.mem_of_getElem? (i := 1754) (by decide +kernel)⟩
theorem lw_p92 : lw_okq (⟨"LaneDoorsModel", "isPlace", "(II)Z"⟩, 72) := ⟨⟨by decide +kernel, by decide +kernel⟩, List.mem_of_getElem? (i := 1288) (by decide +kernel), List.mem_of_getElem? (i := 1765) (by decide +kernel), List.mem_of_getElem? (i := 1766) (by decide +kernel)⟩
theorem lw_p93 : lw_okq (⟨"LaneDoorsModel", "isLane", "(I)Z"⟩, 72) := ⟨⟨by decide +kernel, by decide +kernel⟩, List.mem_of_getElem? (i := 1288) (by decide +kernel), List.mem_of_getElem? (i := 1769) (by decide +kernel), List.mem_of_getElem? (i := 1770) (by decide +kernel)⟩
theorem lw_p94 : lw_okq (⟨"LaneDoorsModel", "freeAt", "(III)I"⟩, 72) := ⟨⟨by decide +kernel, by decide +kernel⟩, List.mem_of_getElem? (i := 1288) (by decide +kernel), List.mem_of_getElem? (i := 1773) (by decide +kernel), List.mem_of_getElem? (i := 1774) (by decide +kernel)⟩
theorem lw_p95 : lw_okq (⟨"LaneDoorsModel", "oilOf", "(I)I"⟩, 72) := ⟨⟨by decide +kernel, by decide +kernel⟩, List.mem_of_getElem? (i := 1288) (by decide +kernel), List.mem_of_getElem? (i := 1781) (by decide +kernel), List.mem_of_getElem? (i := 1782) (by decide +kernel)⟩
def lw_privs_6 : List (MethodName × Nat) := [(⟨"LaneDoorsModel", "many", "()I"⟩, 72), (⟨"LaneDoorsModel", "lane", "(I)I"⟩, 72), (⟨"LaneDoorsModel", "first", "(I)I"⟩, 72), (⟨"LaneDoorsModel", "broad", "(I)I"⟩, 72), (⟨"LaneDoorsModel", "hingeOf", "(II)I"⟩, 72), (⟨"LaneDoorsModel", "layHinderers", "(I)V"⟩, 72), (⟨"LaneDoorsModel", "doesHinder", "(III)Z"⟩, 72), (⟨"LaneDoorsModel", "isSouth", "(I)Z"⟩, 72), (⟨"LaneDoorsModel", "reach", "(I)I"⟩, 72), (⟨"LaneDoorsModel", "wide", "(I)I"⟩, 72), (⟨"LaneDoorsModel", "moving", "()I"⟩, 72), (⟨"LaneDoorsModel", "canOpen", "(III)Z"⟩, 72), (⟨"LaneDoorsModel", "isPlace", "(II)Z"⟩, 72), (⟨"LaneDoorsModel", "isLane", "(I)Z"⟩, 72), (⟨"LaneDoorsModel", "freeAt", "(III)I"⟩, 72), (⟨"LaneDoorsModel", "oilOf", "(I)I"⟩, 72)]
theorem lw_r6 : ∀ q ∈ lw_privs_6, lw_okq q := List.forall_mem_cons.mpr ⟨lw_p80, List.forall_mem_cons.mpr ⟨lw_p81, List.forall_mem_cons.mpr ⟨lw_p82, List.forall_mem_cons.mpr ⟨lw_p83, List.forall_mem_cons.mpr ⟨lw_p84, List.forall_mem_cons.mpr ⟨lw_p85, List.forall_mem_cons.mpr ⟨lw_p86, List.forall_mem_cons.mpr ⟨lw_p87, List.forall_mem_cons.mpr ⟨lw_p88, List.forall_mem_cons.mpr ⟨lw_p89, List.forall_mem_cons.mpr ⟨lw_p90, List.forall_mem_cons.mpr ⟨lw_p91, List.forall_mem_cons.mpr ⟨lw_p92, List.forall_mem_cons.mpr ⟨lw_p93, List.forall_mem_cons.mpr ⟨lw_p94, List.forall_mem_cons.mpr ⟨lw_p95, fun _ h => absurd h List.not_mem_nil⟩⟩⟩⟩⟩⟩⟩⟩⟩⟩⟩⟩⟩⟩⟩⟩
theorem lw_p96 : lw_okq (⟨"LaneDoorsModel", "asked", "(III)I"⟩, 72) := ⟨⟨by decide +kernel, by decide +kernel⟩, List.mem_of_getElem? (i := 1288) (by decide +kernel), List.mem_of_getElem? (i := 1785) (by decide +kernel), List.mem_of_getElem? (i := 1786) (by decide +kernel)⟩
theorem lw_p97 : lw_okq (⟨"LaneDoorsModel", "keepAct", "()V"⟩, 72) := ⟨⟨by decide +kernel, by decide +kernel⟩, List.mem_of_getElem? (i := 1288) (by decide +kernel), List.mem_of_getElem? (i := 1797) (by decide +kernel), List.mem_of_getElem? (i := 1798) (by decide +kernel)⟩
theorem lw_p98 : lw_okq (⟨"LaneDoorsModel", "isIdle", "(I)Z"⟩, 72) := ⟨⟨by decide +kernel, by decide +kernel⟩, List.mem_of_getElem? (i := 1288) (by decide +kernel), List.mem_of_getElem? (i := 1809) (by decide +kernel), List.mem_of_getElem? (i := 1810) (by decide +kernel)⟩
theorem lw_p99 : lw_okq (⟨"LaneDoorsModel", "pushedBy", "(IIII)I"⟩, 72) := ⟨⟨by decide +kernel, by decide +kernel⟩, List.mem_of_getElem? (i := 1288) (by decide +kernel), List.mem_of_getElem? (i := 1821) (by decide +kernel), List.mem_of_getElem? (i := 1822) (by decide +kernel)⟩
theorem lw_p100 : lw_okq (⟨"LaneDoorsModel", "blows", "(I)I"⟩, 72) := ⟨⟨by decide +kernel, by decide +kernel⟩, List.mem_of_getElem? (i := 1288) (by decide +kernel), List.mem_of_getElem? (i := 1837) (by decide +kernel), List.mem_of_getElem? (i := 1838) (by decide +kernel)⟩
theorem lw_p101 : lw_okq (⟨"LaneDoorsModel", "blownBy", "(II)I"⟩, 72) := ⟨⟨by decide +kernel, by decide +kernel⟩, List.mem_of_getElem? (i := 1288) (by decide +kernel), List.mem_of_getElem? (i := 1841) (by decide +kernel), List.mem_of_getElem? (i := 1842) (by decide +kernel)⟩
theorem lw_p102 : lw_okq (⟨"LaneDoorsModel", "exchange", "()V"⟩, 72) := ⟨⟨by decide +kernel, by decide +kernel⟩, List.mem_of_getElem? (i := 1288) (by decide +kernel), List.mem_of_getElem? (i := 1865) (by decide +kernel), List.mem_of_getElem? (i := 1866) (by decide +kernel)⟩
theorem lw_p103 : lw_okq (⟨"LaneDoorsModel", "isShutSet", "(I)Z"⟩, 72) := ⟨⟨by decide +kernel, by decide +kernel⟩, List.mem_of_getElem? (i := 1288) (by decide +kernel), List.mem_of_getElem? (i := 1881) (by decide +kernel), List.mem_of_getElem? (i := 1882) (by decide +kernel)⟩
theorem lw_p104 : lw_okq (⟨"LaneDoorsModel", "isSet", "(I)Z"⟩, 72) := ⟨⟨by decide +kernel, by decide +kernel⟩, List.mem_of_getElem? (i := 1288) (by decide +kernel), List.mem_of_getElem? (i := 1885) (by decide +kernel), List.mem_of_getElem? (i := 1886) (by decide +kernel)⟩
theorem lw_p105 : lw_okq (⟨"LaneDoorsModel", "ordersBy", "(II)I"⟩, 72) := ⟨⟨by decide +kernel, by decide +kernel⟩, List.mem_of_getElem? (i := 1288) (by decide +kernel), List.mem_of_getElem? (i := 1889) (by decide +kernel), List.mem_of_getElem? (i := 1890) (by decide +kernel)⟩
theorem lw_p106 : lw_okq (⟨"LaneDoorsModel", "clearAhead", "()V"⟩, 72) := ⟨⟨by decide +kernel, by decide +kernel⟩, List.mem_of_getElem? (i := 1288) (by decide +kernel), List.mem_of_getElem? (i := 1893) (by decide +kernel), List.mem_of_getElem? (i := 1894) (by decide +kernel)⟩
theorem lw_p107 : lw_okq (⟨"LaneDoorsModel", "layWays", "(III)I"⟩, 72) := ⟨⟨by decide +kernel, by decide +kernel⟩, List.mem_of_getElem? (i := 1288) (by decide +kernel), List.mem_of_getElem? (i := 1897) (by decide +kernel), List.mem_of_getElem? (i := 1898) (by decide +kernel)⟩
theorem lw_p108 : lw_okq (⟨"LaneDoorsModel", "comesNext", "(IIIII)Z"⟩, 72) := ⟨⟨by decide +kernel, by decide +kernel⟩, List.mem_of_getElem? (i := 1288) (by decide +kernel), List.mem_of_getElem? (i := 1901) (by decide +kernel), List.mem_of_getElem? (i := 1902) (by decide +kernel)⟩
theorem lw_p109 : lw_okq (⟨"LaneDoorsModel", "layFirst", "(III)V"⟩, 72) := ⟨⟨by decide +kernel, by decide +kernel⟩, List.mem_of_getElem? (i := 1288) (by decide +kernel), List.mem_of_getElem? (i := 1905) (by decide +kernel), List.mem_of_getElem? (i := 1906) (by decide +kernel)⟩
theorem lw_p110 : lw_okq (⟨"LaneDoorsModel", "mostBy", "(II)I"⟩, 72) := ⟨⟨by decide +kernel, by decide +kernel⟩, List.mem_of_getElem? (i := 1288) (by decide +kernel), List.mem_of_getElem? (i := 1913) (by decide +kernel), List.mem_of_getElem? (i := 1914) (by decide +kernel)⟩
theorem lw_p111 : lw_okq (⟨"LaneDoorsModel", "layComes", "(III)V"⟩, 72) := ⟨⟨by decide +kernel, by decide +kernel⟩, List.mem_of_getElem? (i := 1288) (by decide +kernel), List.mem_of_getElem? (i := 1917) (by decide +kernel), List.mem_of_getElem? (i := 1918) (by decide +kernel)⟩
def lw_privs_7 : List (MethodName × Nat) := [(⟨"LaneDoorsModel", "asked", "(III)I"⟩, 72), (⟨"LaneDoorsModel", "keepAct", "()V"⟩, 72), (⟨"LaneDoorsModel", "isIdle", "(I)Z"⟩, 72), (⟨"LaneDoorsModel", "pushedBy", "(IIII)I"⟩, 72), (⟨"LaneDoorsModel", "blows", "(I)I"⟩, 72), (⟨"LaneDoorsModel", "blownBy", "(II)I"⟩, 72), (⟨"LaneDoorsModel", "exchange", "()V"⟩, 72), (⟨"LaneDoorsModel", "isShutSet", "(I)Z"⟩, 72), (⟨"LaneDoorsModel", "isSet", "(I)Z"⟩, 72), (⟨"LaneDoorsModel", "ordersBy", "(II)I"⟩, 72), (⟨"LaneDoorsModel", "clearAhead", "()V"⟩, 72), (⟨"LaneDoorsModel", "layWays", "(III)I"⟩, 72), (⟨"LaneDoorsModel", "comesNext", "(IIIII)Z"⟩, 72), (⟨"LaneDoorsModel", "layFirst", "(III)V"⟩, 72), (⟨"LaneDoorsModel", "mostBy", "(II)I"⟩, 72), (⟨"LaneDoorsModel", "layComes", "(III)V"⟩, 72)]
theorem lw_r7 : ∀ q ∈ lw_privs_7, lw_okq q := List.forall_mem_cons.mpr ⟨lw_p96, List.forall_mem_cons.mpr ⟨lw_p97, List.forall_mem_cons.mpr ⟨lw_p98, List.forall_mem_cons.mpr ⟨lw_p99, List.forall_mem_cons.mpr ⟨lw_p100, List.forall_mem_cons.mpr ⟨lw_p101, List.forall_mem_cons.mpr ⟨lw_p102, List.forall_mem_cons.mpr ⟨lw_p103, List.forall_mem_cons.mpr ⟨lw_p104, List.forall_mem_cons.mpr ⟨lw_p105, List.forall_mem_cons.mpr ⟨lw_p106, List.forall_mem_cons.mpr ⟨lw_p107, List.forall_mem_cons.mpr ⟨lw_p108, List.forall_mem_cons.mpr ⟨lw_p109, List.forall_mem_cons.mpr ⟨lw_p110, List.forall_mem_cons.mpr ⟨lw_p111, fun _ h => absurd h List.not_mem_nil⟩⟩⟩⟩⟩⟩⟩⟩⟩⟩⟩⟩⟩⟩⟩⟩
theorem lw_p112 : lw_okq (⟨"LaneDoorsModel", "isStuck", "(I)Z"⟩, 72) := ⟨⟨by decide +kernel, by decide +kernel⟩, List.mem_of_getElem? (i := 1288) (by decide +kernel), List.mem_of_getElem? (i := 1928) (by decide +kernel), List.mem_of_getElem? (i := 1929) (by decide +kernel)⟩
theorem lw_p113 : lw_okq (⟨"LaneDoorsModel", "oils", "(I)I"⟩, 72) := ⟨⟨by decide +kernel, by decide +kernel⟩, List.mem_of_getElem? (i := 1288) (by decide +kernel), List.mem_of_getElem? (i := 1936) (by decide +kernel), List.mem_of_getElem? (i := 1937) (by decide +kernel)⟩
theorem lw_p114 : lw_okq (⟨"LaneDoorsModel", "areFit", "(IIIII)Z"⟩, 72) := ⟨⟨by decide +kernel, by decide +kernel⟩, List.mem_of_getElem? (i := 1288) (by decide +kernel), List.mem_of_getElem? (i := 1968) (by decide +kernel), List.mem_of_getElem? (i := 1969) (by decide +kernel)⟩
theorem lw_p115 : lw_okq (⟨"LaneDoorsModel", "wayBy", "(IIIIIII)I"⟩, 72) := ⟨⟨by decide +kernel, by decide +kernel⟩, List.mem_of_getElem? (i := 1288) (by decide +kernel), List.mem_of_getElem? (i := 1972) (by decide +kernel), List.mem_of_getElem? (i := 1973) (by decide +kernel)⟩
theorem lw_p116 : lw_okq (⟨"LaneDoorsModel", "laySteps", "(IIII)V"⟩, 72) := ⟨⟨by decide +kernel, by decide +kernel⟩, List.mem_of_getElem? (i := 1288) (by decide +kernel), List.mem_of_getElem? (i := 1976) (by decide +kernel), List.mem_of_getElem? (i := 1977) (by decide +kernel)⟩
theorem lw_p117 : lw_okq (⟨"LaneDoorsModel", "comeTo", "(IIIII)V"⟩, 72) := ⟨⟨by decide +kernel, by decide +kernel⟩, List.mem_of_getElem? (i := 1288) (by decide +kernel), List.mem_of_getElem? (i := 1980) (by decide +kernel), List.mem_of_getElem? (i := 1981) (by decide +kernel)⟩
theorem lw_p118 : lw_okq (⟨"LaneDoorsModel", "isFreeFor", "(IIII)Z"⟩, 72) := ⟨⟨by decide +kernel, by decide +kernel⟩, List.mem_of_getElem? (i := 1288) (by decide +kernel), List.mem_of_getElem? (i := 1984) (by decide +kernel), List.mem_of_getElem? (i := 1985) (by decide +kernel)⟩
theorem lw_p119 : lw_okq (⟨"LaneDoorsModel", "winsBy", "(II)I"⟩, 72) := ⟨⟨by decide +kernel, by decide +kernel⟩, List.mem_of_getElem? (i := 1288) (by decide +kernel), List.mem_of_getElem? (i := 2016) (by decide +kernel), List.mem_of_getElem? (i := 2017) (by decide +kernel)⟩
theorem lw_p120 : lw_okq (⟨"LaneDoorsModel", "isTale", "(I)Z"⟩, 72) := ⟨⟨by decide +kernel, by decide +kernel⟩, List.mem_of_getElem? (i := 1288) (by decide +kernel), List.mem_of_getElem? (i := 2037) (by decide +kernel), List.mem_of_getElem? (i := 2038) (by decide +kernel)⟩
theorem lw_p121 : lw_okq (⟨"LaneDoorsModel", "layHeard", "(I)V"⟩, 72) := ⟨⟨by decide +kernel, by decide +kernel⟩, List.mem_of_getElem? (i := 1288) (by decide +kernel), List.mem_of_getElem? (i := 2041) (by decide +kernel), List.mem_of_getElem? (i := 2042) (by decide +kernel)⟩
def lw_privs_8 : List (MethodName × Nat) := [(⟨"LaneDoorsModel", "isStuck", "(I)Z"⟩, 72), (⟨"LaneDoorsModel", "oils", "(I)I"⟩, 72), (⟨"LaneDoorsModel", "areFit", "(IIIII)Z"⟩, 72), (⟨"LaneDoorsModel", "wayBy", "(IIIIIII)I"⟩, 72), (⟨"LaneDoorsModel", "laySteps", "(IIII)V"⟩, 72), (⟨"LaneDoorsModel", "comeTo", "(IIIII)V"⟩, 72), (⟨"LaneDoorsModel", "isFreeFor", "(IIII)Z"⟩, 72), (⟨"LaneDoorsModel", "winsBy", "(II)I"⟩, 72), (⟨"LaneDoorsModel", "isTale", "(I)Z"⟩, 72), (⟨"LaneDoorsModel", "layHeard", "(I)V"⟩, 72)]
theorem lw_r8 : ∀ q ∈ lw_privs_8, lw_okq q := List.forall_mem_cons.mpr ⟨lw_p112, List.forall_mem_cons.mpr ⟨lw_p113, List.forall_mem_cons.mpr ⟨lw_p114, List.forall_mem_cons.mpr ⟨lw_p115, List.forall_mem_cons.mpr ⟨lw_p116, List.forall_mem_cons.mpr ⟨lw_p117, List.forall_mem_cons.mpr ⟨lw_p118, List.forall_mem_cons.mpr ⟨lw_p119, List.forall_mem_cons.mpr ⟨lw_p120, List.forall_mem_cons.mpr ⟨lw_p121, fun _ h => absurd h List.not_mem_nil⟩⟩⟩⟩⟩⟩⟩⟩⟩⟩
def lw_privs : List (MethodName × Nat) := lw_privs_1 ++ (lw_privs_2 ++ (lw_privs_3 ++ (lw_privs_4 ++ (lw_privs_5 ++ (lw_privs_6 ++ (lw_privs_7 ++ (lw_privs_8)))))))
def lw_tbl : List Cond := k2_sels lw_privs ++ tables_1
theorem lw_privs_ok : ∀ q ∈ lw_privs, lw_okq q := by
  show ∀ q ∈ lw_privs_1 ++ (lw_privs_2 ++ (lw_privs_3 ++ (lw_privs_4 ++ (lw_privs_5 ++ (lw_privs_6 ++ (lw_privs_7 ++ (lw_privs_8))))))), lw_okq q
  exact List.forall_mem_append.mpr ⟨lw_r1, List.forall_mem_append.mpr ⟨lw_r2, List.forall_mem_append.mpr ⟨lw_r3, List.forall_mem_append.mpr ⟨lw_r4, List.forall_mem_append.mpr ⟨lw_r5, List.forall_mem_append.mpr ⟨lw_r6, List.forall_mem_append.mpr ⟨lw_r7, lw_r8⟩⟩⟩⟩⟩⟩⟩
end
section
def RX0 : String := "LaneDoors$Formula"
def TX0 : u_T := fun k => match k with
  | 0 => ("LaneDoors$Formula", "steps", "[I", true)
  | 1 => ("LaneDoors$Formula", "stack", "[I", true)
  | 2 => ("LaneDoors$Formula", "size", "I", false)
  | 3 => ("LaneDoors$Formula", "height", "I", false)
  | _ => ("LaneDoors$Formula", "units", "I", false)
def tyX0 : Nat → FieldType := fun k => match k with
  | 0 => .array .int
  | 1 => .array .int
  | 2 => .int
  | 3 => .int
  | _ => .int
theorem nmX0 : ∀ a, a < 5 → ∀ b, b < 5 → a ≠ b → (TX0 a).2.1 ≠ (TX0 b).2.1 := by decide +kernel
theorem tyX0_ok : ∀ k, k < 5 → parseFieldDescriptor (TX0 k).2.2.1 = some (tyX0 k) := by decide +kernel
def RX1 : String := "LaneDoors$Hearsay"
def TX1 : u_T := fun k => match k with
  | 0 => ("LaneDoors$Hearsay", "first", "[I", true)
  | 1 => ("LaneDoors$Hearsay", "second", "[I", true)
  | 2 => ("LaneDoors$Hearsay", "told", "[I", true)
  | 3 => ("LaneDoors$Hearsay", "untold", "[I", true)
  | 4 => ("LaneDoors$Hearsay", "count", "I", false)
  | _ => ("LaneDoors$Hearsay", "time", "I", false)
def tyX1 : Nat → FieldType := fun k => match k with
  | 0 => .array .int
  | 1 => .array .int
  | 2 => .array .int
  | 3 => .array .int
  | 4 => .int
  | _ => .int
theorem nmX1 : ∀ a, a < 6 → ∀ b, b < 6 → a ≠ b → (TX1 a).2.1 ≠ (TX1 b).2.1 := by decide +kernel
theorem tyX1_ok : ∀ k, k < 6 → parseFieldDescriptor (TX1 k).2.2.1 = some (tyX1 k) := by decide +kernel
def RX2 : String := "LaneDoors$History"
def TX2 : u_T := fun k => match k with
  | 0 => ("LaneDoors$History", "kept", "[LLaneDoors$State;", true)
  | 1 => ("LaneDoors$History", "first", "I", false)
  | 2 => ("LaneDoors$History", "done", "I", false)
  | _ => ("LaneDoors$History", "all", "I", false)
def tyX2 : Nat → FieldType := fun k => match k with
  | 0 => .array (.object "LaneDoors$State")
  | 1 => .int
  | 2 => .int
  | _ => .int
theorem nmX2 : ∀ a, a < 4 → ∀ b, b < 4 → a ≠ b → (TX2 a).2.1 ≠ (TX2 b).2.1 := by decide +kernel
theorem tyX2_ok : ∀ k, k < 4 → parseFieldDescriptor (TX2 k).2.2.1 = some (tyX2 k) := by decide +kernel
def RX3 : String := "LaneDoors$Lexer"
def TX3 : u_T := fun k => match k with
  | 0 => ("LaneDoors$Lexer", "tape", "LLaneDoors$Tape;", true)
  | 1 => ("LaneDoors$Lexer", "ownWords", "[J", true)
  | 2 => ("LaneDoors$Lexer", "next", "I", false)
  | 3 => ("LaneDoors$Lexer", "kind", "I", false)
  | 4 => ("LaneDoors$Lexer", "place", "I", false)
  | 5 => ("LaneDoors$Lexer", "number", "I", false)
  | _ => ("LaneDoors$Lexer", "word", "J", false)
def tyX3 : Nat → FieldType := fun k => match k with
  | 0 => .object "LaneDoors$Tape"
  | 1 => .array .long
  | 2 => .int
  | 3 => .int
  | 4 => .int
  | 5 => .int
  | _ => .long
theorem nmX3 : ∀ a, a < 7 → ∀ b, b < 7 → a ≠ b → (TX3 a).2.1 ≠ (TX3 b).2.1 := by decide +kernel
theorem tyX3_ok : ∀ k, k < 7 → parseFieldDescriptor (TX3 k).2.2.1 = some (tyX3 k) := by decide +kernel
def RX4 : String := "LaneDoors$Opener"
def TX4 : u_T := fun k => match k with
  | 0 => ("LaneDoors$Opener", "against", "[I", true)
  | 1 => ("LaneDoors$Opener", "earlier", "[I", true)
  | 2 => ("LaneDoors$Opener", "prices", "[I", true)
  | 3 => ("LaneDoors$Opener", "ways", "[I", true)
  | 4 => ("LaneDoors$Opener", "marks", "[Z", true)
  | 5 => ("LaneDoors$Opener", "open", "I", false)
  | _ => ("LaneDoors$Opener", "ready", "I", false)
def tyX4 : Nat → FieldType := fun k => match k with
  | 0 => .array .int
  | 1 => .array .int
  | 2 => .array .int
  | 3 => .array .int
  | 4 => .array .boolean
  | 5 => .int
  | _ => .int
theorem nmX4 : ∀ a, a < 7 → ∀ b, b < 7 → a ≠ b → (TX4 a).2.1 ≠ (TX4 b).2.1 := by decide +kernel
theorem tyX4_ok : ∀ k, k < 7 → parseFieldDescriptor (TX4 k).2.2.1 = some (tyX4 k) := by decide +kernel
def RX5 : String := "LaneDoors$Pile"
def TX5 : u_T := fun k => match k with
  | 0 => ("LaneDoors$Pile", "numbers", "[I", true)
  | _ => ("LaneDoors$Pile", "size", "I", false)
def tyX5 : Nat → FieldType := fun k => match k with
  | 0 => .array .int
  | _ => .int
theorem nmX5 : ∀ a, a < 2 → ∀ b, b < 2 → a ≠ b → (TX5 a).2.1 ≠ (TX5 b).2.1 := by decide +kernel
theorem tyX5_ok : ∀ k, k < 2 → parseFieldDescriptor (TX5 k).2.2.1 = some (tyX5 k) := by decide +kernel
def RX6 : String := "LaneDoors$Plan"
def TX6 : u_T := fun k => match k with
  | 0 => ("LaneDoors$Plan", "laneLong", "[I", true)
  | 1 => ("LaneDoors$Plan", "laneWide", "[I", true)
  | 2 => ("LaneDoors$Plan", "doorLane", "[I", true)
  | 3 => ("LaneDoors$Plan", "doorPlace", "[I", true)
  | 4 => ("LaneDoors$Plan", "doorBroad", "[I", true)
  | 5 => ("LaneDoors$Plan", "cornerFrom", "[I", true)
  | 6 => ("LaneDoors$Plan", "cornerTo", "[I", true)
  | 7 => ("LaneDoors$Plan", "oil", "LLaneDoors$Formula;", true)
  | 8 => ("LaneDoors$Plan", "lanes", "I", false)
  | 9 => ("LaneDoors$Plan", "doors", "I", false)
  | 10 => ("LaneDoors$Plan", "corners", "I", false)
  | 11 => ("LaneDoors$Plan", "south", "I", false)
  | 12 => ("LaneDoors$Plan", "right", "I", false)
  | 13 => ("LaneDoors$Plan", "loose", "I", false)
  | 14 => ("LaneDoors$Plan", "tied", "I", false)
  | 15 => ("LaneDoors$Plan", "open", "I", false)
  | 16 => ("LaneDoors$Plan", "stock", "I", false)
  | _ => ("LaneDoors$Plan", "draw", "I", false)
def tyX6 : Nat → FieldType := fun k => match k with
  | 0 => .array .int
  | 1 => .array .int
  | 2 => .array .int
  | 3 => .array .int
  | 4 => .array .int
  | 5 => .array .int
  | 6 => .array .int
  | 7 => .object "LaneDoors$Formula"
  | 8 => .int
  | 9 => .int
  | 10 => .int
  | 11 => .int
  | 12 => .int
  | 13 => .int
  | 14 => .int
  | 15 => .int
  | 16 => .int
  | _ => .int
theorem nmX6 : ∀ a, a < 18 → ∀ b, b < 18 → a ≠ b → (TX6 a).2.1 ≠ (TX6 b).2.1 := by decide +kernel
theorem tyX6_ok : ∀ k, k < 18 → parseFieldDescriptor (TX6 k).2.2.1 = some (tyX6 k) := by decide +kernel
def RX7 : String := "LaneDoors$Reader"
def TX7 : u_T := fun k => match k with
  | 0 => ("LaneDoors$Reader", "lexer", "LLaneDoors$Lexer;", true)
  | 1 => ("LaneDoors$Reader", "laneNames", "[J", true)
  | 2 => ("LaneDoors$Reader", "doorNames", "[J", true)
  | 3 => ("LaneDoors$Reader", "plan", "LLaneDoors$Plan;", false)
  | 4 => ("LaneDoors$Reader", "told", "I", false)
  | 5 => ("LaneDoors$Reader", "fault", "I", false)
  | _ => ("LaneDoors$Reader", "faultPlace", "I", false)
def tyX7 : Nat → FieldType := fun k => match k with
  | 0 => .object "LaneDoors$Lexer"
  | 1 => .array .long
  | 2 => .array .long
  | 3 => .object "LaneDoors$Plan"
  | 4 => .int
  | 5 => .int
  | _ => .int
theorem nmX7 : ∀ a, a < 7 → ∀ b, b < 7 → a ≠ b → (TX7 a).2.1 ≠ (TX7 b).2.1 := by decide +kernel
theorem tyX7_ok : ∀ k, k < 7 → parseFieldDescriptor (TX7 k).2.2.1 = some (tyX7 k) := by decide +kernel
def RX8 : String := "LaneDoors$State"
def TX8 : u_T := fun k => match k with
  | 0 => ("LaneDoors$State", "open", "I", false)
  | 1 => ("LaneDoors$State", "off", "I", false)
  | 2 => ("LaneDoors$State", "right", "I", false)
  | 3 => ("LaneDoors$State", "stock", "I", false)
  | 4 => ("LaneDoors$State", "day", "I", false)
  | 5 => ("LaneDoors$State", "seed", "I", false)
  | _ => ("LaneDoors$State", "times", "[I", true)
def tyX8 : Nat → FieldType := fun k => match k with
  | 0 => .int
  | 1 => .int
  | 2 => .int
  | 3 => .int
  | 4 => .int
  | 5 => .int
  | _ => .array .int
theorem nmX8 : ∀ a, a < 7 → ∀ b, b < 7 → a ≠ b → (TX8 a).2.1 ≠ (TX8 b).2.1 := by decide +kernel
theorem tyX8_ok : ∀ k, k < 7 → parseFieldDescriptor (TX8 k).2.2.1 = some (tyX8 k) := by decide +kernel
def RX9 : String := "LaneDoors$Streets"
def TX9 : u_T := fun k => match k with
  | 0 => ("LaneDoors$Streets", "free", "[I", true)
  | 1 => ("LaneDoors$Streets", "steps", "[I", true)
  | 2 => ("LaneDoors$Streets", "queue", "[I", true)
  | 3 => ("LaneDoors$Streets", "queued", "I", false)
  | _ => ("LaneDoors$Streets", "parts", "I", false)
def tyX9 : Nat → FieldType := fun k => match k with
  | 0 => .array .int
  | 1 => .array .int
  | 2 => .array .int
  | 3 => .int
  | _ => .int
theorem nmX9 : ∀ a, a < 5 → ∀ b, b < 5 → a ≠ b → (TX9 a).2.1 ≠ (TX9 b).2.1 := by decide +kernel
theorem tyX9_ok : ∀ k, k < 5 → parseFieldDescriptor (TX9 k).2.2.1 = some (tyX9 k) := by decide +kernel
def RX10 : String := "LaneDoors$Tape"
def TX10 : u_T := fun k => match k with
  | 0 => ("LaneDoors$Tape", "bytes", "[B", true)
  | _ => ("LaneDoors$Tape", "length", "I", false)
def tyX10 : Nat → FieldType := fun k => match k with
  | 0 => .array .byte
  | _ => .int
theorem nmX10 : ∀ a, a < 2 → ∀ b, b < 2 → a ≠ b → (TX10 a).2.1 ≠ (TX10 b).2.1 := by decide +kernel
theorem tyX10_ok : ∀ k, k < 2 → parseFieldDescriptor (TX10 k).2.2.1 = some (tyX10 k) := by decide +kernel
def RX11 : String := "LaneDoors"
def TX11 : u_T := fun k => match k with
  | 0 => ("LaneDoors", "tape", "LLaneDoors$Tape;", true)
  | 1 => ("LaneDoors", "reader", "LLaneDoors$Reader;", true)
  | 2 => ("LaneDoors", "history", "LLaneDoors$History;", true)
  | 3 => ("LaneDoors", "trial", "LLaneDoors$State;", true)
  | 4 => ("LaneDoors", "boxes", "[LLaneDoors$State;", true)
  | 5 => ("LaneDoors", "hearsay", "LLaneDoors$Hearsay;", true)
  | 6 => ("LaneDoors", "opener", "LLaneDoors$Opener;", true)
  | 7 => ("LaneDoors", "streets", "LLaneDoors$Streets;", true)
  | 8 => ("LaneDoors", "pile", "LLaneDoors$Pile;", true)
  | 9 => ("LaneDoors", "plan", "LLaneDoors$Plan;", false)
  | 10 => ("LaneDoors", "now", "LLaneDoors$State;", false)
  | _ => ("LaneDoors", "boxesKept", "I", false)
def tyX11 : Nat → FieldType := fun k => match k with
  | 0 => .object "LaneDoors$Tape"
  | 1 => .object "LaneDoors$Reader"
  | 2 => .object "LaneDoors$History"
  | 3 => .object "LaneDoors$State"
  | 4 => .array (.object "LaneDoors$State")
  | 5 => .object "LaneDoors$Hearsay"
  | 6 => .object "LaneDoors$Opener"
  | 7 => .object "LaneDoors$Streets"
  | 8 => .object "LaneDoors$Pile"
  | 9 => .object "LaneDoors$Plan"
  | 10 => .object "LaneDoors$State"
  | _ => .int
theorem nmX11 : ∀ a, a < 12 → ∀ b, b < 12 → a ≠ b → (TX11 a).2.1 ≠ (TX11 b).2.1 := by decide +kernel
theorem tyX11_ok : ∀ k, k < 12 → parseFieldDescriptor (TX11 k).2.2.1 = some (tyX11 k) := by decide +kernel
def RX12 : String := "LaneDoorsModel"
def TX12 : u_T := fun k => match k with
  | 0 => ("LaneDoorsModel", "tape", "[B", true)
  | 1 => ("LaneDoorsModel", "text", "[B", true)
  | 2 => ("LaneDoorsModel", "taped", "I", false)
  | 3 => ("LaneDoorsModel", "size", "I", false)
  | 4 => ("LaneDoorsModel", "faultKind", "I", false)
  | 5 => ("LaneDoorsModel", "faultPlace", "I", false)
  | 6 => ("LaneDoorsModel", "at", "I", false)
  | 7 => ("LaneDoorsModel", "end", "I", false)
  | 8 => ("LaneDoorsModel", "token", "I", false)
  | 9 => ("LaneDoorsModel", "number", "I", false)
  | 10 => ("LaneDoorsModel", "name", "J", false)
  | 11 => ("LaneDoorsModel", "lanes", "[I", true)
  | 12 => ("LaneDoorsModel", "doors", "[I", true)
  | 13 => ("LaneDoorsModel", "corners", "[I", true)
  | 14 => ("LaneDoorsModel", "units", "[I", true)
  | 15 => ("LaneDoorsModel", "stock", "[I", true)
  | 16 => ("LaneDoorsModel", "draw", "[I", true)
  | 17 => ("LaneDoorsModel", "longOf", "[I", true)
  | 18 => ("LaneDoorsModel", "wideOf", "[I", true)
  | 19 => ("LaneDoorsModel", "laneOf", "[I", true)
  | 20 => ("LaneDoorsModel", "placeOf", "[I", true)
  | 21 => ("LaneDoorsModel", "broadOf", "[I", true)
  | 22 => ("LaneDoorsModel", "oneLane", "[I", true)
  | 23 => ("LaneDoorsModel", "onePlace", "[I", true)
  | 24 => ("LaneDoorsModel", "otherLane", "[I", true)
  | 25 => ("LaneDoorsModel", "otherPlace", "[I", true)
  | 26 => ("LaneDoorsModel", "ruleFrom", "[I", true)
  | 27 => ("LaneDoorsModel", "ruleTo", "[I", true)
  | 28 => ("LaneDoorsModel", "toldOpen", "[I", true)
  | 29 => ("LaneDoorsModel", "toldRight", "[I", true)
  | 30 => ("LaneDoorsModel", "southern", "[I", true)
  | 31 => ("LaneDoorsModel", "loose", "[I", true)
  | 32 => ("LaneDoorsModel", "tied", "[I", true)
  | 33 => ("LaneDoorsModel", "isStock", "[Z", true)
  | 34 => ("LaneDoorsModel", "isDraw", "[Z", true)
  | 35 => ("LaneDoorsModel", "hasOil", "[Z", true)
  | 36 => ("LaneDoorsModel", "lName", "[J", true)
  | 37 => ("LaneDoorsModel", "dName", "[J", true)
  | 38 => ("LaneDoorsModel", "code", "[I", true)
  | 39 => ("LaneDoorsModel", "codeNumber", "[I", true)
  | 40 => ("LaneDoorsModel", "eWhat", "[I", true)
  | 41 => ("LaneDoorsModel", "eSign", "[I", true)
  | 42 => ("LaneDoorsModel", "pile", "[I", true)
  | 43 => ("LaneDoorsModel", "bank", "I", false)
  | 44 => ("LaneDoorsModel", "rb", "I", false)
  | 45 => ("LaneDoorsModel", "codes", "I", false)
  | 46 => ("LaneDoorsModel", "within", "I", false)
  | 47 => ("LaneDoorsModel", "piled", "I", false)
  | 48 => ("LaneDoorsModel", "unitsInRule", "I", false)
  | 49 => ("LaneDoorsModel", "all", "[I", true)
  | 50 => ("LaneDoorsModel", "hinderers", "[I", true)
  | 51 => ("LaneDoorsModel", "was", "[I", true)
  | 52 => ("LaneDoorsModel", "acts", "I", false)
  | 53 => ("LaneDoorsModel", "undone", "I", false)
  | 54 => ("LaneDoorsModel", "ways", "[I", true)
  | 55 => ("LaneDoorsModel", "ahead", "[I", true)
  | 56 => ("LaneDoorsModel", "laidRow", "[I", true)
  | 57 => ("LaneDoorsModel", "laid", "I", false)
  | 58 => ("LaneDoorsModel", "comesTo", "[Z", true)
  | 59 => ("LaneDoorsModel", "steps", "[I", true)
  | 60 => ("LaneDoorsModel", "queue", "[I", true)
  | 61 => ("LaneDoorsModel", "queued", "I", false)
  | 62 => ("LaneDoorsModel", "isMet", "[Z", true)
  | 63 => ("LaneDoorsModel", "wins", "[Z", true)
  | 64 => ("LaneDoorsModel", "hOne", "[I", true)
  | 65 => ("LaneDoorsModel", "hOther", "[I", true)
  | 66 => ("LaneDoorsModel", "hTold", "[I", true)
  | 67 => ("LaneDoorsModel", "hUntold", "[I", true)
  | 68 => ("LaneDoorsModel", "sounds", "I", false)
  | 69 => ("LaneDoorsModel", "time", "I", false)
  | 70 => ("LaneDoorsModel", "boxAll", "[I", true)
  | _ => ("LaneDoorsModel", "isBoxed", "[Z", true)
def tyX12 : Nat → FieldType := fun k => match k with
  | 0 => .array .byte
  | 1 => .array .byte
  | 2 => .int
  | 3 => .int
  | 4 => .int
  | 5 => .int
  | 6 => .int
  | 7 => .int
  | 8 => .int
  | 9 => .int
  | 10 => .long
  | 11 => .array .int
  | 12 => .array .int
  | 13 => .array .int
  | 14 => .array .int
  | 15 => .array .int
  | 16 => .array .int
  | 17 => .array .int
  | 18 => .array .int
  | 19 => .array .int
  | 20 => .array .int
  | 21 => .array .int
  | 22 => .array .int
  | 23 => .array .int
  | 24 => .array .int
  | 25 => .array .int
  | 26 => .array .int
  | 27 => .array .int
  | 28 => .array .int
  | 29 => .array .int
  | 30 => .array .int
  | 31 => .array .int
  | 32 => .array .int
  | 33 => .array .boolean
  | 34 => .array .boolean
  | 35 => .array .boolean
  | 36 => .array .long
  | 37 => .array .long
  | 38 => .array .int
  | 39 => .array .int
  | 40 => .array .int
  | 41 => .array .int
  | 42 => .array .int
  | 43 => .int
  | 44 => .int
  | 45 => .int
  | 46 => .int
  | 47 => .int
  | 48 => .int
  | 49 => .array .int
  | 50 => .array .int
  | 51 => .array .int
  | 52 => .int
  | 53 => .int
  | 54 => .array .int
  | 55 => .array .int
  | 56 => .array .int
  | 57 => .int
  | 58 => .array .boolean
  | 59 => .array .int
  | 60 => .array .int
  | 61 => .int
  | 62 => .array .boolean
  | 63 => .array .boolean
  | 64 => .array .int
  | 65 => .array .int
  | 66 => .array .int
  | 67 => .array .int
  | 68 => .int
  | 69 => .int
  | 70 => .array .int
  | _ => .array .boolean
theorem nmX12 : ∀ a, a < 72 → ∀ b, b < 72 → a ≠ b → (TX12 a).2.1 ≠ (TX12 b).2.1 := by decide +kernel
theorem tyX12_ok : ∀ k, k < 72 → parseFieldDescriptor (TX12 k).2.2.1 = some (tyX12 k) := by decide +kernel
abbrev vwCl : List vw_C := [(RX0, TX0, 5), (RX1, TX1, 6), (RX2, TX2, 4), (RX3, TX3, 7), (RX4, TX4, 7), (RX5, TX5, 2), (RX6, TX6, 18), (RX7, TX7, 7), (RX8, TX8, 7), (RX9, TX9, 5), (RX10, TX10, 2), (RX11, TX11, 12), (RX12, TX12, 72)]
end
section
/-! A walker over numbers: values are (kind, n, m); it runs the class's bytecode on a world whose numbers are known or lie in an interval -/
abbrev zx_V : Type := Nat × Nat × Nat
abbrev zx_L : Type := List (Nat × Nat)
abbrev zx_C : Type := Nat × Nat × Nat × Nat × List zx_V
abbrev zx_E : Type := Nat × Instr × Nat × Nat × Nat
abbrev zx_M : Type := (MethodName × ByteArray × Nat × Option FieldType) × (Nat × Nat × Nat × Nat × Nat) × List (Nat × List zx_E)
abbrev zx_F : Type := zx_M × Nat × Nat × List (Nat × zx_V) × List zx_V × Nat × Nat
noncomputable def zx_fn (n : Nat) (k : Nat → Bool) : Bool := @Nat.rec (fun _ => Bool) (k 0) (fun m _ => k (Nat.succ m)) n
theorem zx_fn_eq (n : Nat) (k : Nat → Bool) : zx_fn n k = k n := by cases n <;> rfl
noncomputable def zx_fl {α : Type} (l : List α) (k : List α → Bool) : Bool := @List.rec α (fun _ => (List α → Bool) → Bool) (fun k => k []) (fun a _ ih k => ih (fun t => k (a :: t))) l k
theorem zx_fl_eq {α : Type} (l : List α) : ∀ (k : List α → Bool), zx_fl l k = k l := by
  induction l with
  | nil => intro k; rfl
  | cons a l ih => intro k; exact ih (fun t => k (a :: t))
def zx_at (c : List (Nat × List zx_E)) (pc : Nat) : Option zx_E := match c with
  | [] => none
  | (h, es) :: r => bif Nat.blt pc h then es.find? (fun q => Nat.beq q.1 pc) else zx_at r pc
theorem zx_at_in : ∀ (c : List (Nat × List zx_E)) (pc : Nat) (q : zx_E), zx_at c pc = some q → q.1 = pc ∧ ∃ r ∈ c, q ∈ r.2 := by
  intro c
  induction c with
  | nil => intro pc q h; cases h
  | cons a c ih =>
    intro pc q h
    obtain ⟨hh, es⟩ := a
    unfold zx_at at h
    cases hb : Nat.blt pc hh with
    | true =>
      rw [hb] at h
      have h1 : es.find? (fun q => Nat.beq q.1 pc) = some q := h
      exact ⟨Nat.eq_of_beq_eq_true (List.find?_some (p := fun q : zx_E => Nat.beq q.1 pc) h1), (hh, es), List.mem_cons_self, List.mem_of_find?_eq_some h1⟩
    | false =>
      rw [hb] at h
      obtain ⟨h1, r, h2, h3⟩ := ih pc q h
      exact ⟨h1, r, List.mem_cons_of_mem _ h2, h3⟩
/-! numbers -/
def zx_bi (n : Nat) : Nat := (n + 2147483648) % 4294967296
def zx_bz (x : Int32) : Nat := (x.toInt + 2147483648).toNat
theorem zx_rg (x : Int32) : -2147483648 ≤ x.toInt ∧ x.toInt < 2147483648 := ⟨Int32.le_toInt x, Int32.toInt_lt x⟩
theorem zx_bz_int (x : Int32) : (zx_bz x : Int) = x.toInt + 2147483648 := by
  have := zx_rg x
  unfold zx_bz
  omega
theorem zx_bz_lt (x : Int32) : zx_bz x < 4294967296 := by
  have h1 := zx_bz_int x
  have := zx_rg x
  omega
theorem zx_lt (x y : Int32) : x < y ↔ zx_bz x < zx_bz y := by
  rw [Int32.lt_iff_toInt_lt]
  have h1 := zx_bz_int x
  have h2 := zx_bz_int y
  omega
theorem zx_eq (x y : Int32) : x = y ↔ zx_bz x = zx_bz y := by
  rw [← Int32.toInt_inj]
  have h1 := zx_bz_int x
  have h2 := zx_bz_int y
  omega
theorem zx_le (x y : Int32) : x ≤ y ↔ zx_bz x ≤ zx_bz y := by
  rw [Int32.le_iff_toInt_le]
  have h1 := zx_bz_int x
  have h2 := zx_bz_int y
  omega
theorem zx_nI_int (n : Nat) (h : n < 4294967296) : (nI n).toInt = if n < 2147483648 then (n : Int) else (n : Int) - 4294967296 := by
  have h1 : (nI n).toInt = (nI n).toBitVec.toInt := rfl
  rw [h1, BitVec.toInt_eq_toNat_cond, pk_tn (by omega)]
  split <;> split <;> omega
theorem zx_bz_nI (n : Nat) (h : n < 4294967296) : zx_bz (nI n) = zx_bi n := by
  have h1 := zx_bz_int (nI n)
  rw [zx_nI_int n h] at h1
  unfold zx_bi
  split at h1 <;> omega
theorem zx_of_bz (x : Int32) : x = nI (zx_bi (zx_bz x)) := by
  have hl := zx_bz_lt x
  have h0 : zx_bi (zx_bz x) < 4294967296 := Nat.mod_lt _ (by decide)
  rw [zx_eq, zx_bz_nI _ h0]
  unfold zx_bi
  omega
theorem zx_md (n : Nat) : nI (n % 4294967296) = nI n := by
  have h : ∀ k : Nat, (nI k).toBitVec = BitVec.ofNat 32 k := fun k => rfl
  apply Int32.toBitVec_inj.mp
  rw [h, h]
  apply BitVec.eq_of_toNat_eq
  simp
end
section
/-! the walker itself -/
def zx_ii (a : zx_V) : Bool := match a.1 with
  | 0 => true
  | 1 => true
  | 7 => true
  | _ => false
def zx_jj (a : zx_V) : Bool := match a.1 with
  | 4 => true
  | 5 => true
  | _ => false
def zx_ct (a : zx_V) : Nat := bif zx_jj a then 2 else 1
def zx_rr (a : zx_V) : Bool := match a.1 with
  | 2 => true
  | 3 => true
  | 6 => true
  | 8 => true
  | _ => false
def zx_iv (e : zx_L) (a : zx_V) : Option (Nat × Nat) := match a with
  | (0, n, _) => some (zx_bi n, zx_bi n)
  | (1, k, _) => e[k]?
  | (7, l, h) => some (l, h)
  | _ => none
noncomputable def zx_no (e : zx_L) (a : zx_V) (k : zx_V → Bool) : Bool := match a with
  | (1, i, z) => match e[i]? with
    | some (l, h) => bif Nat.beq l h then zx_fn (zx_bi l) (fun n => k (0, n, 0)) else k (1, i, z)
    | none => k (1, i, z)
  | (7, l, h) => bif Nat.beq l h then zx_fn (zx_bi l) (fun n => k (0, n, 0)) else k (7, l, h)
  | a => k a
def zx_lk (lo : List (Nat × zx_V)) (i : Nat) : Option zx_V := match lo with
  | [] => none
  | (j, a) :: r => bif Nat.beq j i then some a else zx_lk r i
def zx_ld (lo : List (Nat × zx_V)) (i : Nat) (p : zx_V → Bool) (k : zx_V → Bool) : Bool := match zx_lk lo i with
  | some a => bif p a then k a else false
  | none => false
def zx_p1 (lo : List (Nat × zx_V)) (i : Nat) (a : zx_V) : List (Nat × zx_V) := (i, a) :: lo.filter (fun q => !(q.1 == i) && !(q.1 + 1 == i && zx_ct q.2 == 2))
def zx_p2 (lo : List (Nat × zx_V)) (i : Nat) (a : zx_V) : List (Nat × zx_V) := (i, a) :: lo.filter (fun q => !(q.1 == i) && (!(q.1 == i + 1) && !(q.1 + 1 == i && zx_ct q.2 == 2)))
noncomputable def zx_st1 (mx : Nat) (lo : List (Nat × zx_V)) (i : Nat) (st : List zx_V) (p : zx_V → Bool) (k : List (Nat × zx_V) → List zx_V → Bool) : Bool := match st with
  | a :: st => bif p a && Nat.blt i mx then zx_fl (zx_p1 lo i a) (fun lo => k lo st) else false
  | [] => false
/-- two numbers that are known -/
def zx_cb (op x y : Nat) : Nat := match op with
  | 0 => (x + y) % 4294967296
  | 1 => (x + (4294967296 - y)) % 4294967296
  | 2 => (x * y) % 4294967296
  | 3 => x &&& y
  | 4 => x ||| y
  | _ => x ^^^ y
def zx_cs (op x y : Nat) : Nat := match op with
  | 6 => (x * 2 ^ y) % 4294967296
  | 7 => bif Nat.blt x 2147483648 then x / 2 ^ y else 4294967295 - (4294967295 - x) / 2 ^ y
  | _ => x / 2 ^ y
def zx_un : zx_V := (7, 0, 4294967295)
noncomputable def zx_b2 (op : Nat) (a b : zx_V) (k : zx_V → Bool) : Bool := match a, b with
  | (0, x, _), (0, y, _) => zx_fn (zx_cb op x y) (fun n => k (0, n, 0))
  | a, b => bif zx_ii a && zx_ii b then k zx_un else false
/-- 0 and a number, a number and 0 -/
noncomputable def zx_ad (a b : zx_V) (k : zx_V → Bool) : Bool := match a, b with
  | (0, 0, _), (1, i, z) => k (1, i, z)
  | (1, i, z), (0, 0, _) => k (1, i, z)
  | a, b => zx_b2 0 a b k
noncomputable def zx_an (a b : zx_V) (k : zx_V → Bool) : Bool := match a, b with
  | (1, 0, _), (0, 63, _) => k (1, 7, 0)
  | (1, i, z), (0, 4294967295, _) => k (1, i, z)
  | a, b => zx_b2 3 a b k
noncomputable def zx_sh (op : Nat) (a b : zx_V) (k : zx_V → Bool) : Bool := match a, b with
  | (0, x, _), (0, y, _) => bif Nat.blt y 32 then zx_fn (zx_cs op x y) (fun n => k (0, n, 0)) else false
  | a, b => bif zx_ii a && zx_ii b then k zx_un else false
noncomputable def zx_sr (a b : zx_V) (k : zx_V → Bool) : Bool := match a, b with
  | (0, 0, z), (1, _, _) => k (0, 0, z)
  | a, b => zx_sh 7 a b k
noncomputable def zx_dv (op : Nat) (a b : zx_V) (k : zx_V → Bool) : Bool := match a, b with
  | (0, x, _), (0, y, _) => bif Nat.blt x 2147483648 && (Nat.blt 0 y && Nat.blt y 2147483648) then zx_fn (bif Nat.beq op 0 then x / y else x % y) (fun n => k (0, n, 0)) else false
  | _, _ => false
/-- which way a comparison goes: all that it can be, with what is known then -/
def zx_lts (e : zx_L) (a b : zx_V) (l1 h1 l2 h2 : Nat) : List (Bool × zx_L) :=
  bif Nat.blt h1 l2 then [(true, e)] else bif Nat.ble h2 l1 then [(false, e)] else
  bif Nat.beq a.1 1 && Nat.beq l2 h2 then [(true, e.set a.2.1 (l1, l2 - 1)), (false, e.set a.2.1 (l2, h1))] else
  bif Nat.beq b.1 1 && Nat.beq l1 h1 then [(true, e.set b.2.1 (l1 + 1, h2)), (false, e.set b.2.1 (l2, l1))] else [(true, e), (false, e)]
def zx_eqs (e : zx_L) (a b : zx_V) (l1 h1 l2 h2 : Nat) : List (Bool × zx_L) :=
  bif Nat.blt h1 l2 || Nat.blt h2 l1 then [(false, e)] else bif Nat.beq l1 h1 && Nat.beq l2 h2 then [(true, e)] else
  bif Nat.beq a.1 1 && (Nat.beq b.1 1 && Nat.beq a.2.1 b.2.1) then [(true, e)] else
  bif Nat.beq a.1 1 && Nat.beq l2 h2 then (true, e.set a.2.1 (l2, l2)) :: ((bif Nat.blt l1 l2 then [(false, e.set a.2.1 (l1, l2 - 1))] else []) ++ (bif Nat.blt l2 h1 then [(false, e.set a.2.1 (l2 + 1, h1))] else [])) else
  bif Nat.beq b.1 1 && Nat.beq l1 h1 then (true, e.set b.2.1 (l1, l1)) :: ((bif Nat.blt l2 l1 then [(false, e.set b.2.1 (l2, l1 - 1))] else []) ++ (bif Nat.blt l1 h2 then [(false, e.set b.2.1 (l1 + 1, h2))] else [])) else [(true, e), (false, e)]
def zx_cmp (c : ClassFile.Cond) (e : zx_L) (a b : zx_V) : Option (List (Bool × zx_L)) := match zx_iv e a, zx_iv e b with
  | some (l1, h1), some (l2, h2) => some (match c with
    | .lt => zx_lts e a b l1 h1 l2 h2
    | .ge => (zx_lts e a b l1 h1 l2 h2).map (fun q => (!q.1, q.2))
    | .gt => zx_lts e b a l2 h2 l1 h1
    | .le => (zx_lts e b a l2 h2 l1 h1).map (fun q => (!q.1, q.2))
    | .eq => zx_eqs e a b l1 h1 l2 h2
    | .ne => (zx_eqs e a b l1 h1 l2 h2).map (fun q => (!q.1, q.2)))
  | _, _ => none
noncomputable def zx_fe (e : zx_L) (k : zx_L → Bool) : Bool := zx_fl e k
noncomputable def zx_jmp (pc np : Nat) (off : Int) (alts : Option (List (Bool × zx_L))) (k : Nat → zx_L → Bool) : Bool := match alts with
  | none => false
  | some l => bif decide (0 ≤ (pc : Int) + off) then zx_fn ((pc : Int) + off).toNat (fun t => l.all (fun q => zx_fl q.2 (fun e => bif q.1 then k t e else k np e))) else false
/-- array places -/
def zx_dg (c j : Nat) : Nat := Nat.shiftRight c (32 * j) % 4294967296
def zx_sd (c j x : Nat) : Nat := Nat.xor c (Nat.shiftLeft (Nat.xor (zx_dg c j) x) (32 * j))
/-- a place of an array of n: known, or surely within -/
def zx_in (e : zx_L) (i : zx_V) (n : Nat) : Bool := match zx_iv e i with
  | some (l, h) => Nat.ble 2147483648 l && Nat.blt h (n + 2147483648)
  | none => false
noncomputable def zx_split (e : zx_L) (i : Nat) (k : zx_L → Bool) : Bool := match e[i]? with
  | some (l, h) => bif Nat.blt h (l + 4) then (List.range (h + 1 - l)).all (fun d => zx_fn (l + d) (fun v => zx_fl (e.set i (v, v)) k)) else false
  | none => false
def zx_nr (t x : Nat) : Nat := match t with
  | 0 => x
  | 1 => bif Nat.blt (x % 256) 128 then x % 256 else (x % 256) + 4294967040
  | _ => x % 2
end
section
/-! what the walker's values stand for -/
def zx_r (ads : List Nat) (ex : Nat → Nat) (nu : Nat → Int32) (a : zx_V) (v : Value) : Prop := match a.1 with
  | 0 => v = .int (nI a.2.1) ∧ a.2.1 < 4294967296
  | 1 => v = .int (nu a.2.1)
  | 2 => ∃ q, ads[a.2.1]? = some q ∧ v = .ref q
  | 3 => v = .null
  | 4 => v = .long (lN a.2.1)
  | 5 => ∃ x, v = .long x
  | 6 => v = .ref (ex a.2.1)
  | 7 => ∃ x, v = .int x ∧ a.2.1 ≤ zx_bz x ∧ zx_bz x ≤ a.2.2
  | 8 => v = .null ∨ ∃ q, v = .ref q
  | _ => False
def zx_ev (nu : Nat → Int32) (e : zx_L) : Prop := ∀ (k : Nat) (q : Nat × Nat), e[k]? = some q → q.1 ≤ zx_bz (nu k) ∧ zx_bz (nu k) ≤ q.2
section ZR
variable {ads : List Nat} {ex : Nat → Nat} {nu : Nat → Int32} {e : zx_L}
theorem zx_r_c {n : Nat} (z : Nat) (h : n < 4294967296) : zx_r ads ex nu (0, n, z) (.int (nI n)) := ⟨rfl, h⟩
theorem zx_r_un (x : Int32) : zx_r ads ex nu zx_un (.int x) := ⟨x, rfl, Nat.zero_le _, Nat.le_of_lt_succ (zx_bz_lt x)⟩
/-- an int: its value, and its interval -/
theorem zx_r_i {a : zx_V} {v : Value} (hi : zx_ii a = true) (h : zx_r ads ex nu a v) : ∃ x : Int32, v = .int x := by
  obtain ⟨t, n, m⟩ := a
  match t, hi, h with
  | 0, _, h => exact ⟨_, h.1⟩
  | 1, _, h => exact ⟨_, h⟩
  | 7, _, h => exact ⟨_, h.choose_spec.1⟩
theorem zx_r_iv {a : zx_V} {v : Value} {q : Nat × Nat} (he : zx_ev nu e) (hi : zx_iv e a = some q) (h : zx_r ads ex nu a v) : ∃ x : Int32, v = .int x ∧ q.1 ≤ zx_bz x ∧ zx_bz x ≤ q.2 ∧ (a.1 = 1 → x = nu a.2.1) := by
  obtain ⟨t, n, m⟩ := a
  match t, hi, h with
  | 0, hi, h =>
    obtain ⟨h1, h2⟩ := h
    have hi : some (zx_bi n, zx_bi n) = some q := hi
    have hq := Option.some.inj hi
    subst hq
    refine ⟨_, h1, ?_, ?_, fun z => by cases z⟩ <;> rw [zx_bz_nI _ h2] <;> exact Nat.le_refl _
  | 1, hi, h =>
    have h2 := he n q hi
    exact ⟨_, h, h2.1, h2.2, fun _ => rfl⟩
  | 7, hi, h =>
    obtain ⟨x, h1, h2, h3⟩ := h
    have hi : some (n, m) = some q := hi
    have hq := Option.some.inj hi
    subst hq
    exact ⟨x, h1, h2, h3, fun z => by cases z⟩
theorem zx_r_j {a : zx_V} {v : Value} (hi : zx_jj a = true) (h : zx_r ads ex nu a v) : ∃ x : Int64, v = .long x := by
  obtain ⟨t, n, m⟩ := a
  match t, hi, h with
  | 4, _, h => exact ⟨_, h⟩
  | 5, _, h => exact h
theorem zx_r_r {a : zx_V} {v : Value} (hi : zx_rr a = true) (h : zx_r ads ex nu a v) : v = .null ∨ ∃ q, v = .ref q := by
  obtain ⟨t, n, m⟩ := a
  match t, hi, h with
  | 2, _, h => exact Or.inr ⟨_, h.choose_spec.2⟩
  | 3, _, h => exact Or.inl h
  | 6, _, h => exact Or.inr ⟨_, h⟩
  | 8, _, h => exact h
theorem zx_r_cat {a : zx_V} {v : Value} (h : zx_r ads ex nu a v) : v.category = zx_ct a := by
  obtain ⟨t, n, m⟩ := a
  match t, h with
  | 0, h => rw [h.1]; rfl
  | 1, h => rw [show v = .int (nu n) from h]; rfl
  | 2, h => obtain ⟨q, -, rfl⟩ := h; rfl
  | 3, h => rw [show v = .null from h]; rfl
  | 4, h => rw [show v = .long (lN n) from h]; rfl
  | 5, h => obtain ⟨q, rfl⟩ := h; rfl
  | 6, h => rw [show v = .ref (ex n) from h]; rfl
  | 7, h => obtain ⟨q, rfl, -⟩ := h; rfl
  | 8, h => rcases h with rfl | ⟨q, rfl⟩ <;> rfl
  | (k + 9), h => exact h.elim
theorem zx_r_mono {ads' : List Nat} (hp : ∀ (i q : Nat), ads[i]? = some q → ads'[i]? = some q) {a : zx_V} {v : Value} (h : zx_r ads ex nu a v) : zx_r ads' ex nu a v := by
  obtain ⟨t, n, m⟩ := a
  match t, h with
  | 0, h => exact h
  | 1, h => exact h
  | 2, h => obtain ⟨q, h1, h2⟩ := h; exact ⟨q, hp _ _ h1, h2⟩
  | 3, h => exact h
  | 4, h => exact h
  | 5, h => exact h
  | 6, h => exact h
  | 7, h => exact h
  | 8, h => exact h
  | (k + 9), h => exact h.elim
/-- a value as it is known now -/
theorem zx_no_s (he : zx_ev nu e) {a : zx_V} {v : Value} (h : zx_r ads ex nu a v) {k : zx_V → Bool} (hk : zx_no e a k = true) : ∃ a' : zx_V, zx_r ads ex nu a' v ∧ k a' = true := by
  obtain ⟨t, n, m⟩ := a
  match t, h, hk with
  | 0, h, hk => exact ⟨_, h, hk⟩
  | 1, h, hk =>
    unfold zx_no at hk
    cases hq : e[n]? with
    | none => simp only [hq] at hk; exact ⟨_, h, hk⟩
    | some q =>
      obtain ⟨l, hh⟩ := q
      simp only [hq] at hk
      cases hb : Nat.beq l hh with
      | false => rw [hb] at hk; exact ⟨_, h, hk⟩
      | true =>
        rw [hb, cond_true, zx_fn_eq] at hk
        have h1 := Nat.eq_of_beq_eq_true hb
        have h2 := he n _ hq
        have h3 : zx_bz (nu n) = l := by have := h2.1; have := h2.2; simp only at *; omega
        refine ⟨(0, zx_bi l, 0), ⟨?_, Nat.mod_lt _ (by decide)⟩, hk⟩
        rw [show v = .int (nu n) from h, ← h3]
        exact congrArg Value.int (zx_of_bz (nu n))
  | 2, h, hk => exact ⟨_, h, hk⟩
  | 3, h, hk => exact ⟨_, h, hk⟩
  | 4, h, hk => exact ⟨_, h, hk⟩
  | 5, h, hk => exact ⟨_, h, hk⟩
  | 6, h, hk => exact ⟨_, h, hk⟩
  | 7, h, hk =>
    have hk : (bif Nat.beq n m then zx_fn (zx_bi n) (fun n => k (0, n, 0)) else k (7, n, m)) = true := hk
    cases hb : Nat.beq n m with
    | false => rw [hb] at hk; exact ⟨_, h, hk⟩
    | true =>
      rw [hb, cond_true, zx_fn_eq] at hk
      have h1 := Nat.eq_of_beq_eq_true hb
      obtain ⟨x, hx, h2, h3⟩ := h
      have h4 : zx_bz x = n := by simp only at *; omega
      refine ⟨(0, zx_bi n, 0), ⟨?_, Nat.mod_lt _ (by decide)⟩, hk⟩
      rw [hx, ← h4]
      exact congrArg Value.int (zx_of_bz x)
  | 8, h, hk => exact ⟨_, h, hk⟩
  | (k + 9), h, _ => exact h.elim
end ZR
end
section
/-! the walker's arithmetic is the machine's -/
theorem zx_and (a b : Nat) : nI a &&& nI b = nI (a &&& b) := by
  apply Int32.toBitVec_inj.1
  show BitVec.ofNat 32 a &&& BitVec.ofNat 32 b = BitVec.ofNat 32 (a &&& b)
  apply BitVec.eq_of_getLsbD_eq
  intro i hi
  simp [hi]
theorem zx_or (a b : Nat) : nI a ||| nI b = nI (a ||| b) := by
  apply Int32.toBitVec_inj.1
  show BitVec.ofNat 32 a ||| BitVec.ofNat 32 b = BitVec.ofNat 32 (a ||| b)
  apply BitVec.eq_of_getLsbD_eq
  intro i hi
  simp [hi]
theorem zx_xor (a b : Nat) : nI a ^^^ nI b = nI (a ^^^ b) := by
  apply Int32.toBitVec_inj.1
  show BitVec.ofNat 32 a ^^^ BitVec.ofNat 32 b = BitVec.ofNat 32 (a ^^^ b)
  apply BitVec.eq_of_getLsbD_eq
  intro i hi
  simp [hi]
theorem zx_sl : ∀ n, n < 32 → ((nI n &&& 31).toBitVec.smod 32).toNat = n := by decide +kernel
theorem zx_su : ∀ n, n < 32 → (((nI n).toUInt32 &&& Int32.toUInt32 31).toBitVec % 32).toNat = n := by decide +kernel
theorem zx_sub (x y : Nat) (hy : y < 4294967296) : nI x - nI y = nI ((x + (4294967296 - y)) % 4294967296) := by
  rw [zx_md]
  have h : nI x = nI (x + (4294967296 - y)) + nI y := by
    rw [nI_add, ← zx_md x, ← zx_md (x + (4294967296 - y) + y)]
    congr 1
    omega
  rw [h, Int32.add_sub_cancel]
theorem zx_cb_lt (op x y : Nat) (hx : x < 4294967296) (hy : y < 4294967296) : zx_cb op x y < 4294967296 := by
  match op with
  | 0 => exact Nat.mod_lt _ (by decide)
  | 1 => exact Nat.mod_lt _ (by decide)
  | 2 => exact Nat.mod_lt _ (by decide)
  | 3 => exact Nat.and_lt_two_pow (n := 32) x hy
  | 4 => exact Nat.or_lt_two_pow (n := 32) hx hy
  | (k + 5) => exact Nat.xor_lt_two_pow (n := 32) hx hy
theorem zx_shl (x y : Nat) (hx : x < 4294967296) (hy : y < 32) : nI x <<< (nI y &&& 31) = nI (zx_cs 6 x y) := by
  apply Int32.toBitVec_inj.1
  apply BitVec.eq_of_toNat_eq
  rw [pk_shl (nI x) (nI y &&& 31) y (zx_sl y hy), pk_tn (by omega)]
  show _ = (nI ((x * 2 ^ y) % 4294967296)).toBitVec.toNat
  rw [pk_tn (Nat.mod_lt _ (by decide))]
theorem zx_cs_lt (op x y : Nat) (hx : x < 4294967296) : zx_cs op x y < 4294967296 := by
  have hd : x / 2 ^ y ≤ x := Nat.div_le_self _ _
  unfold zx_cs
  split
  · exact Nat.mod_lt _ (by decide)
  · cases Nat.blt x 2147483648
    · exact Nat.lt_of_le_of_lt (Nat.sub_le _ _) (by decide)
    · exact Nat.lt_of_le_of_lt hd hx
  · omega
theorem zx_shr (x y : Nat) (hx : x < 4294967296) (hy : y < 32) : nI x >>> (nI y &&& 31) = nI (zx_cs 7 x y) := by
  apply Int32.toInt_inj.1
  have hl := zx_cs_lt 7 x y hx
  have hd : x / 2 ^ y ≤ x := Nat.div_le_self _ _
  rw [pk_shr (nI x) (nI y &&& 31) y (zx_sl y hy), zx_nI_int _ hx, zx_nI_int _ hl, Int.shiftRight_eq_div_pow]
  show _ = if (bif Nat.blt x 2147483648 then x / 2 ^ y else 4294967295 - (4294967295 - x) / 2 ^ y) < 2147483648 then ((bif Nat.blt x 2147483648 then x / 2 ^ y else 4294967295 - (4294967295 - x) / 2 ^ y : Nat) : Int) else ((bif Nat.blt x 2147483648 then x / 2 ^ y else 4294967295 - (4294967295 - x) / 2 ^ y : Nat) : Int) - 4294967296
  by_cases h : x < 2147483648
  · rw [if_pos h, show Nat.blt x 2147483648 = true from decide_eq_true h |> fun _ => Nat.ble_eq_true_of_le h, cond_true, if_pos (by omega)]
    simp
  · have hb : Nat.blt x 2147483648 = false := by
      cases hb : Nat.blt x 2147483648 with
      | false => rfl
      | true => exact absurd (Nat.le_of_ble_eq_true hb) h
    rw [if_neg h, hb, cond_false]
    have hm : (4294967295 - x) / 2 ^ y ≤ 4294967295 - x := Nat.div_le_self _ _
    rw [if_neg (by omega)]
    have e1 : (x : Int) - 4294967296 = Int.negSucc (4294967295 - x) := by omega
    have hp : (0 : Int) < ((2 ^ y : Nat) : Int) := by exact_mod_cast Nat.pow_pos (by decide : 0 < 2)
    rw [e1, Int.negSucc_ediv _ hp]
    have e2 : Int.ediv ((4294967295 - x : Nat) : Int) ((2 ^ y : Nat) : Int) = (((4294967295 - x) / 2 ^ y : Nat) : Int) := rfl
    rw [e2]
    omega
theorem zx_ushr (x y : Nat) (hx : x < 4294967296) (hy : y < 32) : ((nI x).toUInt32 >>> ((nI y).toUInt32 &&& Int32.toUInt32 31)).toInt32 = nI (zx_cs 8 x y) := pk_ushrN (by omega) (nI y) y (zx_su y hy)
/-! array places as digits -/
theorem zx_dg_lt (c j : Nat) : zx_dg c j < 4294967296 := Nat.mod_lt _ (by decide)
theorem zx_sd_same (c j x : Nat) (hx : x < 4294967296) : zx_dg (zx_sd c j x) j = x := by
  show ((c ^^^ ((zx_dg c j ^^^ x) <<< (32 * j))) >>> (32 * j)) % 2 ^ 32 = x
  rw [Nat.shiftRight_xor_distrib, Nat.shiftLeft_shiftRight, Nat.xor_mod_two_pow]
  have h1 : (c >>> (32 * j)) % 2 ^ 32 = zx_dg c j := rfl
  have h2 : (zx_dg c j ^^^ x) % 2 ^ 32 = zx_dg c j ^^^ x := Nat.mod_eq_of_lt (Nat.xor_lt_two_pow (zx_dg_lt c j) hx)
  rw [h1, h2, ← Nat.xor_assoc, Nat.xor_self, Nat.zero_xor]
theorem zx_sd_other (c j x i : Nat) (hx : x < 4294967296) (hij : i ≠ j) : zx_dg (zx_sd c j x) i = zx_dg c i := by
  show ((c ^^^ ((zx_dg c j ^^^ x) <<< (32 * j))) >>> (32 * i)) % 2 ^ 32 = (c >>> (32 * i)) % 2 ^ 32
  have hd : zx_dg c j ^^^ x < 2 ^ 32 := Nat.xor_lt_two_pow (zx_dg_lt c j) hx
  rw [Nat.shiftRight_xor_distrib, Nat.xor_mod_two_pow]
  have hz : ((zx_dg c j ^^^ x) <<< (32 * j)) >>> (32 * i) % 2 ^ 32 = 0 := by
    generalize zx_dg c j ^^^ x = d at hd
    rw [Nat.shiftRight_eq_div_pow, Nat.shiftLeft_eq]
    rcases Nat.lt_or_gt_of_ne hij with h | h
    · have e : 32 * j = 32 * i + (32 + 32 * (j - i - 1)) := by omega
      rw [e, Nat.pow_add, Nat.pow_add, Nat.mul_left_comm, Nat.mul_div_cancel_left _ (Nat.pow_pos (by decide)), ← Nat.mul_assoc, Nat.mul_comm d, Nat.mul_assoc, Nat.mul_mod_right]
    · have e : 32 * i = 32 * j + (32 + 32 * (i - j - 1)) := by omega
      have hlt : d * 2 ^ (32 * j) / 2 ^ (32 * i) = 0 := by
        apply Nat.div_eq_of_lt
        rw [e, Nat.pow_add, Nat.mul_comm]
        refine Nat.mul_lt_mul_of_pos_left ?_ (Nat.pow_pos (by decide))
        exact Nat.lt_of_lt_of_le hd (Nat.pow_le_pow_right (by decide) (by omega))
      rw [hlt]
  rw [hz, Nat.xor_zero]
end
section
/-! what the walker's choices cover -/
section ZO
variable {ads : List Nat} {ex : Nat → Nat} {nu : Nat → Int32} {e : zx_L}
theorem zx_and_b {a b : Bool} (h : (a && b) = true) : a = true ∧ b = true := by cases a <;> cases b <;> simp_all
/-- a number that the walker knows of two that it knows; what the machine makes of them is f -/
theorem zx_b2_s {op : Nat} {f : Int32 → Int32 → Int32} (hf : ∀ x y : Nat, x < 4294967296 → y < 4294967296 → f (nI x) (nI y) = nI (zx_cb op x y)) {a b : zx_V} {x y : Int32} (ha : zx_r ads ex nu a (.int x)) (hb : zx_r ads ex nu b (.int y)) {k : zx_V → Bool} (hk : zx_b2 op a b k = true) :
    ∃ c : zx_V, zx_r ads ex nu c (.int (f x y)) ∧ k c = true := by
  unfold zx_b2 at hk
  split at hk
  · rw [zx_fn_eq] at hk
    obtain ⟨h1, h2⟩ := ha
    obtain ⟨h3, h4⟩ := hb
    cases h1
    cases h3
    refine ⟨_, ?_, hk⟩
    rw [hf _ _ h2 h4]
    exact zx_r_c 0 (zx_cb_lt _ _ _ h2 h4)
  · cases hc : zx_ii a && zx_ii b with
    | false => rw [hc] at hk; cases hk
    | true => rw [hc] at hk; exact ⟨_, zx_r_un _, hk⟩
theorem zx_sh_s {op : Nat} {f : Int32 → Int32 → Int32} (hf : ∀ x y : Nat, x < 4294967296 → y < 32 → f (nI x) (nI y) = nI (zx_cs op x y)) {a b : zx_V} {x y : Int32} (ha : zx_r ads ex nu a (.int x)) (hb : zx_r ads ex nu b (.int y)) {k : zx_V → Bool} (hk : zx_sh op a b k = true) :
    ∃ c : zx_V, zx_r ads ex nu c (.int (f x y)) ∧ k c = true := by
  unfold zx_sh at hk
  split at hk
  · rename_i x' z1 y' z2
    cases hc : Nat.blt y' 32 with
    | false => rw [hc] at hk; cases hk
    | true =>
      rw [hc, cond_true, zx_fn_eq] at hk
      obtain ⟨h1, h2⟩ := ha
      obtain ⟨h3, h4⟩ := hb
      cases h1
      cases h3
      refine ⟨_, ?_, hk⟩
      rw [hf _ _ h2 (Nat.le_of_ble_eq_true hc)]
      exact zx_r_c 0 (zx_cs_lt _ _ _ h2)
  · cases hc : zx_ii a && zx_ii b with
    | false => rw [hc] at hk; cases hk
    | true => rw [hc] at hk; exact ⟨_, zx_r_un _, hk⟩
theorem zx_ad_s {a b : zx_V} {x y : Int32} (ha : zx_r ads ex nu a (.int x)) (hb : zx_r ads ex nu b (.int y)) {k : zx_V → Bool} (hk : zx_ad a b k = true) : ∃ c : zx_V, zx_r ads ex nu c (.int (x + y)) ∧ k c = true := by
  unfold zx_ad at hk
  split at hk
  · obtain ⟨h1, -⟩ := ha
    cases h1
    refine ⟨_, ?_, hk⟩
    rw [show (nI 0) = 0 from nI_0, Int32.zero_add]
    exact hb
  · obtain ⟨h1, -⟩ := hb
    cases h1
    refine ⟨_, ?_, hk⟩
    rw [show (nI 0) = 0 from nI_0, Int32.add_zero]
    exact ha
  · exact zx_b2_s (op := 0) (f := fun x y => x + y) (fun x y _ _ => by show nI x + nI y = nI ((x + y) % 4294967296); rw [nI_add, zx_md]) ha hb hk
theorem zx_an_s (h7 : nu 7 = nu 0 &&& 63) {a b : zx_V} {x y : Int32} (ha : zx_r ads ex nu a (.int x)) (hb : zx_r ads ex nu b (.int y)) {k : zx_V → Bool} (hk : zx_an a b k = true) : ∃ c : zx_V, zx_r ads ex nu c (.int (x &&& y)) ∧ k c = true := by
  unfold zx_an at hk
  split at hk
  · obtain ⟨h1, -⟩ := hb
    have ha : Value.int x = .int (nu 0) := ha
    cases h1
    cases ha
    refine ⟨(1, 7, 0), ?_, hk⟩
    show Value.int _ = .int (nu 7)
    rw [h7]
    rfl
  · obtain ⟨h1, -⟩ := hb
    cases h1
    refine ⟨_, ?_, hk⟩
    rw [show (nI 4294967295) = -1 from by decide +kernel, Int32.and_neg_one]
    exact ha
  · exact zx_b2_s (op := 3) (f := fun x y => x &&& y) (fun x y _ _ => zx_and x y) ha hb hk
theorem zx_sr_s {a b : zx_V} {x y : Int32} (ha : zx_r ads ex nu a (.int x)) (hb : zx_r ads ex nu b (.int y)) {k : zx_V → Bool} (hk : zx_sr a b k = true) : ∃ c : zx_V, zx_r ads ex nu c (.int (x >>> (y &&& 31))) ∧ k c = true := by
  unfold zx_sr at hk
  split at hk
  · obtain ⟨h1, -⟩ := ha
    cases h1
    refine ⟨_, ?_, hk⟩
    rw [show (nI 0) = 0 from nI_0, Int32.zero_shiftRight]
    exact ⟨by rw [show (nI 0) = 0 from nI_0], (show (0 : Nat) < 4294967296 by decide)⟩
  · exact zx_sh_s (op := 7) (f := fun x y => x >>> (y &&& 31)) (fun x y hx hy => zx_shr x y hx hy) ha hb hk
theorem zx_dv_s {op : Nat} {a b : zx_V} {x y : Int32} (ha : zx_r ads ex nu a (.int x)) (hb : zx_r ads ex nu b (.int y)) {k : zx_V → Bool} (hk : zx_dv op a b k = true) : ¬ y = 0 ∧ ∃ c : zx_V, zx_r ads ex nu c (.int (bif Nat.beq op 0 then x / y else x - x / y * y)) ∧ k c = true := by
  unfold zx_dv at hk
  split at hk
  · rename_i x' z1 y' z2
    cases hc : Nat.blt x' 2147483648 && (Nat.blt 0 y' && Nat.blt y' 2147483648) with
    | false => rw [hc] at hk; cases hk
    | true =>
      rw [hc, cond_true, zx_fn_eq] at hk
      obtain ⟨q1, q2⟩ := zx_and_b hc
      obtain ⟨q2, q3⟩ := zx_and_b q2
      have q1 : x' < 2147483648 := Nat.le_of_ble_eq_true q1
      have q2 : 0 < y' := Nat.le_of_ble_eq_true q2
      have q3 : y' < 2147483648 := Nat.le_of_ble_eq_true q3
      obtain ⟨h1, h2⟩ := ha
      obtain ⟨h3, h4⟩ := hb
      cases h1
      cases h3
      refine ⟨nI_ne0 q2 q3, _, ?_, hk⟩
      cases Nat.beq op 0
      · rw [cond_false, cond_false, pk_rem q1 q2 q3]
        exact zx_r_c 0 (Nat.lt_of_le_of_lt (Nat.mod_le _ _) h2)
      · rw [cond_true, cond_true, pk_div q1 q2 q3]
        exact zx_r_c 0 (Nat.lt_of_le_of_lt (Nat.div_le_self _ _) h2)
  · cases hk
theorem zx_ev_set {i l h : Nat} (he : zx_ev nu e) (h1 : l ≤ zx_bz (nu i)) (h2 : zx_bz (nu i) ≤ h) : zx_ev nu (e.set i (l, h)) := by
  intro k q hq
  by_cases hk : i = k
  · subst hk
    rw [List.getElem?_set] at hq
    split at hq
    · split at hq
      · cases hq; exact ⟨h1, h2⟩
      · cases hq
    · exact he _ _ hq
  · rw [List.getElem?_set_ne hk] at hq
    exact he _ _ hq
theorem zx_blt_f {a b : Nat} (h : Nat.blt a b = false) : b ≤ a := by
  rcases Nat.lt_or_ge a b with q | q
  · have : Nat.blt a b = true := Nat.ble_eq_true_of_le q
    rw [this] at h; cases h
  · exact q
theorem zx_blt_t {a b : Nat} (h : Nat.blt a b = true) : a < b := Nat.le_of_ble_eq_true h
theorem zx_ble_f {a b : Nat} (h : Nat.ble a b = false) : b < a := by
  rcases Nat.lt_or_ge b a with q | q
  · exact q
  · have : Nat.ble a b = true := Nat.ble_eq_true_of_le q
    rw [this] at h; cases h
theorem zx_beq_t {a b : Nat} (h : Nat.beq a b = true) : a = b := Nat.eq_of_beq_eq_true h
theorem zx_lts_s (he : zx_ev nu e) {a b : zx_V} {x y : Int32} {l1 h1 l2 h2 : Nat} (a1 : l1 ≤ zx_bz x) (a2 : zx_bz x ≤ h1) (a3 : a.1 = 1 → x = nu a.2.1) (b1 : l2 ≤ zx_bz y) (b2 : zx_bz y ≤ h2) (b3 : b.1 = 1 → y = nu b.2.1) :
    ∃ q ∈ zx_lts e a b l1 h1 l2 h2, q.1 = decide (zx_bz x < zx_bz y) ∧ zx_ev nu q.2 := by
  unfold zx_lts
  cases c1 : Nat.blt h1 l2 with
  | true =>
    have := zx_blt_t c1
    exact ⟨_, List.mem_singleton.mpr rfl, (decide_eq_true (by omega)).symm, he⟩
  | false =>
    have := zx_blt_f c1
    rw [cond_false]
    cases c2 : Nat.ble h2 l1 with
    | true =>
      have : h2 ≤ l1 := Nat.le_of_ble_eq_true c2
      exact ⟨_, List.mem_singleton.mpr rfl, (decide_eq_false (by omega)).symm, he⟩
    | false =>
      rw [cond_false]
      cases c3 : Nat.beq a.1 1 && Nat.beq l2 h2 with
      | true =>
        rw [cond_true]
        obtain ⟨d1, d2⟩ := zx_and_b c3
        have d1 := zx_beq_t d1
        have d2 := zx_beq_t d2
        have ex := a3 d1
        by_cases hlt : zx_bz x < zx_bz y
        · exact ⟨_, List.mem_cons_self, (decide_eq_true hlt).symm, zx_ev_set he (by rw [← ex]; exact a1) (by rw [← ex]; omega)⟩
        · exact ⟨_, List.mem_cons_of_mem _ List.mem_cons_self, (decide_eq_false hlt).symm, zx_ev_set he (by rw [← ex]; omega) (by rw [← ex]; exact a2)⟩
      | false =>
        rw [cond_false]
        cases c4 : Nat.beq b.1 1 && Nat.beq l1 h1 with
        | true =>
          rw [cond_true]
          obtain ⟨d1, d2⟩ := zx_and_b c4
          have d1 := zx_beq_t d1
          have d2 := zx_beq_t d2
          have ex := b3 d1
          by_cases hlt : zx_bz x < zx_bz y
          · exact ⟨_, List.mem_cons_self, (decide_eq_true hlt).symm, zx_ev_set he (by rw [← ex]; omega) (by rw [← ex]; exact b2)⟩
          · exact ⟨_, List.mem_cons_of_mem _ List.mem_cons_self, (decide_eq_false hlt).symm, zx_ev_set he (by rw [← ex]; exact b1) (by rw [← ex]; omega)⟩
        | false =>
          rw [cond_false]
          by_cases hlt : zx_bz x < zx_bz y
          · exact ⟨_, List.mem_cons_self, (decide_eq_true hlt).symm, he⟩
          · exact ⟨_, List.mem_cons_of_mem _ List.mem_cons_self, (decide_eq_false hlt).symm, he⟩
theorem zx_eqs_s (he : zx_ev nu e) {a b : zx_V} {x y : Int32} {l1 h1 l2 h2 : Nat} (a1 : l1 ≤ zx_bz x) (a2 : zx_bz x ≤ h1) (a3 : a.1 = 1 → x = nu a.2.1) (b1 : l2 ≤ zx_bz y) (b2 : zx_bz y ≤ h2) (b3 : b.1 = 1 → y = nu b.2.1) :
    ∃ q ∈ zx_eqs e a b l1 h1 l2 h2, q.1 = decide (zx_bz x = zx_bz y) ∧ zx_ev nu q.2 := by
  unfold zx_eqs
  cases c1 : Nat.blt h1 l2 || Nat.blt h2 l1 with
  | true =>
    rw [cond_true]
    have hn : ¬ zx_bz x = zx_bz y := by
      cases d : Nat.blt h1 l2 with
      | true => have := zx_blt_t d; omega
      | false => rw [d, Bool.false_or] at c1; have := zx_blt_t c1; omega
    exact ⟨_, List.mem_singleton.mpr rfl, (decide_eq_false hn).symm, he⟩
  | false =>
    rw [cond_false]
    obtain ⟨e1, e2⟩ : Nat.blt h1 l2 = false ∧ Nat.blt h2 l1 = false := by cases d1 : Nat.blt h1 l2 <;> cases d2 : Nat.blt h2 l1 <;> simp_all
    have e1 := zx_blt_f e1
    have e2 := zx_blt_f e2
    cases c2 : Nat.beq l1 h1 && Nat.beq l2 h2 with
    | true =>
      obtain ⟨d1, d2⟩ := zx_and_b c2
      have d1 := zx_beq_t d1
      have d2 := zx_beq_t d2
      exact ⟨_, List.mem_singleton.mpr rfl, (decide_eq_true (by omega)).symm, he⟩
    | false =>
      rw [cond_false]
      cases c0 : Nat.beq a.1 1 && (Nat.beq b.1 1 && Nat.beq a.2.1 b.2.1) with
      | true =>
        obtain ⟨d1, d2⟩ := zx_and_b c0
        obtain ⟨d2, d3⟩ := zx_and_b d2
        refine ⟨_, List.mem_singleton.mpr rfl, (decide_eq_true ?_).symm, he⟩
        rw [a3 (zx_beq_t d1), b3 (zx_beq_t d2), zx_beq_t d3]
      | false =>
      rw [cond_false]
      cases c3 : Nat.beq a.1 1 && Nat.beq l2 h2 with
      | true =>
        rw [cond_true]
        obtain ⟨d1, d2⟩ := zx_and_b c3
        have d2 := zx_beq_t d2
        have ex := a3 (zx_beq_t d1)
        by_cases heq : zx_bz x = zx_bz y
        · exact ⟨_, List.mem_cons_self, (decide_eq_true heq).symm, zx_ev_set he (by rw [← ex]; omega) (by rw [← ex]; omega)⟩
        · rcases Nat.lt_or_gt_of_ne heq with hl | hl
          · refine ⟨(false, e.set a.2.1 (l1, l2 - 1)), List.mem_cons_of_mem _ (List.mem_append_left _ ?_), (decide_eq_false heq).symm, zx_ev_set he (by rw [← ex]; exact a1) (by rw [← ex]; omega)⟩
            rw [show Nat.blt l1 l2 = true from Nat.ble_eq_true_of_le (by omega : l1 + 1 ≤ l2)]
            exact List.mem_singleton.mpr rfl
          · refine ⟨(false, e.set a.2.1 (l2 + 1, h1)), List.mem_cons_of_mem _ (List.mem_append_right _ ?_), (decide_eq_false heq).symm, zx_ev_set he (by rw [← ex]; omega) (by rw [← ex]; exact a2)⟩
            rw [show Nat.blt l2 h1 = true from Nat.ble_eq_true_of_le (by omega : l2 + 1 ≤ h1)]
            exact List.mem_singleton.mpr rfl
      | false =>
        rw [cond_false]
        cases c4 : Nat.beq b.1 1 && Nat.beq l1 h1 with
        | true =>
          rw [cond_true]
          obtain ⟨d1, d2⟩ := zx_and_b c4
          have d2 := zx_beq_t d2
          have ex := b3 (zx_beq_t d1)
          by_cases heq : zx_bz x = zx_bz y
          · exact ⟨_, List.mem_cons_self, (decide_eq_true heq).symm, zx_ev_set he (by rw [← ex]; omega) (by rw [← ex]; omega)⟩
          · rcases Nat.lt_or_gt_of_ne heq with hl | hl
            · refine ⟨(false, e.set b.2.1 (l1 + 1, h2)), List.mem_cons_of_mem _ (List.mem_append_right _ ?_), (decide_eq_false heq).symm, zx_ev_set he (by rw [← ex]; omega) (by rw [← ex]; exact b2)⟩
              rw [show Nat.blt l1 h2 = true from Nat.ble_eq_true_of_le (by omega : l1 + 1 ≤ h2)]
              exact List.mem_singleton.mpr rfl
            · refine ⟨(false, e.set b.2.1 (l2, l1 - 1)), List.mem_cons_of_mem _ (List.mem_append_left _ ?_), (decide_eq_false heq).symm, zx_ev_set he (by rw [← ex]; exact b1) (by rw [← ex]; omega)⟩
              rw [show Nat.blt l2 l1 = true from Nat.ble_eq_true_of_le (by omega : l2 + 1 ≤ l1)]
              exact List.mem_singleton.mpr rfl
        | false =>
          rw [cond_false]
          by_cases heq : zx_bz x = zx_bz y
          · exact ⟨_, List.mem_cons_self, (decide_eq_true heq).symm, he⟩
          · exact ⟨_, List.mem_cons_of_mem _ List.mem_cons_self, (decide_eq_false heq).symm, he⟩
/-- what a comparison says of two ints -/
def zx_cv (c : ClassFile.Cond) (x y : Int32) : Prop := match c with
  | .lt => x < y
  | .ge => y ≤ x
  | .gt => y < x
  | .le => x ≤ y
  | .eq => x = y
  | .ne => ¬ x = y
theorem zx_cmp_s {c : ClassFile.Cond} (he : zx_ev nu e) {a b : zx_V} {x y : Int32} (ha : zx_r ads ex nu a (.int x)) (hb : zx_r ads ex nu b (.int y)) {l : List (Bool × zx_L)} (hl : zx_cmp c e a b = some l) :
    ∃ q ∈ l, (q.1 = true ↔ zx_cv c x y) ∧ zx_ev nu q.2 := by
  unfold zx_cmp at hl
  cases ha1 : zx_iv e a with
  | none => rw [ha1] at hl; cases hl
  | some q1 =>
    cases hb1 : zx_iv e b with
    | none => rw [ha1, hb1] at hl; cases hl
    | some q2 =>
      rw [ha1, hb1] at hl
      obtain ⟨x', ex1, a1, a2, a3⟩ := zx_r_iv he ha1 ha
      cases ex1
      obtain ⟨y', ey1, b1, b2, b3⟩ := zx_r_iv he hb1 hb
      cases ey1
      obtain ⟨l1, h1⟩ := q1
      obtain ⟨l2, h2⟩ := q2
      have hl := Option.some.inj hl
      subst hl
      have hlt := zx_lts_s he a1 a2 a3 b1 b2 b3
      have hgt := zx_lts_s he b1 b2 b3 a1 a2 a3
      have heq := zx_eqs_s he a1 a2 a3 b1 b2 b3
      cases c with
      | lt => obtain ⟨q, m, t, v⟩ := hlt; exact ⟨q, m, by rw [t, decide_eq_true_iff]; exact (zx_lt x y).symm, v⟩
      | gt => obtain ⟨q, m, t, v⟩ := hgt; exact ⟨q, m, by rw [t, decide_eq_true_iff]; exact (zx_lt y x).symm, v⟩
      | eq => obtain ⟨q, m, t, v⟩ := heq; exact ⟨q, m, by rw [t, decide_eq_true_iff]; exact (zx_eq x y).symm, v⟩
      | ge => obtain ⟨q, m, t, v⟩ := hlt; exact ⟨(!q.1, q.2), List.mem_map.mpr ⟨q, m, rfl⟩, by rw [t, zx_cv, zx_le]; simp, v⟩
      | le => obtain ⟨q, m, t, v⟩ := hgt; exact ⟨(!q.1, q.2), List.mem_map.mpr ⟨q, m, rfl⟩, by rw [t, zx_cv, zx_le]; simp, v⟩
      | ne => obtain ⟨q, m, t, v⟩ := heq; exact ⟨(!q.1, q.2), List.mem_map.mpr ⟨q, m, rfl⟩, by rw [t, zx_cv, zx_eq]; simp, v⟩
theorem zx_jmp_s {c : ClassFile.Cond} (he : zx_ev nu e) {a b : zx_V} {x y : Int32} (ha : zx_r ads ex nu a (.int x)) (hb : zx_r ads ex nu b (.int y)) {pc np : Nat} {off : Int} {k : Nat → zx_L → Bool} (hk : zx_jmp pc np off (zx_cmp c e a b) k = true) :
    ∃ t : Nat, (pc : Int) + off = (t : Int) ∧ ∃ e' : zx_L, zx_ev nu e' ∧ (zx_cv c x y → k t e' = true) ∧ (¬ zx_cv c x y → k np e' = true) := by
  unfold zx_jmp at hk
  cases hl : zx_cmp c e a b with
  | none => rw [hl] at hk; cases hk
  | some l =>
    rw [hl] at hk
    dsimp only at hk
    cases hd : decide (0 ≤ (pc : Int) + off) with
    | false => rw [hd] at hk; cases hk
    | true =>
      rw [hd, cond_true, zx_fn_eq] at hk
      have hd := of_decide_eq_true hd
      obtain ⟨q, m, t, v⟩ := zx_cmp_s he ha hb hl
      have h1 := List.all_eq_true.mp hk q m
      rw [zx_fl_eq] at h1
      refine ⟨_, (Int.toNat_of_nonneg hd).symm, q.2, v, fun hc => ?_, fun hc => ?_⟩
      · rw [t.mpr hc] at h1; exact h1
      · have : q.1 = false := by cases hq : q.1 with
          | false => rfl
          | true => exact absurd (t.mp hq) hc
        rw [this] at h1; exact h1
theorem zx_in_s (he : zx_ev nu e) {i : zx_V} {x : Int32} {n : Nat} (hi : zx_r ads ex nu i (.int x)) (hn : zx_in e i n = true) : vp_in x n := by
  unfold zx_in at hn
  cases h : zx_iv e i with
  | none => rw [h] at hn; cases hn
  | some q =>
    rw [h] at hn
    obtain ⟨x', ex1, a1, a2, -⟩ := zx_r_iv he h hi
    cases ex1
    obtain ⟨q1, q2⟩ := zx_and_b hn
    have q1 := Nat.le_of_ble_eq_true q1
    have q2 := zx_blt_t q2
    have hz := zx_bz_int x
    rw [vp_in_iff]
    omega
end ZO
end
section
/-! locals, stacks and worlds of the walker's values -/
def zx_LR (ads : List Nat) (ex : Nat → Nat) (nu : Nat → Int32) : List (Nat × zx_V) → List (Nat × Value) → Prop
  | [], [] => True
  | a :: l, b :: m => a.1 = b.1 ∧ zx_r ads ex nu a.2 b.2 ∧ zx_LR ads ex nu l m
  | [], _ :: _ => False
  | _ :: _, [] => False
def zx_SR (ads : List Nat) (ex : Nat → Nat) (nu : Nat → Int32) : List zx_V → List Value → Prop
  | [], [] => True
  | a :: l, b :: m => zx_r ads ex nu a b ∧ zx_SR ads ex nu l m
  | [], _ :: _ => False
  | _ :: _, [] => False
def zx_cr (ads : List Nat) (ex : Nat → Nat) (nu : Nat → Int32) (aC : Nat → ClassId) (c : zx_C) (e : va_E) : Prop := match c.1 with
  | 0 => ∃ f : Nat → Int32, e = .inl (aC c.2.1, c.2.2.1, .inl f) ∧ c.2.1 < 3 ∧ ∀ j, j < c.2.2.1 → f j = nI (zx_dg c.2.2.2.1 j)
  | 1 => ∃ f : Nat → Int32, e = .inl (aC c.2.1, c.2.2.1, .inl f) ∧ c.2.1 < 3
  | 2 => ∃ fs : List Value, e = .inr (c.2.1, fs) ∧ zx_SR ads ex nu c.2.2.2.2 fs
  | 3 => ∃ f : Nat → Int64, e = .inl (aC 3, c.2.2.1, .inr (.inl f))
  | 4 => ∃ f : Nat → Option Nat, e = .inl (aC 4, c.2.2.1, .inr (.inr (.inr (.inr f)))) ∧ c.2.2.2.2.length = c.2.2.1 ∧ ∀ (j : Nat) (a : zx_V), c.2.2.2.2[j]? = some a → zx_r ads ex nu a (va_rf (f j))
  | _ => False
def zx_HR (ads : List Nat) (ex : Nat → Nat) (nu : Nat → Int32) (aC : Nat → ClassId) : List zx_C → va_W → Prop
  | [], [] => True
  | c :: h, w :: ws => zx_cr ads ex nu aC c w.2 ∧ zx_HR ads ex nu aC h ws
  | [], _ :: _ => False
  | _ :: _, [] => False
def zx_la : Nat → List zx_V → List (Nat × zx_V)
  | _, [] => []
  | i, a :: l => (i, a) :: zx_la (bif zx_jj a then i + 2 else i + 1) l
def zx_sz : List zx_V → Nat
  | [] => 0
  | a :: l => zx_ct a + zx_sz l
section ZL
variable {ads ads' : List Nat} {ex : Nat → Nat} {nu : Nat → Int32} {aC : Nat → ClassId}
theorem zx_LR_lk : ∀ {lo : List (Nat × zx_V)} {lv : List (Nat × Value)} {i : Nat} {a : zx_V}, zx_LR ads ex nu lo lv → zx_lk lo i = some a → ∃ v, zx_r ads ex nu a v ∧ (i, v) ∈ lv
  | [], [], _, _, _, h => by cases h
  | b :: l, c :: m, i, a, h, hk => by
    obtain ⟨j, x⟩ := b
    obtain ⟨j', y⟩ := c
    obtain ⟨h1, h2, h3⟩ := h
    have h1 : j = j' := h1
    subst h1
    unfold zx_lk at hk
    cases hb : Nat.beq j i with
    | true =>
      rw [hb] at hk
      have hk : some x = some a := hk
      cases hk
      have := Nat.eq_of_beq_eq_true hb
      subst this
      exact ⟨y, h2, List.mem_cons_self⟩
    | false =>
      rw [hb] at hk
      obtain ⟨v, q1, q2⟩ := zx_LR_lk h3 hk
      exact ⟨v, q1, List.mem_cons_of_mem _ q2⟩
  | [], _ :: _, _, _, h, _ => h.elim
  | _ :: _, [], _, _, h, _ => h.elim
theorem zx_ct_eq {a : zx_V} {v : Value} (h : zx_r ads ex nu a v) : (zx_ct a == 2) = (v.category == 2) := by rw [zx_r_cat h]
theorem zx_LR_f1 (i : Nat) : ∀ {lo : List (Nat × zx_V)} {lv : List (Nat × Value)}, zx_LR ads ex nu lo lv → zx_LR ads ex nu (lo.filter (fun q => !(q.1 == i) && !(q.1 + 1 == i && zx_ct q.2 == 2))) (lv.filter (fun q => !(q.1 == i) && !(q.1 + 1 == i && q.2.category == 2)))
  | [], [], _ => trivial
  | a :: l, b :: m, h => by
    obtain ⟨h1, h2, h3⟩ := h
    have ih := zx_LR_f1 i h3
    have he : (!(a.1 == i) && !(a.1 + 1 == i && zx_ct a.2 == 2)) = (!(b.1 == i) && !(b.1 + 1 == i && b.2.category == 2)) := by rw [h1, zx_ct_eq h2]
    rw [List.filter_cons, List.filter_cons, he]
    split
    · exact ⟨h1, h2, ih⟩
    · exact ih
  | [], _ :: _, h => h.elim
  | _ :: _, [], h => h.elim
theorem zx_LR_f2 (i : Nat) : ∀ {lo : List (Nat × zx_V)} {lv : List (Nat × Value)}, zx_LR ads ex nu lo lv → zx_LR ads ex nu (lo.filter (fun q => !(q.1 == i) && (!(q.1 == i + 1) && !(q.1 + 1 == i && zx_ct q.2 == 2)))) (lv.filter (fun q => !(q.1 == i) && (!(q.1 == i + 1) && !(q.1 + 1 == i && q.2.category == 2))))
  | [], [], _ => trivial
  | a :: l, b :: m, h => by
    obtain ⟨h1, h2, h3⟩ := h
    have ih := zx_LR_f2 i h3
    have he : (!(a.1 == i) && (!(a.1 == i + 1) && !(a.1 + 1 == i && zx_ct a.2 == 2))) = (!(b.1 == i) && (!(b.1 == i + 1) && !(b.1 + 1 == i && b.2.category == 2))) := by rw [h1, zx_ct_eq h2]
    rw [List.filter_cons, List.filter_cons, he]
    split
    · exact ⟨h1, h2, ih⟩
    · exact ih
  | [], _ :: _, h => h.elim
  | _ :: _, [], h => h.elim
theorem zx_LR_mono (hp : ∀ (i q : Nat), ads[i]? = some q → ads'[i]? = some q) : ∀ {lo : List (Nat × zx_V)} {lv : List (Nat × Value)}, zx_LR ads ex nu lo lv → zx_LR ads' ex nu lo lv
  | [], [], _ => trivial
  | _ :: _, _ :: _, h => ⟨h.1, zx_r_mono hp h.2.1, zx_LR_mono hp h.2.2⟩
  | [], _ :: _, h => h.elim
  | _ :: _, [], h => h.elim
theorem zx_SR_mono (hp : ∀ (i q : Nat), ads[i]? = some q → ads'[i]? = some q) : ∀ {lo : List zx_V} {lv : List Value}, zx_SR ads ex nu lo lv → zx_SR ads' ex nu lo lv
  | [], [], _ => trivial
  | _ :: _, _ :: _, h => ⟨zx_r_mono hp h.1, zx_SR_mono hp h.2⟩
  | [], _ :: _, h => h.elim
  | _ :: _, [], h => h.elim
theorem zx_cr_mono (hp : ∀ (i q : Nat), ads[i]? = some q → ads'[i]? = some q) {c : zx_C} {e : va_E} (h : zx_cr ads ex nu aC c e) : zx_cr ads' ex nu aC c e := by
  obtain ⟨t, ci, n, cd, fs⟩ := c
  match t, h with
  | 0, h => exact h
  | 1, h => exact h
  | 2, h => obtain ⟨f, h1, h2⟩ := h; exact ⟨f, h1, zx_SR_mono hp h2⟩
  | 3, h => exact h
  | 4, h => obtain ⟨f, h1, h2, h3⟩ := h; exact ⟨f, h1, h2, fun j a ha => zx_r_mono hp (h3 j a ha)⟩
  | (k + 5), h => exact h.elim
theorem zx_HR_mono (hp : ∀ (i q : Nat), ads[i]? = some q → ads'[i]? = some q) : ∀ {h : List zx_C} {ws : va_W}, zx_HR ads ex nu aC h ws → zx_HR ads' ex nu aC h ws
  | [], [], _ => trivial
  | _ :: _, _ :: _, h => ⟨zx_cr_mono hp h.1, zx_HR_mono hp h.2⟩
  | [], _ :: _, h => h.elim
  | _ :: _, [], h => h.elim
theorem zx_HR_get : ∀ {h : List zx_C} {ws : va_W} {i : Nat} {c : zx_C}, zx_HR ads ex nu aC h ws → h[i]? = some c → ∃ w, ws[i]? = some w ∧ zx_cr ads ex nu aC c w.2
  | [], [], _, _, _, h => by cases h
  | a :: l, b :: m, 0, c, h, hk => by
    have hk : some a = some c := hk
    cases hk
    exact ⟨b, rfl, h.1⟩
  | a :: l, b :: m, i + 1, c, h, hk => zx_HR_get (i := i) h.2 hk
  | [], _ :: _, _, _, h, _ => h.elim
  | _ :: _, [], _, _, h, _ => h.elim
theorem zx_HR_set : ∀ {h : List zx_C} {ws : va_W} {i : Nat} {c : zx_C} {w : Nat × va_E}, zx_HR ads ex nu aC h ws → zx_cr ads ex nu aC c w.2 → zx_HR ads ex nu aC (h.set i c) (ws.set i w)
  | [], [], _, _, _, _, _ => trivial
  | a :: l, b :: m, 0, c, w, h, hk => ⟨hk, h.2⟩
  | a :: l, b :: m, i + 1, c, w, h, hk => ⟨h.1, zx_HR_set (i := i) h.2 hk⟩
  | [], _ :: _, _, _, _, h, _ => h.elim
  | _ :: _, [], _, _, _, h, _ => h.elim
theorem zx_HR_len : ∀ {h : List zx_C} {ws : va_W}, zx_HR ads ex nu aC h ws → h.length = ws.length
  | [], [], _ => rfl
  | a :: l, b :: m, h => by rw [List.length_cons, List.length_cons, zx_HR_len h.2]
  | [], _ :: _, h => h.elim
  | _ :: _, [], h => h.elim
theorem zx_HR_push : ∀ {h : List zx_C} {ws : va_W} {c : zx_C} {w : Nat × va_E}, zx_HR ads ex nu aC h ws → zx_cr ads ex nu aC c w.2 → zx_HR ads ex nu aC (h ++ [c]) (ws ++ [w])
  | [], [], _, _, _, hc => ⟨hc, trivial⟩
  | a :: l, b :: m, c, w, h, hc => ⟨h.1, zx_HR_push h.2 hc⟩
  | [], _ :: _, _, _, h, _ => h.elim
  | _ :: _, [], _, _, h, _ => h.elim
theorem zx_ads_set {ws : va_W} {i a : Nat} {e e' : va_E} (h : ws[i]? = some (a, e)) : (ws.set i (a, e')).map (fun w => w.1) = ws.map (fun w => w.1) := by
  rw [List.map_set]
  apply List.ext_getElem?
  intro j
  rw [List.getElem?_set]
  split
  · rename_i hij
    subst hij
    rw [List.getElem?_map, h]
    split
    · rfl
    · rename_i hl
      rw [List.length_map] at hl
      rw [List.getElem?_eq_none (by omega)] at h
      cases h
  · rfl
theorem zx_SR_get : ∀ {fs : List zx_V} {vs : List Value} {i : Nat} {a : zx_V}, zx_SR ads ex nu fs vs → fs[i]? = some a → ∃ v, vs[i]? = some v ∧ zx_r ads ex nu a v
  | [], [], _, _, _, h => by cases h
  | a :: l, b :: m, 0, c, h, hk => by
    have hk : some a = some c := hk
    cases hk
    exact ⟨b, rfl, h.1⟩
  | a :: l, b :: m, i + 1, c, h, hk => zx_SR_get (i := i) h.2 hk
  | [], _ :: _, _, _, h, _ => h.elim
  | _ :: _, [], _, _, h, _ => h.elim
theorem zx_SR_set : ∀ {fs : List zx_V} {vs : List Value} {i : Nat} {a : zx_V} {v : Value}, zx_SR ads ex nu fs vs → zx_r ads ex nu a v → zx_SR ads ex nu (fs.set i a) (vs.set i v)
  | [], [], _, _, _, _, _ => trivial
  | a :: l, b :: m, 0, c, w, h, hk => ⟨hk, h.2⟩
  | a :: l, b :: m, i + 1, c, w, h, hk => ⟨h.1, zx_SR_set (i := i) h.2 hk⟩
  | [], _ :: _, _, _, _, h, _ => h.elim
  | _ :: _, [], _, _, _, h, _ => h.elim
theorem zx_SR_len : ∀ {fs : List zx_V} {vs : List Value}, zx_SR ads ex nu fs vs → fs.length = vs.length
  | [], [], _ => rfl
  | a :: l, b :: m, h => by rw [List.length_cons, List.length_cons, zx_SR_len h.2]
  | [], _ :: _, h => h.elim
  | _ :: _, [], h => h.elim
theorem zx_SR_app : ∀ {f1 f2 : List zx_V} {v1 v2 : List Value}, zx_SR ads ex nu f1 v1 → zx_SR ads ex nu f2 v2 → zx_SR ads ex nu (f1 ++ f2) (v1 ++ v2)
  | [], _, [], _, _, h => h
  | _ :: _, _, _ :: _, _, h, h2 => ⟨h.1, zx_SR_app h.2 h2⟩
  | [], _, _ :: _, _, h, _ => h.elim
  | _ :: _, _, [], _, h, _ => h.elim
theorem zx_SR_rev : ∀ {f : List zx_V} {v : List Value}, zx_SR ads ex nu f v → zx_SR ads ex nu f.reverse v.reverse
  | [], [], _ => trivial
  | a :: l, b :: m, h => by
    rw [List.reverse_cons, List.reverse_cons]
    exact zx_SR_app (zx_SR_rev h.2) ⟨h.1, trivial⟩
  | [], _ :: _, h => h.elim
  | _ :: _, [], h => h.elim
/-- a stack, cut behind its first n -/
theorem zx_SR_cut : ∀ (n : Nat) {f : List zx_V} {v : List Value}, zx_SR ads ex nu f v → zx_SR ads ex nu (f.take n) (v.take n) ∧ zx_SR ads ex nu (f.drop n) (v.drop n)
  | 0, _, _, h => ⟨trivial, h⟩
  | n + 1, [], [], _ => ⟨trivial, trivial⟩
  | n + 1, _ :: _, _ :: _, h => ⟨⟨h.1, (zx_SR_cut n h.2).1⟩, (zx_SR_cut n h.2).2⟩
  | _ + 1, [], _ :: _, h => h.elim
  | _ + 1, _ :: _, [], h => h.elim
theorem zx_la_s : ∀ {f : List zx_V} {v : List Value} (i : Nat), zx_SR ads ex nu f v → zx_LR ads ex nu (zx_la i f) (lv_args i v)
  | [], [], _, _ => trivial
  | a :: l, b :: m, i, h => by
    have hc := zx_r_cat h.1
    have he : (bif zx_jj a then i + 2 else i + 1) = (if b.category = 2 then i + 2 else i + 1) := by
      rw [hc]
      unfold zx_ct
      cases zx_jj a <;> rfl
    unfold zx_la lv_args
    rw [← he]
    exact ⟨rfl, h.1, zx_la_s _ h.2⟩
  | [], _ :: _, _, h => h.elim
  | _ :: _, [], _, h => h.elim
theorem zx_sz_s : ∀ {f : List zx_V} {v : List Value}, zx_SR ads ex nu f v → (lg_sl v).length = zx_sz f ∧ (v.map fun w => w.category).sum = zx_sz f
  | [], [], _ => ⟨rfl, rfl⟩
  | a :: l, b :: m, h => by
    have hc := zx_r_cat h.1
    obtain ⟨i1, i2⟩ := zx_sz_s h.2
    refine ⟨?_, ?_⟩
    · unfold lg_sl at i1 ⊢
      rw [List.flatMap_cons, List.length_append, i1]
      show _ = zx_ct a + zx_sz l
      rw [← hc]
      rcases lv_cat b with q | q <;> rw [q] <;> simp
    · rw [List.map_cons, List.sum_cons, i2, hc]
      rfl
  | [], _ :: _, h => h.elim
  | _ :: _, [], h => h.elim
end ZL
end
section
/-! the tables: which methods are run, their instructions, their links, and where the words stand in the statement (printed by program) -/
def zx_on : List String := ["LaneDoors$Formula", "LaneDoors$Hearsay", "LaneDoors$History", "LaneDoors$Lexer", "LaneDoors$Opener", "LaneDoors$Pile", "LaneDoors$Plan", "LaneDoors$Reader", "LaneDoors$State", "LaneDoors$Streets", "LaneDoors$Tape", "LaneDoors", "LaneDoorsModel", "LaneDoorsLaw", "java/lang/String", "java/lang/StringLatin1", "jdk/internal/util/Preconditions", "java/util/Arrays", "java/lang/Integer", "java/lang/Math"]
def zc_L_law_0 : List (Nat × List zx_E) := [(25, [(0, .new 7, 3, 11, 0), (3, .dup, 4, 0, 0), (4, .invokespecial 9, 7, 0, 0), (7, .astore_n 1, 8, 0, 0), (8, .new 10, 11, 12, 0), (11, .dup, 12, 0, 0), (12, .invokespecial 12, 15, 20, 0), (15, .astore_n 2, 16, 0, 0), (16, .iconst 0, 17, 0, 0), (17, .istore_n 3, 18, 0, 0), (18, .iload_n 3, 19, 0, 0), (19, .aload_n 0, 20, 0, 0), (20, .arraylength, 21, 0, 0), (21, .bipush 6, 23, 0, 0), (23, .isub, 24, 0, 0), (24, .if_icmp .gt 1777, 27, 0, 0)]), (262, [(27, .aload_n 0, 28, 0, 0), (28, .iload_n 3, 29, 0, 0), (29, .iaload, 30, 0, 0), (30, .bipush 63, 32, 0, 0), (32, .iand, 33, 0, 0), (33, .tableswitch 1762 0 50 #[219, 282, 305, 318, 341, 374, 397, 430, 463, 486, 509, 532, 555, 578, 601, 624, 677, 690, 703, 716, 729, 752, 775, 798, 831, 854, 887, 910, 933, 986, 1009, 1032, 1065, 1118, 1161, 1204, 1237, 1250, 1313, 1376, 1439, 1472, 1495, 1528, 1551, 1574, 1607, 1640, 1693, 1716, 1739], 252, 0, 0), (252, .aload_n 1, 253, 0, 0), (253, .aload_n 0, 254, 0, 0), (254, .iload_n 3, 255, 0, 0), (255, .iconst 1, 256, 0, 0), (256, .iadd, 257, 0, 0), (257, .iaload, 258, 0, 0), (258, .aload_n 0, 259, 0, 0), (259, .iload_n 3, 260, 0, 0), (260, .iconst 2, 261, 0, 0), (261, .iadd, 262, 0, 0)]), (278, [(262, .iaload, 263, 0, 0), (263, .aload_n 0, 264, 0, 0), (264, .iload_n 3, 265, 0, 0), (265, .iconst 3, 266, 0, 0), (266, .iadd, 267, 0, 0), (267, .iaload, 268, 0, 0), (268, .aload_n 0, 269, 0, 0), (269, .iload_n 3, 270, 0, 0), (270, .iconst 4, 271, 0, 0), (271, .iadd, 272, 0, 0), (272, .iaload, 273, 0, 0), (273, .aload_n 0, 274, 0, 0), (274, .iload_n 3, 275, 0, 0), (275, .iconst 5, 276, 0, 0), (276, .iadd, 277, 0, 0), (277, .iaload, 278, 0, 0)]), (296, [(278, .invokevirtual 13, 281, 23, 0), (281, .aload_n 2, 282, 0, 0), (282, .aload_n 0, 283, 0, 0), (283, .iload_n 3, 284, 0, 0), (284, .iconst 1, 285, 0, 0), (285, .iadd, 286, 0, 0), (286, .iaload, 287, 0, 0), (287, .aload_n 0, 288, 0, 0), (288, .iload_n 3, 289, 0, 0), (289, .iconst 2, 290, 0, 0), (290, .iadd, 291, 0, 0), (291, .iaload, 292, 0, 0), (292, .aload_n 0, 293, 0, 0), (293, .iload_n 3, 294, 0, 0), (294, .iconst 3, 295, 0, 0), (295, .iadd, 296, 0, 0)]), (318, [(296, .iaload, 297, 0, 0), (297, .aload_n 0, 298, 0, 0), (298, .iload_n 3, 299, 0, 0), (299, .iconst 4, 300, 0, 0), (300, .iadd, 301, 0, 0), (301, .iaload, 302, 0, 0), (302, .aload_n 0, 303, 0, 0), (303, .iload_n 3, 304, 0, 0), (304, .iconst 5, 305, 0, 0), (305, .iadd, 306, 0, 0), (306, .iaload, 307, 0, 0), (307, .invokevirtual 17, 310, 25, 0), (310, .if_icmp .eq 1485, 313, 0, 0), (315, .aload_n 1, 316, 0, 0), (316, .aload_n 0, 317, 0, 0), (317, .iload_n 3, 318, 0, 0)]), (344, [(318, .iconst 1, 319, 0, 0), (319, .iadd, 320, 0, 0), (320, .iaload, 321, 0, 0), (321, .invokevirtual 18, 324, 26, 0), (324, .aload_n 2, 325, 0, 0), (325, .aload_n 0, 326, 0, 0), (326, .iload_n 3, 327, 0, 0), (327, .iconst 1, 328, 0, 0), (328, .iadd, 329, 0, 0), (329, .iaload, 330, 0, 0), (330, .invokevirtual 22, 333, 27, 0), (333, .if_icmp .eq 1462, 336, 0, 0), (338, .aload_n 1, 339, 0, 0), (339, .invokevirtual 23, 342, 28, 0), (342, .aload_n 2, 343, 0, 0), (343, .invokevirtual 27, 346, 41, 0)]), (370, [(346, .if_icmp .eq 1449, 349, 0, 0), (351, .aload_n 1, 352, 0, 0), (352, .aload_n 0, 353, 0, 0), (353, .iload_n 3, 354, 0, 0), (354, .iconst 1, 355, 0, 0), (355, .iadd, 356, 0, 0), (356, .iaload, 357, 0, 0), (357, .invokevirtual 28, 360, 45, 0), (360, .aload_n 2, 361, 0, 0), (361, .aload_n 0, 362, 0, 0), (362, .iload_n 3, 363, 0, 0), (363, .iconst 1, 364, 0, 0), (364, .iadd, 365, 0, 0), (365, .iaload, 366, 0, 0), (366, .invokevirtual 31, 369, 46, 0), (369, .if_icmp .eq 1426, 372, 0, 0)]), (392, [(374, .aload_n 1, 375, 0, 0), (375, .aload_n 0, 376, 0, 0), (376, .iload_n 3, 377, 0, 0), (377, .iconst 1, 378, 0, 0), (378, .iadd, 379, 0, 0), (379, .iaload, 380, 0, 0), (380, .aload_n 0, 381, 0, 0), (381, .iload_n 3, 382, 0, 0), (382, .iconst 2, 383, 0, 0), (383, .iadd, 384, 0, 0), (384, .iaload, 385, 0, 0), (385, .invokevirtual 32, 388, 47, 0), (388, .aload_n 2, 389, 0, 0), (389, .aload_n 0, 390, 0, 0), (390, .iload_n 3, 391, 0, 0), (391, .iconst 1, 392, 0, 0)])]
def zc_L_law_1 : List (Nat × List zx_E) := [(414, [(392, .iadd, 393, 0, 0), (393, .iaload, 394, 0, 0), (394, .aload_n 0, 395, 0, 0), (395, .iload_n 3, 396, 0, 0), (396, .iconst 2, 397, 0, 0), (397, .iadd, 398, 0, 0), (398, .iaload, 399, 0, 0), (399, .invokevirtual 36, 402, 49, 0), (402, .if_icmp .eq 1393, 405, 0, 0), (407, .aload_n 1, 408, 0, 0), (408, .aload_n 0, 409, 0, 0), (409, .iload_n 3, 410, 0, 0), (410, .iconst 1, 411, 0, 0), (411, .iadd, 412, 0, 0), (412, .iaload, 413, 0, 0), (413, .invokevirtual 37, 416, 53, 0)]), (438, [(416, .aload_n 2, 417, 0, 0), (417, .aload_n 0, 418, 0, 0), (418, .iload_n 3, 419, 0, 0), (419, .iconst 1, 420, 0, 0), (420, .iadd, 421, 0, 0), (421, .iaload, 422, 0, 0), (422, .invokevirtual 40, 425, 54, 0), (425, .if_icmp .eq 1370, 428, 0, 0), (430, .aload_n 1, 431, 0, 0), (431, .aload_n 0, 432, 0, 0), (432, .iload_n 3, 433, 0, 0), (433, .iconst 1, 434, 0, 0), (434, .iadd, 435, 0, 0), (435, .iaload, 436, 0, 0), (436, .aload_n 0, 437, 0, 0), (437, .iload_n 3, 438, 0, 0)]), (456, [(438, .iconst 2, 439, 0, 0), (439, .iadd, 440, 0, 0), (440, .iaload, 441, 0, 0), (441, .invokevirtual 41, 444, 55, 0), (444, .aload_n 2, 445, 0, 0), (445, .aload_n 0, 446, 0, 0), (446, .iload_n 3, 447, 0, 0), (447, .iconst 1, 448, 0, 0), (448, .iadd, 449, 0, 0), (449, .iaload, 450, 0, 0), (450, .aload_n 0, 451, 0, 0), (451, .iload_n 3, 452, 0, 0), (452, .iconst 2, 453, 0, 0), (453, .iadd, 454, 0, 0), (454, .iaload, 455, 0, 0), (455, .invokevirtual 44, 458, 56, 0)]), (480, [(458, .if_icmp .eq 1337, 461, 0, 0), (463, .aload_n 1, 464, 0, 0), (464, .aload_n 0, 465, 0, 0), (465, .iload_n 3, 466, 0, 0), (466, .iconst 1, 467, 0, 0), (467, .iadd, 468, 0, 0), (468, .iaload, 469, 0, 0), (469, .aload_n 0, 470, 0, 0), (470, .iload_n 3, 471, 0, 0), (471, .iconst 2, 472, 0, 0), (472, .iadd, 473, 0, 0), (473, .iaload, 474, 0, 0), (474, .invokevirtual 45, 477, 57, 0), (477, .aload_n 2, 478, 0, 0), (478, .aload_n 0, 479, 0, 0), (479, .iload_n 3, 480, 0, 0)]), (502, [(480, .iconst 1, 481, 0, 0), (481, .iadd, 482, 0, 0), (482, .iaload, 483, 0, 0), (483, .aload_n 0, 484, 0, 0), (484, .iload_n 3, 485, 0, 0), (485, .iconst 2, 486, 0, 0), (486, .iadd, 487, 0, 0), (487, .iaload, 488, 0, 0), (488, .invokevirtual 48, 491, 60, 0), (491, .if_icmp .eq 1304, 494, 0, 0), (496, .aload_n 1, 497, 0, 0), (497, .aload_n 0, 498, 0, 0), (498, .iload_n 3, 499, 0, 0), (499, .iconst 1, 500, 0, 0), (500, .iadd, 501, 0, 0), (501, .iaload, 502, 0, 0)]), (526, [(502, .invokevirtual 49, 505, 63, 0), (505, .aload_n 2, 506, 0, 0), (506, .aload_n 0, 507, 0, 0), (507, .iload_n 3, 508, 0, 0), (508, .iconst 1, 509, 0, 0), (509, .iadd, 510, 0, 0), (510, .iaload, 511, 0, 0), (511, .invokevirtual 52, 514, 65, 0), (514, .if_icmp .eq 1281, 517, 0, 0), (519, .aload_n 1, 520, 0, 0), (520, .aload_n 0, 521, 0, 0), (521, .iload_n 3, 522, 0, 0), (522, .iconst 1, 523, 0, 0), (523, .iadd, 524, 0, 0), (524, .iaload, 525, 0, 0), (525, .invokevirtual 53, 528, 66, 0)]), (552, [(528, .aload_n 2, 529, 0, 0), (529, .aload_n 0, 530, 0, 0), (530, .iload_n 3, 531, 0, 0), (531, .iconst 1, 532, 0, 0), (532, .iadd, 533, 0, 0), (533, .iaload, 534, 0, 0), (534, .invokevirtual 56, 537, 67, 0), (537, .if_icmp .eq 1258, 540, 0, 0), (542, .aload_n 1, 543, 0, 0), (543, .aload_n 0, 544, 0, 0), (544, .iload_n 3, 545, 0, 0), (545, .iconst 1, 546, 0, 0), (546, .iadd, 547, 0, 0), (547, .iaload, 548, 0, 0), (548, .invokevirtual 57, 551, 68, 0), (551, .aload_n 2, 552, 0, 0)]), (576, [(552, .aload_n 0, 553, 0, 0), (553, .iload_n 3, 554, 0, 0), (554, .iconst 1, 555, 0, 0), (555, .iadd, 556, 0, 0), (556, .iaload, 557, 0, 0), (557, .invokevirtual 60, 560, 69, 0), (560, .if_icmp .eq 1235, 563, 0, 0), (565, .aload_n 1, 566, 0, 0), (566, .aload_n 0, 567, 0, 0), (567, .iload_n 3, 568, 0, 0), (568, .iconst 1, 569, 0, 0), (569, .iadd, 570, 0, 0), (570, .iaload, 571, 0, 0), (571, .invokevirtual 61, 574, 74, 0), (574, .aload_n 2, 575, 0, 0), (575, .aload_n 0, 576, 0, 0)])]
def zc_L_law_2 : List (Nat × List zx_E) := [(600, [(576, .iload_n 3, 577, 0, 0), (577, .iconst 1, 578, 0, 0), (578, .iadd, 579, 0, 0), (579, .iaload, 580, 0, 0), (580, .invokevirtual 64, 583, 75, 0), (583, .if_icmp .eq 1212, 586, 0, 0), (588, .aload_n 1, 589, 0, 0), (589, .aload_n 0, 590, 0, 0), (590, .iload_n 3, 591, 0, 0), (591, .iconst 1, 592, 0, 0), (592, .iadd, 593, 0, 0), (593, .iaload, 594, 0, 0), (594, .invokevirtual 65, 597, 76, 0), (597, .aload_n 2, 598, 0, 0), (598, .aload_n 0, 599, 0, 0), (599, .iload_n 3, 600, 0, 0)]), (624, [(600, .iconst 1, 601, 0, 0), (601, .iadd, 602, 0, 0), (602, .iaload, 603, 0, 0), (603, .invokevirtual 69, 606, 77, 0), (606, .if_icmp .eq 1189, 609, 0, 0), (611, .aload_n 1, 612, 0, 0), (612, .aload_n 0, 613, 0, 0), (613, .iload_n 3, 614, 0, 0), (614, .iconst 1, 615, 0, 0), (615, .iadd, 616, 0, 0), (616, .iaload, 617, 0, 0), (617, .invokevirtual 70, 620, 78, 0), (620, .aload_n 2, 621, 0, 0), (621, .aload_n 0, 622, 0, 0), (622, .iload_n 3, 623, 0, 0), (623, .iconst 1, 624, 0, 0)]), (648, [(624, .iadd, 625, 0, 0), (625, .iaload, 626, 0, 0), (626, .invokevirtual 73, 629, 79, 0), (629, .if_icmp .eq 1166, 632, 0, 0), (634, .aload_n 1, 635, 0, 0), (635, .aload_n 0, 636, 0, 0), (636, .iload_n 3, 637, 0, 0), (637, .iconst 1, 638, 0, 0), (638, .iadd, 639, 0, 0), (639, .iaload, 640, 0, 0), (640, .invokevirtual 74, 643, 80, 0), (643, .aload_n 2, 644, 0, 0), (644, .aload_n 0, 645, 0, 0), (645, .iload_n 3, 646, 0, 0), (646, .iconst 1, 647, 0, 0), (647, .iadd, 648, 0, 0)]), (670, [(648, .iaload, 649, 0, 0), (649, .invokevirtual 77, 652, 81, 0), (652, .if_icmp .eq 1143, 655, 0, 0), (657, .aload_n 1, 658, 0, 0), (658, .aload_n 0, 659, 0, 0), (659, .iload_n 3, 660, 0, 0), (660, .iconst 1, 661, 0, 0), (661, .iadd, 662, 0, 0), (662, .iaload, 663, 0, 0), (663, .aload_n 0, 664, 0, 0), (664, .iload_n 3, 665, 0, 0), (665, .iconst 2, 666, 0, 0), (666, .iadd, 667, 0, 0), (667, .iaload, 668, 0, 0), (668, .aload_n 0, 669, 0, 0), (669, .iload_n 3, 670, 0, 0)]), (688, [(670, .iconst 3, 671, 0, 0), (671, .iadd, 672, 0, 0), (672, .iaload, 673, 0, 0), (673, .aload_n 0, 674, 0, 0), (674, .iload_n 3, 675, 0, 0), (675, .iconst 4, 676, 0, 0), (676, .iadd, 677, 0, 0), (677, .iaload, 678, 0, 0), (678, .invokevirtual 78, 681, 82, 0), (681, .aload_n 2, 682, 0, 0), (682, .aload_n 0, 683, 0, 0), (683, .iload_n 3, 684, 0, 0), (684, .iconst 1, 685, 0, 0), (685, .iadd, 686, 0, 0), (686, .iaload, 687, 0, 0), (687, .aload_n 0, 688, 0, 0)]), (706, [(688, .iload_n 3, 689, 0, 0), (689, .iconst 2, 690, 0, 0), (690, .iadd, 691, 0, 0), (691, .iaload, 692, 0, 0), (692, .aload_n 0, 693, 0, 0), (693, .iload_n 3, 694, 0, 0), (694, .iconst 3, 695, 0, 0), (695, .iadd, 696, 0, 0), (696, .iaload, 697, 0, 0), (697, .aload_n 0, 698, 0, 0), (698, .iload_n 3, 699, 0, 0), (699, .iconst 4, 700, 0, 0), (700, .iadd, 701, 0, 0), (701, .iaload, 702, 0, 0), (702, .invokevirtual 82, 705, 84, 0), (705, .if_icmp .eq 1090, 708, 0, 0)]), (750, [(710, .aload_n 1, 711, 0, 0), (711, .invokevirtual 83, 714, 86, 0), (714, .aload_n 2, 715, 0, 0), (715, .invokevirtual 86, 718, 91, 0), (718, .if_icmp .eq 1077, 721, 0, 0), (723, .aload_n 1, 724, 0, 0), (724, .invokevirtual 87, 727, 93, 0), (727, .aload_n 2, 728, 0, 0), (728, .invokevirtual 90, 731, 95, 0), (731, .if_icmp .eq 1064, 734, 0, 0), (736, .aload_n 1, 737, 0, 0), (737, .invokevirtual 91, 740, 100, 0), (740, .aload_n 2, 741, 0, 0), (741, .invokevirtual 95, 744, 102, 0), (744, .if_icmp .eq 1051, 747, 0, 0), (749, .aload_n 1, 750, 0, 0)]), (776, [(750, .invokevirtual 96, 753, 103, 0), (753, .aload_n 2, 754, 0, 0), (754, .invokevirtual 99, 757, 105, 0), (757, .if_icmp .eq 1038, 760, 0, 0), (762, .aload_n 1, 763, 0, 0), (763, .aload_n 0, 764, 0, 0), (764, .iload_n 3, 765, 0, 0), (765, .iconst 1, 766, 0, 0), (766, .iadd, 767, 0, 0), (767, .iaload, 768, 0, 0), (768, .invokevirtual 100, 771, 106, 0), (771, .aload_n 2, 772, 0, 0), (772, .aload_n 0, 773, 0, 0), (773, .iload_n 3, 774, 0, 0), (774, .iconst 1, 775, 0, 0), (775, .iadd, 776, 0, 0)])]
def zc_L_law_3 : List (Nat × List zx_E) := [(800, [(776, .iaload, 777, 0, 0), (777, .invokevirtual 103, 780, 114, 0), (780, .if_icmp .eq 1015, 783, 0, 0), (785, .aload_n 1, 786, 0, 0), (786, .aload_n 0, 787, 0, 0), (787, .iload_n 3, 788, 0, 0), (788, .iconst 1, 789, 0, 0), (789, .iadd, 790, 0, 0), (790, .iaload, 791, 0, 0), (791, .invokevirtual 104, 794, 121, 0), (794, .aload_n 2, 795, 0, 0), (795, .aload_n 0, 796, 0, 0), (796, .iload_n 3, 797, 0, 0), (797, .iconst 1, 798, 0, 0), (798, .iadd, 799, 0, 0), (799, .iaload, 800, 0, 0)]), (824, [(800, .invokevirtual 107, 803, 126, 0), (803, .if_icmp .eq 992, 806, 0, 0), (808, .aload_n 1, 809, 0, 0), (809, .aload_n 0, 810, 0, 0), (810, .iload_n 3, 811, 0, 0), (811, .iconst 1, 812, 0, 0), (812, .iadd, 813, 0, 0), (813, .iaload, 814, 0, 0), (814, .invokevirtual 108, 817, 130, 0), (817, .aload_n 2, 818, 0, 0), (818, .aload_n 0, 819, 0, 0), (819, .iload_n 3, 820, 0, 0), (820, .iconst 1, 821, 0, 0), (821, .iadd, 822, 0, 0), (822, .iaload, 823, 0, 0), (823, .invokevirtual 111, 826, 136, 0)]), (848, [(826, .if_icmp .eq 969, 829, 0, 0), (831, .aload_n 1, 832, 0, 0), (832, .aload_n 0, 833, 0, 0), (833, .iload_n 3, 834, 0, 0), (834, .iconst 1, 835, 0, 0), (835, .iadd, 836, 0, 0), (836, .iaload, 837, 0, 0), (837, .aload_n 0, 838, 0, 0), (838, .iload_n 3, 839, 0, 0), (839, .iconst 2, 840, 0, 0), (840, .iadd, 841, 0, 0), (841, .iaload, 842, 0, 0), (842, .invokevirtual 112, 845, 138, 0), (845, .aload_n 2, 846, 0, 0), (846, .aload_n 0, 847, 0, 0), (847, .iload_n 3, 848, 0, 0)]), (870, [(848, .iconst 1, 849, 0, 0), (849, .iadd, 850, 0, 0), (850, .iaload, 851, 0, 0), (851, .aload_n 0, 852, 0, 0), (852, .iload_n 3, 853, 0, 0), (853, .iconst 2, 854, 0, 0), (854, .iadd, 855, 0, 0), (855, .iaload, 856, 0, 0), (856, .invokevirtual 115, 859, 139, 0), (859, .if_icmp .eq 936, 862, 0, 0), (864, .aload_n 1, 865, 0, 0), (865, .aload_n 0, 866, 0, 0), (866, .iload_n 3, 867, 0, 0), (867, .iconst 1, 868, 0, 0), (868, .iadd, 869, 0, 0), (869, .iaload, 870, 0, 0)]), (894, [(870, .invokevirtual 116, 873, 143, 0), (873, .aload_n 2, 874, 0, 0), (874, .aload_n 0, 875, 0, 0), (875, .iload_n 3, 876, 0, 0), (876, .iconst 1, 877, 0, 0), (877, .iadd, 878, 0, 0), (878, .iaload, 879, 0, 0), (879, .invokevirtual 119, 882, 144, 0), (882, .if_icmp .eq 913, 885, 0, 0), (887, .aload_n 1, 888, 0, 0), (888, .aload_n 0, 889, 0, 0), (889, .iload_n 3, 890, 0, 0), (890, .iconst 1, 891, 0, 0), (891, .iadd, 892, 0, 0), (892, .iaload, 893, 0, 0), (893, .aload_n 0, 894, 0, 0)]), (912, [(894, .iload_n 3, 895, 0, 0), (895, .iconst 2, 896, 0, 0), (896, .iadd, 897, 0, 0), (897, .iaload, 898, 0, 0), (898, .invokevirtual 120, 901, 145, 0), (901, .aload_n 2, 902, 0, 0), (902, .aload_n 0, 903, 0, 0), (903, .iload_n 3, 904, 0, 0), (904, .iconst 1, 905, 0, 0), (905, .iadd, 906, 0, 0), (906, .iaload, 907, 0, 0), (907, .aload_n 0, 908, 0, 0), (908, .iload_n 3, 909, 0, 0), (909, .iconst 2, 910, 0, 0), (910, .iadd, 911, 0, 0), (911, .iaload, 912, 0, 0)]), (936, [(912, .invokevirtual 123, 915, 148, 0), (915, .if_icmp .eq 880, 918, 0, 0), (920, .aload_n 1, 921, 0, 0), (921, .aload_n 0, 922, 0, 0), (922, .iload_n 3, 923, 0, 0), (923, .iconst 1, 924, 0, 0), (924, .iadd, 925, 0, 0), (925, .iaload, 926, 0, 0), (926, .invokevirtual 124, 929, 149, 0), (929, .aload_n 2, 930, 0, 0), (930, .aload_n 0, 931, 0, 0), (931, .iload_n 3, 932, 0, 0), (932, .iconst 1, 933, 0, 0), (933, .iadd, 934, 0, 0), (934, .iaload, 935, 0, 0), (935, .invokevirtual 127, 938, 150, 0)]), (962, [(938, .if_icmp .eq 857, 941, 0, 0), (943, .aload_n 1, 944, 0, 0), (944, .aload_n 0, 945, 0, 0), (945, .iload_n 3, 946, 0, 0), (946, .iconst 1, 947, 0, 0), (947, .iadd, 948, 0, 0), (948, .iaload, 949, 0, 0), (949, .invokevirtual 128, 952, 151, 0), (952, .aload_n 2, 953, 0, 0), (953, .aload_n 0, 954, 0, 0), (954, .iload_n 3, 955, 0, 0), (955, .iconst 1, 956, 0, 0), (956, .iadd, 957, 0, 0), (957, .iaload, 958, 0, 0), (958, .invokevirtual 131, 961, 152, 0), (961, .if_icmp .eq 834, 964, 0, 0)])]
def zc_L_law_4 : List (Nat × List zx_E) := [(982, [(966, .aload_n 1, 967, 0, 0), (967, .aload_n 0, 968, 0, 0), (968, .iload_n 3, 969, 0, 0), (969, .iconst 1, 970, 0, 0), (970, .iadd, 971, 0, 0), (971, .iaload, 972, 0, 0), (972, .aload_n 0, 973, 0, 0), (973, .iload_n 3, 974, 0, 0), (974, .iconst 2, 975, 0, 0), (975, .iadd, 976, 0, 0), (976, .iaload, 977, 0, 0), (977, .aload_n 0, 978, 0, 0), (978, .iload_n 3, 979, 0, 0), (979, .iconst 3, 980, 0, 0), (980, .iadd, 981, 0, 0), (981, .iaload, 982, 0, 0)]), (1000, [(982, .aload_n 0, 983, 0, 0), (983, .iload_n 3, 984, 0, 0), (984, .iconst 4, 985, 0, 0), (985, .iadd, 986, 0, 0), (986, .iaload, 987, 0, 0), (987, .invokevirtual 132, 990, 153, 0), (990, .aload_n 2, 991, 0, 0), (991, .aload_n 0, 992, 0, 0), (992, .iload_n 3, 993, 0, 0), (993, .iconst 1, 994, 0, 0), (994, .iadd, 995, 0, 0), (995, .iaload, 996, 0, 0), (996, .aload_n 0, 997, 0, 0), (997, .iload_n 3, 998, 0, 0), (998, .iconst 2, 999, 0, 0), (999, .iadd, 1000, 0, 0)]), (1022, [(1000, .iaload, 1001, 0, 0), (1001, .aload_n 0, 1002, 0, 0), (1002, .iload_n 3, 1003, 0, 0), (1003, .iconst 3, 1004, 0, 0), (1004, .iadd, 1005, 0, 0), (1005, .iaload, 1006, 0, 0), (1006, .aload_n 0, 1007, 0, 0), (1007, .iload_n 3, 1008, 0, 0), (1008, .iconst 4, 1009, 0, 0), (1009, .iadd, 1010, 0, 0), (1010, .iaload, 1011, 0, 0), (1011, .invokevirtual 135, 1014, 154, 0), (1014, .if_icmp .eq 781, 1017, 0, 0), (1019, .aload_n 1, 1020, 0, 0), (1020, .aload_n 0, 1021, 0, 0), (1021, .iload_n 3, 1022, 0, 0)]), (1046, [(1022, .iconst 1, 1023, 0, 0), (1023, .iadd, 1024, 0, 0), (1024, .iaload, 1025, 0, 0), (1025, .invokevirtual 136, 1028, 155, 0), (1028, .aload_n 2, 1029, 0, 0), (1029, .aload_n 0, 1030, 0, 0), (1030, .iload_n 3, 1031, 0, 0), (1031, .iconst 1, 1032, 0, 0), (1032, .iadd, 1033, 0, 0), (1033, .iaload, 1034, 0, 0), (1034, .invokevirtual 139, 1037, 156, 0), (1037, .if_icmp .eq 758, 1040, 0, 0), (1042, .aload_n 1, 1043, 0, 0), (1043, .aload_n 0, 1044, 0, 0), (1044, .iload_n 3, 1045, 0, 0), (1045, .iconst 1, 1046, 0, 0)]), (1070, [(1046, .iadd, 1047, 0, 0), (1047, .iaload, 1048, 0, 0), (1048, .invokevirtual 140, 1051, 157, 0), (1051, .aload_n 2, 1052, 0, 0), (1052, .aload_n 0, 1053, 0, 0), (1053, .iload_n 3, 1054, 0, 0), (1054, .iconst 1, 1055, 0, 0), (1055, .iadd, 1056, 0, 0), (1056, .iaload, 1057, 0, 0), (1057, .invokevirtual 143, 1060, 158, 0), (1060, .if_icmp .eq 735, 1063, 0, 0), (1065, .aload_n 1, 1066, 0, 0), (1066, .aload_n 0, 1067, 0, 0), (1067, .iload_n 3, 1068, 0, 0), (1068, .iconst 1, 1069, 0, 0), (1069, .iadd, 1070, 0, 0)]), (1088, [(1070, .iaload, 1071, 0, 0), (1071, .aload_n 0, 1072, 0, 0), (1072, .iload_n 3, 1073, 0, 0), (1073, .iconst 2, 1074, 0, 0), (1074, .iadd, 1075, 0, 0), (1075, .iaload, 1076, 0, 0), (1076, .invokevirtual 144, 1079, 159, 0), (1079, .aload_n 2, 1080, 0, 0), (1080, .aload_n 0, 1081, 0, 0), (1081, .iload_n 3, 1082, 0, 0), (1082, .iconst 1, 1083, 0, 0), (1083, .iadd, 1084, 0, 0), (1084, .iaload, 1085, 0, 0), (1085, .aload_n 0, 1086, 0, 0), (1086, .iload_n 3, 1087, 0, 0), (1087, .iconst 2, 1088, 0, 0)]), (1110, [(1088, .iadd, 1089, 0, 0), (1089, .iaload, 1090, 0, 0), (1090, .invokevirtual 147, 1093, 160, 0), (1093, .if_icmp .eq 702, 1096, 0, 0), (1098, .aload_n 1, 1099, 0, 0), (1099, .aload_n 0, 1100, 0, 0), (1100, .iload_n 3, 1101, 0, 0), (1101, .iconst 1, 1102, 0, 0), (1102, .iadd, 1103, 0, 0), (1103, .iaload, 1104, 0, 0), (1104, .aload_n 0, 1105, 0, 0), (1105, .iload_n 3, 1106, 0, 0), (1106, .iconst 2, 1107, 0, 0), (1107, .iadd, 1108, 0, 0), (1108, .iaload, 1109, 0, 0), (1109, .aload_n 0, 1110, 0, 0)]), (1128, [(1110, .iload_n 3, 1111, 0, 0), (1111, .iconst 3, 1112, 0, 0), (1112, .iadd, 1113, 0, 0), (1113, .iaload, 1114, 0, 0), (1114, .aload_n 0, 1115, 0, 0), (1115, .iload_n 3, 1116, 0, 0), (1116, .iconst 4, 1117, 0, 0), (1117, .iadd, 1118, 0, 0), (1118, .iaload, 1119, 0, 0), (1119, .invokevirtual 148, 1122, 161, 0), (1122, .aload_n 2, 1123, 0, 0), (1123, .aload_n 0, 1124, 0, 0), (1124, .iload_n 3, 1125, 0, 0), (1125, .iconst 1, 1126, 0, 0), (1126, .iadd, 1127, 0, 0), (1127, .iaload, 1128, 0, 0)])]
def zc_L_law_5 : List (Nat × List zx_E) := [(1144, [(1128, .aload_n 0, 1129, 0, 0), (1129, .iload_n 3, 1130, 0, 0), (1130, .iconst 2, 1131, 0, 0), (1131, .iadd, 1132, 0, 0), (1132, .iaload, 1133, 0, 0), (1133, .aload_n 0, 1134, 0, 0), (1134, .iload_n 3, 1135, 0, 0), (1135, .iconst 3, 1136, 0, 0), (1136, .iadd, 1137, 0, 0), (1137, .iaload, 1138, 0, 0), (1138, .aload_n 0, 1139, 0, 0), (1139, .iload_n 3, 1140, 0, 0), (1140, .iconst 4, 1141, 0, 0), (1141, .iadd, 1142, 0, 0), (1142, .iaload, 1143, 0, 0), (1143, .invokevirtual 151, 1146, 162, 0)]), (1166, [(1146, .if_icmp .eq 649, 1149, 0, 0), (1151, .aload_n 1, 1152, 0, 0), (1152, .aload_n 0, 1153, 0, 0), (1153, .iload_n 3, 1154, 0, 0), (1154, .iconst 1, 1155, 0, 0), (1155, .iadd, 1156, 0, 0), (1156, .iaload, 1157, 0, 0), (1157, .aload_n 0, 1158, 0, 0), (1158, .iload_n 3, 1159, 0, 0), (1159, .iconst 2, 1160, 0, 0), (1160, .iadd, 1161, 0, 0), (1161, .iaload, 1162, 0, 0), (1162, .aload_n 0, 1163, 0, 0), (1163, .iload_n 3, 1164, 0, 0), (1164, .iconst 3, 1165, 0, 0), (1165, .iadd, 1166, 0, 0)]), (1184, [(1166, .iaload, 1167, 0, 0), (1167, .invokevirtual 152, 1170, 163, 0), (1170, .aload_n 2, 1171, 0, 0), (1171, .aload_n 0, 1172, 0, 0), (1172, .iload_n 3, 1173, 0, 0), (1173, .iconst 1, 1174, 0, 0), (1174, .iadd, 1175, 0, 0), (1175, .iaload, 1176, 0, 0), (1176, .aload_n 0, 1177, 0, 0), (1177, .iload_n 3, 1178, 0, 0), (1178, .iconst 2, 1179, 0, 0), (1179, .iadd, 1180, 0, 0), (1180, .iaload, 1181, 0, 0), (1181, .aload_n 0, 1182, 0, 0), (1182, .iload_n 3, 1183, 0, 0), (1183, .iconst 3, 1184, 0, 0)]), (1206, [(1184, .iadd, 1185, 0, 0), (1185, .iaload, 1186, 0, 0), (1186, .invokevirtual 156, 1189, 164, 0), (1189, .if_icmp .eq 606, 1192, 0, 0), (1194, .aload_n 1, 1195, 0, 0), (1195, .aload_n 0, 1196, 0, 0), (1196, .iload_n 3, 1197, 0, 0), (1197, .iconst 1, 1198, 0, 0), (1198, .iadd, 1199, 0, 0), (1199, .iaload, 1200, 0, 0), (1200, .aload_n 0, 1201, 0, 0), (1201, .iload_n 3, 1202, 0, 0), (1202, .iconst 2, 1203, 0, 0), (1203, .iadd, 1204, 0, 0), (1204, .iaload, 1205, 0, 0), (1205, .aload_n 0, 1206, 0, 0)]), (1224, [(1206, .iload_n 3, 1207, 0, 0), (1207, .iconst 3, 1208, 0, 0), (1208, .iadd, 1209, 0, 0), (1209, .iaload, 1210, 0, 0), (1210, .invokevirtual 157, 1213, 165, 0), (1213, .aload_n 2, 1214, 0, 0), (1214, .aload_n 0, 1215, 0, 0), (1215, .iload_n 3, 1216, 0, 0), (1216, .iconst 1, 1217, 0, 0), (1217, .iadd, 1218, 0, 0), (1218, .iaload, 1219, 0, 0), (1219, .aload_n 0, 1220, 0, 0), (1220, .iload_n 3, 1221, 0, 0), (1221, .iconst 2, 1222, 0, 0), (1222, .iadd, 1223, 0, 0), (1223, .iaload, 1224, 0, 0)]), (1246, [(1224, .aload_n 0, 1225, 0, 0), (1225, .iload_n 3, 1226, 0, 0), (1226, .iconst 3, 1227, 0, 0), (1227, .iadd, 1228, 0, 0), (1228, .iaload, 1229, 0, 0), (1229, .invokevirtual 160, 1232, 166, 0), (1232, .if_icmp .eq 563, 1235, 0, 0), (1237, .aload_n 1, 1238, 0, 0), (1238, .aload_n 0, 1239, 0, 0), (1239, .iload_n 3, 1240, 0, 0), (1240, .iconst 1, 1241, 0, 0), (1241, .iadd, 1242, 0, 0), (1242, .iaload, 1243, 0, 0), (1243, .aload_n 0, 1244, 0, 0), (1244, .iload_n 3, 1245, 0, 0), (1245, .iconst 2, 1246, 0, 0)]), (1266, [(1246, .iadd, 1247, 0, 0), (1247, .iaload, 1248, 0, 0), (1248, .invokevirtual 161, 1251, 167, 0), (1251, .aload_n 2, 1252, 0, 0), (1252, .aload_n 0, 1253, 0, 0), (1253, .iload_n 3, 1254, 0, 0), (1254, .iconst 1, 1255, 0, 0), (1255, .iadd, 1256, 0, 0), (1256, .iaload, 1257, 0, 0), (1257, .aload_n 0, 1258, 0, 0), (1258, .iload_n 3, 1259, 0, 0), (1259, .iconst 2, 1260, 0, 0), (1260, .iadd, 1261, 0, 0), (1261, .iaload, 1262, 0, 0), (1262, .invokevirtual 164, 1265, 169, 0), (1265, .if_icmp .eq 530, 1268, 0, 0)]), (1294, [(1270, .aload_n 1, 1271, 0, 0), (1271, .invokevirtual 165, 1274, 174, 0), (1274, .aload_n 2, 1275, 0, 0), (1275, .invokevirtual 168, 1278, 175, 0), (1278, .if_icmp .eq 517, 1281, 0, 0), (1283, .aload_n 1, 1284, 0, 0), (1284, .aload_n 0, 1285, 0, 0), (1285, .iload_n 3, 1286, 0, 0), (1286, .iconst 1, 1287, 0, 0), (1287, .iadd, 1288, 0, 0), (1288, .iaload, 1289, 0, 0), (1289, .aload_n 0, 1290, 0, 0), (1290, .iload_n 3, 1291, 0, 0), (1291, .iconst 2, 1292, 0, 0), (1292, .iadd, 1293, 0, 0), (1293, .iaload, 1294, 0, 0)])]
def zc_L_law_6 : List (Nat × List zx_E) := [(1310, [(1294, .aload_n 0, 1295, 0, 0), (1295, .iload_n 3, 1296, 0, 0), (1296, .iconst 3, 1297, 0, 0), (1297, .iadd, 1298, 0, 0), (1298, .iaload, 1299, 0, 0), (1299, .aload_n 0, 1300, 0, 0), (1300, .iload_n 3, 1301, 0, 0), (1301, .iconst 4, 1302, 0, 0), (1302, .iadd, 1303, 0, 0), (1303, .iaload, 1304, 0, 0), (1304, .aload_n 0, 1305, 0, 0), (1305, .iload_n 3, 1306, 0, 0), (1306, .iconst 5, 1307, 0, 0), (1307, .iadd, 1308, 0, 0), (1308, .iaload, 1309, 0, 0), (1309, .invokevirtual 169, 1312, 176, 0)]), (1328, [(1312, .aload_n 2, 1313, 0, 0), (1313, .aload_n 0, 1314, 0, 0), (1314, .iload_n 3, 1315, 0, 0), (1315, .iconst 1, 1316, 0, 0), (1316, .iadd, 1317, 0, 0), (1317, .iaload, 1318, 0, 0), (1318, .aload_n 0, 1319, 0, 0), (1319, .iload_n 3, 1320, 0, 0), (1320, .iconst 2, 1321, 0, 0), (1321, .iadd, 1322, 0, 0), (1322, .iaload, 1323, 0, 0), (1323, .aload_n 0, 1324, 0, 0), (1324, .iload_n 3, 1325, 0, 0), (1325, .iconst 3, 1326, 0, 0), (1326, .iadd, 1327, 0, 0), (1327, .iaload, 1328, 0, 0)]), (1350, [(1328, .aload_n 0, 1329, 0, 0), (1329, .iload_n 3, 1330, 0, 0), (1330, .iconst 4, 1331, 0, 0), (1331, .iadd, 1332, 0, 0), (1332, .iaload, 1333, 0, 0), (1333, .aload_n 0, 1334, 0, 0), (1334, .iload_n 3, 1335, 0, 0), (1335, .iconst 5, 1336, 0, 0), (1336, .iadd, 1337, 0, 0), (1337, .iaload, 1338, 0, 0), (1338, .invokevirtual 172, 1341, 177, 0), (1341, .if_icmp .eq 454, 1344, 0, 0), (1346, .aload_n 1, 1347, 0, 0), (1347, .aload_n 0, 1348, 0, 0), (1348, .iload_n 3, 1349, 0, 0), (1349, .iconst 1, 1350, 0, 0)]), (1366, [(1350, .iadd, 1351, 0, 0), (1351, .iaload, 1352, 0, 0), (1352, .aload_n 0, 1353, 0, 0), (1353, .iload_n 3, 1354, 0, 0), (1354, .iconst 2, 1355, 0, 0), (1355, .iadd, 1356, 0, 0), (1356, .iaload, 1357, 0, 0), (1357, .aload_n 0, 1358, 0, 0), (1358, .iload_n 3, 1359, 0, 0), (1359, .iconst 3, 1360, 0, 0), (1360, .iadd, 1361, 0, 0), (1361, .iaload, 1362, 0, 0), (1362, .aload_n 0, 1363, 0, 0), (1363, .iload_n 3, 1364, 0, 0), (1364, .iconst 4, 1365, 0, 0), (1365, .iadd, 1366, 0, 0)]), (1384, [(1366, .iaload, 1367, 0, 0), (1367, .aload_n 0, 1368, 0, 0), (1368, .iload_n 3, 1369, 0, 0), (1369, .iconst 5, 1370, 0, 0), (1370, .iadd, 1371, 0, 0), (1371, .iaload, 1372, 0, 0), (1372, .invokevirtual 173, 1375, 179, 0), (1375, .aload_n 2, 1376, 0, 0), (1376, .aload_n 0, 1377, 0, 0), (1377, .iload_n 3, 1378, 0, 0), (1378, .iconst 1, 1379, 0, 0), (1379, .iadd, 1380, 0, 0), (1380, .iaload, 1381, 0, 0), (1381, .aload_n 0, 1382, 0, 0), (1382, .iload_n 3, 1383, 0, 0), (1383, .iconst 2, 1384, 0, 0)]), (1400, [(1384, .iadd, 1385, 0, 0), (1385, .iaload, 1386, 0, 0), (1386, .aload_n 0, 1387, 0, 0), (1387, .iload_n 3, 1388, 0, 0), (1388, .iconst 3, 1389, 0, 0), (1389, .iadd, 1390, 0, 0), (1390, .iaload, 1391, 0, 0), (1391, .aload_n 0, 1392, 0, 0), (1392, .iload_n 3, 1393, 0, 0), (1393, .iconst 4, 1394, 0, 0), (1394, .iadd, 1395, 0, 0), (1395, .iaload, 1396, 0, 0), (1396, .aload_n 0, 1397, 0, 0), (1397, .iload_n 3, 1398, 0, 0), (1398, .iconst 5, 1399, 0, 0), (1399, .iadd, 1400, 0, 0)]), (1422, [(1400, .iaload, 1401, 0, 0), (1401, .invokevirtual 176, 1404, 180, 0), (1404, .if_icmp .eq 391, 1407, 0, 0), (1409, .aload_n 1, 1410, 0, 0), (1410, .aload_n 0, 1411, 0, 0), (1411, .iload_n 3, 1412, 0, 0), (1412, .iconst 1, 1413, 0, 0), (1413, .iadd, 1414, 0, 0), (1414, .iaload, 1415, 0, 0), (1415, .aload_n 0, 1416, 0, 0), (1416, .iload_n 3, 1417, 0, 0), (1417, .iconst 2, 1418, 0, 0), (1418, .iadd, 1419, 0, 0), (1419, .iaload, 1420, 0, 0), (1420, .aload_n 0, 1421, 0, 0), (1421, .iload_n 3, 1422, 0, 0)]), (1440, [(1422, .iconst 3, 1423, 0, 0), (1423, .iadd, 1424, 0, 0), (1424, .iaload, 1425, 0, 0), (1425, .aload_n 0, 1426, 0, 0), (1426, .iload_n 3, 1427, 0, 0), (1427, .iconst 4, 1428, 0, 0), (1428, .iadd, 1429, 0, 0), (1429, .iaload, 1430, 0, 0), (1430, .aload_n 0, 1431, 0, 0), (1431, .iload_n 3, 1432, 0, 0), (1432, .iconst 5, 1433, 0, 0), (1433, .iadd, 1434, 0, 0), (1434, .iaload, 1435, 0, 0), (1435, .invokevirtual 177, 1438, 181, 0), (1438, .aload_n 2, 1439, 0, 0), (1439, .aload_n 0, 1440, 0, 0)])]
def zc_L_law_7 : List (Nat × List zx_E) := [(1456, [(1440, .iload_n 3, 1441, 0, 0), (1441, .iconst 1, 1442, 0, 0), (1442, .iadd, 1443, 0, 0), (1443, .iaload, 1444, 0, 0), (1444, .aload_n 0, 1445, 0, 0), (1445, .iload_n 3, 1446, 0, 0), (1446, .iconst 2, 1447, 0, 0), (1447, .iadd, 1448, 0, 0), (1448, .iaload, 1449, 0, 0), (1449, .aload_n 0, 1450, 0, 0), (1450, .iload_n 3, 1451, 0, 0), (1451, .iconst 3, 1452, 0, 0), (1452, .iadd, 1453, 0, 0), (1453, .iaload, 1454, 0, 0), (1454, .aload_n 0, 1455, 0, 0), (1455, .iload_n 3, 1456, 0, 0)]), (1478, [(1456, .iconst 4, 1457, 0, 0), (1457, .iadd, 1458, 0, 0), (1458, .iaload, 1459, 0, 0), (1459, .aload_n 0, 1460, 0, 0), (1460, .iload_n 3, 1461, 0, 0), (1461, .iconst 5, 1462, 0, 0), (1462, .iadd, 1463, 0, 0), (1463, .iaload, 1464, 0, 0), (1464, .invokevirtual 180, 1467, 182, 0), (1467, .if_icmp .eq 328, 1470, 0, 0), (1472, .aload_n 1, 1473, 0, 0), (1473, .aload_n 0, 1474, 0, 0), (1474, .iload_n 3, 1475, 0, 0), (1475, .iconst 1, 1476, 0, 0), (1476, .iadd, 1477, 0, 0), (1477, .iaload, 1478, 0, 0)]), (1496, [(1478, .aload_n 0, 1479, 0, 0), (1479, .iload_n 3, 1480, 0, 0), (1480, .iconst 2, 1481, 0, 0), (1481, .iadd, 1482, 0, 0), (1482, .iaload, 1483, 0, 0), (1483, .invokevirtual 181, 1486, 183, 0), (1486, .aload_n 2, 1487, 0, 0), (1487, .aload_n 0, 1488, 0, 0), (1488, .iload_n 3, 1489, 0, 0), (1489, .iconst 1, 1490, 0, 0), (1490, .iadd, 1491, 0, 0), (1491, .iaload, 1492, 0, 0), (1492, .aload_n 0, 1493, 0, 0), (1493, .iload_n 3, 1494, 0, 0), (1494, .iconst 2, 1495, 0, 0), (1495, .iadd, 1496, 0, 0)]), (1520, [(1496, .iaload, 1497, 0, 0), (1497, .invokevirtual 184, 1500, 186, 0), (1500, .if_icmp .eq 295, 1503, 0, 0), (1505, .aload_n 1, 1506, 0, 0), (1506, .aload_n 0, 1507, 0, 0), (1507, .iload_n 3, 1508, 0, 0), (1508, .iconst 1, 1509, 0, 0), (1509, .iadd, 1510, 0, 0), (1510, .iaload, 1511, 0, 0), (1511, .invokevirtual 185, 1514, 188, 0), (1514, .aload_n 2, 1515, 0, 0), (1515, .aload_n 0, 1516, 0, 0), (1516, .iload_n 3, 1517, 0, 0), (1517, .iconst 1, 1518, 0, 0), (1518, .iadd, 1519, 0, 0), (1519, .iaload, 1520, 0, 0)]), (1544, [(1520, .invokevirtual 188, 1523, 190, 0), (1523, .if_icmp .eq 272, 1526, 0, 0), (1528, .aload_n 1, 1529, 0, 0), (1529, .aload_n 0, 1530, 0, 0), (1530, .iload_n 3, 1531, 0, 0), (1531, .iconst 1, 1532, 0, 0), (1532, .iadd, 1533, 0, 0), (1533, .iaload, 1534, 0, 0), (1534, .aload_n 0, 1535, 0, 0), (1535, .iload_n 3, 1536, 0, 0), (1536, .iconst 2, 1537, 0, 0), (1537, .iadd, 1538, 0, 0), (1538, .iaload, 1539, 0, 0), (1539, .invokevirtual 189, 1542, 191, 0), (1542, .aload_n 2, 1543, 0, 0), (1543, .aload_n 0, 1544, 0, 0)]), (1566, [(1544, .iload_n 3, 1545, 0, 0), (1545, .iconst 1, 1546, 0, 0), (1546, .iadd, 1547, 0, 0), (1547, .iaload, 1548, 0, 0), (1548, .aload_n 0, 1549, 0, 0), (1549, .iload_n 3, 1550, 0, 0), (1550, .iconst 2, 1551, 0, 0), (1551, .iadd, 1552, 0, 0), (1552, .iaload, 1553, 0, 0), (1553, .invokevirtual 192, 1556, 192, 0), (1556, .if_icmp .eq 239, 1559, 0, 0), (1561, .aload_n 1, 1562, 0, 0), (1562, .aload_n 0, 1563, 0, 0), (1563, .iload_n 3, 1564, 0, 0), (1564, .iconst 1, 1565, 0, 0), (1565, .iadd, 1566, 0, 0)]), (1590, [(1566, .iaload, 1567, 0, 0), (1567, .invokevirtual 193, 1570, 193, 0), (1570, .aload_n 2, 1571, 0, 0), (1571, .aload_n 0, 1572, 0, 0), (1572, .iload_n 3, 1573, 0, 0), (1573, .iconst 1, 1574, 0, 0), (1574, .iadd, 1575, 0, 0), (1575, .iaload, 1576, 0, 0), (1576, .invokevirtual 196, 1579, 195, 0), (1579, .if_icmp .eq 216, 1582, 0, 0), (1584, .aload_n 1, 1585, 0, 0), (1585, .aload_n 0, 1586, 0, 0), (1586, .iload_n 3, 1587, 0, 0), (1587, .iconst 1, 1588, 0, 0), (1588, .iadd, 1589, 0, 0), (1589, .iaload, 1590, 0, 0)]), (1614, [(1590, .invokevirtual 197, 1593, 196, 0), (1593, .aload_n 2, 1594, 0, 0), (1594, .aload_n 0, 1595, 0, 0), (1595, .iload_n 3, 1596, 0, 0), (1596, .iconst 1, 1597, 0, 0), (1597, .iadd, 1598, 0, 0), (1598, .iaload, 1599, 0, 0), (1599, .invokevirtual 200, 1602, 197, 0), (1602, .if_icmp .eq 193, 1605, 0, 0), (1607, .aload_n 1, 1608, 0, 0), (1608, .aload_n 0, 1609, 0, 0), (1609, .iload_n 3, 1610, 0, 0), (1610, .iconst 1, 1611, 0, 0), (1611, .iadd, 1612, 0, 0), (1612, .iaload, 1613, 0, 0), (1613, .aload_n 0, 1614, 0, 0)])]
def zc_L_law_8 : List (Nat × List zx_E) := [(1632, [(1614, .iload_n 3, 1615, 0, 0), (1615, .iconst 2, 1616, 0, 0), (1616, .iadd, 1617, 0, 0), (1617, .iaload, 1618, 0, 0), (1618, .invokevirtual 201, 1621, 198, 0), (1621, .aload_n 2, 1622, 0, 0), (1622, .aload_n 0, 1623, 0, 0), (1623, .iload_n 3, 1624, 0, 0), (1624, .iconst 1, 1625, 0, 0), (1625, .iadd, 1626, 0, 0), (1626, .iaload, 1627, 0, 0), (1627, .aload_n 0, 1628, 0, 0), (1628, .iload_n 3, 1629, 0, 0), (1629, .iconst 2, 1630, 0, 0), (1630, .iadd, 1631, 0, 0), (1631, .iaload, 1632, 0, 0)]), (1656, [(1632, .invokevirtual 204, 1635, 201, 0), (1635, .if_icmp .eq 160, 1638, 0, 0), (1640, .aload_n 1, 1641, 0, 0), (1641, .aload_n 0, 1642, 0, 0), (1642, .iload_n 3, 1643, 0, 0), (1643, .iconst 1, 1644, 0, 0), (1644, .iadd, 1645, 0, 0), (1645, .iaload, 1646, 0, 0), (1646, .aload_n 0, 1647, 0, 0), (1647, .iload_n 3, 1648, 0, 0), (1648, .iconst 2, 1649, 0, 0), (1649, .iadd, 1650, 0, 0), (1650, .iaload, 1651, 0, 0), (1651, .invokevirtual 205, 1654, 204, 0), (1654, .aload_n 2, 1655, 0, 0), (1655, .aload_n 0, 1656, 0, 0)]), (1678, [(1656, .iload_n 3, 1657, 0, 0), (1657, .iconst 1, 1658, 0, 0), (1658, .iadd, 1659, 0, 0), (1659, .iaload, 1660, 0, 0), (1660, .aload_n 0, 1661, 0, 0), (1661, .iload_n 3, 1662, 0, 0), (1662, .iconst 2, 1663, 0, 0), (1663, .iadd, 1664, 0, 0), (1664, .iaload, 1665, 0, 0), (1665, .invokevirtual 208, 1668, 208, 0), (1668, .if_icmp .eq 127, 1671, 0, 0), (1673, .aload_n 1, 1674, 0, 0), (1674, .aload_n 0, 1675, 0, 0), (1675, .iload_n 3, 1676, 0, 0), (1676, .iconst 1, 1677, 0, 0), (1677, .iadd, 1678, 0, 0)]), (1694, [(1678, .iaload, 1679, 0, 0), (1679, .aload_n 0, 1680, 0, 0), (1680, .iload_n 3, 1681, 0, 0), (1681, .iconst 2, 1682, 0, 0), (1682, .iadd, 1683, 0, 0), (1683, .iaload, 1684, 0, 0), (1684, .aload_n 0, 1685, 0, 0), (1685, .iload_n 3, 1686, 0, 0), (1686, .iconst 3, 1687, 0, 0), (1687, .iadd, 1688, 0, 0), (1688, .iaload, 1689, 0, 0), (1689, .aload_n 0, 1690, 0, 0), (1690, .iload_n 3, 1691, 0, 0), (1691, .iconst 4, 1692, 0, 0), (1692, .iadd, 1693, 0, 0), (1693, .iaload, 1694, 0, 0)]), (1712, [(1694, .invokevirtual 209, 1697, 209, 0), (1697, .aload_n 2, 1698, 0, 0), (1698, .aload_n 0, 1699, 0, 0), (1699, .iload_n 3, 1700, 0, 0), (1700, .iconst 1, 1701, 0, 0), (1701, .iadd, 1702, 0, 0), (1702, .iaload, 1703, 0, 0), (1703, .aload_n 0, 1704, 0, 0), (1704, .iload_n 3, 1705, 0, 0), (1705, .iconst 2, 1706, 0, 0), (1706, .iadd, 1707, 0, 0), (1707, .iaload, 1708, 0, 0), (1708, .aload_n 0, 1709, 0, 0), (1709, .iload_n 3, 1710, 0, 0), (1710, .iconst 3, 1711, 0, 0), (1711, .iadd, 1712, 0, 0)]), (1736, [(1712, .iaload, 1713, 0, 0), (1713, .aload_n 0, 1714, 0, 0), (1714, .iload_n 3, 1715, 0, 0), (1715, .iconst 4, 1716, 0, 0), (1716, .iadd, 1717, 0, 0), (1717, .iaload, 1718, 0, 0), (1718, .invokevirtual 212, 1721, 210, 0), (1721, .if_icmp .eq 74, 1724, 0, 0), (1726, .aload_n 1, 1727, 0, 0), (1727, .aload_n 0, 1728, 0, 0), (1728, .iload_n 3, 1729, 0, 0), (1729, .iconst 1, 1730, 0, 0), (1730, .iadd, 1731, 0, 0), (1731, .iaload, 1732, 0, 0), (1732, .invokevirtual 213, 1735, 211, 0), (1735, .aload_n 2, 1736, 0, 0)]), (1760, [(1736, .aload_n 0, 1737, 0, 0), (1737, .iload_n 3, 1738, 0, 0), (1738, .iconst 1, 1739, 0, 0), (1739, .iadd, 1740, 0, 0), (1740, .iaload, 1741, 0, 0), (1741, .invokevirtual 216, 1744, 212, 0), (1744, .if_icmp .eq 51, 1747, 0, 0), (1749, .aload_n 1, 1750, 0, 0), (1750, .aload_n 0, 1751, 0, 0), (1751, .iload_n 3, 1752, 0, 0), (1752, .iconst 1, 1753, 0, 0), (1753, .iadd, 1754, 0, 0), (1754, .iaload, 1755, 0, 0), (1755, .invokevirtual 217, 1758, 213, 0), (1758, .aload_n 2, 1759, 0, 0), (1759, .aload_n 0, 1760, 0, 0)]), (1784, [(1760, .iload_n 3, 1761, 0, 0), (1761, .iconst 1, 1762, 0, 0), (1762, .iadd, 1763, 0, 0), (1763, .iaload, 1764, 0, 0), (1764, .invokevirtual 220, 1767, 214, 0), (1767, .if_icmp .eq 28, 1770, 0, 0), (1772, .aload_n 1, 1773, 0, 0), (1773, .aload_n 0, 1774, 0, 0), (1774, .iload_n 3, 1775, 0, 0), (1775, .iconst 1, 1776, 0, 0), (1776, .iadd, 1777, 0, 0), (1777, .iaload, 1778, 0, 0), (1778, .invokevirtual 221, 1781, 215, 0), (1781, .aload_n 2, 1782, 0, 0), (1782, .aload_n 0, 1783, 0, 0), (1783, .iload_n 3, 1784, 0, 0)])]
def zc_L_law_9 : List (Nat × List zx_E) := [(1803, [(1784, .iconst 1, 1785, 0, 0), (1785, .iadd, 1786, 0, 0), (1786, .iaload, 1787, 0, 0), (1787, .invokevirtual 224, 1790, 216, 0), (1790, .if_icmp .eq 5, 1793, 0, 0), (1795, .iinc 3 6, 1798, 0, 0), (1798, .goto (-1780), 1801, 0, 0), (1801, .iconst 1, 1802, 0, 0), (1802, .ireturn, 1803, 0, 0)])]
def zc_L_law : List (Nat × List zx_E) := zc_L_law_0 ++ (zc_L_law_1 ++ (zc_L_law_2 ++ (zc_L_law_3 ++ (zc_L_law_4 ++ (zc_L_law_5 ++ (zc_L_law_6 ++ (zc_L_law_7 ++ (zc_L_law_8 ++ (zc_L_law_9)))))))))
def zc_X11_init : List (Nat × List zx_E) := [(32, [(0, .aload_n 0, 1, 0, 0), (1, .invokespecial 3, 4, 9000, 0), (4, .aload_n 0, 5, 0, 0), (5, .new 9, 8, 10, 0), (8, .dup, 9, 0, 0), (9, .invokespecial 11, 12, 1, 1), (12, .putfield 12, 15, 11, 0), (15, .aload_n 0, 16, 0, 0), (16, .new 16, 19, 7, 0), (19, .dup, 20, 0, 0), (20, .aload_n 0, 21, 0, 0), (21, .getfield 12, 24, 11, 0), (24, .invokespecial 18, 27, 2, 0), (27, .putfield 21, 30, 11, 1), (30, .aload_n 0, 31, 0, 0), (31, .new 25, 34, 2, 0)]), (66, [(34, .dup, 35, 0, 0), (35, .invokespecial 27, 38, 14, 0), (38, .putfield 28, 41, 11, 2), (41, .aload_n 0, 42, 0, 0), (42, .new 32, 45, 8, 0), (45, .dup, 46, 0, 0), (46, .invokespecial 34, 49, 15, 1), (49, .putfield 35, 52, 11, 3), (52, .aload_n 0, 53, 0, 0), (53, .iconst 3, 54, 0, 0), (54, .anewarray 32, 57, 8, 0), (57, .putfield 39, 60, 11, 4), (60, .aload_n 0, 61, 0, 0), (61, .new 43, 64, 1, 0), (64, .dup, 65, 0, 0), (65, .invokespecial 45, 68, 16, 1)]), (102, [(68, .putfield 46, 71, 11, 5), (71, .aload_n 0, 72, 0, 0), (72, .new 50, 75, 4, 0), (75, .dup, 76, 0, 0), (76, .invokespecial 52, 79, 17, 1), (79, .putfield 53, 82, 11, 6), (82, .aload_n 0, 83, 0, 0), (83, .new 57, 86, 9, 0), (86, .dup, 87, 0, 0), (87, .invokespecial 59, 90, 18, 1), (90, .putfield 60, 93, 11, 7), (93, .aload_n 0, 94, 0, 0), (94, .new 64, 97, 5, 0), (97, .dup, 98, 0, 0), (98, .invokespecial 66, 101, 19, 1), (101, .putfield 67, 104, 11, 8)]), (134, [(104, .aload_n 0, 105, 0, 0), (105, .new 71, 108, 6, 0), (108, .dup, 109, 0, 0), (109, .invokespecial 73, 112, 3, 1), (112, .putfield 74, 115, 11, 9), (115, .aload_n 0, 116, 0, 0), (116, .new 32, 119, 8, 0), (119, .dup, 120, 0, 0), (120, .invokespecial 34, 123, 15, 1), (123, .putfield 78, 126, 11, 10), (126, .aload_n 0, 127, 0, 0), (127, .iconst 0, 128, 0, 0), (128, .putfield 81, 131, 11, 11), (131, .iconst 0, 132, 0, 0), (132, .istore_n 1, 133, 0, 0), (133, .iload_n 1, 134, 0, 0)]), (162, [(134, .aload_n 0, 135, 0, 0), (135, .getfield 39, 138, 11, 4), (138, .arraylength, 139, 0, 0), (139, .if_icmp .ge 22, 142, 0, 0), (142, .aload_n 0, 143, 0, 0), (143, .getfield 39, 146, 11, 4), (146, .iload_n 1, 147, 0, 0), (147, .new 32, 150, 8, 0), (150, .dup, 151, 0, 0), (151, .invokespecial 34, 154, 15, 1), (154, .aastore, 155, 0, 0), (155, .iinc 1 1, 158, 0, 0), (158, .goto (-25), 161, 0, 0), (161, .return_, 162, 0, 0)])]
def zc_X10_init : List (Nat × List zx_E) := [(19, [(0, .aload_n 0, 1, 0, 0), (1, .invokespecial 3, 4, 9000, 0), (4, .aload_n 0, 5, 0, 0), (5, .sipush 1600, 8, 0, 0), (8, .newarray .byte, 10, 0, 0), (10, .putfield 9, 13, 10, 0), (13, .aload_n 0, 14, 0, 0), (14, .iconst 0, 15, 0, 0), (15, .putfield 15, 18, 10, 1), (18, .return_, 19, 0, 0)])]
def zc_X7_init : List (Nat × List zx_E) := [(31, [(0, .aload_n 0, 1, 0, 0), (1, .invokespecial 3, 4, 9000, 0), (4, .aload_n 0, 5, 0, 0), (5, .iconst 4, 6, 0, 0), (6, .newarray .long, 8, 0, 0), (8, .putfield 9, 11, 7, 1), (11, .aload_n 0, 12, 0, 0), (12, .bipush 10, 14, 0, 0), (14, .newarray .long, 16, 0, 0), (16, .putfield 15, 19, 7, 2), (19, .aload_n 0, 20, 0, 0), (20, .new 18, 23, 6, 0), (23, .dup, 24, 0, 0), (24, .invokespecial 20, 27, 3, 1), (27, .putfield 21, 30, 7, 3), (30, .aload_n 0, 31, 0, 0)]), (58, [(31, .iconst 0, 32, 0, 0), (32, .putfield 25, 35, 7, 4), (35, .aload_n 0, 36, 0, 0), (36, .iconst 0, 37, 0, 0), (37, .putfield 29, 40, 7, 5), (40, .aload_n 0, 41, 0, 0), (41, .iconst (-1), 42, 0, 0), (42, .putfield 32, 45, 7, 6), (45, .aload_n 0, 46, 0, 0), (46, .new 35, 49, 3, 0), (49, .dup, 50, 0, 0), (50, .aload_n 1, 51, 0, 0), (51, .invokespecial 37, 54, 5, 0), (54, .putfield 40, 57, 7, 0), (57, .return_, 58, 0, 0)])]
def zc_X6_init : List (Nat × List zx_E) := [(28, [(0, .aload_n 0, 1, 0, 0), (1, .invokespecial 3, 4, 9000, 0), (4, .aload_n 0, 5, 0, 0), (5, .iconst 4, 6, 0, 0), (6, .newarray .int, 8, 0, 0), (8, .putfield 9, 11, 6, 0), (11, .aload_n 0, 12, 0, 0), (12, .iconst 4, 13, 0, 0), (13, .newarray .int, 15, 0, 0), (15, .putfield 15, 18, 6, 1), (18, .aload_n 0, 19, 0, 0), (19, .bipush 10, 21, 0, 0), (21, .newarray .int, 23, 0, 0), (23, .putfield 18, 26, 6, 2), (26, .aload_n 0, 27, 0, 0), (27, .bipush 10, 29, 0, 0)]), (60, [(29, .newarray .int, 31, 0, 0), (31, .putfield 21, 34, 6, 3), (34, .aload_n 0, 35, 0, 0), (35, .bipush 10, 37, 0, 0), (37, .newarray .int, 39, 0, 0), (39, .putfield 24, 42, 6, 4), (42, .aload_n 0, 43, 0, 0), (43, .bipush 6, 45, 0, 0), (45, .newarray .int, 47, 0, 0), (47, .putfield 27, 50, 6, 5), (50, .aload_n 0, 51, 0, 0), (51, .bipush 6, 53, 0, 0), (53, .newarray .int, 55, 0, 0), (55, .putfield 30, 58, 6, 6), (58, .aload_n 0, 59, 0, 0), (59, .new 33, 62, 0, 0)]), (90, [(62, .dup, 63, 0, 0), (63, .invokespecial 35, 66, 4, 1), (66, .putfield 36, 69, 6, 7), (69, .aload_n 0, 70, 0, 0), (70, .iconst 0, 71, 0, 0), (71, .putfield 40, 74, 6, 8), (74, .aload_n 0, 75, 0, 0), (75, .iconst 0, 76, 0, 0), (76, .putfield 44, 79, 6, 9), (79, .aload_n 0, 80, 0, 0), (80, .iconst 0, 81, 0, 0), (81, .putfield 47, 84, 6, 10), (84, .aload_n 0, 85, 0, 0), (85, .iconst 0, 86, 0, 0), (86, .putfield 50, 89, 6, 11), (89, .aload_n 0, 90, 0, 0)]), (116, [(90, .iconst 0, 91, 0, 0), (91, .putfield 53, 94, 6, 12), (94, .aload_n 0, 95, 0, 0), (95, .iconst 0, 96, 0, 0), (96, .putfield 56, 99, 6, 13), (99, .aload_n 0, 100, 0, 0), (100, .iconst 0, 101, 0, 0), (101, .putfield 59, 104, 6, 14), (104, .aload_n 0, 105, 0, 0), (105, .iconst 0, 106, 0, 0), (106, .putfield 62, 109, 6, 15), (109, .aload_n 0, 110, 0, 0), (110, .iconst 0, 111, 0, 0), (111, .putfield 65, 114, 6, 16), (114, .aload_n 0, 115, 0, 0), (115, .iconst 0, 116, 0, 0)]), (120, [(116, .putfield 68, 119, 6, 17), (119, .return_, 120, 0, 0)])]
def zc_X0_init : List (Nat × List zx_E) := [(29, [(0, .aload_n 0, 1, 0, 0), (1, .invokespecial 3, 4, 9000, 0), (4, .aload_n 0, 5, 0, 0), (5, .sipush 300, 8, 0, 0), (8, .newarray .int, 10, 0, 0), (10, .putfield 11, 13, 0, 0), (13, .aload_n 0, 14, 0, 0), (14, .bipush 30, 16, 0, 0), (16, .newarray .int, 18, 0, 0), (18, .putfield 15, 21, 0, 1), (21, .aload_n 0, 22, 0, 0), (22, .iconst 0, 23, 0, 0), (23, .putfield 18, 26, 0, 2), (26, .aload_n 0, 27, 0, 0), (27, .iconst 0, 28, 0, 0), (28, .putfield 22, 31, 0, 3)]), (37, [(31, .aload_n 0, 32, 0, 0), (32, .iconst 0, 33, 0, 0), (33, .putfield 25, 36, 0, 4), (36, .return_, 37, 0, 0)])]
def zc_X3_init : List (Nat × List zx_E) := [(29, [(0, .aload_n 0, 1, 0, 0), (1, .invokespecial 1, 4, 9000, 0), (4, .aload_n 0, 5, 0, 0), (5, .bipush 25, 7, 0, 0), (7, .newarray .long, 9, 0, 0), (9, .putfield 9, 12, 3, 1), (12, .aload_n 0, 13, 0, 0), (13, .iconst 0, 14, 0, 0), (14, .putfield 13, 17, 3, 2), (17, .aload_n 0, 18, 0, 0), (18, .bipush 90, 20, 0, 0), (20, .putfield 17, 23, 3, 3), (23, .aload_n 0, 24, 0, 0), (24, .iconst 0, 25, 0, 0), (25, .putfield 20, 28, 3, 4), (28, .aload_n 0, 29, 0, 0)]), (54, [(29, .iconst 0, 30, 0, 0), (30, .putfield 23, 33, 3, 5), (33, .aload_n 0, 34, 0, 0), (34, .lconst 0, 35, 0, 0), (35, .putfield 26, 38, 3, 6), (38, .aload_n 0, 39, 0, 0), (39, .aload_n 1, 40, 0, 0), (40, .putfield 30, 43, 3, 0), (43, .iconst 0, 44, 0, 0), (44, .istore_n 2, 45, 0, 0), (45, .iconst 0, 46, 0, 0), (46, .istore_n 3, 47, 0, 0), (47, .iload_n 3, 48, 0, 0), (48, .ldc 34, 50, 1, 1), (50, .invokevirtual 36, 53, 6, 0), (53, .if_icmp .ge 53, 56, 0, 0)]), (89, [(56, .iload_n 2, 57, 0, 0), (57, .bipush 25, 59, 0, 0), (59, .if_icmp .ge 47, 62, 0, 0), (62, .ldc 34, 64, 1, 1), (64, .iload_n 3, 65, 0, 0), (65, .invokevirtual 42, 68, 8, 0), (68, .bipush 32, 70, 0, 0), (70, .if_icmp .ne 9, 73, 0, 0), (73, .iinc 2 1, 76, 0, 0), (76, .goto 24, 79, 0, 0), (79, .aload_n 0, 80, 0, 0), (80, .getfield 9, 83, 3, 1), (83, .iload_n 2, 84, 0, 0), (84, .aload_n 0, 85, 0, 0), (85, .getfield 9, 88, 3, 1), (88, .iload_n 2, 89, 0, 0)]), (107, [(89, .laload, 90, 0, 0), (90, .ldc 34, 92, 1, 1), (92, .iload_n 3, 93, 0, 0), (93, .invokevirtual 42, 96, 8, 0), (96, .invokestatic 46, 99, 13, 0), (99, .lastore, 100, 0, 0), (100, .iinc 3 1, 103, 0, 0), (103, .goto (-56), 106, 0, 0), (106, .return_, 107, 0, 0)])]
def zc_J0_length_8abf5 : List (Nat × List zx_E) := [(11, [(0, .aload_n 0, 1, 0, 0), (1, .getfield 9, 4, 100, 0), (4, .arraylength, 5, 0, 0), (5, .aload_n 0, 6, 0, 0), (6, .invokevirtual 335, 9, 7, 0), (9, .ishr, 10, 0, 0), (10, .ireturn, 11, 0, 0)])]
def zc_J0_coder_7d493 : List (Nat × List zx_E) := [(15, [(0, .getstatic 38, 3, 200, 0), (3, .ifCond .eq 10, 6, 0, 0), (6, .aload_n 0, 7, 0, 0), (7, .getfield 15, 10, 101, 0), (10, .goto 4, 13, 0, 0), (14, .ireturn, 15, 0, 0)])]
def zc_J0_charAt_5068e : List (Nat × List zx_E) := [(16, [(0, .aload_n 0, 1, 0, 0), (1, .invokevirtual 492, 4, 9, 0), (4, .ifCond .eq 12, 7, 0, 0), (7, .aload_n 0, 8, 0, 0), (8, .getfield 9, 11, 100, 0), (11, .iload_n 1, 12, 0, 0), (12, .invokestatic 495, 15, 10, 0), (15, .ireturn, 16, 0, 0)])]
def zc_J0_isLatin1_aae02 : List (Nat × List zx_E) := [(19, [(0, .getstatic 38, 3, 200, 0), (3, .ifCond .eq 14, 6, 0, 0), (6, .aload_n 0, 7, 0, 0), (7, .getfield 15, 10, 101, 0), (10, .ifCond .ne 7, 13, 0, 0), (13, .iconst 1, 14, 0, 0), (14, .goto 4, 17, 0, 0), (18, .ireturn, 19, 0, 0)])]
def zc_J1_charAt_3b067 : List (Nat × List zx_E) := [(15, [(0, .iload_n 1, 1, 0, 0), (1, .aload_n 0, 2, 0, 0), (2, .arraylength, 3, 0, 0), (3, .invokestatic 9, 6, 11, 0), (6, .aload_n 0, 7, 0, 0), (7, .iload_n 1, 8, 0, 0), (8, .baload, 9, 0, 0), (9, .sipush 255, 12, 0, 0), (12, .iand, 13, 0, 0), (13, .i2c, 14, 0, 0), (14, .ireturn, 15, 0, 0)])]
def zc_J0_checkIndex_df160 : List (Nat × List zx_E) := [(10, [(0, .iload_n 0, 1, 0, 0), (1, .iload_n 1, 2, 0, 0), (2, .getstatic 1053, 5, 201, 0), (5, .invokestatic 1059, 8, 12, 0), (8, .pop, 9, 0, 0), (9, .return_, 10, 0, 0)])]
def zc_J3_checkIndex_8e157 : List (Nat × List zx_E) := [(18, [(0, .iload_n 0, 1, 0, 0), (1, .ifCond .lt 8, 4, 0, 0), (4, .iload_n 0, 5, 0, 0), (5, .iload_n 1, 6, 0, 0), (6, .if_icmp .lt 10, 9, 0, 0), (16, .iload_n 0, 17, 0, 0), (17, .ireturn, 18, 0, 0)])]
def zc_X3_withLetter : List (Nat × List zx_E) := [(15, [(0, .ldc2_w 82, 3, 27, 0), (3, .lload_n 0, 4, 0, 0), (4, .lmul, 5, 0, 0), (5, .iload_n 2, 6, 0, 0), (6, .i2l, 7, 0, 0), (7, .ladd, 8, 0, 0), (8, .ldc2_w 84, 11, 97, 0), (11, .lsub, 12, 0, 0), (12, .lconst 1, 13, 0, 0), (13, .ladd, 14, 0, 0), (14, .lreturn, 15, 0, 0)])]
def zc_X2_init : List (Nat × List zx_E) := [(29, [(0, .aload_n 0, 1, 0, 0), (1, .invokespecial 3, 4, 9000, 0), (4, .aload_n 0, 5, 0, 0), (5, .bipush 40, 7, 0, 0), (7, .anewarray 9, 10, 8, 0), (10, .putfield 11, 13, 2, 0), (13, .aload_n 0, 14, 0, 0), (14, .iconst 0, 15, 0, 0), (15, .putfield 17, 18, 2, 1), (18, .aload_n 0, 19, 0, 0), (19, .iconst 0, 20, 0, 0), (20, .putfield 21, 23, 2, 2), (23, .aload_n 0, 24, 0, 0), (24, .iconst 0, 25, 0, 0), (25, .putfield 24, 28, 2, 3), (28, .iconst 0, 29, 0, 0)]), (59, [(29, .istore_n 1, 30, 0, 0), (30, .iload_n 1, 31, 0, 0), (31, .aload_n 0, 32, 0, 0), (32, .getfield 11, 35, 2, 0), (35, .arraylength, 36, 0, 0), (36, .if_icmp .ge 22, 39, 0, 0), (39, .aload_n 0, 40, 0, 0), (40, .getfield 11, 43, 2, 0), (43, .iload_n 1, 44, 0, 0), (44, .new 9, 47, 8, 0), (47, .dup, 48, 0, 0), (48, .invokespecial 27, 51, 15, 1), (51, .aastore, 52, 0, 0), (52, .iinc 1 1, 55, 0, 0), (55, .goto (-25), 58, 0, 0), (58, .return_, 59, 0, 0)])]
def zc_X8_init : List (Nat × List zx_E) := [(26, [(0, .aload_n 0, 1, 0, 0), (1, .invokespecial 3, 4, 9000, 0), (4, .aload_n 0, 5, 0, 0), (5, .iconst 0, 6, 0, 0), (6, .putfield 9, 9, 8, 0), (9, .aload_n 0, 10, 0, 0), (10, .iconst 0, 11, 0, 0), (11, .putfield 15, 14, 8, 1), (14, .aload_n 0, 15, 0, 0), (15, .iconst 0, 16, 0, 0), (16, .putfield 18, 19, 8, 2), (19, .aload_n 0, 20, 0, 0), (20, .iconst 0, 21, 0, 0), (21, .putfield 21, 24, 8, 3), (24, .aload_n 0, 25, 0, 0), (25, .iconst 0, 26, 0, 0)]), (43, [(26, .putfield 24, 29, 8, 4), (29, .aload_n 0, 30, 0, 0), (30, .iconst 0, 31, 0, 0), (31, .putfield 27, 34, 8, 5), (34, .aload_n 0, 35, 0, 0), (35, .bipush 10, 37, 0, 0), (37, .newarray .int, 39, 0, 0), (39, .putfield 30, 42, 8, 6), (42, .return_, 43, 0, 0)])]
def zc_X1_init : List (Nat × List zx_E) := [(30, [(0, .aload_n 0, 1, 0, 0), (1, .invokespecial 3, 4, 9000, 0), (4, .aload_n 0, 5, 0, 0), (5, .bipush 30, 7, 0, 0), (7, .newarray .int, 9, 0, 0), (9, .putfield 9, 12, 1, 0), (12, .aload_n 0, 13, 0, 0), (13, .bipush 30, 15, 0, 0), (15, .newarray .int, 17, 0, 0), (17, .putfield 15, 20, 1, 1), (20, .aload_n 0, 21, 0, 0), (21, .bipush 30, 23, 0, 0), (23, .newarray .int, 25, 0, 0), (25, .putfield 18, 28, 1, 2), (28, .aload_n 0, 29, 0, 0), (29, .bipush 30, 31, 0, 0)]), (47, [(31, .newarray .int, 33, 0, 0), (33, .putfield 21, 36, 1, 3), (36, .aload_n 0, 37, 0, 0), (37, .iconst 0, 38, 0, 0), (38, .putfield 24, 41, 1, 4), (41, .aload_n 0, 42, 0, 0), (42, .iconst 0, 43, 0, 0), (43, .putfield 28, 46, 1, 5), (46, .return_, 47, 0, 0)])]
def zc_X4_init : List (Nat × List zx_E) := [(30, [(0, .aload_n 0, 1, 0, 0), (1, .invokespecial 3, 4, 9000, 0), (4, .aload_n 0, 5, 0, 0), (5, .bipush 10, 7, 0, 0), (7, .newarray .int, 9, 0, 0), (9, .putfield 9, 12, 4, 0), (12, .aload_n 0, 13, 0, 0), (13, .bipush 10, 15, 0, 0), (15, .newarray .int, 17, 0, 0), (17, .putfield 15, 20, 4, 1), (20, .aload_n 0, 21, 0, 0), (21, .bipush 10, 23, 0, 0), (23, .newarray .int, 25, 0, 0), (25, .putfield 18, 28, 4, 2), (28, .aload_n 0, 29, 0, 0), (29, .sipush 1024, 32, 0, 0)]), (57, [(32, .newarray .int, 34, 0, 0), (34, .putfield 21, 37, 4, 3), (37, .aload_n 0, 38, 0, 0), (38, .sipush 1024, 41, 0, 0), (41, .newarray .boolean, 43, 0, 0), (43, .putfield 24, 46, 4, 4), (46, .aload_n 0, 47, 0, 0), (47, .iconst 0, 48, 0, 0), (48, .putfield 28, 51, 4, 5), (51, .aload_n 0, 52, 0, 0), (52, .iconst 0, 53, 0, 0), (53, .putfield 32, 56, 4, 6), (56, .return_, 57, 0, 0)])]
def zc_X9_init : List (Nat × List zx_E) := [(30, [(0, .aload_n 0, 1, 0, 0), (1, .invokespecial 3, 4, 9000, 0), (4, .aload_n 0, 5, 0, 0), (5, .bipush 64, 7, 0, 0), (7, .newarray .int, 9, 0, 0), (9, .putfield 9, 12, 9, 0), (12, .aload_n 0, 13, 0, 0), (13, .bipush 64, 15, 0, 0), (15, .newarray .int, 17, 0, 0), (17, .putfield 15, 20, 9, 1), (20, .aload_n 0, 21, 0, 0), (21, .bipush 64, 23, 0, 0), (23, .newarray .int, 25, 0, 0), (25, .putfield 18, 28, 9, 2), (28, .aload_n 0, 29, 0, 0), (29, .iconst 0, 30, 0, 0)]), (39, [(30, .putfield 21, 33, 9, 3), (33, .aload_n 0, 34, 0, 0), (34, .iconst 0, 35, 0, 0), (35, .putfield 25, 38, 9, 4), (38, .return_, 39, 0, 0)])]
def zc_X5_init : List (Nat × List zx_E) := [(18, [(0, .aload_n 0, 1, 0, 0), (1, .invokespecial 3, 4, 9000, 0), (4, .aload_n 0, 5, 0, 0), (5, .bipush 64, 7, 0, 0), (7, .newarray .int, 9, 0, 0), (9, .putfield 9, 12, 5, 0), (12, .aload_n 0, 13, 0, 0), (13, .iconst 0, 14, 0, 0), (14, .putfield 15, 17, 5, 1), (17, .return_, 18, 0, 0)])]
def zc_X12_init_0 : List (Nat × List zx_E) := [(30, [(0, .aload_n 0, 1, 0, 0), (1, .invokespecial 1, 4, 9000, 0), (4, .aload_n 0, 5, 0, 0), (5, .sipush 1620, 8, 0, 0), (8, .newarray .byte, 10, 0, 0), (10, .putfield 7, 13, 12, 0), (13, .aload_n 0, 14, 0, 0), (14, .sipush 1600, 17, 0, 0), (17, .newarray .byte, 19, 0, 0), (19, .putfield 13, 22, 12, 1), (22, .aload_n 0, 23, 0, 0), (23, .iconst (-1), 24, 0, 0), (24, .putfield 16, 27, 12, 5), (27, .aload_n 0, 28, 0, 0), (28, .iconst 2, 29, 0, 0), (29, .newarray .int, 31, 0, 0)]), (58, [(31, .putfield 20, 34, 12, 11), (34, .aload_n 0, 35, 0, 0), (35, .iconst 2, 36, 0, 0), (36, .newarray .int, 38, 0, 0), (38, .putfield 24, 41, 12, 12), (41, .aload_n 0, 42, 0, 0), (42, .iconst 2, 43, 0, 0), (43, .newarray .int, 45, 0, 0), (45, .putfield 27, 48, 12, 13), (48, .aload_n 0, 49, 0, 0), (49, .iconst 2, 50, 0, 0), (50, .newarray .int, 52, 0, 0), (52, .putfield 30, 55, 12, 14), (55, .aload_n 0, 56, 0, 0), (56, .iconst 2, 57, 0, 0), (57, .newarray .int, 59, 0, 0)]), (89, [(59, .putfield 33, 62, 12, 15), (62, .aload_n 0, 63, 0, 0), (63, .iconst 2, 64, 0, 0), (64, .newarray .int, 66, 0, 0), (66, .putfield 36, 69, 12, 16), (69, .aload_n 0, 70, 0, 0), (70, .bipush 8, 72, 0, 0), (72, .newarray .int, 74, 0, 0), (74, .putfield 39, 77, 12, 17), (77, .aload_n 0, 78, 0, 0), (78, .bipush 8, 80, 0, 0), (80, .newarray .int, 82, 0, 0), (82, .putfield 42, 85, 12, 18), (85, .aload_n 0, 86, 0, 0), (86, .bipush 20, 88, 0, 0), (88, .newarray .int, 90, 0, 0)]), (121, [(90, .putfield 45, 93, 12, 19), (93, .aload_n 0, 94, 0, 0), (94, .bipush 20, 96, 0, 0), (96, .newarray .int, 98, 0, 0), (98, .putfield 48, 101, 12, 20), (101, .aload_n 0, 102, 0, 0), (102, .bipush 20, 104, 0, 0), (104, .newarray .int, 106, 0, 0), (106, .putfield 51, 109, 12, 21), (109, .aload_n 0, 110, 0, 0), (110, .bipush 12, 112, 0, 0), (112, .newarray .int, 114, 0, 0), (114, .putfield 54, 117, 12, 22), (117, .aload_n 0, 118, 0, 0), (118, .bipush 12, 120, 0, 0), (120, .newarray .int, 122, 0, 0)]), (151, [(122, .putfield 57, 125, 12, 23), (125, .aload_n 0, 126, 0, 0), (126, .bipush 12, 128, 0, 0), (128, .newarray .int, 130, 0, 0), (130, .putfield 60, 133, 12, 24), (133, .aload_n 0, 134, 0, 0), (134, .bipush 12, 136, 0, 0), (136, .newarray .int, 138, 0, 0), (138, .putfield 63, 141, 12, 25), (141, .aload_n 0, 142, 0, 0), (142, .iconst 2, 143, 0, 0), (143, .newarray .int, 145, 0, 0), (145, .putfield 66, 148, 12, 26), (148, .aload_n 0, 149, 0, 0), (149, .iconst 2, 150, 0, 0), (150, .newarray .int, 152, 0, 0)]), (179, [(152, .putfield 69, 155, 12, 27), (155, .aload_n 0, 156, 0, 0), (156, .iconst 2, 157, 0, 0), (157, .newarray .int, 159, 0, 0), (159, .putfield 72, 162, 12, 28), (162, .aload_n 0, 163, 0, 0), (163, .iconst 2, 164, 0, 0), (164, .newarray .int, 166, 0, 0), (166, .putfield 75, 169, 12, 29), (169, .aload_n 0, 170, 0, 0), (170, .iconst 2, 171, 0, 0), (171, .newarray .int, 173, 0, 0), (173, .putfield 78, 176, 12, 30), (176, .aload_n 0, 177, 0, 0), (177, .iconst 2, 178, 0, 0), (178, .newarray .int, 180, 0, 0)]), (207, [(180, .putfield 81, 183, 12, 31), (183, .aload_n 0, 184, 0, 0), (184, .iconst 2, 185, 0, 0), (185, .newarray .int, 187, 0, 0), (187, .putfield 84, 190, 12, 32), (190, .aload_n 0, 191, 0, 0), (191, .iconst 2, 192, 0, 0), (192, .newarray .boolean, 194, 0, 0), (194, .putfield 87, 197, 12, 33), (197, .aload_n 0, 198, 0, 0), (198, .iconst 2, 199, 0, 0), (199, .newarray .boolean, 201, 0, 0), (201, .putfield 91, 204, 12, 34), (204, .aload_n 0, 205, 0, 0), (205, .iconst 2, 206, 0, 0), (206, .newarray .boolean, 208, 0, 0)]), (241, [(208, .putfield 94, 211, 12, 35), (211, .aload_n 0, 212, 0, 0), (212, .bipush 8, 214, 0, 0), (214, .newarray .long, 216, 0, 0), (216, .putfield 97, 219, 12, 36), (219, .aload_n 0, 220, 0, 0), (220, .bipush 20, 222, 0, 0), (222, .newarray .long, 224, 0, 0), (224, .putfield 101, 227, 12, 37), (227, .aload_n 0, 228, 0, 0), (228, .sipush 1120, 231, 0, 0), (231, .newarray .int, 233, 0, 0), (233, .putfield 104, 236, 12, 38), (236, .aload_n 0, 237, 0, 0), (237, .sipush 1120, 240, 0, 0), (240, .newarray .int, 242, 0, 0)])]
def zc_X12_init_1 : List (Nat × List zx_E) := [(273, [(242, .putfield 107, 245, 12, 39), (245, .aload_n 0, 246, 0, 0), (246, .bipush 90, 248, 0, 0), (248, .newarray .int, 250, 0, 0), (250, .putfield 110, 253, 12, 40), (253, .aload_n 0, 254, 0, 0), (254, .bipush 90, 256, 0, 0), (256, .newarray .int, 258, 0, 0), (258, .putfield 113, 261, 12, 41), (261, .aload_n 0, 262, 0, 0), (262, .bipush 60, 264, 0, 0), (264, .newarray .int, 266, 0, 0), (266, .putfield 116, 269, 12, 42), (269, .aload_n 0, 270, 0, 0), (270, .bipush 16, 272, 0, 0), (272, .newarray .int, 274, 0, 0)]), (307, [(274, .putfield 119, 277, 12, 49), (277, .aload_n 0, 278, 0, 0), (278, .bipush 10, 280, 0, 0), (280, .newarray .int, 282, 0, 0), (282, .putfield 122, 285, 12, 50), (285, .aload_n 0, 286, 0, 0), (286, .sipush 656, 289, 0, 0), (289, .newarray .int, 291, 0, 0), (291, .putfield 125, 294, 12, 51), (294, .aload_n 0, 295, 0, 0), (295, .sipush 1024, 298, 0, 0), (298, .newarray .int, 300, 0, 0), (300, .putfield 128, 303, 12, 54), (303, .aload_n 0, 304, 0, 0), (304, .bipush 10, 306, 0, 0), (306, .newarray .int, 308, 0, 0)]), (340, [(308, .putfield 131, 311, 12, 55), (311, .aload_n 0, 312, 0, 0), (312, .bipush 64, 314, 0, 0), (314, .newarray .int, 316, 0, 0), (316, .putfield 134, 319, 12, 56), (319, .aload_n 0, 320, 0, 0), (320, .sipush 1024, 323, 0, 0), (323, .newarray .boolean, 325, 0, 0), (325, .putfield 137, 328, 12, 58), (328, .aload_n 0, 329, 0, 0), (329, .bipush 64, 331, 0, 0), (331, .newarray .int, 333, 0, 0), (333, .putfield 140, 336, 12, 59), (336, .aload_n 0, 337, 0, 0), (337, .bipush 64, 339, 0, 0), (339, .newarray .int, 341, 0, 0)]), (373, [(341, .putfield 143, 344, 12, 60), (344, .aload_n 0, 345, 0, 0), (345, .bipush 64, 347, 0, 0), (347, .newarray .boolean, 349, 0, 0), (349, .putfield 146, 352, 12, 62), (352, .aload_n 0, 353, 0, 0), (353, .sipush 1024, 356, 0, 0), (356, .newarray .boolean, 358, 0, 0), (358, .putfield 149, 361, 12, 63), (361, .aload_n 0, 362, 0, 0), (362, .bipush 30, 364, 0, 0), (364, .newarray .int, 366, 0, 0), (366, .putfield 152, 369, 12, 64), (369, .aload_n 0, 370, 0, 0), (370, .bipush 30, 372, 0, 0), (372, .newarray .int, 374, 0, 0)]), (404, [(374, .putfield 155, 377, 12, 65), (377, .aload_n 0, 378, 0, 0), (378, .bipush 30, 380, 0, 0), (380, .newarray .int, 382, 0, 0), (382, .putfield 158, 385, 12, 66), (385, .aload_n 0, 386, 0, 0), (386, .bipush 30, 388, 0, 0), (388, .newarray .int, 390, 0, 0), (390, .putfield 161, 393, 12, 67), (393, .aload_n 0, 394, 0, 0), (394, .bipush 48, 396, 0, 0), (396, .newarray .int, 398, 0, 0), (398, .putfield 164, 401, 12, 70), (401, .aload_n 0, 402, 0, 0), (402, .iconst 3, 403, 0, 0), (403, .newarray .boolean, 405, 0, 0)]), (417, [(405, .putfield 167, 408, 12, 71), (408, .aload_n 0, 409, 0, 0), (409, .invokevirtual 170, 412, 21, 0), (412, .aload_n 0, 413, 0, 0), (413, .invokevirtual 173, 416, 22, 0), (416, .return_, 417, 0, 0)])]
def zc_X12_init : List (Nat × List zx_E) := zc_X12_init_0 ++ (zc_X12_init_1)
def zc_X12_clearBank : List (Nat × List zx_E) := [(26, [(0, .aload_n 0, 1, 0, 0), (1, .getfield 20, 4, 12, 11), (4, .aload_n 0, 5, 0, 0), (5, .getfield 291, 8, 12, 44), (8, .iconst 0, 9, 0, 0), (9, .iastore, 10, 0, 0), (10, .aload_n 0, 11, 0, 0), (11, .getfield 24, 14, 12, 12), (14, .aload_n 0, 15, 0, 0), (15, .getfield 291, 18, 12, 44), (18, .iconst 0, 19, 0, 0), (19, .iastore, 20, 0, 0), (20, .aload_n 0, 21, 0, 0), (21, .getfield 27, 24, 12, 13), (24, .aload_n 0, 25, 0, 0), (25, .getfield 291, 28, 12, 44)]), (52, [(28, .iconst 0, 29, 0, 0), (29, .iastore, 30, 0, 0), (30, .aload_n 0, 31, 0, 0), (31, .getfield 30, 34, 12, 14), (34, .aload_n 0, 35, 0, 0), (35, .getfield 291, 38, 12, 44), (38, .iconst 0, 39, 0, 0), (39, .iastore, 40, 0, 0), (40, .aload_n 0, 41, 0, 0), (41, .getfield 33, 44, 12, 15), (44, .aload_n 0, 45, 0, 0), (45, .getfield 291, 48, 12, 44), (48, .iconst 0, 49, 0, 0), (49, .iastore, 50, 0, 0), (50, .aload_n 0, 51, 0, 0), (51, .getfield 36, 54, 12, 16)]), (80, [(54, .aload_n 0, 55, 0, 0), (55, .getfield 291, 58, 12, 44), (58, .iconst 0, 59, 0, 0), (59, .iastore, 60, 0, 0), (60, .aload_n 0, 61, 0, 0), (61, .getfield 72, 64, 12, 28), (64, .aload_n 0, 65, 0, 0), (65, .getfield 291, 68, 12, 44), (68, .iconst 0, 69, 0, 0), (69, .iastore, 70, 0, 0), (70, .aload_n 0, 71, 0, 0), (71, .getfield 75, 74, 12, 29), (74, .aload_n 0, 75, 0, 0), (75, .getfield 291, 78, 12, 44), (78, .iconst 0, 79, 0, 0), (79, .iastore, 80, 0, 0)]), (106, [(80, .aload_n 0, 81, 0, 0), (81, .getfield 78, 84, 12, 30), (84, .aload_n 0, 85, 0, 0), (85, .getfield 291, 88, 12, 44), (88, .iconst 0, 89, 0, 0), (89, .iastore, 90, 0, 0), (90, .aload_n 0, 91, 0, 0), (91, .getfield 81, 94, 12, 31), (94, .aload_n 0, 95, 0, 0), (95, .getfield 291, 98, 12, 44), (98, .iconst 0, 99, 0, 0), (99, .iastore, 100, 0, 0), (100, .aload_n 0, 101, 0, 0), (101, .getfield 84, 104, 12, 32), (104, .aload_n 0, 105, 0, 0), (105, .getfield 291, 108, 12, 44)]), (132, [(108, .iconst 0, 109, 0, 0), (109, .iastore, 110, 0, 0), (110, .aload_n 0, 111, 0, 0), (111, .getfield 87, 114, 12, 33), (114, .aload_n 0, 115, 0, 0), (115, .getfield 291, 118, 12, 44), (118, .iconst 0, 119, 0, 0), (119, .bastore, 120, 0, 0), (120, .aload_n 0, 121, 0, 0), (121, .getfield 91, 124, 12, 34), (124, .aload_n 0, 125, 0, 0), (125, .getfield 291, 128, 12, 44), (128, .iconst 0, 129, 0, 0), (129, .bastore, 130, 0, 0), (130, .aload_n 0, 131, 0, 0), (131, .getfield 94, 134, 12, 35)]), (153, [(134, .aload_n 0, 135, 0, 0), (135, .getfield 291, 138, 12, 44), (138, .iconst 0, 139, 0, 0), (139, .bastore, 140, 0, 0), (140, .aload_n 0, 141, 0, 0), (141, .sipush 560, 144, 0, 0), (144, .aload_n 0, 145, 0, 0), (145, .getfield 291, 148, 12, 44), (148, .imul, 149, 0, 0), (149, .putfield 294, 152, 12, 45), (152, .return_, 153, 0, 0)])]
def zc_X12_startAnew : List (Nat × List zx_E) := [(27, [(0, .iconst 0, 1, 0, 0), (1, .istore_n 1, 2, 0, 0), (2, .iload_n 1, 3, 0, 0), (3, .bipush 16, 5, 0, 0), (5, .if_icmp .ge 16, 8, 0, 0), (8, .aload_n 0, 9, 0, 0), (9, .getfield 119, 12, 12, 49), (12, .iload_n 1, 13, 0, 0), (13, .iconst 0, 14, 0, 0), (14, .iastore, 15, 0, 0), (15, .iinc 1 1, 18, 0, 0), (18, .goto (-16), 21, 0, 0), (21, .aload_n 0, 22, 0, 0), (22, .getfield 119, 25, 12, 49), (25, .iconst 0, 26, 0, 0), (26, .aload_n 0, 27, 0, 0)]), (53, [(27, .getfield 72, 30, 12, 28), (30, .aload_n 0, 31, 0, 0), (31, .getfield 300, 34, 12, 43), (34, .iaload, 35, 0, 0), (35, .iastore, 36, 0, 0), (36, .aload_n 0, 37, 0, 0), (37, .getfield 119, 40, 12, 49), (40, .iconst 2, 41, 0, 0), (41, .aload_n 0, 42, 0, 0), (42, .getfield 75, 45, 12, 29), (45, .aload_n 0, 46, 0, 0), (46, .getfield 300, 49, 12, 43), (49, .iaload, 50, 0, 0), (50, .iastore, 51, 0, 0), (51, .aload_n 0, 52, 0, 0), (52, .getfield 119, 55, 12, 49)]), (83, [(55, .bipush 13, 57, 0, 0), (57, .aload_n 0, 58, 0, 0), (58, .getfield 33, 61, 12, 15), (61, .aload_n 0, 62, 0, 0), (62, .getfield 300, 65, 12, 43), (65, .iaload, 66, 0, 0), (66, .iastore, 67, 0, 0), (67, .aload_n 0, 68, 0, 0), (68, .getfield 119, 71, 12, 49), (71, .bipush 15, 73, 0, 0), (73, .aload_n 0, 74, 0, 0), (74, .getfield 36, 77, 12, 16), (77, .aload_n 0, 78, 0, 0), (78, .getfield 300, 81, 12, 43), (81, .iaload, 82, 0, 0), (82, .iastore, 83, 0, 0)]), (107, [(83, .aload_n 0, 84, 0, 0), (84, .iconst 0, 85, 0, 0), (85, .putfield 429, 88, 12, 52), (88, .aload_n 0, 89, 0, 0), (89, .iconst 0, 90, 0, 0), (90, .putfield 432, 93, 12, 53), (93, .aload_n 0, 94, 0, 0), (94, .iconst 0, 95, 0, 0), (95, .putfield 435, 98, 12, 68), (98, .aload_n 0, 99, 0, 0), (99, .iconst 0, 100, 0, 0), (100, .putfield 438, 103, 12, 57), (103, .iconst 0, 104, 0, 0), (104, .istore_n 1, 105, 0, 0), (105, .iload_n 1, 106, 0, 0), (106, .iconst 3, 107, 0, 0)]), (124, [(107, .if_icmp .ge 16, 110, 0, 0), (110, .aload_n 0, 111, 0, 0), (111, .getfield 167, 114, 12, 71), (114, .iload_n 1, 115, 0, 0), (115, .iconst 0, 116, 0, 0), (116, .bastore, 117, 0, 0), (117, .iinc 1 1, 120, 0, 0), (120, .goto (-15), 123, 0, 0), (123, .return_, 124, 0, 0)])]
def zc_X11_feed : List (Nat × List zx_E) := [(36, [(0, .aload_n 0, 1, 0, 0), (1, .getfield 12, 4, 11, 0), (4, .getfield 85, 7, 10, 1), (7, .sipush 1580, 10, 0, 0), (10, .if_icmp .le 5, 13, 0, 0), (15, .aload_n 0, 16, 0, 0), (16, .getfield 12, 19, 11, 0), (19, .iload_n 1, 20, 0, 0), (20, .invokevirtual 88, 23, 24, 0), (23, .aload_n 0, 24, 0, 0), (24, .getfield 12, 27, 11, 0), (27, .iload_n 2, 28, 0, 0), (28, .invokevirtual 88, 31, 24, 0), (31, .aload_n 0, 32, 0, 0), (32, .getfield 12, 35, 11, 0), (35, .iload_n 3, 36, 0, 0)]), (65, [(36, .invokevirtual 88, 39, 24, 0), (39, .aload_n 0, 40, 0, 0), (40, .getfield 12, 43, 11, 0), (43, .iload 4, 45, 0, 0), (45, .invokevirtual 88, 48, 24, 0), (48, .aload_n 0, 49, 0, 0), (49, .getfield 12, 52, 11, 0), (52, .iload 5, 54, 0, 0), (54, .invokevirtual 88, 57, 24, 0), (57, .aload_n 0, 58, 0, 0), (58, .getfield 12, 61, 11, 0), (61, .getfield 85, 64, 10, 1), (64, .ireturn, 65, 0, 0)])]
def zc_X10_append : List (Nat × List zx_E) := [(29, [(0, .bipush 24, 2, 0, 0), (2, .istore_n 2, 3, 0, 0), (3, .iload_n 2, 4, 0, 0), (4, .ifCond .lt 44, 7, 0, 0), (7, .aload_n 0, 8, 0, 0), (8, .getfield 15, 11, 10, 1), (11, .aload_n 0, 12, 0, 0), (12, .getfield 9, 15, 10, 0), (15, .arraylength, 16, 0, 0), (16, .if_icmp .ge 26, 19, 0, 0), (19, .aload_n 0, 20, 0, 0), (20, .getfield 9, 23, 10, 0), (23, .aload_n 0, 24, 0, 0), (24, .getfield 15, 27, 10, 1), (27, .iload_n 1, 28, 0, 0), (28, .iload_n 2, 29, 0, 0)]), (49, [(29, .ishr, 30, 0, 0), (30, .i2b, 31, 0, 0), (31, .bastore, 32, 0, 0), (32, .aload_n 0, 33, 0, 0), (33, .dup, 34, 0, 0), (34, .getfield 15, 37, 10, 1), (37, .iconst 1, 38, 0, 0), (38, .iadd, 39, 0, 0), (39, .putfield 15, 42, 10, 1), (42, .iinc 2 (-8), 45, 0, 0), (45, .goto (-42), 48, 0, 0), (48, .return_, 49, 0, 0)])]
def zc_X12_feed : List (Nat × List zx_E) := [(33, [(0, .aload_n 0, 1, 0, 0), (1, .getfield 297, 4, 12, 2), (4, .bipush 20, 6, 0, 0), (6, .iadd, 7, 0, 0), (7, .sipush 1600, 10, 0, 0), (10, .if_icmp .le 5, 13, 0, 0), (15, .iconst 0, 16, 0, 0), (16, .istore 6, 18, 0, 0), (18, .iload 6, 20, 0, 0), (20, .bipush 20, 22, 0, 0), (22, .if_icmp .ge 83, 25, 0, 0), (25, .iload 6, 27, 0, 0), (27, .iconst 4, 28, 0, 0), (28, .if_icmp .ge 7, 31, 0, 0), (31, .iload_n 1, 32, 0, 0), (32, .goto 39, 35, 0, 0)]), (70, [(35, .iload 6, 37, 0, 0), (37, .bipush 8, 39, 0, 0), (39, .if_icmp .ge 7, 42, 0, 0), (42, .iload_n 2, 43, 0, 0), (43, .goto 28, 46, 0, 0), (46, .iload 6, 48, 0, 0), (48, .bipush 12, 50, 0, 0), (50, .if_icmp .ge 7, 53, 0, 0), (53, .iload_n 3, 54, 0, 0), (54, .goto 17, 57, 0, 0), (57, .iload 6, 59, 0, 0), (59, .bipush 16, 61, 0, 0), (61, .if_icmp .ge 8, 64, 0, 0), (64, .iload 4, 66, 0, 0), (66, .goto 5, 69, 0, 0), (69, .iload 5, 71, 0, 0)]), (97, [(71, .istore 7, 73, 0, 0), (73, .aload_n 0, 74, 0, 0), (74, .getfield 7, 77, 12, 0), (77, .aload_n 0, 78, 0, 0), (78, .getfield 297, 81, 12, 2), (81, .iload 6, 83, 0, 0), (83, .iadd, 84, 0, 0), (84, .iload 7, 86, 0, 0), (86, .bipush 24, 88, 0, 0), (88, .bipush 8, 90, 0, 0), (90, .iload 6, 92, 0, 0), (92, .iconst 3, 93, 0, 0), (93, .iand, 94, 0, 0), (94, .imul, 95, 0, 0), (95, .isub, 96, 0, 0), (96, .ishr, 97, 0, 0)]), (121, [(97, .i2b, 98, 0, 0), (98, .bastore, 99, 0, 0), (99, .iinc 6 1, 102, 0, 0), (102, .goto (-84), 105, 0, 0), (105, .aload_n 0, 106, 0, 0), (106, .dup, 107, 0, 0), (107, .getfield 297, 110, 12, 2), (110, .bipush 20, 112, 0, 0), (112, .iadd, 113, 0, 0), (113, .putfield 297, 116, 12, 2), (116, .aload_n 0, 117, 0, 0), (117, .getfield 297, 120, 12, 2), (120, .ireturn, 121, 0, 0)])]
def zc_X11_end : List (Nat × List zx_E) := [(27, [(0, .iload_n 1, 1, 0, 0), (1, .ifCond .lt 14, 4, 0, 0), (4, .iload_n 1, 5, 0, 0), (5, .aload_n 0, 6, 0, 0), (6, .getfield 12, 9, 11, 0), (9, .getfield 85, 12, 10, 1), (12, .if_icmp .le 5, 15, 0, 0), (15, .iconst (-1), 16, 0, 0), (16, .ireturn, 17, 0, 0), (17, .aload_n 0, 18, 0, 0), (18, .getfield 12, 21, 11, 0), (21, .iload_n 1, 22, 0, 0), (22, .putfield 85, 25, 10, 1), (25, .iload_n 1, 26, 0, 0), (26, .ireturn, 27, 0, 0)])]
def zc_X12_end : List (Nat × List zx_E) := [(21, [(0, .iload_n 1, 1, 0, 0), (1, .ifCond .lt 11, 4, 0, 0), (4, .iload_n 1, 5, 0, 0), (5, .aload_n 0, 6, 0, 0), (6, .getfield 297, 9, 12, 2), (9, .if_icmp .le 5, 12, 0, 0), (12, .iconst (-1), 13, 0, 0), (13, .ireturn, 14, 0, 0), (14, .aload_n 0, 15, 0, 0), (15, .iload_n 1, 16, 0, 0), (16, .putfield 297, 19, 12, 2), (19, .iload_n 1, 20, 0, 0), (20, .ireturn, 21, 0, 0)])]
def zc_X11_town : List (Nat × List zx_E) := [(36, [(0, .aload_n 0, 1, 0, 0), (1, .getfield 21, 4, 11, 1), (4, .invokevirtual 92, 7, 29, 0), (7, .ifCond .ne 5, 10, 0, 0), (12, .aload_n 0, 13, 0, 0), (13, .aload_n 0, 14, 0, 0), (14, .getfield 21, 17, 11, 1), (17, .aload_n 0, 18, 0, 0), (18, .getfield 74, 21, 11, 9), (21, .invokevirtual 96, 24, 35, 0), (24, .putfield 74, 27, 11, 9), (27, .aload_n 0, 28, 0, 0), (28, .getfield 12, 31, 11, 0), (31, .iconst 0, 32, 0, 0), (32, .putfield 85, 35, 10, 1), (35, .aload_n 0, 36, 0, 0)]), (70, [(36, .getfield 78, 39, 11, 10), (39, .aload_n 0, 40, 0, 0), (40, .getfield 74, 43, 11, 9), (43, .invokevirtual 100, 46, 36, 0), (46, .aload_n 0, 47, 0, 0), (47, .getfield 28, 50, 11, 2), (50, .invokevirtual 104, 53, 38, 0), (53, .aload_n 0, 54, 0, 0), (54, .getfield 46, 57, 11, 5), (57, .invokevirtual 107, 60, 39, 0), (60, .aload_n 0, 61, 0, 0), (61, .getfield 67, 64, 11, 8), (64, .invokevirtual 108, 67, 40, 0), (67, .aload_n 0, 68, 0, 0), (68, .iconst 0, 69, 0, 0), (69, .putfield 81, 72, 11, 11)]), (80, [(72, .aload_n 0, 73, 0, 0), (73, .getfield 74, 76, 11, 9), (76, .getfield 111, 79, 6, 9), (79, .ireturn, 80, 0, 0)])]
def zc_X7_readTown : List (Nat × List zx_E) := [(30, [(0, .aload_n 0, 1, 0, 0), (1, .getfield 21, 4, 7, 3), (4, .invokevirtual 44, 7, 30, 0), (7, .aload_n 0, 8, 0, 0), (8, .iconst 0, 9, 0, 0), (9, .putfield 25, 12, 7, 4), (12, .aload_n 0, 13, 0, 0), (13, .iconst 0, 14, 0, 0), (14, .putfield 29, 17, 7, 5), (17, .aload_n 0, 18, 0, 0), (18, .iconst (-1), 19, 0, 0), (19, .putfield 32, 22, 7, 6), (22, .aload_n 0, 23, 0, 0), (23, .getfield 40, 26, 7, 0), (26, .invokevirtual 47, 29, 32, 0), (29, .iconst 0, 30, 0, 0)]), (67, [(30, .istore_n 1, 31, 0, 0), (31, .iload_n 1, 32, 0, 0), (32, .sipush 1600, 35, 0, 0), (35, .if_icmp .ge 30, 38, 0, 0), (38, .aload_n 0, 39, 0, 0), (39, .getfield 40, 42, 7, 0), (42, .getfield 50, 45, 3, 3), (45, .bipush 90, 47, 0, 0), (47, .if_icmp .eq 18, 50, 0, 0), (65, .iconst 1, 66, 0, 0), (66, .ireturn, 67, 0, 0)])]
def zc_X6_clear : List (Nat × List zx_E) := [(26, [(0, .aload_n 0, 1, 0, 0), (1, .iconst 0, 2, 0, 0), (2, .putfield 40, 5, 6, 8), (5, .aload_n 0, 6, 0, 0), (6, .iconst 0, 7, 0, 0), (7, .putfield 44, 10, 6, 9), (10, .aload_n 0, 11, 0, 0), (11, .iconst 0, 12, 0, 0), (12, .putfield 47, 15, 6, 10), (15, .aload_n 0, 16, 0, 0), (16, .iconst 0, 17, 0, 0), (17, .putfield 50, 20, 6, 11), (20, .aload_n 0, 21, 0, 0), (21, .iconst 0, 22, 0, 0), (22, .putfield 53, 25, 6, 12), (25, .aload_n 0, 26, 0, 0)]), (52, [(26, .iconst 0, 27, 0, 0), (27, .putfield 56, 30, 6, 13), (30, .aload_n 0, 31, 0, 0), (31, .iconst 0, 32, 0, 0), (32, .putfield 59, 35, 6, 14), (35, .aload_n 0, 36, 0, 0), (36, .iconst 0, 37, 0, 0), (37, .putfield 62, 40, 6, 15), (40, .aload_n 0, 41, 0, 0), (41, .iconst 0, 42, 0, 0), (42, .putfield 65, 45, 6, 16), (45, .aload_n 0, 46, 0, 0), (46, .iconst 0, 47, 0, 0), (47, .putfield 68, 50, 6, 17), (50, .aload_n 0, 51, 0, 0), (51, .getfield 36, 54, 6, 7)]), (58, [(54, .invokevirtual 71, 57, 31, 0), (57, .return_, 58, 0, 0)])]
def zc_X0_clear : List (Nat × List zx_E) := [(11, [(0, .aload_n 0, 1, 0, 0), (1, .iconst 0, 2, 0, 0), (2, .putfield 18, 5, 0, 2), (5, .aload_n 0, 6, 0, 0), (6, .iconst 0, 7, 0, 0), (7, .putfield 25, 10, 0, 4), (10, .return_, 11, 0, 0)])]
def zc_X3_restart : List (Nat × List zx_E) := [(10, [(0, .aload_n 0, 1, 0, 0), (1, .iconst 0, 2, 0, 0), (2, .putfield 13, 5, 3, 2), (5, .aload_n 0, 6, 0, 0), (6, .invokevirtual 50, 9, 33, 0), (9, .return_, 10, 0, 0)])]
def zc_X3_advance : List (Nat × List zx_E) := [(79, [(0, .aload_n 0, 1, 0, 0), (1, .getfield 13, 4, 3, 2), (4, .aload_n 0, 5, 0, 0), (5, .getfield 30, 8, 3, 0), (8, .getfield 53, 11, 10, 1), (11, .if_icmp .ge 48, 14, 0, 0), (59, .aload_n 0, 60, 0, 0), (60, .aload_n 0, 61, 0, 0), (61, .getfield 13, 64, 3, 2), (64, .putfield 20, 67, 3, 4), (67, .aload_n 0, 68, 0, 0), (68, .getfield 30, 71, 3, 0), (71, .aload_n 0, 72, 0, 0), (72, .getfield 20, 75, 3, 4), (75, .invokevirtual 57, 78, 34, 0), (78, .istore_n 1, 79, 0, 0)]), (165, [(79, .aload_n 0, 80, 0, 0), (80, .getfield 20, 83, 3, 4), (83, .aload_n 0, 84, 0, 0), (84, .getfield 30, 87, 3, 0), (87, .getfield 53, 90, 10, 1), (90, .if_icmp .lt 12, 93, 0, 0), (93, .aload_n 0, 94, 0, 0), (94, .bipush 90, 96, 0, 0), (96, .putfield 17, 99, 3, 3), (99, .goto 65, 102, 0, 0), (164, .return_, 165, 0, 0)])]
def zc_X10_at : List (Nat × List zx_E) := [(36, [(0, .iload_n 1, 1, 0, 0), (1, .ifCond .lt 33, 4, 0, 0), (4, .iload_n 1, 5, 0, 0), (5, .aload_n 0, 6, 0, 0), (6, .getfield 15, 9, 10, 1), (9, .if_icmp .ge 25, 12, 0, 0), (34, .iconst 0, 35, 0, 0), (35, .ireturn, 36, 0, 0)])]
def zc_X7_exchange : List (Nat × List zx_E) := [(12, [(0, .aload_n 0, 1, 0, 0), (1, .getfield 21, 4, 7, 3), (4, .astore_n 2, 5, 0, 0), (5, .aload_n 0, 6, 0, 0), (6, .aload_n 1, 7, 0, 0), (7, .putfield 21, 10, 7, 3), (10, .aload_n 2, 11, 0, 0), (11, .areturn, 12, 0, 0)])]
def zc_X8_begin : List (Nat × List zx_E) := [(30, [(0, .aload_n 0, 1, 0, 0), (1, .aload_n 1, 2, 0, 0), (2, .getfield 34, 5, 6, 15), (5, .putfield 9, 8, 8, 0), (8, .aload_n 0, 9, 0, 0), (9, .iconst 0, 10, 0, 0), (10, .putfield 15, 13, 8, 1), (13, .aload_n 0, 14, 0, 0), (14, .aload_n 1, 15, 0, 0), (15, .getfield 37, 18, 6, 12), (18, .putfield 18, 21, 8, 2), (21, .aload_n 0, 22, 0, 0), (22, .aload_n 1, 23, 0, 0), (23, .getfield 38, 26, 6, 16), (26, .putfield 21, 29, 8, 3), (29, .aload_n 0, 30, 0, 0)]), (51, [(30, .iconst 0, 31, 0, 0), (31, .putfield 24, 34, 8, 4), (34, .aload_n 0, 35, 0, 0), (35, .aload_n 1, 36, 0, 0), (36, .getfield 39, 39, 6, 17), (39, .putfield 27, 42, 8, 5), (42, .aload_n 0, 43, 0, 0), (43, .getfield 30, 46, 8, 6), (46, .iconst 0, 47, 0, 0), (47, .invokestatic 42, 50, 37, 0), (50, .return_, 51, 0, 0)])]
def zc_J7_fill_53178 : List (Nat × List zx_E) := [(21, [(0, .iconst 0, 1, 0, 0), (1, .istore_n 2, 2, 0, 0), (2, .aload_n 0, 3, 0, 0), (3, .arraylength, 4, 0, 0), (4, .istore_n 3, 5, 0, 0), (5, .iload_n 2, 6, 0, 0), (6, .iload_n 3, 7, 0, 0), (7, .if_icmp .ge 13, 10, 0, 0), (10, .aload_n 0, 11, 0, 0), (11, .iload_n 2, 12, 0, 0), (12, .iload_n 1, 13, 0, 0), (13, .iastore, 14, 0, 0), (14, .iinc 2 1, 17, 0, 0), (17, .goto (-12), 20, 0, 0), (20, .return_, 21, 0, 0)])]
def zc_X2_forget : List (Nat × List zx_E) := [(16, [(0, .aload_n 0, 1, 0, 0), (1, .iconst 0, 2, 0, 0), (2, .putfield 17, 5, 2, 1), (5, .aload_n 0, 6, 0, 0), (6, .iconst 0, 7, 0, 0), (7, .putfield 21, 10, 2, 2), (10, .aload_n 0, 11, 0, 0), (11, .iconst 0, 12, 0, 0), (12, .putfield 24, 15, 2, 3), (15, .return_, 16, 0, 0)])]
def zc_X1_forget : List (Nat × List zx_E) := [(6, [(0, .aload_n 0, 1, 0, 0), (1, .iconst 0, 2, 0, 0), (2, .putfield 24, 5, 1, 4), (5, .return_, 6, 0, 0)])]
def zc_X5_clear : List (Nat × List zx_E) := [(6, [(0, .aload_n 0, 1, 0, 0), (1, .iconst 0, 2, 0, 0), (2, .putfield 15, 5, 5, 1), (5, .return_, 6, 0, 0)])]
def zc_X12_town : List (Nat × List zx_E) := [(26, [(0, .aload_n 0, 1, 0, 0), (1, .iconst 0, 2, 0, 0), (2, .putfield 179, 5, 12, 4), (5, .aload_n 0, 6, 0, 0), (6, .iconst (-1), 7, 0, 0), (7, .putfield 16, 10, 12, 5), (10, .aload_n 0, 11, 0, 0), (11, .aload_n 0, 12, 0, 0), (12, .getfield 297, 15, 12, 2), (15, .putfield 176, 18, 12, 3), (18, .iconst 0, 19, 0, 0), (19, .istore_n 1, 20, 0, 0), (20, .iload_n 1, 21, 0, 0), (21, .aload_n 0, 22, 0, 0), (22, .getfield 176, 25, 12, 3), (25, .if_icmp .ge 21, 28, 0, 0)]), (72, [(46, .aload_n 0, 47, 0, 0), (47, .iconst 0, 48, 0, 0), (48, .putfield 297, 51, 12, 2), (51, .aload_n 0, 52, 0, 0), (52, .iconst 0, 53, 0, 0), (53, .putfield 232, 56, 12, 7), (56, .aload_n 0, 57, 0, 0), (57, .iconst 1, 58, 0, 0), (58, .aload_n 0, 59, 0, 0), (59, .getfield 300, 62, 12, 43), (62, .isub, 63, 0, 0), (63, .putfield 291, 66, 12, 44), (66, .aload_n 0, 67, 0, 0), (67, .invokevirtual 170, 70, 21, 0), (70, .aload_n 0, 71, 0, 0), (71, .invokevirtual 274, 74, 42, 0)]), (117, [(74, .aload_n 0, 75, 0, 0), (75, .invokevirtual 270, 78, 44, 0), (78, .ifCond .eq 17, 81, 0, 0), (81, .aload_n 0, 82, 0, 0), (82, .getfield 242, 85, 12, 8), (85, .ifCond .eq 10, 88, 0, 0), (95, .aload_n 0, 96, 0, 0), (96, .invokevirtual 270, 99, 44, 0), (99, .ifCond .ne 5, 102, 0, 0), (104, .aload_n 0, 105, 0, 0), (105, .aload_n 0, 106, 0, 0), (106, .getfield 291, 109, 12, 44), (109, .putfield 300, 112, 12, 43), (112, .aload_n 0, 113, 0, 0), (113, .invokevirtual 173, 116, 22, 0), (116, .aload_n 0, 117, 0, 0)]), (126, [(117, .getfield 24, 120, 12, 12), (120, .aload_n 0, 121, 0, 0), (121, .getfield 300, 124, 12, 43), (124, .iaload, 125, 0, 0), (125, .ireturn, 126, 0, 0)])]
def zc_X12_goOn : List (Nat × List zx_E) := [(69, [(0, .aload_n 0, 1, 0, 0), (1, .aload_n 0, 2, 0, 0), (2, .getfield 232, 5, 12, 7), (5, .putfield 235, 8, 12, 6), (8, .aload_n 0, 9, 0, 0), (9, .getfield 235, 12, 12, 6), (12, .aload_n 0, 13, 0, 0), (13, .getfield 176, 16, 12, 3), (16, .if_icmp .ge 42, 19, 0, 0), (58, .aload_n 0, 59, 0, 0), (59, .aload_n 0, 60, 0, 0), (60, .getfield 235, 63, 12, 6), (63, .invokevirtual 238, 66, 43, 0), (66, .istore_n 1, 67, 0, 0), (67, .aload_n 0, 68, 0, 0), (68, .aload_n 0, 69, 0, 0)]), (99, [(69, .getfield 235, 72, 12, 6), (72, .iconst 1, 73, 0, 0), (73, .iadd, 74, 0, 0), (74, .putfield 232, 77, 12, 7), (77, .aload_n 0, 78, 0, 0), (78, .getfield 235, 81, 12, 6), (81, .aload_n 0, 82, 0, 0), (82, .getfield 176, 85, 12, 3), (85, .if_icmp .lt 27, 88, 0, 0), (88, .aload_n 0, 89, 0, 0), (89, .iconst 0, 90, 0, 0), (90, .putfield 242, 93, 12, 8), (93, .aload_n 0, 94, 0, 0), (94, .aload_n 0, 95, 0, 0), (95, .getfield 176, 98, 12, 3), (98, .putfield 235, 101, 12, 6)]), (378, [(101, .aload_n 0, 102, 0, 0), (102, .aload_n 0, 103, 0, 0), (103, .getfield 176, 106, 12, 3), (106, .putfield 232, 109, 12, 7), (109, .goto 268, 112, 0, 0), (377, .return_, 378, 0, 0)])]
def zc_X12_sign : List (Nat × List zx_E) := [(23, [(0, .iload_n 1, 1, 0, 0), (1, .aload_n 0, 2, 0, 0), (2, .getfield 176, 5, 12, 3), (5, .if_icmp .ge 16, 8, 0, 0), (21, .iconst 0, 22, 0, 0), (22, .ireturn, 23, 0, 0)])]
def zc_X12_isGood : List (Nat × List zx_E) := [(13, [(0, .aload_n 0, 1, 0, 0), (1, .getfield 179, 4, 12, 4), (4, .ifCond .ne 7, 7, 0, 0), (7, .iconst 1, 8, 0, 0), (8, .goto 4, 11, 0, 0), (12, .ireturn, 13, 0, 0)])]
def zc_X11_fault : List (Nat × List zx_E) := [(46, [(0, .iload_n 1, 1, 0, 0), (1, .lookupswitch 43 #[(0, 27), (1, 35)], 28, 0, 0), (28, .aload_n 0, 29, 0, 0), (29, .getfield 21, 32, 11, 1), (32, .getfield 114, 35, 7, 5), (35, .ireturn, 36, 0, 0), (36, .aload_n 0, 37, 0, 0), (37, .getfield 21, 40, 11, 1), (40, .getfield 117, 43, 7, 6), (43, .ireturn, 44, 0, 0), (44, .iconst (-1), 45, 0, 0), (45, .ireturn, 46, 0, 0)])]
def zc_X12_fault : List (Nat × List zx_E) := [(25, [(0, .iload_n 1, 1, 0, 0), (1, .ifCond .ne 10, 4, 0, 0), (4, .aload_n 0, 5, 0, 0), (5, .getfield 179, 8, 12, 4), (8, .goto 16, 11, 0, 0), (11, .iload_n 1, 12, 0, 0), (12, .iconst 1, 13, 0, 0), (13, .if_icmp .ne 10, 16, 0, 0), (16, .aload_n 0, 17, 0, 0), (17, .getfield 16, 20, 12, 5), (20, .goto 4, 23, 0, 0), (23, .iconst (-1), 24, 0, 0), (24, .ireturn, 25, 0, 0)])]
def zc_X11_door : List (Nat × List zx_E) := [(14, [(0, .aload_n 0, 1, 0, 0), (1, .getfield 74, 4, 11, 9), (4, .iload_n 1, 5, 0, 0), (5, .invokevirtual 120, 8, 48, 0), (8, .ifCond .ne 6, 11, 0, 0), (11, .bipush (-2), 13, 0, 0), (13, .ireturn, 14, 0, 0)])]
def zc_X6_isDoor : List (Nat × List zx_E) := [(18, [(0, .iload_n 1, 1, 0, 0), (1, .ifCond .lt 15, 4, 0, 0), (4, .iload_n 1, 5, 0, 0), (5, .aload_n 0, 6, 0, 0), (6, .getfield 44, 9, 6, 9), (9, .if_icmp .ge 7, 12, 0, 0), (16, .iconst 0, 17, 0, 0), (17, .ireturn, 18, 0, 0)])]
def zc_X12_door : List (Nat × List zx_E) := [(11, [(0, .aload_n 0, 1, 0, 0), (1, .iload_n 1, 2, 0, 0), (2, .invokevirtual 441, 5, 50, 0), (5, .ifCond .ne 6, 8, 0, 0), (8, .bipush (-2), 10, 0, 0), (10, .ireturn, 11, 0, 0)])]
def zc_X12_isDoor : List (Nat × List zx_E) := [(12, [(0, .iload_n 1, 1, 0, 0), (1, .iconst 0, 2, 0, 0), (2, .aload_n 0, 3, 0, 0), (3, .invokevirtual 397, 6, 51, 0), (6, .iconst 1, 7, 0, 0), (7, .isub, 8, 0, 0), (8, .invokestatic 400, 11, 52, 0), (11, .ireturn, 12, 0, 0)])]
def zc_X12_many : List (Nat × List zx_E) := [(10, [(0, .aload_n 0, 1, 0, 0), (1, .getfield 24, 4, 12, 12), (4, .aload_n 0, 5, 0, 0), (5, .getfield 300, 8, 12, 43), (8, .iaload, 9, 0, 0), (9, .ireturn, 10, 0, 0)])]
def zc_X12_isIn : List (Nat × List zx_E) := [(16, [(0, .iload_n 0, 1, 0, 0), (1, .iload_n 1, 2, 0, 0), (2, .if_icmp .lt 12, 5, 0, 0), (5, .iload_n 0, 6, 0, 0), (6, .iload_n 2, 7, 0, 0), (7, .if_icmp .gt 7, 10, 0, 0), (10, .iconst 1, 11, 0, 0), (11, .goto 4, 14, 0, 0), (14, .iconst 0, 15, 0, 0), (15, .ireturn, 16, 0, 0)])]
def zc_X11_can : List (Nat × List zx_E) := [(31, [(0, .aload_n 0, 1, 0, 0), (1, .getfield 74, 4, 11, 9), (4, .iload_n 1, 5, 0, 0), (5, .invokevirtual 120, 8, 48, 0), (8, .ifCond .eq 21, 11, 0, 0), (29, .iconst (-1), 30, 0, 0), (30, .ireturn, 31, 0, 0)])]
def zc_X12_can : List (Nat × List zx_E) := [(10, [(0, .aload_n 0, 1, 0, 0), (1, .iload_n 1, 2, 0, 0), (2, .invokevirtual 441, 5, 50, 0), (5, .ifCond .ne 5, 8, 0, 0), (8, .iconst (-1), 9, 0, 0), (9, .ireturn, 10, 0, 0)])]
def zc_X11_hinders : List (Nat × List zx_E) := [(24, [(0, .aload_n 0, 1, 0, 0), (1, .getfield 74, 4, 11, 9), (4, .iload_n 1, 5, 0, 0), (5, .invokevirtual 120, 8, 48, 0), (8, .ifCond .eq 14, 11, 0, 0), (22, .iconst (-1), 23, 0, 0), (23, .ireturn, 24, 0, 0)])]
def zc_X12_hinders : List (Nat × List zx_E) := [(41, [(0, .aload_n 0, 1, 0, 0), (1, .iload_n 1, 2, 0, 0), (2, .invokevirtual 441, 5, 50, 0), (5, .ifCond .eq 11, 8, 0, 0), (16, .iconst (-1), 17, 0, 0), (17, .goto 23, 20, 0, 0), (40, .ireturn, 41, 0, 0)])]
def zc_X11_free : List (Nat × List zx_E) := [(17, [(0, .aload_n 0, 1, 0, 0), (1, .getfield 74, 4, 11, 9), (4, .iload_n 1, 5, 0, 0), (5, .iload_n 2, 6, 0, 0), (6, .invokevirtual 170, 9, 58, 0), (9, .istore_n 3, 10, 0, 0), (10, .iload_n 3, 11, 0, 0), (11, .iconst (-1), 12, 0, 0), (12, .if_icmp .ne 5, 15, 0, 0), (15, .iconst (-1), 16, 0, 0), (16, .ireturn, 17, 0, 0)])]
def zc_X6_spot : List (Nat × List zx_E) := [(24, [(0, .aload_n 0, 1, 0, 0), (1, .iload_n 1, 2, 0, 0), (2, .invokevirtual 78, 5, 59, 0), (5, .ifCond .eq 17, 8, 0, 0), (22, .iconst (-1), 23, 0, 0), (23, .ireturn, 24, 0, 0)])]
def zc_X6_isLane : List (Nat × List zx_E) := [(18, [(0, .iload_n 1, 1, 0, 0), (1, .ifCond .lt 15, 4, 0, 0), (4, .iload_n 1, 5, 0, 0), (5, .aload_n 0, 6, 0, 0), (6, .getfield 40, 9, 6, 8), (9, .if_icmp .ge 7, 12, 0, 0), (16, .iconst 0, 17, 0, 0), (17, .ireturn, 18, 0, 0)])]
def zc_X12_free : List (Nat × List zx_E) := [(26, [(0, .aload_n 0, 1, 0, 0), (1, .iload_n 1, 2, 0, 0), (2, .iload_n 2, 3, 0, 0), (3, .invokevirtual 460, 6, 61, 0), (6, .ifCond .eq 18, 9, 0, 0), (24, .iconst (-1), 25, 0, 0), (25, .ireturn, 26, 0, 0)])]
def zc_X12_isPlace : List (Nat × List zx_E) := [(37, [(0, .aload_n 0, 1, 0, 0), (1, .iload_n 1, 2, 0, 0), (2, .invokevirtual 457, 5, 62, 0), (5, .ifCond .eq 30, 8, 0, 0), (35, .iconst 0, 36, 0, 0), (36, .ireturn, 37, 0, 0)])]
def zc_X12_isLane : List (Nat × List zx_E) := [(17, [(0, .iload_n 1, 1, 0, 0), (1, .iconst 0, 2, 0, 0), (2, .aload_n 0, 3, 0, 0), (3, .getfield 20, 6, 12, 11), (6, .aload_n 0, 7, 0, 0), (7, .getfield 300, 10, 12, 43), (10, .iaload, 11, 0, 0), (11, .iconst 1, 12, 0, 0), (12, .isub, 13, 0, 0), (13, .invokestatic 400, 16, 52, 0), (16, .ireturn, 17, 0, 0)])]
def zc_X11_pairs : List (Nat × List zx_E) := [(123, [(0, .iload_n 1, 1, 0, 0), (1, .invokestatic 181, 4, 64, 0), (4, .ifCond .ne 5, 7, 0, 0), (7, .iconst (-1), 8, 0, 0), (8, .ireturn, 9, 0, 0), (9, .iconst 0, 10, 0, 0), (10, .istore_n 2, 11, 0, 0), (11, .iconst 0, 12, 0, 0), (12, .istore_n 3, 13, 0, 0), (13, .iload_n 3, 14, 0, 0), (14, .aload_n 0, 15, 0, 0), (15, .getfield 74, 18, 11, 9), (18, .getfield 111, 21, 6, 9), (21, .if_icmp .ge 100, 24, 0, 0), (121, .iload_n 2, 122, 0, 0), (122, .ireturn, 123, 0, 0)])]
def zc_X11_isZeroOrOne : List (Nat × List zx_E) := [(15, [(0, .iload_n 0, 1, 0, 0), (1, .ifCond .eq 8, 4, 0, 0), (4, .iload_n 0, 5, 0, 0), (5, .iconst 1, 6, 0, 0), (6, .if_icmp .ne 7, 9, 0, 0), (9, .iconst 1, 10, 0, 0), (10, .goto 4, 13, 0, 0), (13, .iconst 0, 14, 0, 0), (14, .ireturn, 15, 0, 0)])]
def zc_X12_pairs : List (Nat × List zx_E) := [(107, [(0, .iload_n 1, 1, 0, 0), (1, .iconst 0, 2, 0, 0), (2, .iconst 1, 3, 0, 0), (3, .invokestatic 400, 6, 52, 0), (6, .ifCond .ne 5, 9, 0, 0), (9, .iconst (-1), 10, 0, 0), (10, .ireturn, 11, 0, 0), (11, .iconst 0, 12, 0, 0), (12, .istore_n 2, 13, 0, 0), (13, .iconst 0, 14, 0, 0), (14, .istore_n 3, 15, 0, 0), (15, .iload_n 3, 16, 0, 0), (16, .aload_n 0, 17, 0, 0), (17, .invokevirtual 397, 20, 51, 0), (20, .if_icmp .ge 86, 23, 0, 0), (106, .iload_n 2, 107, 0, 0)]), (108, [(107, .ireturn, 108, 0, 0)])]
def zc_X11_oil : List (Nat × List zx_E) := [(28, [(0, .aload_n 0, 1, 0, 0), (1, .getfield 74, 4, 11, 9), (4, .iload_n 1, 5, 0, 0), (5, .invokevirtual 120, 8, 48, 0), (8, .ifCond .eq 18, 11, 0, 0), (26, .iconst (-1), 27, 0, 0), (27, .ireturn, 28, 0, 0)])]
def zc_X12_oil : List (Nat × List zx_E) := [(18, [(0, .aload_n 0, 1, 0, 0), (1, .iload_n 1, 2, 0, 0), (2, .invokevirtual 441, 5, 50, 0), (5, .ifCond .eq 11, 8, 0, 0), (16, .iconst (-1), 17, 0, 0), (17, .ireturn, 18, 0, 0)])]
def zc_X11_sum : List (Nat × List zx_E) := [(26, [(0, .iload_n 1, 1, 0, 0), (1, .ifCond .lt 8, 4, 0, 0), (4, .iload_n 1, 5, 0, 0), (5, .iconst 2, 6, 0, 0), (6, .if_icmp .le 5, 9, 0, 0), (9, .iconst (-1), 10, 0, 0), (10, .ireturn, 11, 0, 0), (11, .aload_n 0, 12, 0, 0), (12, .getfield 78, 15, 11, 10), (15, .aload_n 0, 16, 0, 0), (16, .getfield 74, 19, 11, 9), (19, .invokevirtual 162, 22, 70, 0), (22, .istore_n 2, 23, 0, 0), (23, .iload_n 1, 24, 0, 0), (24, .iconst 1, 25, 0, 0), (25, .if_icmp .ne 8, 28, 0, 0)]), (104, [(28, .iload_n 2, 29, 0, 0), (29, .invokestatic 188, 32, 73, 0), (32, .ireturn, 33, 0, 0), (33, .iconst 0, 34, 0, 0), (34, .istore_n 3, 35, 0, 0), (35, .iconst 0, 36, 0, 0), (36, .istore 4, 38, 0, 0), (38, .iload 4, 40, 0, 0), (40, .aload_n 0, 41, 0, 0), (41, .getfield 74, 44, 11, 9), (44, .getfield 111, 47, 6, 9), (47, .if_icmp .ge 55, 50, 0, 0), (102, .iload_n 3, 103, 0, 0), (103, .ireturn, 104, 0, 0)])]
def zc_X12_sum : List (Nat × List zx_E) := [(22, [(0, .iload_n 1, 1, 0, 0), (1, .iconst 0, 2, 0, 0), (2, .iconst 2, 3, 0, 0), (3, .invokestatic 400, 6, 52, 0), (6, .ifCond .ne 5, 9, 0, 0), (9, .iconst (-1), 10, 0, 0), (10, .ireturn, 11, 0, 0), (11, .iconst 0, 12, 0, 0), (12, .istore_n 2, 13, 0, 0), (13, .iconst 0, 14, 0, 0), (14, .istore_n 3, 15, 0, 0), (15, .iconst 0, 16, 0, 0), (16, .istore 4, 18, 0, 0), (18, .iconst 0, 19, 0, 0), (19, .istore 5, 21, 0, 0), (21, .iload 5, 23, 0, 0)]), (94, [(23, .aload_n 0, 24, 0, 0), (24, .invokevirtual 397, 27, 51, 0), (27, .if_icmp .ge 47, 30, 0, 0), (74, .iload_n 1, 75, 0, 0), (75, .ifCond .ne 7, 78, 0, 0), (78, .iload_n 2, 79, 0, 0), (79, .goto 14, 82, 0, 0), (82, .iload_n 1, 83, 0, 0), (83, .iconst 1, 84, 0, 0), (84, .if_icmp .ne 7, 87, 0, 0), (87, .iload_n 3, 88, 0, 0), (88, .goto 5, 91, 0, 0), (91, .iload 4, 93, 0, 0), (93, .ireturn, 94, 0, 0)])]
def zc_X8_openable : List (Nat × List zx_E) := [(49, [(0, .aload_n 0, 1, 0, 0), (1, .aload_n 1, 2, 0, 0), (2, .invokevirtual 61, 5, 71, 0), (5, .istore_n 2, 6, 0, 0), (6, .iconst 0, 7, 0, 0), (7, .istore_n 3, 8, 0, 0), (8, .iload_n 3, 9, 0, 0), (9, .aload_n 1, 10, 0, 0), (10, .getfield 65, 13, 6, 9), (13, .if_icmp .ge 34, 16, 0, 0), (47, .iload_n 2, 48, 0, 0), (48, .ireturn, 49, 0, 0)])]
def zc_X8_ready : List (Nat × List zx_E) := [(24, [(0, .aload_n 1, 1, 0, 0), (1, .invokevirtual 54, 4, 72, 0), (4, .aload_n 0, 5, 0, 0), (5, .getfield 9, 8, 8, 0), (8, .iconst (-1), 9, 0, 0), (9, .ixor, 10, 0, 0), (10, .iand, 11, 0, 0), (11, .aload_n 1, 12, 0, 0), (12, .getfield 58, 15, 6, 14), (15, .iconst (-1), 16, 0, 0), (16, .ixor, 17, 0, 0), (17, .iand, 18, 0, 0), (18, .aload_n 0, 19, 0, 0), (19, .getfield 15, 22, 8, 1), (22, .iconst (-1), 23, 0, 0), (23, .ixor, 24, 0, 0)]), (26, [(24, .iand, 25, 0, 0), (25, .ireturn, 26, 0, 0)])]
def zc_X6_allDoors : List (Nat × List zx_E) := [(9, [(0, .iconst 1, 1, 0, 0), (1, .aload_n 0, 2, 0, 0), (2, .getfield 44, 5, 6, 9), (5, .ishl, 6, 0, 0), (6, .iconst 1, 7, 0, 0), (7, .isub, 8, 0, 0), (8, .ireturn, 9, 0, 0)])]
def zc_J6_bitCount_0f7a4 : List (Nat × List zx_E) := [(22, [(0, .iload_n 0, 1, 0, 0), (1, .iload_n 0, 2, 0, 0), (2, .iconst 1, 3, 0, 0), (3, .iushr, 4, 0, 0), (4, .ldc_w 265, 7, 1431655765, 0), (7, .iand, 8, 0, 0), (8, .isub, 9, 0, 0), (9, .istore_n 0, 10, 0, 0), (10, .iload_n 0, 11, 0, 0), (11, .ldc_w 266, 14, 858993459, 0), (14, .iand, 15, 0, 0), (15, .iload_n 0, 16, 0, 0), (16, .iconst 2, 17, 0, 0), (17, .iushr, 18, 0, 0), (18, .ldc_w 266, 21, 858993459, 0), (21, .iand, 22, 0, 0)]), (41, [(22, .iadd, 23, 0, 0), (23, .istore_n 0, 24, 0, 0), (24, .iload_n 0, 25, 0, 0), (25, .iload_n 0, 26, 0, 0), (26, .iconst 4, 27, 0, 0), (27, .iushr, 28, 0, 0), (28, .iadd, 29, 0, 0), (29, .ldc_w 267, 32, 252645135, 0), (32, .iand, 33, 0, 0), (33, .istore_n 0, 34, 0, 0), (34, .iload_n 0, 35, 0, 0), (35, .iload_n 0, 36, 0, 0), (36, .bipush 8, 38, 0, 0), (38, .iushr, 39, 0, 0), (39, .iadd, 40, 0, 0), (40, .istore_n 0, 41, 0, 0)]), (53, [(41, .iload_n 0, 42, 0, 0), (42, .iload_n 0, 43, 0, 0), (43, .bipush 16, 45, 0, 0), (45, .iushr, 46, 0, 0), (46, .iadd, 47, 0, 0), (47, .istore_n 0, 48, 0, 0), (48, .iload_n 0, 49, 0, 0), (49, .bipush 63, 51, 0, 0), (51, .iand, 52, 0, 0), (52, .ireturn, 53, 0, 0)])]
def zc_X11_open : List (Nat × List zx_E) := [(31, [(0, .aload_n 0, 1, 0, 0), (1, .getfield 74, 4, 11, 9), (4, .iload_n 1, 5, 0, 0), (5, .invokevirtual 120, 8, 48, 0), (8, .ifCond .eq 21, 11, 0, 0), (29, .iconst (-1), 30, 0, 0), (30, .ireturn, 31, 0, 0)])]
def zc_X12_open : List (Nat × List zx_E) := [(33, [(0, .aload_n 0, 1, 0, 0), (1, .iload_n 1, 2, 0, 0), (2, .invokevirtual 441, 5, 50, 0), (5, .ifCond .eq 26, 8, 0, 0), (31, .iconst (-1), 32, 0, 0), (32, .ireturn, 33, 0, 0)])]
def zc_X11_shut : List (Nat × List zx_E) := [(37, [(0, .aload_n 0, 1, 0, 0), (1, .getfield 74, 4, 11, 9), (4, .iload_n 1, 5, 0, 0), (5, .invokevirtual 120, 8, 48, 0), (8, .ifCond .eq 27, 11, 0, 0), (35, .iconst 0, 36, 0, 0), (36, .ireturn, 37, 0, 0)])]
def zc_X12_shut : List (Nat × List zx_E) := [(39, [(0, .aload_n 0, 1, 0, 0), (1, .iload_n 1, 2, 0, 0), (2, .invokevirtual 441, 5, 50, 0), (5, .ifCond .eq 32, 8, 0, 0), (37, .iconst 0, 38, 0, 0), (38, .ireturn, 39, 0, 0)])]
def zc_X11_hinge : List (Nat × List zx_E) := [(31, [(0, .aload_n 0, 1, 0, 0), (1, .getfield 74, 4, 11, 9), (4, .iload_n 1, 5, 0, 0), (5, .invokevirtual 120, 8, 48, 0), (8, .ifCond .eq 21, 11, 0, 0), (29, .iconst (-1), 30, 0, 0), (30, .ireturn, 31, 0, 0)])]
def zc_X12_hinge : List (Nat × List zx_E) := [(18, [(0, .aload_n 0, 1, 0, 0), (1, .iload_n 1, 2, 0, 0), (2, .invokevirtual 441, 5, 50, 0), (5, .ifCond .eq 11, 8, 0, 0), (16, .iconst (-1), 17, 0, 0), (17, .ireturn, 18, 0, 0)])]
def zc_X11_off : List (Nat × List zx_E) := [(31, [(0, .aload_n 0, 1, 0, 0), (1, .getfield 74, 4, 11, 9), (4, .iload_n 1, 5, 0, 0), (5, .invokevirtual 120, 8, 48, 0), (8, .ifCond .eq 21, 11, 0, 0), (29, .iconst 0, 30, 0, 0), (30, .ireturn, 31, 0, 0)])]
def zc_X12_off : List (Nat × List zx_E) := [(18, [(0, .aload_n 0, 1, 0, 0), (1, .iload_n 1, 2, 0, 0), (2, .invokevirtual 441, 5, 50, 0), (5, .ifCond .eq 11, 8, 0, 0), (16, .iconst 0, 17, 0, 0), (17, .ireturn, 18, 0, 0)])]
def zc_X11_cart : List (Nat × List zx_E) := [(19, [(0, .aload_n 0, 1, 0, 0), (1, .iload_n 1, 2, 0, 0), (2, .iload_n 2, 3, 0, 0), (3, .iload_n 3, 4, 0, 0), (4, .iload 4, 6, 0, 0), (6, .invokevirtual 206, 9, 83, 0), (9, .istore 5, 11, 0, 0), (11, .iload 5, 13, 0, 0), (13, .iconst (-1), 14, 0, 0), (14, .if_icmp .ne 5, 17, 0, 0), (17, .iconst (-1), 18, 0, 0), (18, .ireturn, 19, 0, 0)])]
def zc_X11_pushedShut : List (Nat × List zx_E) := [(41, [(0, .aload_n 0, 1, 0, 0), (1, .getfield 74, 4, 11, 9), (4, .iload_n 1, 5, 0, 0), (5, .iload_n 2, 6, 0, 0), (6, .invokevirtual 170, 9, 58, 0), (9, .iconst (-1), 10, 0, 0), (10, .if_icmp .eq 29, 13, 0, 0), (39, .iconst (-1), 40, 0, 0), (40, .ireturn, 41, 0, 0)])]
def zc_X12_cart : List (Nat × List zx_E) := [(18, [(0, .aload_n 0, 1, 0, 0), (1, .iload_n 1, 2, 0, 0), (2, .iload_n 2, 3, 0, 0), (3, .iload_n 3, 4, 0, 0), (4, .iload 4, 6, 0, 0), (6, .invokevirtual 478, 9, 85, 0), (9, .istore 5, 11, 0, 0), (11, .iload 5, 13, 0, 0), (13, .ifCond .ge 5, 16, 0, 0), (16, .iconst (-1), 17, 0, 0), (17, .ireturn, 18, 0, 0)])]
def zc_X12_pushedBy : List (Nat × List zx_E) := [(36, [(0, .aload_n 0, 1, 0, 0), (1, .iload_n 1, 2, 0, 0), (2, .iload_n 2, 3, 0, 0), (3, .invokevirtual 460, 6, 61, 0), (6, .ifCond .eq 28, 9, 0, 0), (34, .iconst (-1), 35, 0, 0), (35, .ireturn, 36, 0, 0)])]
def zc_X11_day : List (Nat × List zx_E) := [(36, [(0, .aload_n 0, 1, 0, 0), (1, .getfield 78, 4, 11, 10), (4, .getfield 210, 7, 8, 4), (7, .sipush 9999, 10, 0, 0), (10, .if_icmp .lt 5, 13, 0, 0), (15, .aload_n 0, 16, 0, 0), (16, .getfield 28, 19, 11, 2), (19, .aload_n 0, 20, 0, 0), (20, .getfield 78, 23, 11, 10), (23, .invokevirtual 196, 26, 87, 0), (26, .aload_n 0, 27, 0, 0), (27, .getfield 78, 30, 11, 10), (30, .dup, 31, 0, 0), (31, .getfield 210, 34, 8, 4), (34, .iconst 1, 35, 0, 0), (35, .iadd, 36, 0, 0)]), (47, [(36, .putfield 210, 39, 8, 4), (39, .aload_n 0, 40, 0, 0), (40, .getfield 78, 43, 11, 10), (43, .getfield 210, 46, 8, 4), (46, .ireturn, 47, 0, 0)])]
def zc_X2_keep : List (Nat × List zx_E) := [(52, [(0, .aload_n 0, 1, 0, 0), (1, .getfield 21, 4, 2, 2), (4, .bipush 40, 6, 0, 0), (6, .if_icmp .ne 26, 9, 0, 0), (32, .aload_n 0, 33, 0, 0), (33, .getfield 11, 36, 2, 0), (36, .aload_n 0, 37, 0, 0), (37, .aload_n 0, 38, 0, 0), (38, .getfield 21, 41, 2, 2), (41, .invokevirtual 28, 44, 88, 0), (44, .aaload, 45, 0, 0), (45, .aload_n 1, 46, 0, 0), (46, .invokevirtual 32, 49, 90, 0), (49, .aload_n 0, 50, 0, 0), (50, .dup, 51, 0, 0), (51, .getfield 21, 54, 2, 2)]), (68, [(54, .iconst 1, 55, 0, 0), (55, .iadd, 56, 0, 0), (56, .putfield 21, 59, 2, 2), (59, .aload_n 0, 60, 0, 0), (60, .aload_n 0, 61, 0, 0), (61, .getfield 21, 64, 2, 2), (64, .putfield 24, 67, 2, 3), (67, .return_, 68, 0, 0)])]
def zc_X2_at : List (Nat × List zx_E) := [(12, [(0, .aload_n 0, 1, 0, 0), (1, .getfield 17, 4, 2, 1), (4, .iload_n 1, 5, 0, 0), (5, .iadd, 6, 0, 0), (6, .bipush 40, 8, 0, 0), (8, .invokestatic 40, 11, 89, 0), (11, .ireturn, 12, 0, 0)])]
def zc_J9_floorMod_7cf53 : List (Nat × List zx_E) := [(20, [(0, .iload_n 0, 1, 0, 0), (1, .iload_n 1, 2, 0, 0), (2, .irem, 3, 0, 0), (3, .istore_n 2, 4, 0, 0), (4, .iload_n 0, 5, 0, 0), (5, .iload_n 1, 6, 0, 0), (6, .ixor, 7, 0, 0), (7, .ifCond .ge 11, 10, 0, 0), (18, .iload_n 2, 19, 0, 0), (19, .ireturn, 20, 0, 0)])]
def zc_X8_copy : List (Nat × List zx_E) := [(30, [(0, .aload_n 0, 1, 0, 0), (1, .aload_n 1, 2, 0, 0), (2, .getfield 9, 5, 8, 0), (5, .putfield 9, 8, 8, 0), (8, .aload_n 0, 9, 0, 0), (9, .aload_n 1, 10, 0, 0), (10, .getfield 15, 13, 8, 1), (13, .putfield 15, 16, 8, 1), (16, .aload_n 0, 17, 0, 0), (17, .aload_n 1, 18, 0, 0), (18, .getfield 18, 21, 8, 2), (21, .putfield 18, 24, 8, 2), (24, .aload_n 0, 25, 0, 0), (25, .aload_n 1, 26, 0, 0), (26, .getfield 21, 29, 8, 3), (29, .putfield 21, 32, 8, 3)]), (61, [(32, .aload_n 0, 33, 0, 0), (33, .aload_n 1, 34, 0, 0), (34, .getfield 24, 37, 8, 4), (37, .putfield 24, 40, 8, 4), (40, .aload_n 0, 41, 0, 0), (41, .aload_n 1, 42, 0, 0), (42, .getfield 27, 45, 8, 5), (45, .putfield 27, 48, 8, 5), (48, .aload_n 1, 49, 0, 0), (49, .getfield 30, 52, 8, 6), (52, .iconst 0, 53, 0, 0), (53, .aload_n 0, 54, 0, 0), (54, .getfield 30, 57, 8, 6), (57, .iconst 0, 58, 0, 0), (58, .bipush 10, 60, 0, 0), (60, .invokestatic 48, 63, 9001, 0)]), (64, [(63, .return_, 64, 0, 0)])]
def zc_X12_day : List (Nat × List zx_E) := [(30, [(0, .aload_n 0, 1, 0, 0), (1, .getfield 119, 4, 12, 49), (4, .bipush 14, 6, 0, 0), (6, .iaload, 7, 0, 0), (7, .sipush 9999, 10, 0, 0), (10, .if_icmp .ne 5, 13, 0, 0), (15, .aload_n 0, 16, 0, 0), (16, .invokevirtual 472, 19, 92, 0), (19, .aload_n 0, 20, 0, 0), (20, .getfield 119, 23, 12, 49), (23, .bipush 14, 25, 0, 0), (25, .dup2, 26, 0, 0), (26, .iaload, 27, 0, 0), (27, .iconst 1, 28, 0, 0), (28, .iadd, 29, 0, 0), (29, .iastore, 30, 0, 0)]), (38, [(30, .aload_n 0, 31, 0, 0), (31, .getfield 119, 34, 12, 49), (34, .bipush 14, 36, 0, 0), (36, .iaload, 37, 0, 0), (37, .ireturn, 38, 0, 0)])]
def zc_X12_keepAct : List (Nat × List zx_E) := [(69, [(0, .aload_n 0, 1, 0, 0), (1, .getfield 429, 4, 12, 52), (4, .bipush 40, 6, 0, 0), (6, .if_icmp .ne 43, 9, 0, 0), (49, .iconst 0, 50, 0, 0), (50, .istore_n 1, 51, 0, 0), (51, .iload_n 1, 52, 0, 0), (52, .bipush 16, 54, 0, 0), (54, .if_icmp .ge 29, 57, 0, 0), (57, .aload_n 0, 58, 0, 0), (58, .getfield 125, 61, 12, 51), (61, .bipush 16, 63, 0, 0), (63, .aload_n 0, 64, 0, 0), (64, .getfield 429, 67, 12, 52), (67, .imul, 68, 0, 0), (68, .iload_n 1, 69, 0, 0)]), (95, [(69, .iadd, 70, 0, 0), (70, .aload_n 0, 71, 0, 0), (71, .getfield 119, 74, 12, 49), (74, .iload_n 1, 75, 0, 0), (75, .iaload, 76, 0, 0), (76, .iastore, 77, 0, 0), (77, .iinc 1 1, 80, 0, 0), (80, .goto (-29), 83, 0, 0), (83, .aload_n 0, 84, 0, 0), (84, .dup, 85, 0, 0), (85, .getfield 429, 88, 12, 52), (88, .iconst 1, 89, 0, 0), (89, .iadd, 90, 0, 0), (90, .putfield 429, 93, 12, 52), (93, .aload_n 0, 94, 0, 0), (94, .iconst 0, 95, 0, 0)]), (99, [(95, .putfield 432, 98, 12, 53), (98, .return_, 99, 0, 0)])]
def zc_X11_wind : List (Nat × List zx_E) := [(23, [(0, .aload_n 0, 1, 0, 0), (1, .getfield 28, 4, 11, 2), (4, .aload_n 0, 5, 0, 0), (5, .getfield 78, 8, 11, 10), (8, .invokevirtual 196, 11, 87, 0), (11, .aload_n 0, 12, 0, 0), (12, .getfield 78, 15, 11, 10), (15, .aload_n 0, 16, 0, 0), (16, .getfield 74, 19, 11, 9), (19, .invokevirtual 213, 22, 94, 0), (22, .ireturn, 23, 0, 0)])]
def zc_X8_blow : List (Nat × List zx_E) := [(27, [(0, .aload_n 0, 1, 0, 0), (1, .aload_n 0, 2, 0, 0), (2, .getfield 27, 5, 8, 5), (5, .sipush 137, 8, 0, 0), (8, .imul, 9, 0, 0), (9, .bipush 71, 11, 0, 0), (11, .iadd, 12, 0, 0), (12, .sipush 1000, 15, 0, 0), (15, .irem, 16, 0, 0), (16, .putfield 27, 19, 8, 5), (19, .aload_n 0, 20, 0, 0), (20, .getfield 9, 23, 8, 0), (23, .istore_n 2, 24, 0, 0), (24, .iconst 0, 25, 0, 0), (25, .istore_n 3, 26, 0, 0), (26, .iload_n 3, 27, 0, 0)]), (115, [(27, .aload_n 1, 28, 0, 0), (28, .getfield 65, 31, 6, 9), (31, .if_icmp .ge 75, 34, 0, 0), (106, .aload_n 0, 107, 0, 0), (107, .getfield 9, 110, 8, 0), (110, .iload_n 2, 111, 0, 0), (111, .iconst (-1), 112, 0, 0), (112, .ixor, 113, 0, 0), (113, .iand, 114, 0, 0), (114, .ireturn, 115, 0, 0)])]
def zc_X12_wind : List (Nat × List zx_E) := [(28, [(0, .aload_n 0, 1, 0, 0), (1, .invokevirtual 472, 4, 92, 0), (4, .aload_n 0, 5, 0, 0), (5, .aload_n 0, 6, 0, 0), (6, .getfield 119, 9, 12, 49), (9, .iconst 2, 10, 0, 0), (10, .iaload, 11, 0, 0), (11, .invokevirtual 447, 14, 96, 0), (14, .aload_n 0, 15, 0, 0), (15, .getfield 119, 18, 12, 49), (18, .bipush 15, 20, 0, 0), (20, .aload_n 0, 21, 0, 0), (21, .aload_n 0, 22, 0, 0), (22, .getfield 119, 25, 12, 49), (25, .bipush 15, 27, 0, 0), (27, .iaload, 28, 0, 0)]), (55, [(28, .invokevirtual 482, 31, 97, 0), (31, .iastore, 32, 0, 0), (32, .aload_n 0, 33, 0, 0), (33, .aload_n 0, 34, 0, 0), (34, .getfield 119, 37, 12, 49), (37, .iconst 0, 38, 0, 0), (38, .iaload, 39, 0, 0), (39, .aload_n 0, 40, 0, 0), (40, .getfield 119, 43, 12, 49), (43, .bipush 15, 45, 0, 0), (45, .iaload, 46, 0, 0), (46, .invokevirtual 485, 49, 98, 0), (49, .istore_n 1, 50, 0, 0), (50, .aload_n 0, 51, 0, 0), (51, .getfield 119, 54, 12, 49), (54, .iconst 0, 55, 0, 0)]), (94, [(55, .dup2, 56, 0, 0), (56, .iaload, 57, 0, 0), (57, .iload_n 1, 58, 0, 0), (58, .ior, 59, 0, 0), (59, .iastore, 60, 0, 0), (60, .iconst 0, 61, 0, 0), (61, .istore_n 2, 62, 0, 0), (62, .iload_n 2, 63, 0, 0), (63, .aload_n 0, 64, 0, 0), (64, .invokevirtual 397, 67, 51, 0), (67, .if_icmp .ge 25, 70, 0, 0), (92, .iload_n 1, 93, 0, 0), (93, .ireturn, 94, 0, 0)])]
def zc_X12_layHinderers : List (Nat × List zx_E) := [(62, [(0, .iconst 0, 1, 0, 0), (1, .istore_n 2, 2, 0, 0), (2, .iload_n 2, 3, 0, 0), (3, .aload_n 0, 4, 0, 0), (4, .invokevirtual 397, 7, 51, 0), (7, .if_icmp .ge 54, 10, 0, 0), (61, .return_, 62, 0, 0)])]
def zc_X12_blows : List (Nat × List zx_E) := [(13, [(0, .sipush 137, 3, 0, 0), (3, .iload_n 1, 4, 0, 0), (4, .imul, 5, 0, 0), (5, .bipush 71, 7, 0, 0), (7, .iadd, 8, 0, 0), (8, .sipush 1000, 11, 0, 0), (11, .irem, 12, 0, 0), (12, .ireturn, 13, 0, 0)])]
def zc_X12_blownBy : List (Nat × List zx_E) := [(25, [(0, .iload_n 1, 1, 0, 0), (1, .istore_n 3, 2, 0, 0), (2, .aload_n 0, 3, 0, 0), (3, .invokevirtual 451, 6, 99, 0), (6, .aload_n 0, 7, 0, 0), (7, .getfield 81, 10, 12, 31), (10, .aload_n 0, 11, 0, 0), (11, .getfield 300, 14, 12, 43), (14, .iaload, 15, 0, 0), (15, .iand, 16, 0, 0), (16, .istore 4, 18, 0, 0), (18, .iconst 0, 19, 0, 0), (19, .istore 5, 21, 0, 0), (21, .iload 5, 23, 0, 0), (23, .aload_n 0, 24, 0, 0), (24, .invokevirtual 397, 27, 51, 0)]), (83, [(27, .if_icmp .ge 50, 30, 0, 0), (77, .iload_n 3, 78, 0, 0), (78, .iload_n 1, 79, 0, 0), (79, .iconst (-1), 80, 0, 0), (80, .ixor, 81, 0, 0), (81, .iand, 82, 0, 0), (82, .ireturn, 83, 0, 0)])]
def zc_X12_moving : List (Nat × List zx_E) := [(22, [(0, .iconst 1, 1, 0, 0), (1, .aload_n 0, 2, 0, 0), (2, .invokevirtual 397, 5, 51, 0), (5, .ishl, 6, 0, 0), (6, .iconst 1, 7, 0, 0), (7, .isub, 8, 0, 0), (8, .aload_n 0, 9, 0, 0), (9, .getfield 84, 12, 12, 32), (12, .aload_n 0, 13, 0, 0), (13, .getfield 300, 16, 12, 43), (16, .iaload, 17, 0, 0), (17, .iconst (-1), 18, 0, 0), (18, .ixor, 19, 0, 0), (19, .iand, 20, 0, 0), (20, .aload_n 0, 21, 0, 0), (21, .getfield 119, 24, 12, 49)]), (30, [(24, .iconst 1, 25, 0, 0), (25, .iaload, 26, 0, 0), (26, .iconst (-1), 27, 0, 0), (27, .ixor, 28, 0, 0), (28, .iand, 29, 0, 0), (29, .ireturn, 30, 0, 0)])]
def zc_X11_undo : List (Nat × List zx_E) := [(12, [(0, .aload_n 0, 1, 0, 0), (1, .getfield 28, 4, 11, 2), (4, .invokevirtual 216, 7, 101, 0), (7, .ifCond .ne 5, 10, 0, 0), (10, .iconst 0, 11, 0, 0), (11, .ireturn, 12, 0, 0)])]
def zc_X2_done : List (Nat × List zx_E) := [(5, [(0, .aload_n 0, 1, 0, 0), (1, .getfield 21, 4, 2, 2), (4, .ireturn, 5, 0, 0)])]
def zc_X12_undo : List (Nat × List zx_E) := [(9, [(0, .aload_n 0, 1, 0, 0), (1, .getfield 429, 4, 12, 52), (4, .ifCond .ne 5, 7, 0, 0), (7, .iconst 0, 8, 0, 0), (8, .ireturn, 9, 0, 0)])]
def zc_X11_redo : List (Nat × List zx_E) := [(12, [(0, .aload_n 0, 1, 0, 0), (1, .getfield 28, 4, 11, 2), (4, .invokevirtual 224, 7, 104, 0), (7, .ifCond .ne 5, 10, 0, 0), (10, .iconst 0, 11, 0, 0), (11, .ireturn, 12, 0, 0)])]
def zc_X2_undone : List (Nat × List zx_E) := [(10, [(0, .aload_n 0, 1, 0, 0), (1, .getfield 24, 4, 2, 3), (4, .aload_n 0, 5, 0, 0), (5, .getfield 21, 8, 2, 2), (8, .isub, 9, 0, 0), (9, .ireturn, 10, 0, 0)])]
def zc_X12_redo : List (Nat × List zx_E) := [(9, [(0, .aload_n 0, 1, 0, 0), (1, .getfield 432, 4, 12, 53), (4, .ifCond .ne 5, 7, 0, 0), (7, .iconst 0, 8, 0, 0), (8, .ireturn, 9, 0, 0)])]
def zc_X11_orders : List (Nat × List zx_E) := [(30, [(0, .aload_n 0, 1, 0, 0), (1, .getfield 67, 4, 11, 8), (4, .invokevirtual 108, 7, 40, 0), (7, .aload_n 0, 8, 0, 0), (8, .iload_n 1, 9, 0, 0), (9, .invokevirtual 230, 12, 107, 0), (12, .ifCond .ne 5, 15, 0, 0), (15, .iconst (-1), 16, 0, 0), (16, .ireturn, 17, 0, 0), (17, .aload_n 0, 18, 0, 0), (18, .getfield 53, 21, 11, 6), (21, .aload_n 0, 22, 0, 0), (22, .getfield 74, 25, 11, 9), (25, .aload_n 0, 26, 0, 0), (26, .getfield 78, 29, 11, 10), (29, .getfield 134, 32, 8, 2)]), (66, [(32, .invokevirtual 233, 35, 109, 0), (35, .aload_n 0, 36, 0, 0), (36, .getfield 53, 39, 11, 6), (39, .aload_n 0, 40, 0, 0), (40, .getfield 78, 43, 11, 10), (43, .getfield 147, 46, 8, 0), (46, .aload_n 0, 47, 0, 0), (47, .getfield 78, 50, 11, 10), (50, .aload_n 0, 51, 0, 0), (51, .getfield 74, 54, 11, 9), (54, .invokevirtual 203, 57, 71, 0), (57, .invokevirtual 237, 60, 111, 0), (60, .aload_n 0, 61, 0, 0), (61, .getfield 53, 64, 11, 6), (64, .iload_n 1, 65, 0, 0), (65, .invokevirtual 241, 68, 112, 0)]), (83, [(68, .istore_n 2, 69, 0, 0), (69, .aload_n 0, 70, 0, 0), (70, .getfield 53, 73, 11, 6), (73, .iload_n 1, 74, 0, 0), (74, .aload_n 0, 75, 0, 0), (75, .getfield 67, 78, 11, 8), (78, .invokevirtual 244, 81, 113, 0), (81, .iload_n 2, 82, 0, 0), (82, .ireturn, 83, 0, 0)])]
def zc_X11_isShutSet : List (Nat × List zx_E) := [(22, [(0, .iload_n 1, 1, 0, 0), (1, .aload_n 0, 2, 0, 0), (2, .getfield 74, 5, 11, 9), (5, .invokevirtual 323, 8, 72, 0), (8, .aload_n 0, 9, 0, 0), (9, .getfield 78, 12, 11, 10), (12, .getfield 147, 15, 8, 0), (15, .iconst (-1), 16, 0, 0), (16, .ixor, 17, 0, 0), (17, .iand, 18, 0, 0), (18, .invokestatic 319, 21, 108, 0), (21, .ireturn, 22, 0, 0)])]
def zc_X11_isPart : List (Nat × List zx_E) := [(14, [(0, .iload_n 0, 1, 0, 0), (1, .iload_n 1, 2, 0, 0), (2, .iconst (-1), 3, 0, 0), (3, .ixor, 4, 0, 0), (4, .iand, 5, 0, 0), (5, .ifCond .ne 7, 8, 0, 0), (8, .iconst 1, 9, 0, 0), (9, .goto 4, 12, 0, 0), (12, .iconst 0, 13, 0, 0), (13, .ireturn, 14, 0, 0)])]
def zc_X4_look : List (Nat × List zx_E) := [(27, [(0, .iconst 0, 1, 0, 0), (1, .istore_n 3, 2, 0, 0), (2, .iload_n 3, 3, 0, 0), (3, .bipush 10, 5, 0, 0), (5, .if_icmp .ge 21, 8, 0, 0), (8, .aload_n 0, 9, 0, 0), (9, .getfield 9, 12, 4, 0), (12, .iload_n 3, 13, 0, 0), (13, .aload_n 1, 14, 0, 0), (14, .iload_n 3, 15, 0, 0), (15, .iload_n 2, 16, 0, 0), (16, .invokevirtual 35, 19, 110, 0), (19, .iastore, 20, 0, 0), (20, .iinc 3 1, 23, 0, 0), (23, .goto (-21), 26, 0, 0), (26, .return_, 27, 0, 0)])]
def zc_X6_hinderers : List (Nat × List zx_E) := [(40, [(0, .iconst 0, 1, 0, 0), (1, .istore_n 3, 2, 0, 0), (2, .iconst 0, 3, 0, 0), (3, .istore 4, 5, 0, 0), (5, .iload 4, 7, 0, 0), (7, .aload_n 0, 8, 0, 0), (8, .getfield 44, 11, 6, 9), (11, .if_icmp .ge 27, 14, 0, 0), (38, .iload_n 3, 39, 0, 0), (39, .ireturn, 40, 0, 0)])]
def zc_X4_startFrom : List (Nat × List zx_E) := [(27, [(0, .aload_n 0, 1, 0, 0), (1, .iload_n 1, 2, 0, 0), (2, .sipush 1023, 5, 0, 0), (5, .iand, 6, 0, 0), (6, .putfield 28, 9, 4, 5), (9, .aload_n 0, 10, 0, 0), (10, .iload_n 2, 11, 0, 0), (11, .sipush 1023, 14, 0, 0), (14, .iand, 15, 0, 0), (15, .putfield 32, 18, 4, 6), (18, .aload_n 0, 19, 0, 0), (19, .getfield 15, 22, 4, 1), (22, .iconst 0, 23, 0, 0), (23, .invokestatic 41, 26, 37, 0), (26, .return_, 27, 0, 0)])]
def zc_X4_countOrders : List (Nat × List zx_E) := [(32, [(0, .iload_n 1, 1, 0, 0), (1, .sipush 1023, 4, 0, 0), (4, .invokestatic 50, 7, 108, 1), (7, .ifCond .ne 5, 10, 0, 0), (12, .iload_n 1, 13, 0, 0), (13, .istore_n 2, 14, 0, 0), (14, .iload_n 2, 15, 0, 0), (15, .ifCond .lt 38, 18, 0, 0), (18, .iload_n 2, 19, 0, 0), (19, .iload_n 1, 20, 0, 0), (20, .invokestatic 50, 23, 108, 1), (23, .ifCond .eq 24, 26, 0, 0), (26, .aload_n 0, 27, 0, 0), (27, .getfield 21, 30, 4, 3), (30, .iload_n 2, 31, 0, 0), (31, .iload_n 2, 32, 0, 0)]), (60, [(32, .iload_n 1, 33, 0, 0), (33, .if_icmp .ne 7, 36, 0, 0), (36, .iconst 1, 37, 0, 0), (37, .goto 9, 40, 0, 0), (46, .iastore, 47, 0, 0), (47, .iinc 2 (-1), 50, 0, 0), (50, .goto (-36), 53, 0, 0), (53, .aload_n 0, 54, 0, 0), (54, .getfield 21, 57, 4, 3), (57, .iconst 0, 58, 0, 0), (58, .iaload, 59, 0, 0), (59, .ireturn, 60, 0, 0)])]
def zc_X4_pileFirstOrder : List (Nat × List zx_E) := [(31, [(0, .iload_n 1, 1, 0, 0), (1, .sipush 1023, 4, 0, 0), (4, .invokestatic 50, 7, 108, 1), (7, .ifCond .eq 12, 10, 0, 0), (10, .aload_n 0, 11, 0, 0), (11, .getfield 21, 14, 4, 3), (14, .iconst 0, 15, 0, 0), (15, .iaload, 16, 0, 0), (16, .ifCond .ne 4, 19, 0, 0), (20, .iconst 0, 21, 0, 0), (21, .istore_n 3, 22, 0, 0), (22, .iload_n 1, 23, 0, 0), (23, .invokestatic 64, 26, 73, 0), (26, .istore 4, 28, 0, 0), (28, .iload 4, 30, 0, 0), (30, .ifCond .le 39, 33, 0, 0)]), (70, [(69, .return_, 70, 0, 0)])]
def zc_X12_orders : List (Nat × List zx_E) := [(24, [(0, .aload_n 0, 1, 0, 0), (1, .iconst 0, 2, 0, 0), (2, .putfield 438, 5, 12, 57), (5, .aload_n 0, 6, 0, 0), (6, .iload_n 1, 7, 0, 0), (7, .invokevirtual 504, 10, 115, 0), (10, .ifCond .ne 5, 13, 0, 0), (13, .iconst (-1), 14, 0, 0), (14, .ireturn, 15, 0, 0), (15, .aload_n 0, 16, 0, 0), (16, .iload_n 1, 17, 0, 0), (17, .aload_n 0, 18, 0, 0), (18, .getfield 119, 21, 12, 49), (21, .iconst 2, 22, 0, 0), (22, .iaload, 23, 0, 0), (23, .invokevirtual 507, 26, 117, 0)]), (48, [(26, .istore_n 2, 27, 0, 0), (27, .iload_n 2, 28, 0, 0), (28, .ifCond .le 18, 31, 0, 0), (31, .aload_n 0, 32, 0, 0), (32, .iload_n 1, 33, 0, 0), (33, .aload_n 0, 34, 0, 0), (34, .getfield 119, 37, 12, 49), (37, .iconst 0, 38, 0, 0), (38, .iaload, 39, 0, 0), (39, .aload_n 0, 40, 0, 0), (40, .invokevirtual 451, 43, 99, 0), (43, .invokevirtual 510, 46, 120, 0), (46, .iload_n 2, 47, 0, 0), (47, .ireturn, 48, 0, 0)])]
def zc_X12_isShutSet : List (Nat × List zx_E) := [(25, [(0, .aload_n 0, 1, 0, 0), (1, .iload_n 1, 2, 0, 0), (2, .invokevirtual 501, 5, 116, 0), (5, .ifCond .eq 18, 8, 0, 0), (8, .iload_n 1, 9, 0, 0), (9, .aload_n 0, 10, 0, 0), (10, .getfield 119, 13, 12, 49), (13, .iconst 0, 14, 0, 0), (14, .iaload, 15, 0, 0), (15, .iand, 16, 0, 0), (16, .ifCond .ne 7, 19, 0, 0), (19, .iconst 1, 20, 0, 0), (20, .goto 4, 23, 0, 0), (23, .iconst 0, 24, 0, 0), (24, .ireturn, 25, 0, 0)])]
def zc_X12_isSet : List (Nat × List zx_E) := [(14, [(0, .iload_n 1, 1, 0, 0), (1, .iconst 0, 2, 0, 0), (2, .iconst 1, 3, 0, 0), (3, .aload_n 0, 4, 0, 0), (4, .invokevirtual 397, 7, 51, 0), (7, .ishl, 8, 0, 0), (8, .iconst 1, 9, 0, 0), (9, .isub, 10, 0, 0), (10, .invokestatic 400, 13, 52, 0), (13, .ireturn, 14, 0, 0)])]
def zc_X12_ordersBy : List (Nat × List zx_E) := [(25, [(0, .aload_n 0, 1, 0, 0), (1, .iload_n 2, 2, 0, 0), (2, .invokevirtual 447, 5, 96, 0), (5, .aload_n 0, 6, 0, 0), (6, .invokevirtual 495, 9, 118, 0), (9, .aload_n 0, 10, 0, 0), (10, .iload_n 1, 11, 0, 0), (11, .aload_n 0, 12, 0, 0), (12, .getfield 119, 15, 12, 49), (15, .iconst 0, 16, 0, 0), (16, .iaload, 17, 0, 0), (17, .aload_n 0, 18, 0, 0), (18, .invokevirtual 451, 21, 99, 0), (21, .invokevirtual 498, 24, 119, 0), (24, .ireturn, 25, 0, 0)])]
def zc_X12_clearAhead : List (Nat × List zx_E) := [(22, [(0, .iconst 0, 1, 0, 0), (1, .istore_n 1, 2, 0, 0), (2, .iload_n 1, 3, 0, 0), (3, .bipush 10, 5, 0, 0), (5, .if_icmp .ge 16, 8, 0, 0), (8, .aload_n 0, 9, 0, 0), (9, .getfield 131, 12, 12, 55), (12, .iload_n 1, 13, 0, 0), (13, .iconst 0, 14, 0, 0), (14, .iastore, 15, 0, 0), (15, .iinc 1 1, 18, 0, 0), (18, .goto (-16), 21, 0, 0), (21, .return_, 22, 0, 0)])]
def zc_X12_layWays : List (Nat × List zx_E) := [(30, [(0, .iload_n 1, 1, 0, 0), (1, .istore 4, 3, 0, 0), (3, .iload 4, 5, 0, 0), (5, .ifCond .lt 99, 8, 0, 0), (8, .aload_n 0, 9, 0, 0), (9, .getfield 128, 12, 12, 54), (12, .iload 4, 14, 0, 0), (14, .iload 4, 16, 0, 0), (16, .iload_n 1, 17, 0, 0), (17, .if_icmp .ne 7, 20, 0, 0), (20, .iconst 1, 21, 0, 0), (21, .goto 4, 24, 0, 0), (25, .iastore, 26, 0, 0), (26, .iload 4, 28, 0, 0), (28, .iload_n 1, 29, 0, 0), (29, .iand, 30, 0, 0)]), (111, [(30, .iload 4, 32, 0, 0), (32, .if_icmp .ne 66, 35, 0, 0), (35, .iload 4, 37, 0, 0), (37, .iload_n 1, 38, 0, 0), (38, .if_icmp .ne 6, 41, 0, 0), (41, .goto 57, 44, 0, 0), (98, .iinc 4 (-1), 101, 0, 0), (101, .goto (-98), 104, 0, 0), (104, .aload_n 0, 105, 0, 0), (105, .getfield 128, 108, 12, 54), (108, .iconst 0, 109, 0, 0), (109, .iaload, 110, 0, 0), (110, .ireturn, 111, 0, 0)])]
def zc_X12_layFirst : List (Nat × List zx_E) := [(86, [(0, .iconst 0, 1, 0, 0), (1, .istore 4, 3, 0, 0), (3, .aload_n 0, 4, 0, 0), (4, .iconst 0, 5, 0, 0), (5, .putfield 438, 8, 12, 57), (8, .iload 4, 10, 0, 0), (10, .iload_n 1, 11, 0, 0), (11, .if_icmp .eq 74, 14, 0, 0), (85, .return_, 86, 0, 0)])]
def zc_X11_most : List (Nat × List zx_E) := [(32, [(0, .iload_n 1, 1, 0, 0), (1, .invokestatic 181, 4, 64, 0), (4, .ifCond .ne 5, 7, 0, 0), (7, .iconst (-1), 8, 0, 0), (8, .ireturn, 9, 0, 0), (9, .aload_n 0, 10, 0, 0), (10, .aload_n 0, 11, 0, 0), (11, .getfield 78, 14, 11, 10), (14, .aload_n 0, 15, 0, 0), (15, .getfield 74, 18, 11, 9), (18, .invokevirtual 203, 21, 71, 0), (21, .aload_n 0, 22, 0, 0), (22, .getfield 78, 25, 11, 10), (25, .getfield 134, 28, 8, 2), (28, .invokevirtual 248, 31, 122, 0), (31, .iload_n 1, 32, 0, 0)]), (36, [(32, .invokestatic 251, 35, 125, 0), (35, .ireturn, 36, 0, 0)])]
def zc_X11_mostOpen : List (Nat × List zx_E) := [(32, [(0, .aload_n 0, 1, 0, 0), (1, .getfield 53, 4, 11, 6), (4, .aload_n 0, 5, 0, 0), (5, .getfield 74, 8, 11, 9), (8, .iload_n 2, 9, 0, 0), (9, .invokevirtual 233, 12, 109, 0), (12, .aload_n 0, 13, 0, 0), (13, .getfield 53, 16, 11, 6), (16, .aload_n 0, 17, 0, 0), (17, .getfield 78, 20, 11, 10), (20, .getfield 147, 23, 8, 0), (23, .iload_n 1, 24, 0, 0), (24, .invokevirtual 237, 27, 111, 0), (27, .aload_n 0, 28, 0, 0), (28, .getfield 53, 31, 11, 6), (31, .invokevirtual 375, 34, 123, 0)]), (35, [(34, .ireturn, 35, 0, 0)])]
def zc_X4_mostOpen : List (Nat × List zx_E) := [(50, [(0, .aload_n 0, 1, 0, 0), (1, .invokevirtual 88, 4, 124, 0), (4, .iconst 0, 5, 0, 0), (5, .istore_n 1, 6, 0, 0), (6, .iconst 1, 7, 0, 0), (7, .istore_n 2, 8, 0, 0), (8, .iload_n 2, 9, 0, 0), (9, .aload_n 0, 10, 0, 0), (10, .getfield 32, 13, 4, 6), (13, .if_icmp .gt 30, 16, 0, 0), (43, .aload_n 0, 44, 0, 0), (44, .getfield 28, 47, 4, 5), (47, .iload_n 1, 48, 0, 0), (48, .ior, 49, 0, 0), (49, .ireturn, 50, 0, 0)])]
def zc_X4_markReached : List (Nat × List zx_E) := [(72, [(0, .aload_n 0, 1, 0, 0), (1, .getfield 24, 4, 4, 4), (4, .iconst 0, 5, 0, 0), (5, .iconst 1, 6, 0, 0), (6, .bastore, 7, 0, 0), (7, .iconst 1, 8, 0, 0), (8, .istore_n 1, 9, 0, 0), (9, .iload_n 1, 10, 0, 0), (10, .aload_n 0, 11, 0, 0), (11, .getfield 32, 14, 4, 6), (14, .if_icmp .gt 57, 17, 0, 0), (71, .return_, 72, 0, 0)])]
def zc_X11_countOrBits : List (Nat × List zx_E) := [(13, [(0, .iload_n 1, 1, 0, 0), (1, .ifCond .ne 10, 4, 0, 0), (4, .iload_n 0, 5, 0, 0), (5, .invokestatic 188, 8, 73, 0), (8, .goto 4, 11, 0, 0), (11, .iload_n 0, 12, 0, 0), (12, .ireturn, 13, 0, 0)])]
def zc_X12_most : List (Nat × List zx_E) := [(26, [(0, .iload_n 1, 1, 0, 0), (1, .iconst 0, 2, 0, 0), (2, .iconst 1, 3, 0, 0), (3, .invokestatic 400, 6, 52, 0), (6, .ifCond .ne 5, 9, 0, 0), (9, .iconst (-1), 10, 0, 0), (10, .ireturn, 11, 0, 0), (11, .aload_n 0, 12, 0, 0), (12, .aload_n 0, 13, 0, 0), (13, .getfield 119, 16, 12, 49), (16, .iconst 2, 17, 0, 0), (17, .iaload, 18, 0, 0), (18, .aload_n 0, 19, 0, 0), (19, .invokevirtual 451, 22, 99, 0), (22, .invokevirtual 520, 25, 127, 0), (25, .istore_n 2, 26, 0, 0)]), (39, [(26, .iload_n 1, 27, 0, 0), (27, .ifCond .ne 10, 30, 0, 0), (30, .iload_n 2, 31, 0, 0), (31, .invokestatic 517, 34, 129, 0), (34, .goto 4, 37, 0, 0), (37, .iload_n 2, 38, 0, 0), (38, .ireturn, 39, 0, 0)])]
def zc_X12_mostBy : List (Nat × List zx_E) := [(23, [(0, .aload_n 0, 1, 0, 0), (1, .aload_n 0, 2, 0, 0), (2, .getfield 119, 5, 12, 49), (5, .iconst 0, 6, 0, 0), (6, .iaload, 7, 0, 0), (7, .iload_n 1, 8, 0, 0), (8, .iload_n 2, 9, 0, 0), (9, .invokevirtual 514, 12, 128, 0), (12, .aload_n 0, 13, 0, 0), (13, .getfield 119, 16, 12, 49), (16, .iconst 0, 17, 0, 0), (17, .iaload, 18, 0, 0), (18, .istore_n 3, 19, 0, 0), (19, .iconst 0, 20, 0, 0), (20, .istore 4, 22, 0, 0), (22, .iload 4, 24, 0, 0)]), (59, [(24, .iconst 1, 25, 0, 0), (25, .aload_n 0, 26, 0, 0), (26, .invokevirtual 397, 29, 51, 0), (29, .ishl, 30, 0, 0), (30, .if_icmp .ge 34, 33, 0, 0), (33, .aload_n 0, 34, 0, 0), (34, .getfield 137, 37, 12, 58), (37, .iload 4, 39, 0, 0), (39, .baload, 40, 0, 0), (40, .ifCond .eq 18, 43, 0, 0), (43, .iload 4, 45, 0, 0), (45, .invokestatic 517, 48, 129, 0), (48, .iload_n 3, 49, 0, 0), (49, .invokestatic 517, 52, 129, 0), (52, .if_icmp .le 6, 55, 0, 0), (58, .iinc 4 1, 61, 0, 0)]), (66, [(61, .goto (-39), 64, 0, 0), (64, .iload_n 3, 65, 0, 0), (65, .ireturn, 66, 0, 0)])]
def zc_X12_layComes : List (Nat × List zx_E) := [(30, [(0, .aload_n 0, 1, 0, 0), (1, .iload_n 2, 2, 0, 0), (2, .invokevirtual 447, 5, 96, 0), (5, .iconst 0, 6, 0, 0), (6, .istore 4, 8, 0, 0), (8, .iload 4, 10, 0, 0), (10, .sipush 1024, 13, 0, 0), (13, .if_icmp .ge 27, 16, 0, 0), (16, .aload_n 0, 17, 0, 0), (17, .getfield 137, 20, 12, 58), (20, .iload 4, 22, 0, 0), (22, .iload 4, 24, 0, 0), (24, .iload_n 1, 25, 0, 0), (25, .if_icmp .ne 7, 28, 0, 0), (28, .iconst 1, 29, 0, 0), (29, .goto 4, 32, 0, 0)]), (60, [(32, .iconst 0, 33, 0, 0), (33, .bastore, 34, 0, 0), (34, .iinc 4 1, 37, 0, 0), (37, .goto (-29), 40, 0, 0), (40, .iload_n 1, 41, 0, 0), (41, .istore 4, 43, 0, 0), (43, .iload 4, 45, 0, 0), (45, .iconst 1, 46, 0, 0), (46, .aload_n 0, 47, 0, 0), (47, .invokevirtual 397, 50, 51, 0), (50, .ishl, 51, 0, 0), (51, .if_icmp .ge 62, 54, 0, 0), (54, .iconst 0, 55, 0, 0), (55, .istore 5, 57, 0, 0), (57, .iload 5, 59, 0, 0), (59, .aload_n 0, 60, 0, 0)]), (114, [(60, .invokevirtual 397, 63, 51, 0), (63, .if_icmp .ge 44, 66, 0, 0), (107, .iinc 4 1, 110, 0, 0), (110, .goto (-67), 113, 0, 0), (113, .return_, 114, 0, 0)])]
def zc_X12_bitsOf : List (Nat × List zx_E) := [(22, [(0, .iconst 0, 1, 0, 0), (1, .istore_n 1, 2, 0, 0), (2, .iload_n 0, 3, 0, 0), (3, .istore_n 2, 4, 0, 0), (4, .iload_n 2, 5, 0, 0), (5, .ifCond .eq 15, 8, 0, 0), (20, .iload_n 1, 21, 0, 0), (21, .ireturn, 22, 0, 0)])]
def zc_X11_stuck : List (Nat × List zx_E) := [(32, [(0, .iload_n 1, 1, 0, 0), (1, .invokestatic 181, 4, 64, 0), (4, .ifCond .ne 5, 7, 0, 0), (7, .iconst (-1), 8, 0, 0), (8, .ireturn, 9, 0, 0), (9, .aload_n 0, 10, 0, 0), (10, .getfield 53, 13, 11, 6), (13, .aload_n 0, 14, 0, 0), (14, .getfield 74, 17, 11, 9), (17, .aload_n 0, 18, 0, 0), (18, .getfield 78, 21, 11, 10), (21, .getfield 134, 24, 8, 2), (24, .invokevirtual 233, 27, 109, 0), (27, .aload_n 0, 28, 0, 0), (28, .getfield 53, 31, 11, 6), (31, .aload_n 0, 32, 0, 0)]), (64, [(32, .getfield 78, 35, 11, 10), (35, .getfield 147, 38, 8, 0), (38, .aload_n 0, 39, 0, 0), (39, .getfield 78, 42, 11, 10), (42, .aload_n 0, 43, 0, 0), (43, .getfield 74, 46, 11, 9), (46, .invokevirtual 203, 49, 71, 0), (49, .invokevirtual 237, 52, 111, 0), (52, .aload_n 0, 53, 0, 0), (53, .getfield 53, 56, 11, 6), (56, .invokevirtual 254, 59, 131, 0), (59, .iload_n 1, 60, 0, 0), (60, .invokestatic 251, 63, 125, 0), (63, .ireturn, 64, 0, 0)])]
def zc_X4_fewestStuck : List (Nat × List zx_E) := [(26, [(0, .aload_n 0, 1, 0, 0), (1, .invokevirtual 88, 4, 124, 0), (4, .iconst (-1), 5, 0, 0), (5, .istore_n 1, 6, 0, 0), (6, .iconst 0, 7, 0, 0), (7, .istore_n 2, 8, 0, 0), (8, .iload_n 2, 9, 0, 0), (9, .aload_n 0, 10, 0, 0), (10, .getfield 32, 13, 4, 6), (13, .if_icmp .gt 43, 16, 0, 0), (16, .aload_n 0, 17, 0, 0), (17, .iload_n 2, 18, 0, 0), (18, .invokevirtual 91, 21, 132, 0), (21, .ifCond .eq 29, 24, 0, 0), (24, .aload_n 0, 25, 0, 0), (25, .iload_n 2, 26, 0, 0)]), (74, [(26, .invokevirtual 95, 29, 133, 0), (29, .ifCond .eq 21, 32, 0, 0), (32, .iload_n 1, 33, 0, 0), (33, .iconst (-1), 34, 0, 0), (34, .if_icmp .eq 14, 37, 0, 0), (48, .iload_n 2, 49, 0, 0), (49, .istore_n 1, 50, 0, 0), (50, .iinc 2 1, 53, 0, 0), (53, .goto (-45), 56, 0, 0), (56, .iload_n 1, 57, 0, 0), (57, .iconst (-1), 58, 0, 0), (58, .if_icmp .ne 10, 61, 0, 0), (68, .aload_n 0, 69, 0, 0), (69, .getfield 28, 72, 4, 5), (72, .iload_n 1, 73, 0, 0), (73, .ior, 74, 0, 0)]), (75, [(74, .ireturn, 75, 0, 0)])]
def zc_X4_isReached : List (Nat × List zx_E) := [(26, [(0, .iload_n 1, 1, 0, 0), (1, .aload_n 0, 2, 0, 0), (2, .getfield 32, 5, 4, 6), (5, .invokestatic 50, 8, 108, 1), (8, .ifCond .eq 16, 11, 0, 0), (11, .aload_n 0, 12, 0, 0), (12, .getfield 24, 15, 4, 4), (15, .iload_n 1, 16, 0, 0), (16, .baload, 17, 0, 0), (17, .ifCond .eq 7, 20, 0, 0), (20, .iconst 1, 21, 0, 0), (21, .goto 4, 24, 0, 0), (25, .ireturn, 26, 0, 0)])]
def zc_X4_isStuck : List (Nat × List zx_E) := [(27, [(0, .iconst 0, 1, 0, 0), (1, .istore_n 2, 2, 0, 0), (2, .iload_n 2, 3, 0, 0), (3, .bipush 10, 5, 0, 0), (5, .if_icmp .ge 20, 8, 0, 0), (8, .aload_n 0, 9, 0, 0), (9, .iload_n 2, 10, 0, 0), (10, .iload_n 1, 11, 0, 0), (11, .invokevirtual 61, 14, 134, 0), (14, .ifCond .eq 5, 17, 0, 0), (19, .iinc 2 1, 22, 0, 0), (22, .goto (-20), 25, 0, 0), (25, .iconst 1, 26, 0, 0), (26, .ireturn, 27, 0, 0)])]
def zc_X4_yieldsBehind : List (Nat × List zx_E) := [(38, [(0, .aload_n 0, 1, 0, 0), (1, .getfield 32, 4, 4, 6), (4, .iload_n 2, 5, 0, 0), (5, .iconst (-1), 6, 0, 0), (6, .ixor, 7, 0, 0), (7, .iand, 8, 0, 0), (8, .iload_n 1, 9, 0, 0), (9, .invokestatic 47, 12, 135, 1), (12, .iconst 1, 13, 0, 0), (13, .if_icmp .ne 23, 16, 0, 0), (36, .iconst 0, 37, 0, 0), (37, .ireturn, 38, 0, 0)])]
def zc_X11_bit : List (Nat × List zx_E) := [(6, [(0, .iload_n 0, 1, 0, 0), (1, .iload_n 1, 2, 0, 0), (2, .ishr, 3, 0, 0), (3, .iconst 1, 4, 0, 0), (4, .iand, 5, 0, 0), (5, .ireturn, 6, 0, 0)])]
def zc_X12_stuck : List (Nat × List zx_E) := [(24, [(0, .iload_n 1, 1, 0, 0), (1, .iconst 0, 2, 0, 0), (2, .iconst 1, 3, 0, 0), (3, .invokestatic 400, 6, 52, 0), (6, .ifCond .ne 5, 9, 0, 0), (9, .iconst (-1), 10, 0, 0), (10, .ireturn, 11, 0, 0), (11, .aload_n 0, 12, 0, 0), (12, .aload_n 0, 13, 0, 0), (13, .getfield 119, 16, 12, 49), (16, .iconst 0, 17, 0, 0), (17, .iaload, 18, 0, 0), (18, .aload_n 0, 19, 0, 0), (19, .getfield 119, 22, 12, 49), (22, .iconst 2, 23, 0, 0), (23, .iaload, 24, 0, 0)]), (50, [(24, .aload_n 0, 25, 0, 0), (25, .invokevirtual 451, 28, 99, 0), (28, .invokevirtual 514, 31, 128, 0), (31, .iconst (-1), 32, 0, 0), (32, .istore_n 2, 33, 0, 0), (33, .iconst 0, 34, 0, 0), (34, .istore_n 3, 35, 0, 0), (35, .iload_n 3, 36, 0, 0), (36, .iconst 1, 37, 0, 0), (37, .aload_n 0, 38, 0, 0), (38, .invokevirtual 397, 41, 51, 0), (41, .ishl, 42, 0, 0), (42, .if_icmp .ge 43, 45, 0, 0), (45, .aload_n 0, 46, 0, 0), (46, .getfield 137, 49, 12, 58), (49, .iload_n 3, 50, 0, 0)]), (91, [(50, .baload, 51, 0, 0), (51, .ifCond .eq 28, 54, 0, 0), (54, .aload_n 0, 55, 0, 0), (55, .iload_n 3, 56, 0, 0), (56, .invokevirtual 523, 59, 137, 0), (59, .ifCond .eq 20, 62, 0, 0), (62, .iload_n 2, 63, 0, 0), (63, .ifCond .lt 14, 66, 0, 0), (77, .iload_n 3, 78, 0, 0), (78, .istore_n 2, 79, 0, 0), (79, .iinc 3 1, 82, 0, 0), (82, .goto (-47), 85, 0, 0), (85, .iload_n 1, 86, 0, 0), (86, .ifCond .ne 10, 89, 0, 0), (89, .iload_n 2, 90, 0, 0), (90, .invokestatic 517, 93, 129, 0)]), (98, [(93, .goto 4, 96, 0, 0), (96, .iload_n 2, 97, 0, 0), (97, .ireturn, 98, 0, 0)])]
def zc_X12_isStuck : List (Nat × List zx_E) := [(33, [(0, .iconst 0, 1, 0, 0), (1, .istore_n 2, 2, 0, 0), (2, .iload_n 2, 3, 0, 0), (3, .aload_n 0, 4, 0, 0), (4, .invokevirtual 397, 7, 51, 0), (7, .if_icmp .ge 24, 10, 0, 0), (31, .iconst 1, 32, 0, 0), (32, .ireturn, 33, 0, 0)])]
def zc_X11_feast : List (Nat × List zx_E) := [(29, [(0, .iload_n 1, 1, 0, 0), (1, .ifCond .lt 16, 4, 0, 0), (4, .iload_n 1, 5, 0, 0), (5, .bipush 10, 7, 0, 0), (7, .if_icmp .gt 10, 10, 0, 0), (10, .iload_n 2, 11, 0, 0), (11, .invokestatic 181, 14, 64, 0), (14, .ifCond .ne 5, 17, 0, 0), (17, .iconst (-1), 18, 0, 0), (18, .ireturn, 19, 0, 0), (19, .aload_n 0, 20, 0, 0), (20, .getfield 53, 23, 11, 6), (23, .aload_n 0, 24, 0, 0), (24, .getfield 74, 27, 11, 9), (27, .aload_n 0, 28, 0, 0), (28, .getfield 78, 31, 11, 10)]), (65, [(31, .getfield 134, 34, 8, 2), (34, .invokevirtual 233, 37, 109, 0), (37, .aload_n 0, 38, 0, 0), (38, .getfield 53, 41, 11, 6), (41, .aload_n 0, 42, 0, 0), (42, .getfield 78, 45, 11, 10), (45, .getfield 147, 48, 8, 0), (48, .aload_n 0, 49, 0, 0), (49, .getfield 78, 52, 11, 10), (52, .aload_n 0, 53, 0, 0), (53, .getfield 74, 56, 11, 9), (56, .invokevirtual 203, 59, 71, 0), (59, .invokevirtual 237, 62, 111, 0), (62, .iconst 0, 63, 0, 0), (63, .istore_n 3, 64, 0, 0), (64, .iload_n 3, 65, 0, 0)]), (119, [(65, .aload_n 0, 66, 0, 0), (66, .getfield 74, 69, 11, 9), (69, .getfield 111, 72, 6, 9), (72, .if_icmp .ge 29, 75, 0, 0), (101, .aload_n 0, 102, 0, 0), (102, .getfield 53, 105, 11, 6), (105, .iload_n 1, 106, 0, 0), (106, .invokevirtual 260, 109, 140, 0), (109, .istore_n 3, 110, 0, 0), (110, .iload_n 3, 111, 0, 0), (111, .iconst (-1), 112, 0, 0), (112, .if_icmp .ne 5, 115, 0, 0), (115, .iconst (-1), 116, 0, 0), (116, .ireturn, 117, 0, 0), (117, .iload_n 2, 118, 0, 0), (118, .ifCond .ne 14, 121, 0, 0)]), (134, [(121, .aload_n 0, 122, 0, 0), (122, .getfield 53, 125, 11, 6), (125, .iload_n 3, 126, 0, 0), (126, .invokevirtual 263, 129, 141, 0), (129, .goto 4, 132, 0, 0), (132, .iload_n 3, 133, 0, 0), (133, .ireturn, 134, 0, 0)])]
def zc_X12_feast : List (Nat × List zx_E) := [(27, [(0, .iload_n 1, 1, 0, 0), (1, .iconst 0, 2, 0, 0), (2, .bipush 10, 4, 0, 0), (4, .invokestatic 400, 7, 52, 0), (7, .ifCond .eq 12, 10, 0, 0), (10, .iload_n 2, 11, 0, 0), (11, .iconst 0, 12, 0, 0), (12, .iconst 1, 13, 0, 0), (13, .invokestatic 400, 16, 52, 0), (16, .ifCond .ne 5, 19, 0, 0), (19, .iconst (-1), 20, 0, 0), (20, .ireturn, 21, 0, 0), (21, .aload_n 0, 22, 0, 0), (22, .aload_n 0, 23, 0, 0), (23, .getfield 119, 26, 12, 49), (26, .iconst 0, 27, 0, 0)]), (51, [(27, .iaload, 28, 0, 0), (28, .aload_n 0, 29, 0, 0), (29, .getfield 119, 32, 12, 49), (32, .iconst 2, 33, 0, 0), (33, .iaload, 34, 0, 0), (34, .aload_n 0, 35, 0, 0), (35, .invokevirtual 451, 38, 99, 0), (38, .invokevirtual 514, 41, 128, 0), (41, .iconst (-1), 42, 0, 0), (42, .istore_n 3, 43, 0, 0), (43, .iconst 0, 44, 0, 0), (44, .istore 4, 46, 0, 0), (46, .iload 4, 48, 0, 0), (48, .iconst 1, 49, 0, 0), (49, .aload_n 0, 50, 0, 0), (50, .invokevirtual 397, 53, 51, 0)]), (78, [(53, .ishl, 54, 0, 0), (54, .if_icmp .ge 65, 57, 0, 0), (57, .iload 4, 59, 0, 0), (59, .aload_n 0, 60, 0, 0), (60, .getfield 119, 63, 12, 49), (63, .iconst 0, 64, 0, 0), (64, .iaload, 65, 0, 0), (65, .iconst (-1), 66, 0, 0), (66, .ixor, 67, 0, 0), (67, .iand, 68, 0, 0), (68, .istore 5, 70, 0, 0), (70, .aload_n 0, 71, 0, 0), (71, .getfield 137, 74, 12, 58), (74, .iload 4, 76, 0, 0), (76, .baload, 77, 0, 0), (77, .ifCond .eq 36, 80, 0, 0)]), (128, [(80, .iload 5, 82, 0, 0), (82, .invokestatic 517, 85, 129, 0), (85, .iload_n 1, 86, 0, 0), (86, .if_icmp .eq 6, 89, 0, 0), (89, .goto 24, 92, 0, 0), (92, .iload_n 3, 93, 0, 0), (93, .ifCond .lt 17, 96, 0, 0), (110, .iload 5, 112, 0, 0), (112, .istore_n 3, 113, 0, 0), (113, .iinc 4 1, 116, 0, 0), (116, .goto (-70), 119, 0, 0), (119, .iload_n 3, 120, 0, 0), (120, .ifCond .ge 7, 123, 0, 0), (123, .iconst (-1), 124, 0, 0), (124, .goto 16, 127, 0, 0), (127, .iload_n 2, 128, 0, 0)]), (141, [(128, .ifCond .ne 11, 131, 0, 0), (131, .aload_n 0, 132, 0, 0), (132, .iload_n 3, 133, 0, 0), (133, .invokevirtual 526, 136, 142, 0), (136, .goto 4, 139, 0, 0), (139, .iload_n 3, 140, 0, 0), (140, .ireturn, 141, 0, 0)])]
def zc_X4_cheapest : List (Nat × List zx_E) := [(26, [(0, .aload_n 0, 1, 0, 0), (1, .invokevirtual 88, 4, 124, 0), (4, .iconst (-1), 5, 0, 0), (5, .istore_n 2, 6, 0, 0), (6, .iconst 0, 7, 0, 0), (7, .istore_n 3, 8, 0, 0), (8, .iload_n 3, 9, 0, 0), (9, .aload_n 0, 10, 0, 0), (10, .getfield 32, 13, 4, 6), (13, .if_icmp .gt 45, 16, 0, 0), (16, .iload_n 3, 17, 0, 0), (17, .invokestatic 64, 20, 73, 0), (20, .iload_n 1, 21, 0, 0), (21, .if_icmp .ne 31, 24, 0, 0), (24, .aload_n 0, 25, 0, 0), (25, .iload_n 3, 26, 0, 0)]), (60, [(26, .invokevirtual 91, 29, 132, 0), (29, .ifCond .eq 23, 32, 0, 0), (32, .iload_n 2, 33, 0, 0), (33, .iconst (-1), 34, 0, 0), (34, .if_icmp .eq 16, 37, 0, 0), (50, .iload_n 3, 51, 0, 0), (51, .istore_n 2, 52, 0, 0), (52, .iinc 3 1, 55, 0, 0), (55, .goto (-47), 58, 0, 0), (58, .iload_n 2, 59, 0, 0), (59, .ireturn, 60, 0, 0)])]
def zc_X4_priceOf : List (Nat × List zx_E) := [(23, [(0, .iconst 0, 1, 0, 0), (1, .istore_n 2, 2, 0, 0), (2, .iconst 0, 3, 0, 0), (3, .istore_n 3, 4, 0, 0), (4, .iload_n 3, 5, 0, 0), (5, .bipush 10, 7, 0, 0), (7, .if_icmp .ge 24, 10, 0, 0), (10, .iload_n 2, 11, 0, 0), (11, .iload_n 1, 12, 0, 0), (12, .iload_n 3, 13, 0, 0), (13, .invokestatic 47, 16, 135, 1), (16, .aload_n 0, 17, 0, 0), (17, .getfield 18, 20, 4, 2), (20, .iload_n 3, 21, 0, 0), (21, .iaload, 22, 0, 0), (22, .imul, 23, 0, 0)]), (33, [(23, .iadd, 24, 0, 0), (24, .istore_n 2, 25, 0, 0), (25, .iinc 3 1, 28, 0, 0), (28, .goto (-24), 31, 0, 0), (31, .iload_n 2, 32, 0, 0), (32, .ireturn, 33, 0, 0)])]
def zc_X12_oils : List (Nat × List zx_E) := [(40, [(0, .iconst 0, 1, 0, 0), (1, .istore_n 2, 2, 0, 0), (2, .iconst 0, 3, 0, 0), (3, .istore_n 3, 4, 0, 0), (4, .iload_n 3, 5, 0, 0), (5, .aload_n 0, 6, 0, 0), (6, .invokevirtual 397, 9, 51, 0), (9, .if_icmp .ge 29, 12, 0, 0), (38, .iload_n 2, 39, 0, 0), (39, .ireturn, 40, 0, 0)])]
def zc_X11_never : List (Nat × List zx_E) := [(13, [(0, .aload_n 0, 1, 0, 0), (1, .getfield 74, 4, 11, 9), (4, .iload_n 1, 5, 0, 0), (5, .invokevirtual 120, 8, 48, 0), (8, .ifCond .ne 5, 11, 0, 0), (11, .iconst (-1), 12, 0, 0), (12, .ireturn, 13, 0, 0)])]
def zc_X12_never : List (Nat × List zx_E) := [(10, [(0, .aload_n 0, 1, 0, 0), (1, .iload_n 1, 2, 0, 0), (2, .invokevirtual 441, 5, 50, 0), (5, .ifCond .ne 5, 8, 0, 0), (8, .iconst (-1), 9, 0, 0), (9, .ireturn, 10, 0, 0)])]
def zc_X11_turn : List (Nat × List zx_E) := [(26, [(0, .iload_n 2, 1, 0, 0), (1, .invokestatic 181, 4, 64, 0), (4, .ifCond .eq 11, 7, 0, 0), (7, .aload_n 0, 8, 0, 0), (8, .iload_n 1, 9, 0, 0), (9, .invokevirtual 230, 12, 107, 0), (12, .ifCond .ne 5, 15, 0, 0), (15, .iconst (-1), 16, 0, 0), (16, .ireturn, 17, 0, 0), (17, .aload_n 0, 18, 0, 0), (18, .iload_n 1, 19, 0, 0), (19, .invokevirtual 269, 22, 146, 0), (22, .istore_n 3, 23, 0, 0), (23, .iload_n 3, 24, 0, 0), (24, .iconst (-1), 25, 0, 0), (25, .if_icmp .ne 7, 28, 0, 0)]), (38, [(32, .iload_n 3, 33, 0, 0), (33, .iload_n 2, 34, 0, 0), (34, .invokestatic 251, 37, 125, 0), (37, .ireturn, 38, 0, 0)])]
def zc_X11_fewestTurned : List (Nat × List zx_E) := [(34, [(0, .aload_n 0, 1, 0, 0), (1, .getfield 53, 4, 11, 6), (4, .aload_n 0, 5, 0, 0), (5, .getfield 78, 8, 11, 10), (8, .getfield 147, 11, 8, 0), (11, .aload_n 0, 12, 0, 0), (12, .getfield 78, 15, 11, 10), (15, .aload_n 0, 16, 0, 0), (16, .getfield 74, 19, 11, 9), (19, .invokevirtual 203, 22, 71, 0), (22, .invokevirtual 237, 25, 111, 0), (25, .aload_n 0, 26, 0, 0), (26, .getfield 78, 29, 11, 10), (29, .aload_n 0, 30, 0, 0), (30, .getfield 74, 33, 11, 9), (33, .invokevirtual 203, 36, 71, 0)]), (59, [(36, .iload_n 1, 37, 0, 0), (37, .iand, 38, 0, 0), (38, .istore_n 2, 39, 0, 0), (39, .iconst 0, 40, 0, 0), (40, .istore_n 3, 41, 0, 0), (41, .iload_n 3, 42, 0, 0), (42, .iconst 3, 43, 0, 0), (43, .if_icmp .gt 77, 46, 0, 0), (46, .iconst 0, 47, 0, 0), (47, .istore 4, 49, 0, 0), (49, .iload 4, 51, 0, 0), (51, .iload_n 2, 52, 0, 0), (52, .if_icmp .gt 62, 55, 0, 0), (55, .iload 4, 57, 0, 0), (57, .iload_n 2, 58, 0, 0), (58, .invokestatic 319, 61, 108, 0)]), (95, [(61, .ifCond .eq 47, 64, 0, 0), (64, .iload 4, 66, 0, 0), (66, .invokestatic 188, 69, 73, 0), (69, .iload_n 3, 70, 0, 0), (70, .if_icmp .ne 38, 73, 0, 0), (73, .aload_n 0, 74, 0, 0), (74, .getfield 53, 77, 11, 6), (77, .aload_n 0, 78, 0, 0), (78, .getfield 74, 81, 11, 9), (81, .aload_n 0, 82, 0, 0), (82, .getfield 78, 85, 11, 10), (85, .getfield 134, 88, 8, 2), (88, .iload 4, 90, 0, 0), (90, .ixor, 91, 0, 0), (91, .invokevirtual 233, 94, 109, 0), (94, .aload_n 0, 95, 0, 0)]), (108, [(95, .getfield 53, 98, 11, 6), (98, .iload_n 1, 99, 0, 0), (99, .invokevirtual 377, 102, 147, 0), (102, .ifCond .eq 6, 105, 0, 0), (105, .iload 4, 107, 0, 0), (107, .ireturn, 108, 0, 0)])]
def zc_X4_hasOrder : List (Nat × List zx_E) := [(56, [(0, .iload_n 1, 1, 0, 0), (1, .aload_n 0, 2, 0, 0), (2, .getfield 32, 5, 4, 6), (5, .invokestatic 50, 8, 108, 1), (8, .ifCond .ne 5, 11, 0, 0), (13, .iload_n 1, 14, 0, 0), (14, .istore_n 2, 15, 0, 0), (15, .iload_n 1, 16, 0, 0), (16, .invokestatic 64, 19, 73, 0), (19, .istore_n 3, 20, 0, 0), (20, .iload_n 3, 21, 0, 0), (21, .ifCond .le 33, 24, 0, 0), (54, .iconst 1, 55, 0, 0), (55, .ireturn, 56, 0, 0)])]
def zc_X12_turn : List (Nat × List zx_E) := [(28, [(0, .aload_n 0, 1, 0, 0), (1, .iload_n 1, 2, 0, 0), (2, .invokevirtual 504, 5, 115, 0), (5, .ifCond .eq 12, 8, 0, 0), (8, .iload_n 2, 9, 0, 0), (9, .iconst 0, 10, 0, 0), (10, .iconst 1, 11, 0, 0), (11, .invokestatic 400, 14, 52, 0), (14, .ifCond .ne 5, 17, 0, 0), (17, .iconst (-1), 18, 0, 0), (18, .ireturn, 19, 0, 0), (19, .aload_n 0, 20, 0, 0), (20, .invokevirtual 451, 23, 99, 0), (23, .aload_n 0, 24, 0, 0), (24, .getfield 119, 27, 12, 49), (27, .iconst 0, 28, 0, 0)]), (52, [(28, .iaload, 29, 0, 0), (29, .iconst (-1), 30, 0, 0), (30, .ixor, 31, 0, 0), (31, .iand, 32, 0, 0), (32, .istore_n 3, 33, 0, 0), (33, .iconst 0, 34, 0, 0), (34, .istore 4, 36, 0, 0), (36, .iload 4, 38, 0, 0), (38, .iconst 3, 39, 0, 0), (39, .if_icmp .gt 75, 42, 0, 0), (42, .iconst 0, 43, 0, 0), (43, .istore 5, 45, 0, 0), (45, .iload 5, 47, 0, 0), (47, .iload_n 3, 48, 0, 0), (48, .if_icmp .gt 60, 51, 0, 0), (51, .iload 5, 53, 0, 0)]), (81, [(53, .iload_n 3, 54, 0, 0), (54, .iand, 55, 0, 0), (55, .iload 5, 57, 0, 0), (57, .if_icmp .ne 45, 60, 0, 0), (60, .iload 5, 62, 0, 0), (62, .invokestatic 517, 65, 129, 0), (65, .iload 4, 67, 0, 0), (67, .if_icmp .ne 35, 70, 0, 0), (70, .aload_n 0, 71, 0, 0), (71, .iload_n 1, 72, 0, 0), (72, .aload_n 0, 73, 0, 0), (73, .getfield 119, 76, 12, 49), (76, .iconst 2, 77, 0, 0), (77, .iaload, 78, 0, 0), (78, .iload 5, 80, 0, 0), (80, .ixor, 81, 0, 0)]), (102, [(81, .invokevirtual 507, 84, 117, 0), (84, .ifCond .ne 6, 87, 0, 0), (90, .iload_n 2, 91, 0, 0), (91, .ifCond .ne 8, 94, 0, 0), (94, .iload 4, 96, 0, 0), (96, .goto 5, 99, 0, 0), (99, .iload 5, 101, 0, 0), (101, .ireturn, 102, 0, 0)])]
def zc_X11_ask : List (Nat × List zx_E) := [(39, [(0, .aload_n 0, 1, 0, 0), (1, .getfield 74, 4, 11, 9), (4, .iload_n 1, 5, 0, 0), (5, .invokevirtual 120, 8, 48, 0), (8, .ifCond .eq 29, 11, 0, 0), (37, .iconst (-1), 38, 0, 0), (38, .ireturn, 39, 0, 0)])]
def zc_X12_ask : List (Nat × List zx_E) := [(10, [(0, .aload_n 0, 1, 0, 0), (1, .iload_n 1, 2, 0, 0), (2, .invokevirtual 441, 5, 50, 0), (5, .ifCond .ne 5, 8, 0, 0), (8, .iconst (-1), 9, 0, 0), (9, .ireturn, 10, 0, 0)])]
def zc_X11_vow : List (Nat × List zx_E) := [(27, [(0, .iload_n 1, 1, 0, 0), (1, .invokestatic 181, 4, 64, 0), (4, .ifCond .ne 5, 7, 0, 0), (7, .iconst (-1), 8, 0, 0), (8, .ireturn, 9, 0, 0), (9, .aload_n 0, 10, 0, 0), (10, .getfield 78, 13, 11, 10), (13, .aload_n 0, 14, 0, 0), (14, .getfield 74, 17, 11, 9), (17, .invokevirtual 203, 20, 71, 0), (20, .istore_n 2, 21, 0, 0), (21, .iconst (-1), 22, 0, 0), (22, .istore_n 3, 23, 0, 0), (23, .iconst (-1), 24, 0, 0), (24, .istore 4, 26, 0, 0), (26, .iconst 0, 27, 0, 0)]), (105, [(27, .istore 5, 29, 0, 0), (29, .iload 5, 31, 0, 0), (31, .aload_n 0, 32, 0, 0), (32, .getfield 74, 35, 11, 9), (35, .getfield 111, 38, 6, 9), (38, .if_icmp .ge 56, 41, 0, 0), (94, .iload_n 1, 95, 0, 0), (95, .ifCond .ne 7, 98, 0, 0), (98, .iload_n 3, 99, 0, 0), (99, .goto 5, 102, 0, 0), (102, .iload 4, 104, 0, 0), (104, .ireturn, 105, 0, 0)])]
def zc_X12_vow : List (Nat × List zx_E) := [(22, [(0, .iload_n 1, 1, 0, 0), (1, .iconst 0, 2, 0, 0), (2, .iconst 1, 3, 0, 0), (3, .invokestatic 400, 6, 52, 0), (6, .ifCond .ne 5, 9, 0, 0), (9, .iconst (-1), 10, 0, 0), (10, .ireturn, 11, 0, 0), (11, .iconst (-1), 12, 0, 0), (12, .istore_n 2, 13, 0, 0), (13, .iconst 0, 14, 0, 0), (14, .istore_n 3, 15, 0, 0), (15, .iconst 0, 16, 0, 0), (16, .istore 4, 18, 0, 0), (18, .iload 4, 20, 0, 0), (20, .aload_n 0, 21, 0, 0), (21, .invokevirtual 397, 24, 51, 0)]), (108, [(24, .if_icmp .ge 66, 27, 0, 0), (90, .iload_n 2, 91, 0, 0), (91, .ifCond .ge 7, 94, 0, 0), (94, .iconst (-1), 95, 0, 0), (95, .goto 12, 98, 0, 0), (107, .ireturn, 108, 0, 0)])]
def zc_X11_push : List (Nat × List zx_E) := [(10, [(0, .aload_n 0, 1, 0, 0), (1, .iload_n 1, 2, 0, 0), (2, .iload_n 2, 3, 0, 0), (3, .iload_n 3, 4, 0, 0), (4, .iload 4, 6, 0, 0), (6, .invokevirtual 206, 9, 83, 0), (9, .ireturn, 10, 0, 0)])]
def zc_X12_push : List (Nat × List zx_E) := [(10, [(0, .aload_n 0, 1, 0, 0), (1, .iload_n 1, 2, 0, 0), (2, .iload_n 2, 3, 0, 0), (3, .iload_n 3, 4, 0, 0), (4, .iload 4, 6, 0, 0), (6, .invokevirtual 478, 9, 85, 0), (9, .ireturn, 10, 0, 0)])]
def zc_X11_gusts : List (Nat × List zx_E) := [(27, [(0, .iload_n 1, 1, 0, 0), (1, .ifCond .lt 9, 4, 0, 0), (4, .iload_n 1, 5, 0, 0), (5, .bipush 20, 7, 0, 0), (7, .if_icmp .le 5, 10, 0, 0), (10, .iconst (-1), 11, 0, 0), (11, .ireturn, 12, 0, 0), (12, .aload_n 0, 13, 0, 0), (13, .getfield 35, 16, 11, 3), (16, .aload_n 0, 17, 0, 0), (17, .getfield 78, 20, 11, 10), (20, .invokevirtual 275, 23, 90, 0), (23, .iconst 0, 24, 0, 0), (24, .istore_n 2, 25, 0, 0), (25, .iload_n 2, 26, 0, 0), (26, .iload_n 1, 27, 0, 0)]), (56, [(27, .if_icmp .ge 21, 30, 0, 0), (30, .aload_n 0, 31, 0, 0), (31, .getfield 35, 34, 11, 3), (34, .aload_n 0, 35, 0, 0), (35, .getfield 74, 38, 11, 9), (38, .invokevirtual 213, 41, 94, 0), (41, .pop, 42, 0, 0), (42, .iinc 2 1, 45, 0, 0), (45, .goto (-20), 48, 0, 0), (48, .aload_n 0, 49, 0, 0), (49, .getfield 35, 52, 11, 3), (52, .getfield 147, 55, 8, 0), (55, .ireturn, 56, 0, 0)])]
def zc_X12_gusts : List (Nat × List zx_E) := [(27, [(0, .iload_n 1, 1, 0, 0), (1, .iconst 0, 2, 0, 0), (2, .bipush 20, 4, 0, 0), (4, .invokestatic 400, 7, 52, 0), (7, .ifCond .ne 5, 10, 0, 0), (10, .iconst (-1), 11, 0, 0), (11, .ireturn, 12, 0, 0), (12, .aload_n 0, 13, 0, 0), (13, .aload_n 0, 14, 0, 0), (14, .getfield 119, 17, 12, 49), (17, .iconst 2, 18, 0, 0), (18, .iaload, 19, 0, 0), (19, .invokevirtual 447, 22, 96, 0), (22, .aload_n 0, 23, 0, 0), (23, .getfield 119, 26, 12, 49), (26, .iconst 0, 27, 0, 0)]), (52, [(27, .iaload, 28, 0, 0), (28, .istore_n 2, 29, 0, 0), (29, .aload_n 0, 30, 0, 0), (30, .getfield 119, 33, 12, 49), (33, .bipush 15, 35, 0, 0), (35, .iaload, 36, 0, 0), (36, .istore_n 3, 37, 0, 0), (37, .iconst 0, 38, 0, 0), (38, .istore 4, 40, 0, 0), (40, .iload 4, 42, 0, 0), (42, .iload_n 1, 43, 0, 0), (43, .if_icmp .ge 24, 46, 0, 0), (46, .aload_n 0, 47, 0, 0), (47, .iload_n 3, 48, 0, 0), (48, .invokevirtual 482, 51, 97, 0), (51, .istore_n 3, 52, 0, 0)]), (69, [(52, .iload_n 2, 53, 0, 0), (53, .aload_n 0, 54, 0, 0), (54, .iload_n 2, 55, 0, 0), (55, .iload_n 3, 56, 0, 0), (56, .invokevirtual 485, 59, 98, 0), (59, .ior, 60, 0, 0), (60, .istore_n 2, 61, 0, 0), (61, .iinc 4 1, 64, 0, 0), (64, .goto (-24), 67, 0, 0), (67, .iload_n 2, 68, 0, 0), (68, .ireturn, 69, 0, 0)])]
def zc_X11_good : List (Nat × List zx_E) := [(28, [(0, .iload_n 1, 1, 0, 0), (1, .invokestatic 181, 4, 64, 0), (4, .ifCond .ne 5, 7, 0, 0), (7, .iconst (-1), 8, 0, 0), (8, .ireturn, 9, 0, 0), (9, .aload_n 0, 10, 0, 0), (10, .getfield 78, 13, 11, 10), (13, .aload_n 0, 14, 0, 0), (14, .getfield 74, 17, 11, 9), (17, .invokevirtual 203, 20, 71, 0), (20, .istore_n 2, 21, 0, 0), (21, .aload_n 0, 22, 0, 0), (22, .iload_n 2, 23, 0, 0), (23, .aload_n 0, 24, 0, 0), (24, .getfield 78, 27, 11, 10), (27, .getfield 134, 30, 8, 2)]), (112, [(30, .invokevirtual 248, 33, 122, 0), (33, .invokestatic 188, 36, 73, 0), (36, .istore_n 3, 37, 0, 0), (37, .iconst (-1), 38, 0, 0), (38, .istore 4, 40, 0, 0), (40, .iconst 0, 41, 0, 0), (41, .istore 5, 43, 0, 0), (43, .iload 5, 45, 0, 0), (45, .aload_n 0, 46, 0, 0), (46, .getfield 74, 49, 11, 9), (49, .getfield 111, 52, 6, 9), (52, .if_icmp .ge 54, 55, 0, 0), (106, .iload_n 1, 107, 0, 0), (107, .ifCond .ne 7, 110, 0, 0), (110, .iload_n 3, 111, 0, 0), (111, .goto 5, 114, 0, 0)]), (117, [(114, .iload 4, 116, 0, 0), (116, .ireturn, 117, 0, 0)])]
def zc_X12_good : List (Nat × List zx_E) := [(22, [(0, .iload_n 1, 1, 0, 0), (1, .iconst 0, 2, 0, 0), (2, .iconst 1, 3, 0, 0), (3, .invokestatic 400, 6, 52, 0), (6, .ifCond .ne 5, 9, 0, 0), (9, .iconst (-1), 10, 0, 0), (10, .ireturn, 11, 0, 0), (11, .iconst (-1), 12, 0, 0), (12, .istore_n 2, 13, 0, 0), (13, .aload_n 0, 14, 0, 0), (14, .aload_n 0, 15, 0, 0), (15, .getfield 119, 18, 12, 49), (18, .iconst 2, 19, 0, 0), (19, .iaload, 20, 0, 0), (20, .aload_n 0, 21, 0, 0), (21, .invokevirtual 451, 24, 99, 0)]), (110, [(24, .invokevirtual 520, 27, 127, 0), (27, .invokestatic 517, 30, 129, 0), (30, .istore_n 3, 31, 0, 0), (31, .iconst 0, 32, 0, 0), (32, .istore 4, 34, 0, 0), (34, .iload 4, 36, 0, 0), (36, .aload_n 0, 37, 0, 0), (37, .invokevirtual 397, 40, 51, 0), (40, .if_icmp .ge 60, 43, 0, 0), (100, .iload_n 1, 101, 0, 0), (101, .ifCond .ne 7, 104, 0, 0), (104, .iload_n 3, 105, 0, 0), (105, .goto 4, 108, 0, 0), (108, .iload_n 2, 109, 0, 0), (109, .ireturn, 110, 0, 0)])]
def zc_X11_narrow : List (Nat × List zx_E) := [(20, [(0, .aload_n 0, 1, 0, 0), (1, .getfield 74, 4, 11, 9), (4, .iload_n 1, 5, 0, 0), (5, .invokevirtual 278, 8, 59, 0), (8, .ifCond .eq 10, 11, 0, 0), (18, .iconst (-1), 19, 0, 0), (19, .ireturn, 20, 0, 0)])]
def zc_X12_narrow : List (Nat × List zx_E) := [(19, [(0, .aload_n 0, 1, 0, 0), (1, .iload_n 1, 2, 0, 0), (2, .invokevirtual 457, 5, 62, 0), (5, .ifCond .eq 12, 8, 0, 0), (17, .iconst (-1), 18, 0, 0), (18, .ireturn, 19, 0, 0)])]
def zc_X11_widest : List (Nat × List zx_E) := [(36, [(0, .aload_n 0, 1, 0, 0), (1, .getfield 74, 4, 11, 9), (4, .iload_n 1, 5, 0, 0), (5, .iload_n 2, 6, 0, 0), (6, .invokevirtual 170, 9, 58, 0), (9, .istore 5, 11, 0, 0), (11, .aload_n 0, 12, 0, 0), (12, .getfield 74, 15, 11, 9), (15, .iload_n 3, 16, 0, 0), (16, .iload 4, 18, 0, 0), (18, .invokevirtual 170, 21, 58, 0), (21, .istore 6, 23, 0, 0), (23, .iload 5, 25, 0, 0), (25, .iconst (-1), 26, 0, 0), (26, .if_icmp .eq 9, 29, 0, 0), (35, .iconst (-1), 36, 0, 0)]), (37, [(36, .ireturn, 37, 0, 0)])]
def zc_X12_widest : List (Nat × List zx_E) := [(21, [(0, .aload_n 0, 1, 0, 0), (1, .iload_n 1, 2, 0, 0), (2, .iload_n 2, 3, 0, 0), (3, .invokevirtual 460, 6, 61, 0), (6, .ifCond .eq 13, 9, 0, 0), (19, .iconst (-1), 20, 0, 0), (20, .ireturn, 21, 0, 0)])]
def zc_X11_spread : List (Nat × List zx_E) := [(26, [(0, .aload_n 0, 1, 0, 0), (1, .getfield 74, 4, 11, 9), (4, .iload_n 1, 5, 0, 0), (5, .iload_n 2, 6, 0, 0), (6, .invokevirtual 170, 9, 58, 0), (9, .istore 4, 11, 0, 0), (11, .iload 4, 13, 0, 0), (13, .iconst (-1), 14, 0, 0), (14, .if_icmp .eq 10, 17, 0, 0), (24, .iconst (-1), 25, 0, 0), (25, .ireturn, 26, 0, 0)])]
def zc_X12_spread : List (Nat × List zx_E) := [(21, [(0, .aload_n 0, 1, 0, 0), (1, .iload_n 1, 2, 0, 0), (2, .iload_n 2, 3, 0, 0), (3, .invokevirtual 460, 6, 61, 0), (6, .ifCond .eq 13, 9, 0, 0), (19, .iconst (-1), 20, 0, 0), (20, .ireturn, 21, 0, 0)])]
def zc_X11_far : List (Nat × List zx_E) := [(33, [(0, .aload_n 0, 1, 0, 0), (1, .getfield 67, 4, 11, 8), (4, .invokevirtual 108, 7, 40, 0), (7, .aload_n 0, 8, 0, 0), (8, .getfield 74, 11, 11, 9), (11, .iload_n 1, 12, 0, 0), (12, .iload_n 2, 13, 0, 0), (13, .invokevirtual 170, 16, 58, 0), (16, .istore 4, 18, 0, 0), (18, .iload 4, 20, 0, 0), (20, .iconst (-1), 21, 0, 0), (21, .if_icmp .eq 10, 24, 0, 0), (31, .iconst (-1), 32, 0, 0), (32, .ireturn, 33, 0, 0)])]
def zc_X12_far : List (Nat × List zx_E) := [(26, [(0, .aload_n 0, 1, 0, 0), (1, .iconst 0, 2, 0, 0), (2, .putfield 438, 5, 12, 57), (5, .aload_n 0, 6, 0, 0), (6, .iload_n 1, 7, 0, 0), (7, .iload_n 2, 8, 0, 0), (8, .invokevirtual 460, 11, 61, 0), (11, .ifCond .eq 13, 14, 0, 0), (24, .iconst (-1), 25, 0, 0), (25, .ireturn, 26, 0, 0)])]
def zc_X11_parts : List (Nat × List zx_E) := [(32, [(0, .iload_n 1, 1, 0, 0), (1, .invokestatic 288, 4, 168, 0), (4, .ifCond .eq 10, 7, 0, 0), (7, .iload_n 2, 8, 0, 0), (8, .invokestatic 181, 11, 64, 0), (11, .ifCond .ne 5, 14, 0, 0), (14, .iconst (-1), 15, 0, 0), (15, .ireturn, 16, 0, 0), (16, .aload_n 0, 17, 0, 0), (17, .getfield 60, 20, 11, 7), (20, .aload_n 0, 21, 0, 0), (21, .getfield 74, 24, 11, 9), (24, .aload_n 0, 25, 0, 0), (25, .getfield 78, 28, 11, 10), (28, .getfield 147, 31, 8, 0), (31, .aload_n 0, 32, 0, 0)]), (66, [(32, .getfield 78, 35, 11, 10), (35, .getfield 134, 38, 8, 2), (38, .invokevirtual 173, 41, 170, 0), (41, .aload_n 0, 42, 0, 0), (42, .getfield 60, 45, 11, 7), (45, .aload_n 0, 46, 0, 0), (46, .getfield 74, 49, 11, 9), (49, .iload_n 1, 50, 0, 0), (50, .invokevirtual 306, 53, 172, 0), (53, .istore_n 3, 54, 0, 0), (54, .iload_n 2, 55, 0, 0), (55, .ifCond .ne 13, 58, 0, 0), (58, .aload_n 0, 59, 0, 0), (59, .getfield 60, 62, 11, 7), (62, .getfield 309, 65, 9, 4), (65, .goto 4, 68, 0, 0)]), (70, [(68, .iload_n 3, 69, 0, 0), (69, .ireturn, 70, 0, 0)])]
def zc_X11_isCart : List (Nat × List zx_E) := [(17, [(0, .iload_n 0, 1, 0, 0), (1, .iconst 1, 2, 0, 0), (2, .if_icmp .lt 13, 5, 0, 0), (5, .iload_n 0, 6, 0, 0), (6, .bipush 8, 8, 0, 0), (8, .if_icmp .gt 7, 11, 0, 0), (11, .iconst 1, 12, 0, 0), (12, .goto 4, 15, 0, 0), (15, .iconst 0, 16, 0, 0), (16, .ireturn, 17, 0, 0)])]
def zc_X12_parts : List (Nat × List zx_E) := [(25, [(0, .iload_n 1, 1, 0, 0), (1, .iconst 1, 2, 0, 0), (2, .bipush 8, 4, 0, 0), (4, .invokestatic 400, 7, 52, 0), (7, .ifCond .eq 12, 10, 0, 0), (10, .iload_n 2, 11, 0, 0), (11, .iconst 0, 12, 0, 0), (12, .iconst 1, 13, 0, 0), (13, .invokestatic 400, 16, 52, 0), (16, .ifCond .ne 5, 19, 0, 0), (19, .iconst (-1), 20, 0, 0), (20, .ireturn, 21, 0, 0), (21, .iconst 0, 22, 0, 0), (22, .istore_n 3, 23, 0, 0), (23, .iconst 0, 24, 0, 0), (24, .istore 4, 26, 0, 0)]), (56, [(26, .iconst 0, 27, 0, 0), (27, .istore 5, 29, 0, 0), (29, .iload 5, 31, 0, 0), (31, .bipush 64, 33, 0, 0), (33, .if_icmp .ge 17, 36, 0, 0), (36, .aload_n 0, 37, 0, 0), (37, .getfield 146, 40, 12, 62), (40, .iload 5, 42, 0, 0), (42, .iconst 0, 43, 0, 0), (43, .bastore, 44, 0, 0), (44, .iinc 5 1, 47, 0, 0), (47, .goto (-18), 50, 0, 0), (50, .iconst 0, 51, 0, 0), (51, .istore 5, 53, 0, 0), (53, .iload 5, 55, 0, 0), (55, .bipush 64, 57, 0, 0)]), (85, [(57, .if_icmp .ge 102, 60, 0, 0), (60, .aload_n 0, 61, 0, 0), (61, .getfield 146, 64, 12, 62), (64, .iload 5, 66, 0, 0), (66, .baload, 67, 0, 0), (67, .ifCond .ne 86, 70, 0, 0), (70, .aload_n 0, 71, 0, 0), (71, .iload 5, 73, 0, 0), (73, .iload_n 1, 74, 0, 0), (74, .aload_n 0, 75, 0, 0), (75, .getfield 119, 78, 12, 49), (78, .iconst 0, 79, 0, 0), (79, .iaload, 80, 0, 0), (80, .iconst (-1), 81, 0, 0), (81, .invokevirtual 529, 84, 173, 0), (84, .ifCond .ne 6, 87, 0, 0)]), (170, [(87, .goto 66, 90, 0, 0), (153, .iinc 5 1, 156, 0, 0), (156, .goto (-103), 159, 0, 0), (159, .iload_n 2, 160, 0, 0), (160, .ifCond .ne 7, 163, 0, 0), (163, .iload_n 3, 164, 0, 0), (164, .goto 5, 167, 0, 0), (167, .iload 4, 169, 0, 0), (169, .ireturn, 170, 0, 0)])]
def zc_X9_measure : List (Nat × List zx_E) := [(44, [(0, .iconst 0, 1, 0, 0), (1, .istore 4, 3, 0, 0), (3, .iload 4, 5, 0, 0), (5, .bipush 64, 7, 0, 0), (7, .if_icmp .ge 39, 10, 0, 0), (10, .aload_n 0, 11, 0, 0), (11, .getfield 9, 14, 9, 0), (14, .iload 4, 16, 0, 0), (16, .aload_n 1, 17, 0, 0), (17, .iload 4, 19, 0, 0), (19, .invokevirtual 28, 22, 171, 0), (22, .ifCond .eq 16, 25, 0, 0), (38, .iconst 0, 39, 0, 0), (39, .iastore, 40, 0, 0), (40, .iinc 4 1, 43, 0, 0), (43, .goto (-40), 46, 0, 0)]), (126, [(46, .iconst 0, 47, 0, 0), (47, .istore 4, 49, 0, 0), (49, .iload 4, 51, 0, 0), (51, .aload_n 1, 52, 0, 0), (52, .getfield 37, 55, 6, 9), (55, .if_icmp .ge 70, 58, 0, 0), (125, .return_, 126, 0, 0)])]
def zc_X6_isSpot : List (Nat × List zx_E) := [(31, [(0, .iload_n 1, 1, 0, 0), (1, .ifCond .lt 29, 4, 0, 0), (4, .iload_n 1, 5, 0, 0), (5, .bipush 64, 7, 0, 0), (7, .if_icmp .ge 23, 10, 0, 0), (10, .aload_n 0, 11, 0, 0), (11, .iload_n 1, 12, 0, 0), (12, .bipush 16, 14, 0, 0), (14, .idiv, 15, 0, 0), (15, .iload_n 1, 16, 0, 0), (16, .bipush 16, 18, 0, 0), (18, .irem, 19, 0, 0), (19, .invokevirtual 82, 22, 58, 0), (22, .iload_n 1, 23, 0, 0), (23, .if_icmp .ne 7, 26, 0, 0), (30, .iconst 0, 31, 0, 0)]), (32, [(31, .ireturn, 32, 0, 0)])]
def zc_X9_splitIntoParts : List (Nat × List zx_E) := [(27, [(0, .aload_n 0, 1, 0, 0), (1, .getfield 15, 4, 9, 1), (4, .iconst (-1), 5, 0, 0), (5, .invokestatic 72, 8, 37, 0), (8, .aload_n 0, 9, 0, 0), (9, .iconst 0, 10, 0, 0), (10, .putfield 25, 13, 9, 4), (13, .iconst 0, 14, 0, 0), (14, .istore_n 3, 15, 0, 0), (15, .iconst 0, 16, 0, 0), (16, .istore 4, 18, 0, 0), (18, .iload 4, 20, 0, 0), (20, .bipush 64, 22, 0, 0), (22, .if_icmp .ge 55, 25, 0, 0), (25, .aload_n 0, 26, 0, 0), (26, .getfield 9, 29, 9, 0)]), (79, [(29, .iload 4, 31, 0, 0), (31, .iaload, 32, 0, 0), (32, .iload_n 2, 33, 0, 0), (33, .if_icmp .lt 38, 36, 0, 0), (71, .iinc 4 1, 74, 0, 0), (74, .goto (-56), 77, 0, 0), (77, .iload_n 3, 78, 0, 0), (78, .ireturn, 79, 0, 0)])]
def zc_X12_isFreeFor : List (Nat × List zx_E) := [(44, [(0, .iload_n 1, 1, 0, 0), (1, .iload 4, 3, 0, 0), (3, .if_icmp .eq 39, 6, 0, 0), (6, .aload_n 0, 7, 0, 0), (7, .iload_n 1, 8, 0, 0), (8, .bipush 16, 10, 0, 0), (10, .idiv, 11, 0, 0), (11, .iload_n 1, 12, 0, 0), (12, .bipush 16, 14, 0, 0), (14, .irem, 15, 0, 0), (15, .invokevirtual 460, 18, 61, 0), (18, .ifCond .eq 24, 21, 0, 0), (42, .iconst 0, 43, 0, 0), (43, .ireturn, 44, 0, 0)])]
def zc_X11_calm : List (Nat × List zx_E) := [(31, [(0, .aload_n 0, 1, 0, 0), (1, .getfield 35, 4, 11, 3), (4, .aload_n 0, 5, 0, 0), (5, .getfield 78, 8, 11, 10), (8, .invokevirtual 275, 11, 90, 0), (11, .iconst 0, 12, 0, 0), (12, .istore_n 1, 13, 0, 0), (13, .iload_n 1, 14, 0, 0), (14, .bipush 20, 16, 0, 0), (16, .if_icmp .gt 45, 19, 0, 0), (19, .aload_n 0, 20, 0, 0), (20, .getfield 35, 23, 11, 3), (23, .aload_n 0, 24, 0, 0), (24, .getfield 74, 27, 11, 9), (27, .invokevirtual 162, 30, 70, 0), (30, .aload_n 0, 31, 0, 0)]), (43, [(31, .getfield 74, 34, 11, 9), (34, .getfield 153, 37, 6, 13), (37, .iand, 38, 0, 0), (38, .ifCond .ne 5, 41, 0, 0), (41, .iload_n 1, 42, 0, 0), (42, .ireturn, 43, 0, 0)])]
def zc_X12_calm : List (Nat × List zx_E) := [(25, [(0, .aload_n 0, 1, 0, 0), (1, .aload_n 0, 2, 0, 0), (2, .getfield 119, 5, 12, 49), (5, .iconst 2, 6, 0, 0), (6, .iaload, 7, 0, 0), (7, .invokevirtual 447, 10, 96, 0), (10, .aload_n 0, 11, 0, 0), (11, .getfield 119, 14, 12, 49), (14, .iconst 0, 15, 0, 0), (15, .iaload, 16, 0, 0), (16, .istore_n 1, 17, 0, 0), (17, .aload_n 0, 18, 0, 0), (18, .getfield 119, 21, 12, 49), (21, .bipush 15, 23, 0, 0), (23, .iaload, 24, 0, 0), (24, .istore_n 2, 25, 0, 0)]), (44, [(25, .iconst 0, 26, 0, 0), (26, .istore_n 3, 27, 0, 0), (27, .iload_n 3, 28, 0, 0), (28, .bipush 20, 30, 0, 0), (30, .if_icmp .gt 35, 33, 0, 0), (33, .aload_n 0, 34, 0, 0), (34, .iload_n 1, 35, 0, 0), (35, .iconst 0, 36, 0, 0), (36, .invokevirtual 485, 39, 98, 0), (39, .ifCond .ne 5, 42, 0, 0), (42, .iload_n 3, 43, 0, 0), (43, .ireturn, 44, 0, 0)])]
def zc_X11_needs : List (Nat × List zx_E) := [(31, [(0, .aload_n 0, 1, 0, 0), (1, .getfield 67, 4, 11, 8), (4, .invokevirtual 108, 7, 40, 0), (7, .aload_n 0, 8, 0, 0), (8, .getfield 74, 11, 11, 9), (11, .iload_n 1, 12, 0, 0), (12, .iload_n 2, 13, 0, 0), (13, .invokevirtual 170, 16, 58, 0), (16, .istore 6, 18, 0, 0), (18, .aload_n 0, 19, 0, 0), (19, .getfield 74, 22, 11, 9), (22, .iload_n 3, 23, 0, 0), (23, .iload 4, 25, 0, 0), (25, .invokevirtual 170, 28, 58, 0), (28, .istore 7, 30, 0, 0), (30, .iload 6, 32, 0, 0)]), (52, [(32, .iconst (-1), 33, 0, 0), (33, .if_icmp .eq 17, 36, 0, 0), (50, .iconst (-1), 51, 0, 0), (51, .ireturn, 52, 0, 0)])]
def zc_X12_needs : List (Nat × List zx_E) := [(42, [(0, .aload_n 0, 1, 0, 0), (1, .iconst 0, 2, 0, 0), (2, .putfield 438, 5, 12, 57), (5, .aload_n 0, 6, 0, 0), (6, .iload_n 1, 7, 0, 0), (7, .iload_n 2, 8, 0, 0), (8, .iload_n 3, 9, 0, 0), (9, .iload 4, 11, 0, 0), (11, .iload 5, 13, 0, 0), (13, .invokevirtual 544, 16, 178, 0), (16, .ifCond .eq 24, 19, 0, 0), (40, .iconst (-1), 41, 0, 0), (41, .ireturn, 42, 0, 0)])]
def zc_X12_areFit : List (Nat × List zx_E) := [(36, [(0, .aload_n 0, 1, 0, 0), (1, .iload_n 1, 2, 0, 0), (2, .iload_n 2, 3, 0, 0), (3, .invokevirtual 460, 6, 61, 0), (6, .ifCond .eq 28, 9, 0, 0), (34, .iconst 0, 35, 0, 0), (35, .ireturn, 36, 0, 0)])]
def zc_X11_way : List (Nat × List zx_E) := [(44, [(0, .aload_n 0, 1, 0, 0), (1, .getfield 74, 4, 11, 9), (4, .iload_n 1, 5, 0, 0), (5, .iload_n 2, 6, 0, 0), (6, .invokevirtual 170, 9, 58, 0), (9, .istore 6, 11, 0, 0), (11, .aload_n 0, 12, 0, 0), (12, .getfield 74, 15, 11, 9), (15, .iload_n 3, 16, 0, 0), (16, .iload 4, 18, 0, 0), (18, .invokevirtual 170, 21, 58, 0), (21, .istore 7, 23, 0, 0), (23, .iload 6, 25, 0, 0), (25, .iconst (-1), 26, 0, 0), (26, .if_icmp .eq 17, 29, 0, 0), (43, .iconst (-1), 44, 0, 0)]), (45, [(44, .ireturn, 45, 0, 0)])]
def zc_X12_way : List (Nat × List zx_E) := [(37, [(0, .aload_n 0, 1, 0, 0), (1, .iload_n 1, 2, 0, 0), (2, .iload_n 2, 3, 0, 0), (3, .iload_n 3, 4, 0, 0), (4, .iload 4, 6, 0, 0), (6, .iload 5, 8, 0, 0), (8, .invokevirtual 544, 11, 178, 0), (11, .ifCond .eq 24, 14, 0, 0), (35, .iconst (-1), 36, 0, 0), (36, .ireturn, 37, 0, 0)])]
def zc_X11_make : List (Nat × List zx_E) := [(44, [(0, .aload_n 0, 1, 0, 0), (1, .getfield 74, 4, 11, 9), (4, .iload_n 1, 5, 0, 0), (5, .iload_n 2, 6, 0, 0), (6, .invokevirtual 170, 9, 58, 0), (9, .istore 6, 11, 0, 0), (11, .aload_n 0, 12, 0, 0), (12, .getfield 74, 15, 11, 9), (15, .iload_n 3, 16, 0, 0), (16, .iload 4, 18, 0, 0), (18, .invokevirtual 170, 21, 58, 0), (21, .istore 7, 23, 0, 0), (23, .iload 6, 25, 0, 0), (25, .iconst (-1), 26, 0, 0), (26, .if_icmp .eq 17, 29, 0, 0), (43, .iconst (-1), 44, 0, 0)]), (45, [(44, .ireturn, 45, 0, 0)])]
def zc_X12_make : List (Nat × List zx_E) := [(16, [(0, .aload_n 0, 1, 0, 0), (1, .iload_n 1, 2, 0, 0), (2, .iload_n 2, 3, 0, 0), (3, .iload_n 3, 4, 0, 0), (4, .iload 4, 6, 0, 0), (6, .iload 5, 8, 0, 0), (8, .invokevirtual 544, 11, 178, 0), (11, .ifCond .ne 5, 14, 0, 0), (14, .iconst (-1), 15, 0, 0), (15, .ireturn, 16, 0, 0)])]
def zc_X11_race : List (Nat × List zx_E) := [(32, [(0, .iload_n 1, 1, 0, 0), (1, .aload_n 0, 2, 0, 0), (2, .getfield 74, 5, 11, 9), (5, .invokevirtual 323, 8, 72, 0), (8, .invokestatic 319, 11, 108, 0), (11, .ifCond .eq 23, 14, 0, 0), (14, .iload_n 2, 15, 0, 0), (15, .aload_n 0, 16, 0, 0), (16, .getfield 74, 19, 11, 9), (19, .invokevirtual 323, 22, 72, 0), (22, .invokestatic 319, 25, 108, 0), (25, .ifCond .eq 9, 28, 0, 0), (28, .iload_n 1, 29, 0, 0), (29, .iload_n 2, 30, 0, 0), (30, .iand, 31, 0, 0), (31, .ifCond .eq 5, 34, 0, 0)]), (66, [(34, .iconst (-1), 35, 0, 0), (35, .ireturn, 36, 0, 0), (36, .aload_n 0, 37, 0, 0), (37, .getfield 53, 40, 11, 6), (40, .aload_n 0, 41, 0, 0), (41, .getfield 74, 44, 11, 9), (44, .aload_n 0, 45, 0, 0), (45, .getfield 78, 48, 11, 10), (48, .getfield 134, 51, 8, 2), (51, .invokevirtual 233, 54, 109, 0), (54, .aload_n 0, 55, 0, 0), (55, .getfield 53, 58, 11, 6), (58, .aload_n 0, 59, 0, 0), (59, .getfield 78, 62, 11, 10), (62, .getfield 147, 65, 8, 0), (65, .aload_n 0, 66, 0, 0)]), (96, [(66, .getfield 78, 69, 11, 10), (69, .aload_n 0, 70, 0, 0), (70, .getfield 74, 73, 11, 9), (73, .invokevirtual 203, 76, 71, 0), (76, .invokevirtual 237, 79, 111, 0), (79, .aload_n 0, 80, 0, 0), (80, .getfield 53, 83, 11, 6), (83, .iload_n 1, 84, 0, 0), (84, .iload_n 2, 85, 0, 0), (85, .invokevirtual 326, 88, 184, 0), (88, .istore_n 3, 89, 0, 0), (89, .iload_n 3, 90, 0, 0), (90, .iconst (-1), 91, 0, 0), (91, .if_icmp .ne 7, 94, 0, 0), (94, .iconst 0, 95, 0, 0), (95, .goto 7, 98, 0, 0)]), (103, [(102, .ireturn, 103, 0, 0)])]
def zc_X4_winningDoor : List (Nat × List zx_E) := [(27, [(0, .iload_n 1, 1, 0, 0), (1, .iload_n 2, 2, 0, 0), (2, .ior, 3, 0, 0), (3, .aload_n 0, 4, 0, 0), (4, .getfield 32, 7, 4, 6), (7, .iand, 8, 0, 0), (8, .istore_n 3, 9, 0, 0), (9, .iload_n 3, 10, 0, 0), (10, .istore 4, 12, 0, 0), (12, .iload 4, 14, 0, 0), (14, .ifCond .lt 59, 17, 0, 0), (17, .iload 4, 19, 0, 0), (19, .iload_n 3, 20, 0, 0), (20, .invokestatic 50, 23, 108, 1), (23, .ifCond .eq 44, 26, 0, 0), (26, .iload 4, 28, 0, 0)]), (59, [(28, .invokestatic 64, 31, 73, 0), (31, .iconst 2, 32, 0, 0), (32, .irem, 33, 0, 0), (33, .ifCond .ne 7, 36, 0, 0), (36, .iload_n 1, 37, 0, 0), (37, .goto 4, 40, 0, 0), (41, .istore 5, 43, 0, 0), (43, .aload_n 0, 44, 0, 0), (44, .getfield 24, 47, 4, 4), (47, .iload 4, 49, 0, 0), (49, .aload_n 0, 50, 0, 0), (50, .iload 5, 52, 0, 0), (52, .iload 4, 54, 0, 0), (54, .invokevirtual 101, 57, 185, 0), (57, .iconst (-1), 58, 0, 0), (58, .if_icmp .eq 7, 61, 0, 0)]), (80, [(65, .iconst 0, 66, 0, 0), (66, .bastore, 67, 0, 0), (67, .iinc 4 (-1), 70, 0, 0), (70, .goto (-58), 73, 0, 0), (73, .aload_n 0, 74, 0, 0), (74, .iload_n 1, 75, 0, 0), (75, .iconst 0, 76, 0, 0), (76, .invokevirtual 101, 79, 185, 0), (79, .ireturn, 80, 0, 0)])]
def zc_X4_winningMove : List (Nat × List zx_E) := [(49, [(0, .iconst 0, 1, 0, 0), (1, .istore_n 3, 2, 0, 0), (2, .iload_n 3, 3, 0, 0), (3, .bipush 10, 5, 0, 0), (5, .if_icmp .ge 42, 8, 0, 0), (8, .iload_n 1, 9, 0, 0), (9, .iload_n 3, 10, 0, 0), (10, .invokestatic 47, 13, 135, 1), (13, .iconst 1, 14, 0, 0), (14, .if_icmp .ne 27, 17, 0, 0), (41, .iinc 3 1, 44, 0, 0), (44, .goto (-42), 47, 0, 0), (47, .iconst (-1), 48, 0, 0), (48, .ireturn, 49, 0, 0)])]
def zc_X12_race : List (Nat × List zx_E) := [(26, [(0, .aload_n 0, 1, 0, 0), (1, .iload_n 1, 2, 0, 0), (2, .invokevirtual 501, 5, 116, 0), (5, .ifCond .eq 17, 8, 0, 0), (8, .aload_n 0, 9, 0, 0), (9, .iload_n 2, 10, 0, 0), (10, .invokevirtual 501, 13, 116, 0), (13, .ifCond .eq 9, 16, 0, 0), (16, .iload_n 1, 17, 0, 0), (17, .iload_n 2, 18, 0, 0), (18, .iand, 19, 0, 0), (19, .ifCond .eq 5, 22, 0, 0), (22, .iconst (-1), 23, 0, 0), (23, .ireturn, 24, 0, 0), (24, .aload_n 0, 25, 0, 0), (25, .aload_n 0, 26, 0, 0)]), (50, [(26, .getfield 119, 29, 12, 49), (29, .iconst 2, 30, 0, 0), (30, .iaload, 31, 0, 0), (31, .invokevirtual 447, 34, 96, 0), (34, .iconst (-1), 35, 0, 0), (35, .istore_n 3, 36, 0, 0), (36, .iconst 1, 37, 0, 0), (37, .aload_n 0, 38, 0, 0), (38, .invokevirtual 397, 41, 51, 0), (41, .ishl, 42, 0, 0), (42, .iconst 1, 43, 0, 0), (43, .isub, 44, 0, 0), (44, .istore 4, 46, 0, 0), (46, .iload 4, 48, 0, 0), (48, .aload_n 0, 49, 0, 0), (49, .getfield 119, 52, 12, 49)]), (81, [(52, .iconst 0, 53, 0, 0), (53, .iaload, 54, 0, 0), (54, .if_icmp .lt 89, 57, 0, 0), (57, .iload 4, 59, 0, 0), (59, .aload_n 0, 60, 0, 0), (60, .getfield 119, 63, 12, 49), (63, .iconst 0, 64, 0, 0), (64, .iaload, 65, 0, 0), (65, .iand, 66, 0, 0), (66, .aload_n 0, 67, 0, 0), (67, .getfield 119, 70, 12, 49), (70, .iconst 0, 71, 0, 0), (71, .iaload, 72, 0, 0), (72, .if_icmp .eq 6, 75, 0, 0), (78, .iload 4, 80, 0, 0), (80, .aload_n 0, 81, 0, 0)]), (108, [(81, .getfield 119, 84, 12, 49), (84, .iconst 0, 85, 0, 0), (85, .iaload, 86, 0, 0), (86, .iconst (-1), 87, 0, 0), (87, .ixor, 88, 0, 0), (88, .iand, 89, 0, 0), (89, .invokestatic 517, 92, 129, 0), (92, .iconst 2, 93, 0, 0), (93, .irem, 94, 0, 0), (94, .ifCond .ne 7, 97, 0, 0), (97, .iconst 1, 98, 0, 0), (98, .goto 4, 101, 0, 0), (102, .istore 5, 104, 0, 0), (104, .aload_n 0, 105, 0, 0), (105, .iload 4, 107, 0, 0), (107, .iload 5, 109, 0, 0)]), (145, [(109, .ifCond .eq 7, 112, 0, 0), (112, .iload_n 1, 113, 0, 0), (113, .goto 4, 116, 0, 0), (117, .invokevirtual 551, 120, 187, 0), (120, .istore_n 3, 121, 0, 0), (121, .aload_n 0, 122, 0, 0), (122, .getfield 149, 125, 12, 63), (125, .iload 4, 127, 0, 0), (127, .iload_n 3, 128, 0, 0), (128, .ifCond .lt 7, 131, 0, 0), (135, .iconst 0, 136, 0, 0), (136, .bastore, 137, 0, 0), (137, .iinc 4 (-1), 140, 0, 0), (140, .goto (-94), 143, 0, 0), (143, .iload_n 3, 144, 0, 0), (144, .ifCond .ge 7, 147, 0, 0)]), (156, [(147, .iconst 0, 148, 0, 0), (148, .goto 7, 151, 0, 0), (155, .ireturn, 156, 0, 0)])]
def zc_X12_winsBy : List (Nat × List zx_E) := [(48, [(0, .iconst 0, 1, 0, 0), (1, .istore_n 3, 2, 0, 0), (2, .iload_n 3, 3, 0, 0), (3, .aload_n 0, 4, 0, 0), (4, .invokevirtual 397, 7, 51, 0), (7, .if_icmp .ge 39, 10, 0, 0), (46, .iconst (-1), 47, 0, 0), (47, .ireturn, 48, 0, 0)])]
def zc_X11_lies : List (Nat × List zx_E) := [(9, [(0, .aload_n 0, 1, 0, 0), (1, .getfield 67, 4, 11, 8), (4, .iload_n 1, 5, 0, 0), (5, .invokevirtual 329, 8, 189, 0), (8, .ireturn, 9, 0, 0)])]
def zc_X5_at : List (Nat × List zx_E) := [(23, [(0, .iload_n 1, 1, 0, 0), (1, .ifCond .lt 20, 4, 0, 0), (4, .iload_n 1, 5, 0, 0), (5, .aload_n 0, 6, 0, 0), (6, .getfield 15, 9, 5, 1), (9, .if_icmp .ge 12, 12, 0, 0), (21, .iconst (-1), 22, 0, 0), (22, .ireturn, 23, 0, 0)])]
def zc_X12_lies : List (Nat × List zx_E) := [(25, [(0, .iload_n 1, 1, 0, 0), (1, .iconst 0, 2, 0, 0), (2, .aload_n 0, 3, 0, 0), (3, .getfield 438, 6, 12, 57), (6, .iconst 1, 7, 0, 0), (7, .isub, 8, 0, 0), (8, .invokestatic 400, 11, 52, 0), (11, .ifCond .eq 12, 14, 0, 0), (23, .iconst (-1), 24, 0, 0), (24, .ireturn, 25, 0, 0)])]
def zc_X11_heard : List (Nat × List zx_E) := [(29, [(0, .aload_n 0, 1, 0, 0), (1, .getfield 74, 4, 11, 9), (4, .iload_n 1, 5, 0, 0), (5, .invokevirtual 120, 8, 48, 0), (8, .ifCond .eq 19, 11, 0, 0), (27, .iconst (-1), 28, 0, 0), (28, .ireturn, 29, 0, 0)])]
def zc_X12_heard : List (Nat × List zx_E) := [(32, [(0, .aload_n 0, 1, 0, 0), (1, .iload_n 1, 2, 0, 0), (2, .invokevirtual 441, 5, 50, 0), (5, .ifCond .eq 25, 8, 0, 0), (30, .iconst (-1), 31, 0, 0), (31, .ireturn, 32, 0, 0)])]
def zc_X11_untell : List (Nat × List zx_E) := [(9, [(0, .aload_n 0, 1, 0, 0), (1, .getfield 46, 4, 11, 5), (4, .iload_n 1, 5, 0, 0), (5, .invokevirtual 335, 8, 194, 0), (8, .ireturn, 9, 0, 0)])]
def zc_X1_takeBack : List (Nat × List zx_E) := [(24, [(0, .iload_n 1, 1, 0, 0), (1, .ifCond .lt 21, 4, 0, 0), (4, .iload_n 1, 5, 0, 0), (5, .aload_n 0, 6, 0, 0), (6, .getfield 24, 9, 1, 4), (9, .if_icmp .ge 13, 12, 0, 0), (22, .iconst 0, 23, 0, 0), (23, .ireturn, 24, 0, 0)])]
def zc_X12_untell : List (Nat × List zx_E) := [(25, [(0, .iload_n 1, 1, 0, 0), (1, .iconst 0, 2, 0, 0), (2, .aload_n 0, 3, 0, 0), (3, .getfield 435, 6, 12, 68), (6, .iconst 1, 7, 0, 0), (7, .isub, 8, 0, 0), (8, .invokestatic 400, 11, 52, 0), (11, .ifCond .eq 12, 14, 0, 0), (23, .iconst 0, 24, 0, 0), (24, .ireturn, 25, 0, 0)])]
def zc_X11_later : List (Nat × List zx_E) := [(30, [(0, .iload_n 1, 1, 0, 0), (1, .ifCond .lt 25, 4, 0, 0), (4, .iload_n 1, 5, 0, 0), (5, .sipush 1000, 8, 0, 0), (8, .if_icmp .gt 18, 11, 0, 0), (11, .aload_n 0, 12, 0, 0), (12, .getfield 46, 15, 11, 5), (15, .getfield 338, 18, 1, 5), (18, .iload_n 1, 19, 0, 0), (19, .iadd, 20, 0, 0), (20, .ldc_w 341, 23, 100000, 0), (23, .if_icmp .le 5, 26, 0, 0), (26, .iconst (-1), 27, 0, 0), (27, .ireturn, 28, 0, 0), (28, .aload_n 0, 29, 0, 0), (29, .getfield 46, 32, 11, 5)]), (49, [(32, .dup, 33, 0, 0), (33, .getfield 338, 36, 1, 5), (36, .iload_n 1, 37, 0, 0), (37, .iadd, 38, 0, 0), (38, .putfield 338, 41, 1, 5), (41, .aload_n 0, 42, 0, 0), (42, .getfield 46, 45, 11, 5), (45, .getfield 338, 48, 1, 5), (48, .ireturn, 49, 0, 0)])]
def zc_X12_later : List (Nat × List zx_E) := [(28, [(0, .iload_n 1, 1, 0, 0), (1, .iconst 0, 2, 0, 0), (2, .sipush 1000, 5, 0, 0), (5, .invokestatic 400, 8, 52, 0), (8, .ifCond .eq 15, 11, 0, 0), (11, .aload_n 0, 12, 0, 0), (12, .getfield 554, 15, 12, 69), (15, .iload_n 1, 16, 0, 0), (16, .iadd, 17, 0, 0), (17, .ldc_w 557, 20, 100000, 0), (20, .if_icmp .le 5, 23, 0, 0), (23, .iconst (-1), 24, 0, 0), (24, .ireturn, 25, 0, 0), (25, .aload_n 0, 26, 0, 0), (26, .dup, 27, 0, 0), (27, .getfield 554, 30, 12, 69)]), (40, [(30, .iload_n 1, 31, 0, 0), (31, .iadd, 32, 0, 0), (32, .putfield 554, 35, 12, 69), (35, .aload_n 0, 36, 0, 0), (36, .getfield 554, 39, 12, 69), (39, .ireturn, 40, 0, 0)])]
def zc_X11_tales : List (Nat × List zx_E) := [(28, [(0, .aload_n 0, 1, 0, 0), (1, .getfield 67, 4, 11, 8), (4, .invokevirtual 108, 7, 40, 0), (7, .aload_n 0, 8, 0, 0), (8, .iload_n 1, 9, 0, 0), (9, .invokevirtual 342, 12, 199, 0), (12, .ifCond .ne 5, 15, 0, 0), (15, .iconst (-1), 16, 0, 0), (16, .ireturn, 17, 0, 0), (17, .aload_n 0, 18, 0, 0), (18, .iload_n 1, 19, 0, 0), (19, .iload_n 2, 20, 0, 0), (20, .invokevirtual 345, 23, 200, 0), (23, .aload_n 0, 24, 0, 0), (24, .getfield 53, 27, 11, 6), (27, .iload_n 1, 28, 0, 0)]), (46, [(28, .invokevirtual 241, 31, 112, 0), (31, .istore_n 3, 32, 0, 0), (32, .aload_n 0, 33, 0, 0), (33, .getfield 53, 36, 11, 6), (36, .iload_n 1, 37, 0, 0), (37, .aload_n 0, 38, 0, 0), (38, .getfield 67, 41, 11, 8), (41, .invokevirtual 244, 44, 113, 0), (44, .iload_n 3, 45, 0, 0), (45, .ireturn, 46, 0, 0)])]
def zc_X11_isTaleSet : List (Nat × List zx_E) := [(28, [(0, .iload_n 1, 1, 0, 0), (1, .aload_n 0, 2, 0, 0), (2, .getfield 74, 5, 11, 9), (5, .invokevirtual 323, 8, 72, 0), (8, .aload_n 0, 9, 0, 0), (9, .getfield 74, 12, 11, 9), (12, .getfield 156, 15, 6, 14), (15, .iconst (-1), 16, 0, 0), (16, .ixor, 17, 0, 0), (17, .iand, 18, 0, 0), (18, .aload_n 0, 19, 0, 0), (19, .getfield 78, 22, 11, 10), (22, .getfield 150, 25, 8, 1), (25, .iconst (-1), 26, 0, 0), (26, .ixor, 27, 0, 0), (27, .iand, 28, 0, 0)]), (32, [(28, .invokestatic 319, 31, 108, 0), (31, .ireturn, 32, 0, 0)])]
def zc_X11_startTales : List (Nat × List zx_E) := [(30, [(0, .aload_n 0, 1, 0, 0), (1, .getfield 53, 4, 11, 6), (4, .aload_n 0, 5, 0, 0), (5, .getfield 74, 8, 11, 9), (8, .aload_n 0, 9, 0, 0), (9, .getfield 78, 12, 11, 10), (12, .getfield 134, 15, 8, 2), (15, .invokevirtual 233, 18, 109, 0), (18, .aload_n 0, 19, 0, 0), (19, .getfield 53, 22, 11, 6), (22, .iconst 0, 23, 0, 0), (23, .iload_n 1, 24, 0, 0), (24, .invokevirtual 237, 27, 111, 0), (27, .iconst 0, 28, 0, 0), (28, .istore_n 3, 29, 0, 0), (29, .iload_n 3, 30, 0, 0)]), (84, [(30, .aload_n 0, 31, 0, 0), (31, .getfield 46, 34, 11, 5), (34, .getfield 363, 37, 1, 4), (37, .if_icmp .ge 46, 40, 0, 0), (83, .return_, 84, 0, 0)])]
def zc_X12_tales : List (Nat × List zx_E) := [(24, [(0, .aload_n 0, 1, 0, 0), (1, .iconst 0, 2, 0, 0), (2, .putfield 438, 5, 12, 57), (5, .aload_n 0, 6, 0, 0), (6, .iload_n 1, 7, 0, 0), (7, .invokevirtual 558, 10, 202, 0), (10, .ifCond .ne 5, 13, 0, 0), (13, .iconst (-1), 14, 0, 0), (14, .ireturn, 15, 0, 0), (15, .aload_n 0, 16, 0, 0), (16, .iload_n 2, 17, 0, 0), (17, .invokevirtual 561, 20, 203, 0), (20, .aload_n 0, 21, 0, 0), (21, .iload_n 1, 22, 0, 0), (22, .iconst 0, 23, 0, 0), (23, .aload_n 0, 24, 0, 0)]), (47, [(24, .invokevirtual 451, 27, 99, 0), (27, .invokevirtual 498, 30, 119, 0), (30, .istore_n 3, 31, 0, 0), (31, .iload_n 3, 32, 0, 0), (32, .ifCond .le 13, 35, 0, 0), (35, .aload_n 0, 36, 0, 0), (36, .iload_n 1, 37, 0, 0), (37, .iconst 0, 38, 0, 0), (38, .aload_n 0, 39, 0, 0), (39, .invokevirtual 451, 42, 99, 0), (42, .invokevirtual 510, 45, 120, 0), (45, .iload_n 3, 46, 0, 0), (46, .ireturn, 47, 0, 0)])]
def zc_X12_isTale : List (Nat × List zx_E) := [(25, [(0, .aload_n 0, 1, 0, 0), (1, .iload_n 1, 2, 0, 0), (2, .invokevirtual 501, 5, 116, 0), (5, .ifCond .eq 18, 8, 0, 0), (8, .iload_n 1, 9, 0, 0), (9, .aload_n 0, 10, 0, 0), (10, .invokevirtual 451, 13, 99, 0), (13, .iconst (-1), 14, 0, 0), (14, .ixor, 15, 0, 0), (15, .iand, 16, 0, 0), (16, .ifCond .ne 7, 19, 0, 0), (19, .iconst 1, 20, 0, 0), (20, .goto 4, 23, 0, 0), (23, .iconst 0, 24, 0, 0), (24, .ireturn, 25, 0, 0)])]
def zc_X12_layHeard : List (Nat × List zx_E) := [(82, [(0, .aload_n 0, 1, 0, 0), (1, .aload_n 0, 2, 0, 0), (2, .getfield 119, 5, 12, 49), (5, .iconst 2, 6, 0, 0), (6, .iaload, 7, 0, 0), (7, .invokevirtual 447, 10, 96, 0), (10, .aload_n 0, 11, 0, 0), (11, .invokevirtual 495, 14, 118, 0), (14, .iconst 0, 15, 0, 0), (15, .istore_n 2, 16, 0, 0), (16, .iload_n 2, 17, 0, 0), (17, .aload_n 0, 18, 0, 0), (18, .getfield 435, 21, 12, 68), (21, .if_icmp .ge 60, 24, 0, 0), (81, .return_, 82, 0, 0)])]
def zc_X11_firsts : List (Nat × List zx_E) := [(26, [(0, .aload_n 0, 1, 0, 0), (1, .iload_n 1, 2, 0, 0), (2, .invokevirtual 342, 5, 199, 0), (5, .ifCond .ne 5, 8, 0, 0), (8, .iconst (-1), 9, 0, 0), (9, .ireturn, 10, 0, 0), (10, .aload_n 0, 11, 0, 0), (11, .iload_n 1, 12, 0, 0), (12, .iload_n 2, 13, 0, 0), (13, .invokevirtual 345, 16, 200, 0), (16, .aload_n 0, 17, 0, 0), (17, .getfield 53, 20, 11, 6), (20, .iload_n 1, 21, 0, 0), (21, .invokevirtual 241, 24, 112, 0), (24, .pop, 25, 0, 0), (25, .aload_n 0, 26, 0, 0)]), (34, [(26, .getfield 53, 29, 11, 6), (29, .iload_n 1, 30, 0, 0), (30, .invokevirtual 348, 33, 205, 0), (33, .ireturn, 34, 0, 0)])]
def zc_X4_firstDoors : List (Nat × List zx_E) := [(21, [(0, .iload_n 1, 1, 0, 0), (1, .sipush 1023, 4, 0, 0), (4, .invokestatic 50, 7, 108, 1), (7, .ifCond .eq 12, 10, 0, 0), (10, .aload_n 0, 11, 0, 0), (11, .iload_n 1, 12, 0, 0), (12, .iconst 0, 13, 0, 0), (13, .invokevirtual 70, 16, 206, 0), (16, .goto 4, 19, 0, 0), (20, .ireturn, 21, 0, 0)])]
def zc_X4_doorsOnward : List (Nat × List zx_E) := [(51, [(0, .iconst 0, 1, 0, 0), (1, .istore_n 3, 2, 0, 0), (2, .iconst 0, 3, 0, 0), (3, .istore 4, 5, 0, 0), (5, .iload 4, 7, 0, 0), (7, .bipush 10, 9, 0, 0), (9, .if_icmp .ge 41, 12, 0, 0), (12, .aload_n 0, 13, 0, 0), (13, .iload_n 1, 14, 0, 0), (14, .iload_n 2, 15, 0, 0), (15, .iload 4, 17, 0, 0), (17, .invokevirtual 57, 20, 207, 0), (20, .ifCond .eq 24, 23, 0, 0), (44, .iinc 4 1, 47, 0, 0), (47, .goto (-42), 50, 0, 0), (50, .iload_n 3, 51, 0, 0)]), (52, [(51, .ireturn, 52, 0, 0)])]
def zc_X4_comesNext : List (Nat × List zx_E) := [(43, [(0, .iload_n 1, 1, 0, 0), (1, .iload_n 2, 2, 0, 0), (2, .iconst (-1), 3, 0, 0), (3, .ixor, 4, 0, 0), (4, .iand, 5, 0, 0), (5, .iload_n 3, 6, 0, 0), (6, .invokestatic 47, 9, 135, 1), (9, .iconst 1, 10, 0, 0), (10, .if_icmp .ne 31, 13, 0, 0), (41, .iconst 0, 42, 0, 0), (42, .ireturn, 43, 0, 0)])]
def zc_X12_firsts : List (Nat × List zx_E) := [(26, [(0, .aload_n 0, 1, 0, 0), (1, .iload_n 1, 2, 0, 0), (2, .invokevirtual 558, 5, 202, 0), (5, .ifCond .ne 5, 8, 0, 0), (8, .iconst (-1), 9, 0, 0), (9, .ireturn, 10, 0, 0), (10, .aload_n 0, 11, 0, 0), (11, .iload_n 2, 12, 0, 0), (12, .invokevirtual 561, 15, 203, 0), (15, .aload_n 0, 16, 0, 0), (16, .iload_n 1, 17, 0, 0), (17, .iconst 0, 18, 0, 0), (18, .aload_n 0, 19, 0, 0), (19, .invokevirtual 451, 22, 99, 0), (22, .invokevirtual 498, 25, 119, 0), (25, .pop, 26, 0, 0)]), (83, [(26, .iconst 0, 27, 0, 0), (27, .istore_n 3, 28, 0, 0), (28, .iconst 0, 29, 0, 0), (29, .istore 4, 31, 0, 0), (31, .iload 4, 33, 0, 0), (33, .aload_n 0, 34, 0, 0), (34, .invokevirtual 397, 37, 51, 0), (37, .if_icmp .ge 44, 40, 0, 0), (81, .iload_n 3, 82, 0, 0), (82, .ireturn, 83, 0, 0)])]
def zc_X11_ahead : List (Nat × List zx_E) := [(53, [(0, .aload_n 0, 1, 0, 0), (1, .iload_n 1, 2, 0, 0), (2, .invokevirtual 342, 5, 199, 0), (5, .ifCond .eq 46, 8, 0, 0), (8, .aload_n 0, 9, 0, 0), (9, .getfield 74, 12, 11, 9), (12, .iload_n 2, 13, 0, 0), (13, .invokevirtual 120, 16, 48, 0), (16, .ifCond .eq 35, 19, 0, 0), (51, .iconst (-1), 52, 0, 0), (52, .ireturn, 53, 0, 0)])]
def zc_X12_ahead : List (Nat × List zx_E) := [(47, [(0, .aload_n 0, 1, 0, 0), (1, .iload_n 1, 2, 0, 0), (2, .invokevirtual 558, 5, 202, 0), (5, .ifCond .eq 40, 8, 0, 0), (8, .aload_n 0, 9, 0, 0), (9, .iload_n 2, 10, 0, 0), (10, .invokevirtual 441, 13, 50, 0), (13, .ifCond .eq 32, 16, 0, 0), (45, .iconst (-1), 46, 0, 0), (46, .ireturn, 47, 0, 0)])]
def zc_X11_image : List (Nat × List zx_E) := [(26, [(0, .iload_n 1, 1, 0, 0), (1, .ifCond .lt 12, 4, 0, 0), (4, .iload_n 1, 5, 0, 0), (5, .aload_n 0, 6, 0, 0), (6, .getfield 39, 9, 11, 4), (9, .arraylength, 10, 0, 0), (10, .if_icmp .lt 5, 13, 0, 0), (13, .iconst (-1), 14, 0, 0), (14, .ireturn, 15, 0, 0), (15, .aload_n 0, 16, 0, 0), (16, .getfield 39, 19, 11, 4), (19, .iload_n 1, 20, 0, 0), (20, .aaload, 21, 0, 0), (21, .aload_n 0, 22, 0, 0), (22, .getfield 78, 25, 11, 10), (25, .invokevirtual 275, 28, 90, 0)]), (51, [(28, .aload_n 0, 29, 0, 0), (29, .dup, 30, 0, 0), (30, .getfield 81, 33, 11, 11), (33, .iconst 1, 34, 0, 0), (34, .iload_n 1, 35, 0, 0), (35, .ishl, 36, 0, 0), (36, .ior, 37, 0, 0), (37, .putfield 81, 40, 11, 11), (40, .aload_n 0, 41, 0, 0), (41, .getfield 78, 44, 11, 10), (44, .getfield 147, 47, 8, 0), (47, .invokestatic 188, 50, 73, 0), (50, .ireturn, 51, 0, 0)])]
def zc_X12_image : List (Nat × List zx_E) := [(26, [(0, .iload_n 1, 1, 0, 0), (1, .iconst 0, 2, 0, 0), (2, .iconst 2, 3, 0, 0), (3, .invokestatic 400, 6, 52, 0), (6, .ifCond .ne 5, 9, 0, 0), (9, .iconst (-1), 10, 0, 0), (10, .ireturn, 11, 0, 0), (11, .iconst 0, 12, 0, 0), (12, .istore_n 2, 13, 0, 0), (13, .iload_n 2, 14, 0, 0), (14, .bipush 16, 16, 0, 0), (16, .if_icmp .ge 26, 19, 0, 0), (19, .aload_n 0, 20, 0, 0), (20, .getfield 164, 23, 12, 70), (23, .bipush 16, 25, 0, 0), (25, .iload_n 1, 26, 0, 0)]), (50, [(26, .imul, 27, 0, 0), (27, .iload_n 2, 28, 0, 0), (28, .iadd, 29, 0, 0), (29, .aload_n 0, 30, 0, 0), (30, .getfield 119, 33, 12, 49), (33, .iload_n 2, 34, 0, 0), (34, .iaload, 35, 0, 0), (35, .iastore, 36, 0, 0), (36, .iinc 2 1, 39, 0, 0), (39, .goto (-26), 42, 0, 0), (42, .aload_n 0, 43, 0, 0), (43, .getfield 167, 46, 12, 71), (46, .iload_n 1, 47, 0, 0), (47, .iconst 1, 48, 0, 0), (48, .bastore, 49, 0, 0), (49, .aload_n 0, 50, 0, 0)]), (59, [(50, .getfield 119, 53, 12, 49), (53, .iconst 0, 54, 0, 0), (54, .iaload, 55, 0, 0), (55, .invokestatic 517, 58, 129, 0), (58, .ireturn, 59, 0, 0)])]
def zc_X11_back : List (Nat × List zx_E) := [(26, [(0, .iload_n 1, 1, 0, 0), (1, .ifCond .lt 23, 4, 0, 0), (4, .iload_n 1, 5, 0, 0), (5, .aload_n 0, 6, 0, 0), (6, .getfield 39, 9, 11, 4), (9, .arraylength, 10, 0, 0), (10, .if_icmp .ge 14, 13, 0, 0), (13, .aload_n 0, 14, 0, 0), (14, .getfield 81, 17, 11, 11), (17, .iload_n 1, 18, 0, 0), (18, .invokestatic 144, 21, 135, 0), (21, .ifCond .ne 5, 24, 0, 0), (24, .iconst (-1), 25, 0, 0), (25, .ireturn, 26, 0, 0)])]
def zc_X12_back : List (Nat × List zx_E) := [(20, [(0, .iload_n 1, 1, 0, 0), (1, .iconst 0, 2, 0, 0), (2, .iconst 2, 3, 0, 0), (3, .invokestatic 400, 6, 52, 0), (6, .ifCond .eq 12, 9, 0, 0), (9, .aload_n 0, 10, 0, 0), (10, .getfield 167, 13, 12, 71), (13, .iload_n 1, 14, 0, 0), (14, .baload, 15, 0, 0), (15, .ifCond .ne 5, 18, 0, 0), (18, .iconst (-1), 19, 0, 0), (19, .ireturn, 20, 0, 0)])]
def zc_X11_about : List (Nat × List zx_E) := [(102, [(0, .iload_n 1, 1, 0, 0), (1, .tableswitch 198 0 14 #[75, 83, 91, 99, 107, 115, 123, 131, 139, 147, 155, 163, 171, 179, 190], 76, 0, 0), (76, .aload_n 0, 77, 0, 0), (77, .getfield 74, 80, 11, 9), (80, .getfield 111, 83, 6, 9), (83, .ireturn, 84, 0, 0), (84, .aload_n 0, 85, 0, 0), (85, .getfield 74, 88, 11, 9), (88, .getfield 354, 91, 6, 8), (91, .ireturn, 92, 0, 0), (92, .aload_n 0, 93, 0, 0), (93, .getfield 74, 96, 11, 9), (96, .getfield 357, 99, 6, 10), (99, .ireturn, 100, 0, 0), (100, .aload_n 0, 101, 0, 0), (101, .getfield 78, 104, 11, 10)]), (134, [(104, .getfield 147, 107, 8, 0), (107, .ireturn, 108, 0, 0), (108, .aload_n 0, 109, 0, 0), (109, .getfield 78, 112, 11, 10), (112, .getfield 150, 115, 8, 1), (115, .ireturn, 116, 0, 0), (116, .aload_n 0, 117, 0, 0), (117, .getfield 78, 120, 11, 10), (120, .getfield 193, 123, 8, 3), (123, .ireturn, 124, 0, 0), (124, .aload_n 0, 125, 0, 0), (125, .getfield 78, 128, 11, 10), (128, .getfield 210, 131, 8, 4), (131, .ireturn, 132, 0, 0), (132, .aload_n 0, 133, 0, 0), (133, .getfield 78, 136, 11, 10)]), (166, [(136, .getfield 360, 139, 8, 5), (139, .ireturn, 140, 0, 0), (140, .aload_n 0, 141, 0, 0), (141, .getfield 28, 144, 11, 2), (144, .invokevirtual 216, 147, 101, 0), (147, .ireturn, 148, 0, 0), (148, .aload_n 0, 149, 0, 0), (149, .getfield 28, 152, 11, 2), (152, .invokevirtual 224, 155, 104, 0), (155, .ireturn, 156, 0, 0), (156, .aload_n 0, 157, 0, 0), (157, .getfield 46, 160, 11, 5), (160, .getfield 363, 163, 1, 4), (163, .ireturn, 164, 0, 0), (164, .aload_n 0, 165, 0, 0), (165, .getfield 46, 168, 11, 5)]), (200, [(168, .getfield 338, 171, 1, 5), (171, .ireturn, 172, 0, 0), (172, .aload_n 0, 173, 0, 0), (173, .getfield 12, 176, 11, 0), (176, .getfield 85, 179, 10, 1), (179, .ireturn, 180, 0, 0), (180, .aload_n 0, 181, 0, 0), (181, .getfield 74, 184, 11, 9), (184, .getfield 366, 187, 6, 7), (187, .getfield 370, 190, 0, 4), (190, .ireturn, 191, 0, 0), (191, .aload_n 0, 192, 0, 0), (192, .getfield 67, 195, 11, 8), (195, .getfield 316, 198, 5, 1), (198, .ireturn, 199, 0, 0), (199, .iconst (-1), 200, 0, 0)]), (201, [(200, .ireturn, 201, 0, 0)])]
def zc_X12_about : List (Nat × List zx_E) := [(100, [(0, .iload_n 1, 1, 0, 0), (1, .tableswitch 178 0 14 #[75, 80, 90, 100, 107, 114, 122, 130, 138, 143, 148, 153, 158, 163, 173], 76, 0, 0), (76, .aload_n 0, 77, 0, 0), (77, .invokevirtual 397, 80, 51, 0), (80, .ireturn, 81, 0, 0), (81, .aload_n 0, 82, 0, 0), (82, .getfield 20, 85, 12, 11), (85, .aload_n 0, 86, 0, 0), (86, .getfield 300, 89, 12, 43), (89, .iaload, 90, 0, 0), (90, .ireturn, 91, 0, 0), (91, .aload_n 0, 92, 0, 0), (92, .getfield 27, 95, 12, 13), (95, .aload_n 0, 96, 0, 0), (96, .getfield 300, 99, 12, 43), (99, .iaload, 100, 0, 0)]), (123, [(100, .ireturn, 101, 0, 0), (101, .aload_n 0, 102, 0, 0), (102, .getfield 119, 105, 12, 49), (105, .iconst 0, 106, 0, 0), (106, .iaload, 107, 0, 0), (107, .ireturn, 108, 0, 0), (108, .aload_n 0, 109, 0, 0), (109, .getfield 119, 112, 12, 49), (112, .iconst 1, 113, 0, 0), (113, .iaload, 114, 0, 0), (114, .ireturn, 115, 0, 0), (115, .aload_n 0, 116, 0, 0), (116, .getfield 119, 119, 12, 49), (119, .bipush 13, 121, 0, 0), (121, .iaload, 122, 0, 0), (122, .ireturn, 123, 0, 0)]), (149, [(123, .aload_n 0, 124, 0, 0), (124, .getfield 119, 127, 12, 49), (127, .bipush 14, 129, 0, 0), (129, .iaload, 130, 0, 0), (130, .ireturn, 131, 0, 0), (131, .aload_n 0, 132, 0, 0), (132, .getfield 119, 135, 12, 49), (135, .bipush 15, 137, 0, 0), (137, .iaload, 138, 0, 0), (138, .ireturn, 139, 0, 0), (139, .aload_n 0, 140, 0, 0), (140, .getfield 429, 143, 12, 52), (143, .ireturn, 144, 0, 0), (144, .aload_n 0, 145, 0, 0), (145, .getfield 432, 148, 12, 53), (148, .ireturn, 149, 0, 0)]), (175, [(149, .aload_n 0, 150, 0, 0), (150, .getfield 435, 153, 12, 68), (153, .ireturn, 154, 0, 0), (154, .aload_n 0, 155, 0, 0), (155, .getfield 554, 158, 12, 69), (158, .ireturn, 159, 0, 0), (159, .aload_n 0, 160, 0, 0), (160, .getfield 297, 163, 12, 2), (163, .ireturn, 164, 0, 0), (164, .aload_n 0, 165, 0, 0), (165, .getfield 30, 168, 12, 14), (168, .aload_n 0, 169, 0, 0), (169, .getfield 300, 172, 12, 43), (172, .iaload, 173, 0, 0), (173, .ireturn, 174, 0, 0), (174, .aload_n 0, 175, 0, 0)]), (181, [(175, .getfield 438, 178, 12, 57), (178, .ireturn, 179, 0, 0), (179, .iconst (-1), 180, 0, 0), (180, .ireturn, 181, 0, 0)])]
def zm_0 : zx_M := ((⟨"LaneDoors", "<init>", "()V"⟩, prog_1_method_1_code, 2, none), (11, 2, 0, 139, 5747), zc_X11_init)
def zm_1 : zx_M := ((⟨"LaneDoors$Tape", "<init>", "()V"⟩, prog_12_method_1_code, 1, none), (10, 2, 0, 1, 1600), zc_X10_init)
def zm_2 : zx_M := ((⟨"LaneDoors$Reader", "<init>", "(LLaneDoors$Tape;)V"⟩, prog_9_method_1_code, 2, none), (7, 2, 1, 15, 449), zc_X7_init)
def zm_3 : zx_M := ((⟨"LaneDoors$Plan", "<init>", "()V"⟩, prog_8_method_1_code, 1, none), (6, 2, 0, 10, 385), zc_X6_init)
def zm_4 : zx_M := ((⟨"LaneDoors$Formula", "<init>", "()V"⟩, prog_2_method_1_code, 1, none), (0, 2, 0, 2, 330), zc_X0_init)
def zm_5 : zx_M := ((⟨"LaneDoors$Lexer", "<init>", "(LLaneDoors$Tape;)V"⟩, prog_5_method_1_code, 4, none), (3, 2, 1, 1, 25), zc_X3_init)
def zm_6 : zx_M := ((⟨"java/lang/String", "length", "()I"⟩, prog_18_method_54_code, 1, (some .int)), (14, 0, 0, 0, 0), zc_J0_length_8abf5)
def zm_7 : zx_M := ((⟨"java/lang/String", "coder", "()B"⟩, prog_18_method_152_code, 1, (some .byte)), (14, 0, 0, 0, 0), zc_J0_coder_7d493)
def zm_8 : zx_M := ((⟨"java/lang/String", "charAt", "(I)C"⟩, prog_18_method_56_code, 2, (some .char)), (14, 0, 1, 0, 0), zc_J0_charAt_5068e)
def zm_9 : zx_M := ((⟨"java/lang/String", "isLatin1", "()Z"⟩, prog_18_method_154_code, 1, (some .boolean)), (14, 0, 0, 0, 0), zc_J0_isLatin1_aae02)
def zm_10 : zx_M := ((⟨"java/lang/StringLatin1", "charAt", "([BI)C"⟩, prog_19_method_2_code, 2, (some .char)), (15, 1, 2, 0, 0), zc_J1_charAt_3b067)
def zm_11 : zx_M := ((⟨"java/lang/String", "checkIndex", "(II)V"⟩, prog_18_method_155_code, 2, none), (14, 1, 2, 0, 0), zc_J0_checkIndex_df160)
def zm_12 : zx_M := ((⟨"jdk/internal/util/Preconditions", "checkIndex", "(IILjava/util/function/BiFunction;)I"⟩, prog_23_method_11_code, 3, (some .int)), (16, 1, 3, 0, 0), zc_J3_checkIndex_8e157)
def zm_13 : zx_M := ((⟨"LaneDoors$Lexer", "withLetter", "(JI)J"⟩, prog_5_method_7_code, 3, (some .long)), (3, 1, 2, 0, 0), zc_X3_withLetter)
def zm_14 : zx_M := ((⟨"LaneDoors$History", "<init>", "()V"⟩, prog_4_method_1_code, 2, none), (2, 2, 0, 81, 720), zc_X2_init)
def zm_15 : zx_M := ((⟨"LaneDoors$State", "<init>", "()V"⟩, prog_10_method_1_code, 1, none), (8, 2, 0, 1, 10), zc_X8_init)
def zm_16 : zx_M := ((⟨"LaneDoors$Hearsay", "<init>", "()V"⟩, prog_3_method_1_code, 1, none), (1, 2, 0, 4, 120), zc_X1_init)
def zm_17 : zx_M := ((⟨"LaneDoors$Opener", "<init>", "()V"⟩, prog_6_method_1_code, 1, none), (4, 2, 0, 5, 2078), zc_X4_init)
def zm_18 : zx_M := ((⟨"LaneDoors$Streets", "<init>", "()V"⟩, prog_11_method_1_code, 1, none), (9, 2, 0, 3, 192), zc_X9_init)
def zm_19 : zx_M := ((⟨"LaneDoors$Pile", "<init>", "()V"⟩, prog_7_method_1_code, 1, none), (5, 2, 0, 1, 64), zc_X5_init)
def zm_20 : zx_M := ((⟨"LaneDoorsModel", "<init>", "()V"⟩, prog_14_method_1_code, 1, none), (12, 2, 0, 51, 10075), zc_X12_init)
def zm_21 : zx_M := ((⟨"LaneDoorsModel", "clearBank", "()V"⟩, prog_14_method_16_code, 1, none), (12, 0, 0, 0, 0), zc_X12_clearBank)
def zm_22 : zx_M := ((⟨"LaneDoorsModel", "startAnew", "()V"⟩, prog_14_method_61_code, 2, none), (12, 0, 0, 0, 0), zc_X12_startAnew)
def zm_23 : zx_M := ((⟨"LaneDoors", "feed", "(IIIII)I"⟩, prog_1_method_2_code, 6, (some .int)), (11, 0, 5, 0, 0), zc_X11_feed)
def zm_24 : zx_M := ((⟨"LaneDoors$Tape", "append", "(I)V"⟩, prog_12_method_2_code, 3, none), (10, 0, 1, 0, 0), zc_X10_append)
def zm_25 : zx_M := ((⟨"LaneDoorsModel", "feed", "(IIIII)I"⟩, prog_14_method_136_code, 8, (some .int)), (12, 0, 5, 0, 0), zc_X12_feed)
def zm_26 : zx_M := ((⟨"LaneDoors", "end", "(I)I"⟩, prog_1_method_3_code, 2, (some .int)), (11, 0, 1, 0, 0), zc_X11_end)
def zm_27 : zx_M := ((⟨"LaneDoorsModel", "end", "(I)I"⟩, prog_14_method_137_code, 2, (some .int)), (12, 0, 1, 0, 0), zc_X12_end)
def zm_28 : zx_M := ((⟨"LaneDoors", "town", "()I"⟩, prog_1_method_4_code, 1, (some .int)), (11, 0, 0, 0, 0), zc_X11_town)
def zm_29 : zx_M := ((⟨"LaneDoors$Reader", "readTown", "()Z"⟩, prog_9_method_3_code, 2, (some .boolean)), (7, 0, 0, 0, 0), zc_X7_readTown)
def zm_30 : zx_M := ((⟨"LaneDoors$Plan", "clear", "()V"⟩, prog_8_method_2_code, 1, none), (6, 0, 0, 0, 0), zc_X6_clear)
def zm_31 : zx_M := ((⟨"LaneDoors$Formula", "clear", "()V"⟩, prog_2_method_2_code, 1, none), (0, 0, 0, 0, 0), zc_X0_clear)
def zm_32 : zx_M := ((⟨"LaneDoors$Lexer", "restart", "()V"⟩, prog_5_method_2_code, 1, none), (3, 0, 0, 0, 0), zc_X3_restart)
def zm_33 : zx_M := ((⟨"LaneDoors$Lexer", "advance", "()V"⟩, prog_5_method_3_code, 2, none), (3, 0, 0, 0, 0), zc_X3_advance)
def zm_34 : zx_M := ((⟨"LaneDoors$Tape", "at", "(I)I"⟩, prog_12_method_3_code, 2, (some .int)), (10, 0, 1, 0, 0), zc_X10_at)
def zm_35 : zx_M := ((⟨"LaneDoors$Reader", "exchange", "(LLaneDoors$Plan;)LLaneDoors$Plan;"⟩, prog_9_method_2_code, 3, (some (.object "LaneDoors$Plan"))), (7, 0, 1, 0, 0), zc_X7_exchange)
def zm_36 : zx_M := ((⟨"LaneDoors$State", "begin", "(LLaneDoors$Plan;)V"⟩, prog_10_method_2_code, 2, none), (8, 0, 1, 0, 0), zc_X8_begin)
def zm_37 : zx_M := ((⟨"java/util/Arrays", "fill", "([II)V"⟩, prog_22_method_103_code, 4, none), (17, 1, 2, 0, 0), zc_J7_fill_53178)
def zm_38 : zx_M := ((⟨"LaneDoors$History", "forget", "()V"⟩, prog_4_method_2_code, 1, none), (2, 0, 0, 0, 0), zc_X2_forget)
def zm_39 : zx_M := ((⟨"LaneDoors$Hearsay", "forget", "()V"⟩, prog_3_method_2_code, 1, none), (1, 0, 0, 0, 0), zc_X1_forget)
def zm_40 : zx_M := ((⟨"LaneDoors$Pile", "clear", "()V"⟩, prog_7_method_2_code, 1, none), (5, 0, 0, 0, 0), zc_X5_clear)
def zm_41 : zx_M := ((⟨"LaneDoorsModel", "town", "()I"⟩, prog_14_method_17_code, 2, (some .int)), (12, 0, 0, 0, 0), zc_X12_town)
def zm_42 : zx_M := ((⟨"LaneDoorsModel", "goOn", "()V"⟩, prog_14_method_9_code, 3, none), (12, 0, 0, 0, 0), zc_X12_goOn)
def zm_43 : zx_M := ((⟨"LaneDoorsModel", "sign", "(I)I"⟩, prog_14_method_2_code, 2, (some .int)), (12, 0, 1, 0, 0), zc_X12_sign)
def zm_44 : zx_M := ((⟨"LaneDoorsModel", "isGood", "()Z"⟩, prog_14_method_6_code, 1, (some .boolean)), (12, 0, 0, 0, 0), zc_X12_isGood)
def zm_45 : zx_M := ((⟨"LaneDoors", "fault", "(I)I"⟩, prog_1_method_5_code, 2, (some .int)), (11, 0, 1, 0, 0), zc_X11_fault)
def zm_46 : zx_M := ((⟨"LaneDoorsModel", "fault", "(I)I"⟩, prog_14_method_42_code, 2, (some .int)), (12, 0, 1, 0, 0), zc_X12_fault)
def zm_47 : zx_M := ((⟨"LaneDoors", "door", "(II)I"⟩, prog_1_method_6_code, 3, (some .int)), (11, 0, 2, 0, 0), zc_X11_door)
def zm_48 : zx_M := ((⟨"LaneDoors$Plan", "isDoor", "(I)Z"⟩, prog_8_method_8_code, 2, (some .boolean)), (6, 0, 1, 0, 0), zc_X6_isDoor)
def zm_49 : zx_M := ((⟨"LaneDoorsModel", "door", "(II)I"⟩, prog_14_method_63_code, 3, (some .int)), (12, 0, 2, 0, 0), zc_X12_door)
def zm_50 : zx_M := ((⟨"LaneDoorsModel", "isDoor", "(I)Z"⟩, prog_14_method_47_code, 2, (some .boolean)), (12, 0, 1, 0, 0), zc_X12_isDoor)
def zm_51 : zx_M := ((⟨"LaneDoorsModel", "many", "()I"⟩, prog_14_method_46_code, 1, (some .int)), (12, 0, 0, 0, 0), zc_X12_many)
def zm_52 : zx_M := ((⟨"LaneDoorsModel", "isIn", "(III)Z"⟩, prog_14_method_43_code, 3, (some .boolean)), (12, 1, 3, 0, 0), zc_X12_isIn)
def zm_53 : zx_M := ((⟨"LaneDoors", "can", "(I)I"⟩, prog_1_method_7_code, 2, (some .int)), (11, 0, 1, 0, 0), zc_X11_can)
def zm_54 : zx_M := ((⟨"LaneDoorsModel", "can", "(I)I"⟩, prog_14_method_64_code, 2, (some .int)), (12, 0, 1, 0, 0), zc_X12_can)
def zm_55 : zx_M := ((⟨"LaneDoors", "hinders", "(II)I"⟩, prog_1_method_8_code, 3, (some .int)), (11, 0, 2, 0, 0), zc_X11_hinders)
def zm_56 : zx_M := ((⟨"LaneDoorsModel", "hinders", "(II)I"⟩, prog_14_method_65_code, 3, (some .int)), (12, 0, 2, 0, 0), zc_X12_hinders)
def zm_57 : zx_M := ((⟨"LaneDoors", "free", "(II)I"⟩, prog_1_method_9_code, 4, (some .int)), (11, 0, 2, 0, 0), zc_X11_free)
def zm_58 : zx_M := ((⟨"LaneDoors$Plan", "spot", "(II)I"⟩, prog_8_method_10_code, 3, (some .int)), (6, 0, 2, 0, 0), zc_X6_spot)
def zm_59 : zx_M := ((⟨"LaneDoors$Plan", "isLane", "(I)Z"⟩, prog_8_method_7_code, 2, (some .boolean)), (6, 0, 1, 0, 0), zc_X6_isLane)
def zm_60 : zx_M := ((⟨"LaneDoorsModel", "free", "(II)I"⟩, prog_14_method_68_code, 3, (some .int)), (12, 0, 2, 0, 0), zc_X12_free)
def zm_61 : zx_M := ((⟨"LaneDoorsModel", "isPlace", "(II)Z"⟩, prog_14_method_66_code, 3, (some .boolean)), (12, 0, 2, 0, 0), zc_X12_isPlace)
def zm_62 : zx_M := ((⟨"LaneDoorsModel", "isLane", "(I)Z"⟩, prog_14_method_48_code, 2, (some .boolean)), (12, 0, 1, 0, 0), zc_X12_isLane)
def zm_63 : zx_M := ((⟨"LaneDoors", "pairs", "(I)I"⟩, prog_1_method_10_code, 7, (some .int)), (11, 0, 1, 0, 0), zc_X11_pairs)
def zm_64 : zx_M := ((⟨"LaneDoors", "isZeroOrOne", "(I)Z"⟩, prog_1_method_55_code, 1, (some .boolean)), (11, 1, 1, 0, 0), zc_X11_isZeroOrOne)
def zm_65 : zx_M := ((⟨"LaneDoorsModel", "pairs", "(I)I"⟩, prog_14_method_87_code, 7, (some .int)), (12, 0, 1, 0, 0), zc_X12_pairs)
def zm_66 : zx_M := ((⟨"LaneDoors", "oil", "(I)I"⟩, prog_1_method_11_code, 2, (some .int)), (11, 0, 1, 0, 0), zc_X11_oil)
def zm_67 : zx_M := ((⟨"LaneDoorsModel", "oil", "(I)I"⟩, prog_14_method_69_code, 2, (some .int)), (12, 0, 1, 0, 0), zc_X12_oil)
def zm_68 : zx_M := ((⟨"LaneDoors", "sum", "(I)I"⟩, prog_1_method_12_code, 5, (some .int)), (11, 0, 1, 0, 0), zc_X11_sum)
def zm_69 : zx_M := ((⟨"LaneDoorsModel", "sum", "(I)I"⟩, prog_14_method_86_code, 6, (some .int)), (12, 0, 1, 0, 0), zc_X12_sum)
def zm_70 : zx_M := ((⟨"LaneDoors$State", "openable", "(LLaneDoors$Plan;)I"⟩, prog_10_method_5_code, 4, (some .int)), (8, 0, 1, 0, 0), zc_X8_openable)
def zm_71 : zx_M := ((⟨"LaneDoors$State", "ready", "(LLaneDoors$Plan;)I"⟩, prog_10_method_4_code, 2, (some .int)), (8, 0, 1, 0, 0), zc_X8_ready)
def zm_72 : zx_M := ((⟨"LaneDoors$Plan", "allDoors", "()I"⟩, prog_8_method_9_code, 1, (some .int)), (6, 0, 0, 0, 0), zc_X6_allDoors)
def zm_73 : zx_M := ((⟨"java/lang/Integer", "bitCount", "(I)I"⟩, prog_16_method_49_code, 1, (some .int)), (18, 1, 1, 0, 0), zc_J6_bitCount_0f7a4)
def zm_74 : zx_M := ((⟨"LaneDoors", "open", "(I)I"⟩, prog_1_method_13_code, 3, (some .int)), (11, 0, 1, 0, 0), zc_X11_open)
def zm_75 : zx_M := ((⟨"LaneDoorsModel", "open", "(I)I"⟩, prog_14_method_72_code, 2, (some .int)), (12, 0, 1, 0, 0), zc_X12_open)
def zm_76 : zx_M := ((⟨"LaneDoors", "shut", "(I)Z"⟩, prog_1_method_14_code, 2, (some .boolean)), (11, 0, 1, 0, 0), zc_X11_shut)
def zm_77 : zx_M := ((⟨"LaneDoorsModel", "shut", "(I)Z"⟩, prog_14_method_73_code, 2, (some .boolean)), (12, 0, 1, 0, 0), zc_X12_shut)
def zm_78 : zx_M := ((⟨"LaneDoors", "hinge", "(I)I"⟩, prog_1_method_15_code, 2, (some .int)), (11, 0, 1, 0, 0), zc_X11_hinge)
def zm_79 : zx_M := ((⟨"LaneDoorsModel", "hinge", "(I)I"⟩, prog_14_method_75_code, 2, (some .int)), (12, 0, 1, 0, 0), zc_X12_hinge)
def zm_80 : zx_M := ((⟨"LaneDoors", "off", "(I)Z"⟩, prog_1_method_16_code, 2, (some .boolean)), (11, 0, 1, 0, 0), zc_X11_off)
def zm_81 : zx_M := ((⟨"LaneDoorsModel", "off", "(I)Z"⟩, prog_14_method_76_code, 2, (some .boolean)), (12, 0, 1, 0, 0), zc_X12_off)
def zm_82 : zx_M := ((⟨"LaneDoors", "cart", "(IIII)I"⟩, prog_1_method_17_code, 6, (some .int)), (11, 0, 4, 0, 0), zc_X11_cart)
def zm_83 : zx_M := ((⟨"LaneDoors", "pushedShut", "(IIII)I"⟩, prog_1_method_64_code, 7, (some .int)), (11, 0, 4, 0, 0), zc_X11_pushedShut)
def zm_84 : zx_M := ((⟨"LaneDoorsModel", "cart", "(IIII)I"⟩, prog_14_method_79_code, 6, (some .int)), (12, 0, 4, 0, 0), zc_X12_cart)
def zm_85 : zx_M := ((⟨"LaneDoorsModel", "pushedBy", "(IIII)I"⟩, prog_14_method_77_code, 10, (some .int)), (12, 0, 4, 0, 0), zc_X12_pushedBy)
def zm_86 : zx_M := ((⟨"LaneDoors", "day", "()I"⟩, prog_1_method_18_code, 1, (some .int)), (11, 0, 0, 0, 0), zc_X11_day)
def zm_87 : zx_M := ((⟨"LaneDoors$History", "keep", "(LLaneDoors$State;)V"⟩, prog_4_method_5_code, 2, none), (2, 0, 1, 0, 0), zc_X2_keep)
def zm_88 : zx_M := ((⟨"LaneDoors$History", "at", "(I)I"⟩, prog_4_method_9_code, 2, (some .int)), (2, 0, 1, 0, 0), zc_X2_at)
def zm_89 : zx_M := ((⟨"java/lang/Math", "floorMod", "(II)I"⟩, prog_17_method_50_code, 3, (some .int)), (19, 1, 2, 0, 0), zc_J9_floorMod_7cf53)
def zm_90 : zx_M := ((⟨"LaneDoors$State", "copy", "(LLaneDoors$State;)V"⟩, prog_10_method_3_code, 2, none), (8, 0, 1, 0, 0), zc_X8_copy)
def zm_91 : zx_M := ((⟨"LaneDoorsModel", "day", "()I"⟩, prog_14_method_80_code, 1, (some .int)), (12, 0, 0, 0, 0), zc_X12_day)
def zm_92 : zx_M := ((⟨"LaneDoorsModel", "keepAct", "()V"⟩, prog_14_method_70_code, 2, none), (12, 0, 0, 0, 0), zc_X12_keepAct)
def zm_93 : zx_M := ((⟨"LaneDoors", "wind", "()I"⟩, prog_1_method_19_code, 1, (some .int)), (11, 0, 0, 0, 0), zc_X11_wind)
def zm_94 : zx_M := ((⟨"LaneDoors$State", "blow", "(LLaneDoors$Plan;)I"⟩, prog_10_method_8_code, 5, (some .int)), (8, 0, 1, 0, 0), zc_X8_blow)
def zm_95 : zx_M := ((⟨"LaneDoorsModel", "wind", "()I"⟩, prog_14_method_83_code, 3, (some .int)), (12, 0, 0, 0, 0), zc_X12_wind)
def zm_96 : zx_M := ((⟨"LaneDoorsModel", "layHinderers", "(I)V"⟩, prog_14_method_58_code, 4, none), (12, 0, 1, 0, 0), zc_X12_layHinderers)
def zm_97 : zx_M := ((⟨"LaneDoorsModel", "blows", "(I)I"⟩, prog_14_method_81_code, 2, (some .int)), (12, 0, 1, 0, 0), zc_X12_blows)
def zm_98 : zx_M := ((⟨"LaneDoorsModel", "blownBy", "(II)I"⟩, prog_14_method_82_code, 7, (some .int)), (12, 0, 2, 0, 0), zc_X12_blownBy)
def zm_99 : zx_M := ((⟨"LaneDoorsModel", "moving", "()I"⟩, prog_14_method_59_code, 1, (some .int)), (12, 0, 0, 0, 0), zc_X12_moving)
def zm_100 : zx_M := ((⟨"LaneDoors", "undo", "()Z"⟩, prog_1_method_20_code, 1, (some .boolean)), (11, 0, 0, 0, 0), zc_X11_undo)
def zm_101 : zx_M := ((⟨"LaneDoors$History", "done", "()I"⟩, prog_4_method_3_code, 1, (some .int)), (2, 0, 0, 0, 0), zc_X2_done)
def zm_102 : zx_M := ((⟨"LaneDoorsModel", "undo", "()Z"⟩, prog_14_method_88_code, 1, (some .boolean)), (12, 0, 0, 0, 0), zc_X12_undo)
def zm_103 : zx_M := ((⟨"LaneDoors", "redo", "()Z"⟩, prog_1_method_21_code, 1, (some .boolean)), (11, 0, 0, 0, 0), zc_X11_redo)
def zm_104 : zx_M := ((⟨"LaneDoors$History", "undone", "()I"⟩, prog_4_method_4_code, 1, (some .int)), (2, 0, 0, 0, 0), zc_X2_undone)
def zm_105 : zx_M := ((⟨"LaneDoorsModel", "redo", "()Z"⟩, prog_14_method_89_code, 1, (some .boolean)), (12, 0, 0, 0, 0), zc_X12_redo)
def zm_106 : zx_M := ((⟨"LaneDoors", "orders", "(I)I"⟩, prog_1_method_22_code, 3, (some .int)), (11, 0, 1, 0, 0), zc_X11_orders)
def zm_107 : zx_M := ((⟨"LaneDoors", "isShutSet", "(I)Z"⟩, prog_1_method_59_code, 2, (some .boolean)), (11, 0, 1, 0, 0), zc_X11_isShutSet)
def zm_108 : zx_M := ((⟨"LaneDoors", "isPart", "(II)Z"⟩, prog_1_method_54_code, 2, (some .boolean)), (11, 1, 2, 0, 0), zc_X11_isPart)
def zm_109 : zx_M := ((⟨"LaneDoors$Opener", "look", "(LLaneDoors$Plan;I)V"⟩, prog_6_method_2_code, 4, none), (4, 0, 2, 0, 0), zc_X4_look)
def zm_110 : zx_M := ((⟨"LaneDoors$Plan", "hinderers", "(II)I"⟩, prog_8_method_15_code, 5, (some .int)), (6, 0, 2, 0, 0), zc_X6_hinderers)
def zm_111 : zx_M := ((⟨"LaneDoors$Opener", "startFrom", "(II)V"⟩, prog_6_method_3_code, 3, none), (4, 0, 2, 0, 0), zc_X4_startFrom)
def zm_112 : zx_M := ((⟨"LaneDoors$Opener", "countOrders", "(I)I"⟩, prog_6_method_7_code, 3, (some .int)), (4, 0, 1, 0, 0), zc_X4_countOrders)
def zm_113 : zx_M := ((⟨"LaneDoors$Opener", "pileFirstOrder", "(ILLaneDoors$Pile;)V"⟩, prog_6_method_11_code, 6, none), (4, 0, 2, 0, 0), zc_X4_pileFirstOrder)
def zm_114 : zx_M := ((⟨"LaneDoorsModel", "orders", "(I)I"⟩, prog_14_method_97_code, 3, (some .int)), (12, 0, 1, 0, 0), zc_X12_orders)
def zm_115 : zx_M := ((⟨"LaneDoorsModel", "isShutSet", "(I)Z"⟩, prog_14_method_96_code, 2, (some .boolean)), (12, 0, 1, 0, 0), zc_X12_isShutSet)
def zm_116 : zx_M := ((⟨"LaneDoorsModel", "isSet", "(I)Z"⟩, prog_14_method_49_code, 2, (some .boolean)), (12, 0, 1, 0, 0), zc_X12_isSet)
def zm_117 : zx_M := ((⟨"LaneDoorsModel", "ordersBy", "(II)I"⟩, prog_14_method_95_code, 3, (some .int)), (12, 0, 2, 0, 0), zc_X12_ordersBy)
def zm_118 : zx_M := ((⟨"LaneDoorsModel", "clearAhead", "()V"⟩, prog_14_method_93_code, 2, none), (12, 0, 0, 0, 0), zc_X12_clearAhead)
def zm_119 : zx_M := ((⟨"LaneDoorsModel", "layWays", "(III)I"⟩, prog_14_method_92_code, 6, (some .int)), (12, 0, 3, 0, 0), zc_X12_layWays)
def zm_120 : zx_M := ((⟨"LaneDoorsModel", "layFirst", "(III)V"⟩, prog_14_method_94_code, 6, none), (12, 0, 3, 0, 0), zc_X12_layFirst)
def zm_121 : zx_M := ((⟨"LaneDoors", "most", "(I)I"⟩, prog_1_method_23_code, 2, (some .int)), (11, 0, 1, 0, 0), zc_X11_most)
def zm_122 : zx_M := ((⟨"LaneDoors", "mostOpen", "(II)I"⟩, prog_1_method_61_code, 3, (some .int)), (11, 0, 2, 0, 0), zc_X11_mostOpen)
def zm_123 : zx_M := ((⟨"LaneDoors$Opener", "mostOpen", "()I"⟩, prog_6_method_19_code, 3, (some .int)), (4, 0, 0, 0, 0), zc_X4_mostOpen)
def zm_124 : zx_M := ((⟨"LaneDoors$Opener", "markReached", "()V"⟩, prog_6_method_17_code, 3, none), (4, 0, 0, 0, 0), zc_X4_markReached)
def zm_125 : zx_M := ((⟨"LaneDoors", "countOrBits", "(II)I"⟩, prog_1_method_57_code, 2, (some .int)), (11, 1, 2, 0, 0), zc_X11_countOrBits)
def zm_126 : zx_M := ((⟨"LaneDoorsModel", "most", "(I)I"⟩, prog_14_method_100_code, 3, (some .int)), (12, 0, 1, 0, 0), zc_X12_most)
def zm_127 : zx_M := ((⟨"LaneDoorsModel", "mostBy", "(II)I"⟩, prog_14_method_99_code, 5, (some .int)), (12, 0, 2, 0, 0), zc_X12_mostBy)
def zm_128 : zx_M := ((⟨"LaneDoorsModel", "layComes", "(III)V"⟩, prog_14_method_98_code, 6, none), (12, 0, 3, 0, 0), zc_X12_layComes)
def zm_129 : zx_M := ((⟨"LaneDoorsModel", "bitsOf", "(I)I"⟩, prog_14_method_44_code, 3, (some .int)), (12, 1, 1, 0, 0), zc_X12_bitsOf)
def zm_130 : zx_M := ((⟨"LaneDoors", "stuck", "(I)I"⟩, prog_1_method_24_code, 2, (some .int)), (11, 0, 1, 0, 0), zc_X11_stuck)
def zm_131 : zx_M := ((⟨"LaneDoors$Opener", "fewestStuck", "()I"⟩, prog_6_method_20_code, 3, (some .int)), (4, 0, 0, 0, 0), zc_X4_fewestStuck)
def zm_132 : zx_M := ((⟨"LaneDoors$Opener", "isReached", "(I)Z"⟩, prog_6_method_18_code, 2, (some .boolean)), (4, 0, 1, 0, 0), zc_X4_isReached)
def zm_133 : zx_M := ((⟨"LaneDoors$Opener", "isStuck", "(I)Z"⟩, prog_6_method_21_code, 3, (some .boolean)), (4, 0, 1, 0, 0), zc_X4_isStuck)
def zm_134 : zx_M := ((⟨"LaneDoors$Opener", "yieldsBehind", "(II)Z"⟩, prog_6_method_10_code, 3, (some .boolean)), (4, 0, 2, 0, 0), zc_X4_yieldsBehind)
def zm_135 : zx_M := ((⟨"LaneDoors", "bit", "(II)I"⟩, prog_1_method_53_code, 2, (some .int)), (11, 1, 2, 0, 0), zc_X11_bit)
def zm_136 : zx_M := ((⟨"LaneDoorsModel", "stuck", "(I)I"⟩, prog_14_method_102_code, 4, (some .int)), (12, 0, 1, 0, 0), zc_X12_stuck)
def zm_137 : zx_M := ((⟨"LaneDoorsModel", "isStuck", "(I)Z"⟩, prog_14_method_101_code, 3, (some .boolean)), (12, 0, 1, 0, 0), zc_X12_isStuck)
def zm_138 : zx_M := ((⟨"LaneDoors", "feast", "(II)I"⟩, prog_1_method_25_code, 4, (some .int)), (11, 0, 2, 0, 0), zc_X11_feast)
def zm_139 : zx_M := ((⟨"LaneDoorsModel", "feast", "(II)I"⟩, prog_14_method_104_code, 6, (some .int)), (12, 0, 2, 0, 0), zc_X12_feast)
def zm_140 : zx_M := ((⟨"LaneDoors$Opener", "cheapest", "(I)I"⟩, prog_6_method_22_code, 4, (some .int)), (4, 0, 1, 0, 0), zc_X4_cheapest)
def zm_141 : zx_M := ((⟨"LaneDoors$Opener", "priceOf", "(I)I"⟩, prog_6_method_6_code, 4, (some .int)), (4, 0, 1, 0, 0), zc_X4_priceOf)
def zm_142 : zx_M := ((⟨"LaneDoorsModel", "oils", "(I)I"⟩, prog_14_method_103_code, 4, (some .int)), (12, 0, 1, 0, 0), zc_X12_oils)
def zm_143 : zx_M := ((⟨"LaneDoors", "never", "(I)I"⟩, prog_1_method_26_code, 5, (some .int)), (11, 0, 1, 0, 0), zc_X11_never)
def zm_144 : zx_M := ((⟨"LaneDoorsModel", "never", "(I)I"⟩, prog_14_method_105_code, 5, (some .int)), (12, 0, 1, 0, 0), zc_X12_never)
def zm_145 : zx_M := ((⟨"LaneDoors", "turn", "(II)I"⟩, prog_1_method_27_code, 4, (some .int)), (11, 0, 2, 0, 0), zc_X11_turn)
def zm_146 : zx_M := ((⟨"LaneDoors", "fewestTurned", "(I)I"⟩, prog_1_method_63_code, 5, (some .int)), (11, 0, 1, 0, 0), zc_X11_fewestTurned)
def zm_147 : zx_M := ((⟨"LaneDoors$Opener", "hasOrder", "(I)Z"⟩, prog_6_method_15_code, 5, (some .boolean)), (4, 0, 1, 0, 0), zc_X4_hasOrder)
def zm_148 : zx_M := ((⟨"LaneDoorsModel", "turn", "(II)I"⟩, prog_14_method_106_code, 6, (some .int)), (12, 0, 2, 0, 0), zc_X12_turn)
def zm_149 : zx_M := ((⟨"LaneDoors", "ask", "(I)I"⟩, prog_1_method_28_code, 2, (some .int)), (11, 0, 1, 0, 0), zc_X11_ask)
def zm_150 : zx_M := ((⟨"LaneDoorsModel", "ask", "(I)I"⟩, prog_14_method_107_code, 2, (some .int)), (12, 0, 1, 0, 0), zc_X12_ask)
def zm_151 : zx_M := ((⟨"LaneDoors", "vow", "(I)I"⟩, prog_1_method_29_code, 7, (some .int)), (11, 0, 1, 0, 0), zc_X11_vow)
def zm_152 : zx_M := ((⟨"LaneDoorsModel", "vow", "(I)I"⟩, prog_14_method_108_code, 6, (some .int)), (12, 0, 1, 0, 0), zc_X12_vow)
def zm_153 : zx_M := ((⟨"LaneDoors", "push", "(IIII)I"⟩, prog_1_method_30_code, 5, (some .int)), (11, 0, 4, 0, 0), zc_X11_push)
def zm_154 : zx_M := ((⟨"LaneDoorsModel", "push", "(IIII)I"⟩, prog_14_method_78_code, 5, (some .int)), (12, 0, 4, 0, 0), zc_X12_push)
def zm_155 : zx_M := ((⟨"LaneDoors", "gusts", "(I)I"⟩, prog_1_method_31_code, 3, (some .int)), (11, 0, 1, 0, 0), zc_X11_gusts)
def zm_156 : zx_M := ((⟨"LaneDoorsModel", "gusts", "(I)I"⟩, prog_14_method_84_code, 5, (some .int)), (12, 0, 1, 0, 0), zc_X12_gusts)
def zm_157 : zx_M := ((⟨"LaneDoors", "good", "(I)I"⟩, prog_1_method_32_code, 7, (some .int)), (11, 0, 1, 0, 0), zc_X11_good)
def zm_158 : zx_M := ((⟨"LaneDoorsModel", "good", "(I)I"⟩, prog_14_method_109_code, 6, (some .int)), (12, 0, 1, 0, 0), zc_X12_good)
def zm_159 : zx_M := ((⟨"LaneDoors", "narrow", "(II)I"⟩, prog_1_method_33_code, 5, (some .int)), (11, 0, 2, 0, 0), zc_X11_narrow)
def zm_160 : zx_M := ((⟨"LaneDoorsModel", "narrow", "(II)I"⟩, prog_14_method_110_code, 5, (some .int)), (12, 0, 2, 0, 0), zc_X12_narrow)
def zm_161 : zx_M := ((⟨"LaneDoors", "widest", "(IIII)I"⟩, prog_1_method_34_code, 8, (some .int)), (11, 0, 4, 0, 0), zc_X11_widest)
def zm_162 : zx_M := ((⟨"LaneDoorsModel", "widest", "(IIII)I"⟩, prog_14_method_117_code, 6, (some .int)), (12, 0, 4, 0, 0), zc_X12_widest)
def zm_163 : zx_M := ((⟨"LaneDoors", "spread", "(III)I"⟩, prog_1_method_35_code, 5, (some .int)), (11, 0, 3, 0, 0), zc_X11_spread)
def zm_164 : zx_M := ((⟨"LaneDoorsModel", "spread", "(III)I"⟩, prog_14_method_118_code, 4, (some .int)), (12, 0, 3, 0, 0), zc_X12_spread)
def zm_165 : zx_M := ((⟨"LaneDoors", "far", "(III)I"⟩, prog_1_method_36_code, 6, (some .int)), (11, 0, 3, 0, 0), zc_X11_far)
def zm_166 : zx_M := ((⟨"LaneDoorsModel", "far", "(III)I"⟩, prog_14_method_119_code, 6, (some .int)), (12, 0, 3, 0, 0), zc_X12_far)
def zm_167 : zx_M := ((⟨"LaneDoors", "parts", "(II)I"⟩, prog_1_method_37_code, 4, (some .int)), (11, 0, 2, 0, 0), zc_X11_parts)
def zm_168 : zx_M := ((⟨"LaneDoors", "isCart", "(I)Z"⟩, prog_1_method_56_code, 1, (some .boolean)), (11, 1, 1, 0, 0), zc_X11_isCart)
def zm_169 : zx_M := ((⟨"LaneDoorsModel", "parts", "(II)I"⟩, prog_14_method_120_code, 7, (some .int)), (12, 0, 2, 0, 0), zc_X12_parts)
def zm_170 : zx_M := ((⟨"LaneDoors$Streets", "measure", "(LLaneDoors$Plan;II)V"⟩, prog_11_method_2_code, 6, none), (9, 0, 3, 0, 0), zc_X9_measure)
def zm_171 : zx_M := ((⟨"LaneDoors$Plan", "isSpot", "(I)Z"⟩, prog_8_method_11_code, 2, (some .boolean)), (6, 0, 1, 0, 0), zc_X6_isSpot)
def zm_172 : zx_M := ((⟨"LaneDoors$Streets", "splitIntoParts", "(LLaneDoors$Plan;I)I"⟩, prog_11_method_11_code, 5, (some .int)), (9, 0, 2, 0, 0), zc_X9_splitIntoParts)
def zm_173 : zx_M := ((⟨"LaneDoorsModel", "isFreeFor", "(IIII)Z"⟩, prog_14_method_111_code, 5, (some .boolean)), (12, 0, 4, 0, 0), zc_X12_isFreeFor)
def zm_174 : zx_M := ((⟨"LaneDoors", "calm", "()I"⟩, prog_1_method_38_code, 2, (some .int)), (11, 0, 0, 0, 0), zc_X11_calm)
def zm_175 : zx_M := ((⟨"LaneDoorsModel", "calm", "()I"⟩, prog_14_method_85_code, 4, (some .int)), (12, 0, 0, 0, 0), zc_X12_calm)
def zm_176 : zx_M := ((⟨"LaneDoors", "needs", "(IIIII)I"⟩, prog_1_method_39_code, 9, (some .int)), (11, 0, 5, 0, 0), zc_X11_needs)
def zm_177 : zx_M := ((⟨"LaneDoorsModel", "needs", "(IIIII)I"⟩, prog_14_method_121_code, 7, (some .int)), (12, 0, 5, 0, 0), zc_X12_needs)
def zm_178 : zx_M := ((⟨"LaneDoorsModel", "areFit", "(IIIII)Z"⟩, prog_14_method_114_code, 6, (some .boolean)), (12, 0, 5, 0, 0), zc_X12_areFit)
def zm_179 : zx_M := ((⟨"LaneDoors", "way", "(IIIII)I"⟩, prog_1_method_40_code, 8, (some .int)), (11, 0, 5, 0, 0), zc_X11_way)
def zm_180 : zx_M := ((⟨"LaneDoorsModel", "way", "(IIIII)I"⟩, prog_14_method_116_code, 6, (some .int)), (12, 0, 5, 0, 0), zc_X12_way)
def zm_181 : zx_M := ((⟨"LaneDoors", "make", "(IIIII)I"⟩, prog_1_method_41_code, 11, (some .int)), (11, 0, 5, 0, 0), zc_X11_make)
def zm_182 : zx_M := ((⟨"LaneDoorsModel", "make", "(IIIII)I"⟩, prog_14_method_122_code, 9, (some .int)), (12, 0, 5, 0, 0), zc_X12_make)
def zm_183 : zx_M := ((⟨"LaneDoors", "race", "(II)I"⟩, prog_1_method_42_code, 4, (some .int)), (11, 0, 2, 0, 0), zc_X11_race)
def zm_184 : zx_M := ((⟨"LaneDoors$Opener", "winningDoor", "(II)I"⟩, prog_6_method_23_code, 6, (some .int)), (4, 0, 2, 0, 0), zc_X4_winningDoor)
def zm_185 : zx_M := ((⟨"LaneDoors$Opener", "winningMove", "(II)I"⟩, prog_6_method_24_code, 4, (some .int)), (4, 0, 2, 0, 0), zc_X4_winningMove)
def zm_186 : zx_M := ((⟨"LaneDoorsModel", "race", "(II)I"⟩, prog_14_method_124_code, 6, (some .int)), (12, 0, 2, 0, 0), zc_X12_race)
def zm_187 : zx_M := ((⟨"LaneDoorsModel", "winsBy", "(II)I"⟩, prog_14_method_123_code, 4, (some .int)), (12, 0, 2, 0, 0), zc_X12_winsBy)
def zm_188 : zx_M := ((⟨"LaneDoors", "lies", "(I)I"⟩, prog_1_method_43_code, 2, (some .int)), (11, 0, 1, 0, 0), zc_X11_lies)
def zm_189 : zx_M := ((⟨"LaneDoors$Pile", "at", "(I)I"⟩, prog_7_method_4_code, 2, (some .int)), (5, 0, 1, 0, 0), zc_X5_at)
def zm_190 : zx_M := ((⟨"LaneDoorsModel", "lies", "(I)I"⟩, prog_14_method_90_code, 2, (some .int)), (12, 0, 1, 0, 0), zc_X12_lies)
def zm_191 : zx_M := ((⟨"LaneDoors", "heard", "(II)I"⟩, prog_1_method_44_code, 3, (some .int)), (11, 0, 2, 0, 0), zc_X11_heard)
def zm_192 : zx_M := ((⟨"LaneDoorsModel", "heard", "(II)I"⟩, prog_14_method_125_code, 3, (some .int)), (12, 0, 2, 0, 0), zc_X12_heard)
def zm_193 : zx_M := ((⟨"LaneDoors", "untell", "(I)Z"⟩, prog_1_method_45_code, 2, (some .boolean)), (11, 0, 1, 0, 0), zc_X11_untell)
def zm_194 : zx_M := ((⟨"LaneDoors$Hearsay", "takeBack", "(I)Z"⟩, prog_3_method_4_code, 2, (some .boolean)), (1, 0, 1, 0, 0), zc_X1_takeBack)
def zm_195 : zx_M := ((⟨"LaneDoorsModel", "untell", "(I)Z"⟩, prog_14_method_126_code, 2, (some .boolean)), (12, 0, 1, 0, 0), zc_X12_untell)
def zm_196 : zx_M := ((⟨"LaneDoors", "later", "(I)I"⟩, prog_1_method_46_code, 2, (some .int)), (11, 0, 1, 0, 0), zc_X11_later)
def zm_197 : zx_M := ((⟨"LaneDoorsModel", "later", "(I)I"⟩, prog_14_method_127_code, 2, (some .int)), (12, 0, 1, 0, 0), zc_X12_later)
def zm_198 : zx_M := ((⟨"LaneDoors", "tales", "(II)I"⟩, prog_1_method_47_code, 4, (some .int)), (11, 0, 2, 0, 0), zc_X11_tales)
def zm_199 : zx_M := ((⟨"LaneDoors", "isTaleSet", "(I)Z"⟩, prog_1_method_60_code, 2, (some .boolean)), (11, 0, 1, 0, 0), zc_X11_isTaleSet)
def zm_200 : zx_M := ((⟨"LaneDoors", "startTales", "(II)V"⟩, prog_1_method_65_code, 4, none), (11, 0, 2, 0, 0), zc_X11_startTales)
def zm_201 : zx_M := ((⟨"LaneDoorsModel", "tales", "(II)I"⟩, prog_14_method_130_code, 4, (some .int)), (12, 0, 2, 0, 0), zc_X12_tales)
def zm_202 : zx_M := ((⟨"LaneDoorsModel", "isTale", "(I)Z"⟩, prog_14_method_128_code, 2, (some .boolean)), (12, 0, 1, 0, 0), zc_X12_isTale)
def zm_203 : zx_M := ((⟨"LaneDoorsModel", "layHeard", "(I)V"⟩, prog_14_method_129_code, 3, none), (12, 0, 1, 0, 0), zc_X12_layHeard)
def zm_204 : zx_M := ((⟨"LaneDoors", "firsts", "(II)I"⟩, prog_1_method_48_code, 3, (some .int)), (11, 0, 2, 0, 0), zc_X11_firsts)
def zm_205 : zx_M := ((⟨"LaneDoors$Opener", "firstDoors", "(I)I"⟩, prog_6_method_12_code, 2, (some .int)), (4, 0, 1, 0, 0), zc_X4_firstDoors)
def zm_206 : zx_M := ((⟨"LaneDoors$Opener", "doorsOnward", "(II)I"⟩, prog_6_method_13_code, 5, (some .int)), (4, 0, 2, 0, 0), zc_X4_doorsOnward)
def zm_207 : zx_M := ((⟨"LaneDoors$Opener", "comesNext", "(III)Z"⟩, prog_6_method_9_code, 4, (some .boolean)), (4, 0, 3, 0, 0), zc_X4_comesNext)
def zm_208 : zx_M := ((⟨"LaneDoorsModel", "firsts", "(II)I"⟩, prog_14_method_131_code, 5, (some .int)), (12, 0, 2, 0, 0), zc_X12_firsts)
def zm_209 : zx_M := ((⟨"LaneDoors", "ahead", "(IIII)I"⟩, prog_1_method_49_code, 5, (some .int)), (11, 0, 4, 0, 0), zc_X11_ahead)
def zm_210 : zx_M := ((⟨"LaneDoorsModel", "ahead", "(IIII)I"⟩, prog_14_method_132_code, 5, (some .int)), (12, 0, 4, 0, 0), zc_X12_ahead)
def zm_211 : zx_M := ((⟨"LaneDoors", "image", "(I)I"⟩, prog_1_method_50_code, 2, (some .int)), (11, 0, 1, 0, 0), zc_X11_image)
def zm_212 : zx_M := ((⟨"LaneDoorsModel", "image", "(I)I"⟩, prog_14_method_133_code, 3, (some .int)), (12, 0, 1, 0, 0), zc_X12_image)
def zm_213 : zx_M := ((⟨"LaneDoors", "back", "(I)I"⟩, prog_1_method_51_code, 2, (some .int)), (11, 0, 1, 0, 0), zc_X11_back)
def zm_214 : zx_M := ((⟨"LaneDoorsModel", "back", "(I)I"⟩, prog_14_method_134_code, 3, (some .int)), (12, 0, 1, 0, 0), zc_X12_back)
def zm_215 : zx_M := ((⟨"LaneDoors", "about", "(I)I"⟩, prog_1_method_52_code, 2, (some .int)), (11, 0, 1, 0, 0), zc_X11_about)
def zm_216 : zx_M := ((⟨"LaneDoorsModel", "about", "(I)I"⟩, prog_14_method_135_code, 2, (some .int)), (12, 0, 1, 0, 0), zc_X12_about)
def zx_mt : List zx_M := [zm_0, zm_1, zm_2, zm_3, zm_4, zm_5, zm_6, zm_7, zm_8, zm_9, zm_10, zm_11, zm_12, zm_13, zm_14, zm_15, zm_16, zm_17, zm_18, zm_19, zm_20, zm_21, zm_22, zm_23, zm_24, zm_25, zm_26, zm_27, zm_28, zm_29, zm_30, zm_31, zm_32, zm_33, zm_34, zm_35, zm_36, zm_37, zm_38, zm_39, zm_40, zm_41, zm_42, zm_43, zm_44, zm_45, zm_46, zm_47, zm_48, zm_49, zm_50, zm_51, zm_52, zm_53, zm_54, zm_55, zm_56, zm_57, zm_58, zm_59, zm_60, zm_61, zm_62, zm_63, zm_64, zm_65, zm_66, zm_67, zm_68, zm_69, zm_70, zm_71, zm_72, zm_73, zm_74, zm_75, zm_76, zm_77, zm_78, zm_79, zm_80, zm_81, zm_82, zm_83, zm_84, zm_85, zm_86, zm_87, zm_88, zm_89, zm_90, zm_91, zm_92, zm_93, zm_94, zm_95, zm_96, zm_97, zm_98, zm_99, zm_100, zm_101, zm_102, zm_103, zm_104, zm_105, zm_106, zm_107, zm_108, zm_109, zm_110, zm_111, zm_112, zm_113, zm_114, zm_115, zm_116, zm_117, zm_118, zm_119, zm_120, zm_121, zm_122, zm_123, zm_124, zm_125, zm_126, zm_127, zm_128, zm_129, zm_130, zm_131, zm_132, zm_133, zm_134, zm_135, zm_136, zm_137, zm_138, zm_139, zm_140, zm_141, zm_142, zm_143, zm_144, zm_145, zm_146, zm_147, zm_148, zm_149, zm_150, zm_151, zm_152, zm_153, zm_154, zm_155, zm_156, zm_157, zm_158, zm_159, zm_160, zm_161, zm_162, zm_163, zm_164, zm_165, zm_166, zm_167, zm_168, zm_169, zm_170, zm_171, zm_172, zm_173, zm_174, zm_175, zm_176, zm_177, zm_178, zm_179, zm_180, zm_181, zm_182, zm_183, zm_184, zm_185, zm_186, zm_187, zm_188, zm_189, zm_190, zm_191, zm_192, zm_193, zm_194, zm_195, zm_196, zm_197, zm_198, zm_199, zm_200, zm_201, zm_202, zm_203, zm_204, zm_205, zm_206, zm_207, zm_208, zm_209, zm_210, zm_211, zm_212, zm_213, zm_214, zm_215, zm_216]
def zm_law : zx_M := ((x, code, maxLocals, ret), (13, 1, 1, 600000, 7302250), zc_L_law)
def zx_FL : List (Nat × Nat × Nat × Nat × Nat × Nat) := [(11, 12, 11, 0, 2, 204), (11, 21, 11, 1, 2, 205), (11, 28, 11, 2, 2, 206), (11, 35, 11, 3, 2, 207), (11, 39, 11, 4, 2, 208), (11, 46, 11, 5, 2, 209), (11, 53, 11, 6, 2, 210), (11, 60, 11, 7, 2, 211), (11, 67, 11, 8, 2, 212), (11, 74, 11, 9, 2, 213), (11, 78, 11, 10, 2, 214), (11, 81, 11, 11, 2, 215), (10, 9, 10, 0, 1, 37), (10, 15, 10, 1, 1, 38), (7, 9, 7, 1, 2, 27), (7, 15, 7, 2, 2, 28), (7, 21, 7, 3, 2, 29), (7, 25, 7, 4, 2, 30), (7, 29, 7, 5, 2, 31), (7, 32, 7, 6, 2, 33), (7, 40, 7, 0, 2, 26), (6, 9, 6, 0, 1, 85), (6, 15, 6, 1, 1, 88), (6, 18, 6, 2, 1, 90), (6, 21, 6, 3, 1, 94), (6, 24, 6, 4, 1, 97), (6, 27, 6, 5, 1, 100), (6, 30, 6, 6, 1, 102), (6, 36, 6, 7, 1, 104), (6, 40, 6, 8, 1, 108), (6, 44, 6, 9, 1, 111), (6, 47, 6, 10, 1, 116), (6, 50, 6, 11, 1, 120), (6, 53, 6, 12, 1, 123), (6, 56, 6, 13, 1, 126), (6, 59, 6, 14, 1, 130), (6, 62, 6, 15, 1, 134), (6, 65, 6, 16, 1, 137), (6, 68, 6, 17, 1, 140), (0, 11, 0, 0, 1, 65), (0, 15, 0, 1, 1, 66), (0, 18, 0, 2, 1, 67), (0, 22, 0, 3, 1, 68), (0, 25, 0, 4, 1, 69), (3, 9, 3, 1, 2, 1), (3, 13, 3, 2, 2, 2), (3, 17, 3, 3, 2, 3), (3, 20, 3, 4, 2, 5), (3, 23, 3, 5, 2, 7), (3, 26, 3, 6, 2, 9), (3, 30, 3, 0, 2, 0), (14, 9, 100, 0, 9, 152), (14, 38, 200, 0, 1, 195), (14, 15, 101, 0, 9, 153), (14, 1053, 201, 0, 1, 211), (2, 11, 2, 0, 2, 92), (2, 17, 2, 1, 2, 93), (2, 21, 2, 2, 2, 94), (2, 24, 2, 3, 2, 95), (8, 9, 8, 0, 2, 63), (8, 15, 8, 1, 2, 65), (8, 18, 8, 2, 2, 67), (8, 21, 8, 3, 2, 69), (8, 24, 8, 4, 2, 71), (8, 27, 8, 5, 2, 73), (8, 30, 8, 6, 2, 75), (1, 9, 1, 0, 2, 113), (1, 15, 1, 1, 2, 115), (1, 18, 1, 2, 2, 117), (1, 21, 1, 3, 2, 118), (1, 24, 1, 4, 2, 119), (1, 28, 1, 5, 2, 121), (4, 9, 4, 0, 2, 142), (4, 15, 4, 1, 2, 143), (4, 18, 4, 2, 2, 144), (4, 21, 4, 3, 2, 145), (4, 24, 4, 4, 2, 146), (4, 28, 4, 5, 2, 147), (4, 32, 4, 6, 2, 148), (9, 9, 9, 0, 2, 171), (9, 15, 9, 1, 2, 172), (9, 18, 9, 2, 2, 173), (9, 21, 9, 3, 2, 174), (9, 25, 9, 4, 2, 175), (5, 9, 5, 0, 2, 194), (5, 15, 5, 1, 2, 195), (12, 7, 12, 0, 6, 101), (12, 13, 12, 1, 6, 102), (12, 16, 12, 5, 6, 106), (12, 20, 12, 11, 6, 112), (12, 24, 12, 12, 6, 113), (12, 27, 12, 13, 6, 114), (12, 30, 12, 14, 6, 115), (12, 33, 12, 15, 6, 116), (12, 36, 12, 16, 6, 117), (12, 39, 12, 17, 6, 118), (12, 42, 12, 18, 6, 119), (12, 45, 12, 19, 6, 120), (12, 48, 12, 20, 6, 121), (12, 51, 12, 21, 6, 122), (12, 54, 12, 22, 6, 123), (12, 57, 12, 23, 6, 124), (12, 60, 12, 24, 6, 125), (12, 63, 12, 25, 6, 126), (12, 66, 12, 26, 6, 127), (12, 69, 12, 27, 6, 128), (12, 72, 12, 28, 6, 129), (12, 75, 12, 29, 6, 130), (12, 78, 12, 30, 6, 131), (12, 81, 12, 31, 6, 132), (12, 84, 12, 32, 6, 133), (12, 87, 12, 33, 6, 134), (12, 91, 12, 34, 6, 135), (12, 94, 12, 35, 6, 136), (12, 97, 12, 36, 6, 137), (12, 101, 12, 37, 6, 138), (12, 104, 12, 38, 6, 139), (12, 107, 12, 39, 6, 140), (12, 110, 12, 40, 6, 141), (12, 113, 12, 41, 6, 142), (12, 116, 12, 42, 6, 143), (12, 119, 12, 49, 6, 150), (12, 122, 12, 50, 6, 151), (12, 125, 12, 51, 6, 152), (12, 128, 12, 54, 6, 155), (12, 131, 12, 55, 6, 156), (12, 134, 12, 56, 6, 157), (12, 137, 12, 58, 6, 159), (12, 140, 12, 59, 6, 160), (12, 143, 12, 60, 6, 161), (12, 146, 12, 62, 6, 163), (12, 149, 12, 63, 6, 164), (12, 152, 12, 64, 6, 165), (12, 155, 12, 65, 6, 166), (12, 158, 12, 66, 6, 167), (12, 161, 12, 67, 6, 168), (12, 164, 12, 70, 6, 171), (12, 167, 12, 71, 6, 172), (12, 291, 12, 44, 6, 145), (12, 294, 12, 45, 6, 146), (12, 300, 12, 43, 6, 144), (12, 429, 12, 52, 6, 153), (12, 432, 12, 53, 6, 154), (12, 435, 12, 68, 6, 169), (12, 438, 12, 57, 6, 158), (11, 85, 10, 1, 1, 39), (12, 297, 12, 2, 6, 103), (11, 111, 6, 9, 1, 113), (7, 50, 3, 3, 2, 4), (3, 53, 10, 1, 1, 40), (8, 34, 6, 15, 1, 135), (8, 37, 6, 12, 1, 124), (8, 38, 6, 16, 1, 138), (8, 39, 6, 17, 1, 141), (12, 179, 12, 4, 6, 105), (12, 176, 12, 3, 6, 104), (12, 232, 12, 7, 6, 108), (12, 242, 12, 8, 6, 109), (12, 235, 12, 6, 6, 107), (11, 114, 7, 5, 2, 32), (11, 117, 7, 6, 2, 34), (8, 65, 6, 9, 1, 115), (8, 58, 6, 14, 1, 131), (11, 210, 8, 4, 2, 72), (11, 134, 8, 2, 2, 68), (11, 147, 8, 0, 2, 64), (11, 309, 9, 4, 2, 176), (9, 37, 6, 9, 1, 112), (11, 153, 6, 13, 1, 127), (11, 338, 1, 5, 2, 122), (12, 554, 12, 69, 6, 170), (11, 156, 6, 14, 1, 132), (11, 150, 8, 1, 2, 66), (11, 363, 1, 4, 2, 120), (11, 354, 6, 8, 1, 110), (11, 357, 6, 10, 1, 119), (11, 193, 8, 3, 2, 70), (11, 360, 8, 5, 2, 74), (11, 366, 6, 7, 1, 107), (11, 370, 0, 4, 1, 71), (11, 316, 5, 1, 2, 196)]
def zx_ML : List (Nat × Nat × Nat × Nat × Nat × Nat) := [(13, 9, 0, 0, 1, 25), (13, 12, 20, 0, 6, 89), (13, 13, 23, 0, 3, 1), (13, 17, 25, 0, 9, 144), (13, 18, 26, 0, 3, 9), (13, 22, 27, 0, 9, 148), (13, 23, 28, 0, 3, 13), (13, 27, 41, 0, 7, 78), (13, 28, 45, 0, 4, 22), (13, 31, 46, 0, 8, 3), (13, 32, 47, 0, 4, 26), (13, 36, 49, 0, 8, 7), (13, 37, 53, 0, 4, 40), (13, 40, 54, 0, 8, 44), (13, 41, 55, 0, 4, 70), (13, 44, 56, 0, 8, 76), (13, 45, 57, 0, 4, 75), (13, 48, 60, 0, 8, 80), (13, 49, 63, 0, 4, 98), (13, 52, 65, 0, 8, 176), (13, 53, 66, 0, 4, 105), (13, 56, 67, 0, 8, 96), (13, 57, 68, 0, 4, 138), (13, 60, 69, 0, 8, 172), (13, 61, 74, 0, 4, 148), (13, 64, 75, 0, 8, 111), (13, 65, 76, 0, 4, 174), (13, 69, 77, 0, 8, 120), (13, 70, 78, 0, 4, 178), (13, 73, 79, 0, 8, 124), (13, 74, 80, 0, 4, 183), (13, 77, 81, 0, 8, 132), (13, 78, 82, 0, 4, 187), (13, 82, 84, 0, 8, 144), (13, 83, 86, 0, 4, 206), (13, 86, 91, 0, 8, 148), (13, 87, 93, 0, 4, 210), (13, 90, 95, 0, 8, 152), (13, 91, 100, 0, 4, 219), (13, 95, 102, 0, 8, 180), (13, 96, 103, 0, 4, 235), (13, 99, 105, 0, 8, 188), (13, 100, 106, 0, 5, 7), (13, 103, 114, 0, 8, 196), (13, 104, 121, 0, 5, 67), (13, 107, 126, 0, 8, 228), (13, 108, 130, 0, 5, 94), (13, 111, 136, 0, 9, 3), (13, 112, 138, 0, 5, 106), (13, 115, 139, 0, 9, 11), (13, 116, 143, 0, 5, 123), (13, 119, 144, 0, 9, 19), (13, 120, 145, 0, 5, 131), (13, 123, 148, 0, 9, 23), (13, 124, 149, 0, 5, 143), (13, 127, 150, 0, 9, 27), (13, 128, 151, 0, 5, 148), (13, 131, 152, 0, 9, 31), (13, 132, 153, 0, 5, 152), (13, 135, 154, 0, 8, 136), (13, 136, 155, 0, 5, 156), (13, 139, 156, 0, 8, 164), (13, 140, 157, 0, 5, 161), (13, 143, 158, 0, 9, 35), (13, 144, 159, 0, 5, 165), (13, 147, 160, 0, 9, 39), (13, 148, 161, 0, 5, 170), (13, 151, 162, 0, 9, 67), (13, 152, 163, 0, 5, 196), (13, 156, 164, 0, 9, 71), (13, 157, 165, 0, 5, 201), (13, 160, 166, 0, 9, 75), (13, 161, 167, 0, 5, 214), (13, 164, 169, 0, 9, 79), (13, 165, 174, 0, 5, 222), (13, 168, 175, 0, 8, 168), (13, 169, 176, 0, 5, 226), (13, 172, 177, 0, 9, 83), (13, 173, 179, 0, 5, 234), (13, 176, 180, 0, 9, 43), (13, 177, 181, 0, 5, 238), (13, 180, 182, 0, 9, 87), (13, 181, 183, 0, 6, 2), (13, 184, 186, 0, 9, 91), (13, 185, 188, 0, 6, 14), (13, 188, 190, 0, 8, 192), (13, 189, 191, 0, 6, 22), (13, 192, 192, 0, 9, 99), (13, 193, 193, 0, 6, 30), (13, 196, 195, 0, 9, 103), (13, 197, 196, 0, 6, 38), (13, 200, 197, 0, 9, 107), (13, 201, 198, 0, 6, 43), (13, 204, 201, 0, 9, 112), (13, 205, 204, 0, 6, 63), (13, 208, 208, 0, 9, 124), (13, 209, 209, 0, 6, 71), (13, 212, 210, 0, 9, 128), (13, 213, 211, 0, 6, 75), (13, 216, 212, 0, 9, 132), (13, 217, 213, 0, 6, 79), (13, 220, 214, 0, 9, 136), (13, 221, 215, 0, 6, 83), (13, 224, 216, 0, 9, 140), (11, 3, 9000, 0, 1, 28), (11, 18, 2, 0, 1, 49), (11, 27, 14, 0, 2, 52), (10, 3, 9000, 0, 1, 36), (7, 3, 9000, 0, 1, 52), (7, 37, 5, 0, 1, 182), (6, 3, 9000, 0, 1, 58), (0, 3, 9000, 0, 1, 64), (3, 1, 9000, 0, 1, 185), (3, 36, 6, 0, 1, 187), (3, 42, 8, 0, 1, 197), (3, 46, 13, 0, 1, 235), (14, 335, 7, 0, 1, 191), (14, 492, 9, 0, 1, 201), (14, 495, 10, 0, 1, 205), (15, 9, 11, 0, 1, 208), (14, 1059, 12, 0, 1, 213), (2, 3, 9000, 0, 2, 55), (8, 3, 9000, 0, 2, 62), (1, 3, 9000, 0, 2, 112), (4, 3, 9000, 0, 2, 141), (9, 3, 9000, 0, 2, 170), (5, 3, 9000, 0, 2, 193), (12, 1, 9000, 0, 6, 92), (12, 170, 21, 0, 6, 93), (12, 173, 22, 0, 6, 97), (11, 88, 24, 0, 3, 5), (11, 92, 29, 0, 3, 17), (11, 96, 35, 0, 3, 239), (11, 100, 36, 0, 4, 3), (11, 104, 38, 0, 4, 10), (11, 107, 39, 0, 4, 14), (11, 108, 40, 0, 4, 18), (7, 44, 30, 0, 3, 21), (7, 47, 32, 0, 3, 29), (6, 71, 31, 0, 3, 25), (3, 50, 33, 0, 3, 33), (3, 57, 34, 0, 3, 37), (8, 42, 37, 0, 4, 7), (12, 274, 42, 0, 7, 82), (12, 270, 44, 0, 7, 127), (12, 238, 43, 0, 7, 86), (11, 120, 48, 0, 4, 30), (12, 441, 50, 0, 8, 11), (12, 397, 51, 0, 8, 15), (12, 400, 52, 0, 8, 19), (11, 170, 58, 0, 4, 79), (6, 78, 59, 0, 3, 196), (12, 460, 61, 0, 8, 84), (12, 457, 62, 0, 8, 88), (11, 181, 64, 0, 4, 102), (11, 162, 70, 0, 4, 44), (11, 188, 73, 0, 4, 142), (8, 61, 71, 0, 4, 48), (8, 54, 72, 0, 4, 52), (11, 206, 83, 0, 4, 191), (12, 478, 85, 0, 8, 140), (11, 196, 87, 0, 4, 152), (2, 28, 88, 0, 4, 156), (2, 32, 90, 0, 4, 163), (2, 40, 89, 0, 4, 160), (8, 48, 9001, 0, 4, 167), (12, 472, 92, 0, 8, 116), (11, 213, 94, 0, 4, 214), (12, 447, 96, 0, 8, 48), (12, 482, 97, 0, 8, 156), (12, 485, 98, 0, 8, 160), (12, 451, 99, 0, 8, 68), (11, 216, 101, 0, 4, 223), (11, 224, 104, 0, 4, 239), (11, 230, 107, 0, 5, 11), (11, 233, 109, 0, 5, 19), (11, 203, 71, 0, 4, 182), (11, 237, 111, 0, 5, 24), (11, 241, 112, 0, 5, 29), (11, 244, 113, 0, 5, 47), (11, 323, 72, 0, 5, 15), (11, 319, 108, 0, 5, 16), (4, 35, 110, 0, 5, 23), (4, 41, 37, 0, 5, 28), (4, 64, 73, 0, 5, 51), (12, 504, 115, 0, 8, 200), (12, 507, 117, 0, 8, 208), (12, 510, 120, 0, 8, 224), (12, 501, 116, 0, 8, 204), (12, 495, 118, 0, 8, 212), (12, 498, 119, 0, 8, 216), (11, 248, 122, 0, 5, 71), (11, 251, 125, 0, 5, 91), (11, 375, 123, 0, 5, 75), (4, 88, 124, 0, 5, 79), (12, 520, 127, 0, 8, 232), (12, 517, 129, 0, 9, 0), (12, 514, 128, 0, 8, 236), (11, 254, 131, 0, 5, 98), (4, 91, 132, 0, 5, 87), (4, 95, 133, 0, 5, 102), (4, 61, 134, 0, 5, 43), (12, 523, 137, 0, 9, 7), (11, 260, 140, 0, 5, 114), (11, 263, 141, 0, 5, 122), (12, 526, 142, 0, 9, 15), (11, 269, 146, 0, 5, 135), (11, 377, 147, 0, 5, 139), (11, 275, 90, 0, 5, 160), (11, 278, 59, 0, 5, 169), (11, 288, 168, 0, 4, 195), (11, 173, 170, 0, 4, 80), (11, 306, 172, 0, 5, 218), (12, 529, 173, 0, 9, 63), (9, 28, 171, 0, 4, 84), (6, 82, 58, 0, 4, 88), (9, 72, 37, 0, 5, 182), (12, 544, 178, 0, 9, 47), (11, 326, 184, 0, 6, 6), (4, 101, 185, 0, 6, 10), (12, 551, 187, 0, 9, 95), (11, 329, 189, 0, 6, 18), (11, 335, 194, 0, 6, 34), (11, 342, 199, 0, 6, 47), (11, 345, 200, 0, 6, 51), (12, 558, 202, 0, 9, 116), (12, 561, 203, 0, 9, 120), (11, 348, 205, 0, 6, 67), (4, 70, 206, 0, 5, 52), (4, 57, 207, 0, 5, 38), (11, 144, 135, 0, 4, 39)]
def zx_NL : List (Nat × Nat × Nat × Nat × Nat × Nat) := [(11, 11, 1, 1, 1, 33), (11, 34, 15, 1, 2, 106), (11, 45, 16, 1, 2, 109), (11, 52, 17, 1, 2, 138), (11, 59, 18, 1, 2, 167), (11, 66, 19, 1, 2, 190), (11, 73, 3, 1, 2, 203), (7, 20, 3, 1, 1, 55), (6, 35, 4, 1, 1, 61), (2, 27, 15, 1, 2, 59), (4, 50, 108, 1, 5, 33), (4, 47, 135, 1, 5, 42)]
def zx_CL : List (Nat × Nat × Nat × Nat × Nat × Nat) := [(13, 7, 11, 0, 1, 23), (13, 10, 12, 0, 6, 87), (11, 9, 10, 0, 1, 31), (11, 16, 7, 0, 1, 47), (11, 25, 2, 0, 2, 50), (11, 32, 8, 0, 2, 105), (11, 43, 1, 0, 2, 107), (11, 50, 4, 0, 2, 136), (11, 57, 9, 0, 2, 165), (11, 64, 5, 0, 2, 188), (11, 71, 6, 0, 2, 202), (7, 18, 6, 0, 1, 53), (7, 35, 3, 0, 1, 180), (6, 33, 0, 0, 1, 59), (2, 9, 8, 0, 2, 56)]
def zx_KL : List (Nat × Nat × Nat × Nat × Nat × Nat) := [(18, 265, 1431655765, 0, 4, 145), (18, 266, 858993459, 0, 4, 146), (18, 267, 252645135, 0, 4, 147), (11, 341, 100000, 0, 6, 42), (12, 557, 100000, 0, 9, 111)]
def zx_JL : List (Nat × Nat × Nat × Nat × Nat × Nat) := [(3, 82, 27, 0, 1, 238), (3, 84, 97, 0, 1, 239)]
def zx_mp : List (Nat × Nat × Nat × Nat × Nat × Nat × Nat × Nat) := [(1, 27, 1, 1, 1, 26, 0, 0), (1, 35, 1, 2, 1, 34, 0, 0), (1, 51, 1, 3, 1, 50, 0, 0), (1, 57, 1, 4, 1, 56, 0, 0), (1, 63, 1, 5, 1, 62, 0, 0), (1, 184, 1, 6, 1, 183, 0, 0), (1, 190, 1, 7, 1, 188, 1, 189), (1, 194, 1, 7, 1, 192, 1, 193), (1, 200, 1, 7, 1, 198, 1, 199), (1, 204, 1, 7, 1, 202, 1, 203), (1, 207, 1, 8, 1, 206, 0, 0), (1, 210, 1, 7, 1, 209, 0, 0), (1, 215, 1, 9, 1, 214, 0, 0), (1, 237, 1, 6, 1, 236, 0, 0), (2, 54, 1, 11, 2, 53, 0, 0), (2, 61, 1, 12, 2, 60, 0, 0), (2, 111, 1, 13, 2, 110, 0, 0), (2, 140, 1, 14, 2, 139, 0, 0), (2, 169, 1, 15, 2, 168, 0, 0), (2, 192, 1, 16, 2, 191, 0, 0), (6, 91, 1, 17, 6, 90, 0, 0), (6, 96, 1, 17, 6, 95, 0, 46), (6, 100, 1, 17, 6, 99, 0, 47), (3, 4, 1, 1, 3, 2, 3, 3), (3, 8, 1, 2, 3, 6, 3, 7), (9, 147, 1, 17, 9, 145, 9, 146), (3, 12, 1, 1, 3, 10, 3, 11), (9, 151, 1, 17, 9, 149, 9, 150), (3, 16, 1, 1, 3, 14, 3, 15), (3, 20, 1, 3, 3, 18, 3, 19), (3, 24, 1, 4, 3, 22, 3, 23), (3, 28, 1, 5, 3, 26, 3, 27), (3, 32, 1, 6, 3, 30, 3, 31), (3, 36, 1, 6, 3, 34, 3, 35), (3, 40, 1, 2, 3, 38, 3, 39), (4, 2, 1, 3, 4, 0, 4, 1), (4, 6, 1, 12, 4, 4, 4, 5), (4, 9, 1, 20, 4, 8, 0, 0), (4, 13, 1, 11, 4, 11, 4, 12), (4, 17, 1, 13, 4, 15, 4, 16), (4, 21, 1, 16, 4, 19, 4, 20), (7, 81, 1, 17, 7, 79, 7, 80), (7, 85, 1, 17, 7, 84, 0, 48), (7, 89, 1, 17, 7, 88, 0, 49), (7, 130, 1, 17, 7, 129, 0, 50), (4, 25, 1, 1, 4, 23, 4, 24), (8, 6, 1, 17, 8, 4, 8, 5), (4, 29, 1, 1, 4, 27, 4, 28), (4, 33, 1, 4, 4, 31, 4, 32), (8, 10, 1, 17, 8, 8, 8, 9), (8, 14, 1, 17, 8, 13, 0, 79), (8, 18, 1, 17, 8, 17, 0, 80), (8, 21, 1, 17, 8, 20, 0, 0), (4, 43, 1, 1, 4, 41, 4, 42), (8, 47, 1, 17, 8, 45, 8, 46), (4, 73, 1, 1, 4, 71, 4, 72), (8, 79, 1, 17, 8, 77, 8, 78), (4, 78, 1, 1, 4, 76, 4, 77), (3, 195, 1, 4, 3, 193, 3, 194), (3, 163, 1, 4, 3, 161, 3, 162), (8, 83, 1, 17, 8, 81, 8, 82), (8, 87, 1, 17, 8, 86, 0, 92), (8, 91, 1, 17, 8, 90, 0, 93), (4, 101, 1, 1, 4, 99, 4, 100), (4, 104, 1, 1, 4, 103, 0, 0), (8, 179, 1, 17, 8, 177, 8, 178), (4, 108, 1, 1, 4, 106, 4, 107), (8, 99, 1, 17, 8, 97, 8, 98), (4, 141, 1, 1, 4, 139, 4, 140), (8, 175, 1, 17, 8, 173, 8, 174), (4, 47, 1, 12, 4, 45, 4, 46), (4, 51, 1, 12, 4, 49, 4, 50), (4, 55, 1, 4, 4, 53, 4, 54), (4, 144, 1, 21, 4, 143, 0, 0), (4, 151, 1, 1, 4, 149, 4, 150), (8, 114, 1, 17, 8, 112, 8, 113), (4, 177, 1, 1, 4, 175, 4, 176), (8, 123, 1, 17, 8, 121, 8, 122), (4, 181, 1, 1, 4, 179, 4, 180), (8, 127, 1, 17, 8, 125, 8, 126), (4, 186, 1, 1, 4, 184, 4, 185), (8, 135, 1, 17, 8, 133, 8, 134), (4, 190, 1, 1, 4, 188, 4, 189), (4, 194, 1, 1, 4, 193, 0, 27), (8, 147, 1, 17, 8, 145, 8, 146), (8, 143, 1, 17, 8, 142, 0, 99), (4, 209, 1, 1, 4, 207, 4, 208), (4, 155, 1, 11, 4, 153, 4, 154), (4, 159, 1, 11, 4, 158, 0, 26), (4, 162, 1, 18, 4, 161, 0, 0), (4, 166, 1, 12, 4, 164, 4, 165), (8, 151, 1, 17, 8, 149, 8, 150), (8, 119, 1, 17, 8, 118, 0, 97), (4, 213, 1, 1, 4, 211, 4, 212), (4, 217, 1, 12, 4, 215, 4, 216), (8, 155, 1, 17, 8, 153, 8, 154), (8, 51, 1, 17, 8, 50, 0, 85), (8, 159, 1, 17, 8, 158, 0, 100), (8, 163, 1, 17, 8, 162, 0, 101), (8, 71, 1, 17, 8, 70, 0, 90), (4, 222, 1, 1, 4, 220, 4, 221), (4, 226, 1, 11, 4, 224, 4, 225), (8, 183, 1, 17, 8, 181, 8, 182), (4, 238, 1, 1, 4, 236, 4, 237), (5, 2, 1, 11, 5, 0, 5, 1), (8, 191, 1, 17, 8, 189, 8, 190), (5, 10, 1, 1, 5, 8, 5, 9), (5, 14, 1, 1, 5, 13, 0, 29), (5, 18, 1, 1, 5, 17, 0, 0), (5, 22, 1, 14, 5, 20, 5, 21), (4, 59, 1, 4, 4, 57, 4, 58), (5, 27, 1, 14, 5, 25, 5, 26), (5, 32, 1, 14, 5, 30, 5, 31), (5, 50, 1, 14, 5, 48, 5, 49), (8, 199, 1, 17, 8, 197, 8, 198), (8, 203, 1, 17, 8, 202, 0, 103), (8, 207, 1, 17, 8, 206, 0, 104), (8, 211, 1, 17, 8, 210, 0, 105), (8, 215, 1, 17, 8, 214, 0, 106), (8, 219, 1, 17, 8, 218, 0, 107), (8, 227, 1, 17, 8, 226, 0, 109), (5, 70, 1, 1, 5, 68, 5, 69), (5, 74, 1, 1, 5, 73, 0, 34), (5, 78, 1, 14, 5, 76, 5, 77), (5, 82, 1, 14, 5, 81, 0, 35), (5, 93, 1, 1, 5, 92, 0, 0), (8, 231, 1, 17, 8, 229, 8, 230), (8, 235, 1, 17, 8, 234, 0, 110), (8, 239, 1, 17, 8, 238, 0, 111), (9, 2, 1, 17, 9, 1, 0, 0), (5, 97, 1, 1, 5, 95, 5, 96), (5, 101, 1, 14, 5, 99, 5, 100), (5, 90, 1, 14, 5, 89, 0, 37), (5, 105, 1, 14, 5, 104, 0, 38), (5, 46, 1, 14, 5, 45, 0, 32), (3, 183, 1, 1, 3, 182, 0, 0), (9, 6, 1, 17, 9, 4, 9, 5), (9, 10, 1, 17, 9, 9, 0, 112), (5, 109, 1, 1, 5, 107, 5, 108), (9, 14, 1, 17, 9, 12, 9, 13), (5, 117, 1, 14, 5, 115, 5, 116), (5, 121, 1, 14, 5, 119, 5, 120), (9, 18, 1, 17, 9, 17, 0, 113), (5, 126, 1, 1, 5, 124, 5, 125), (9, 22, 1, 17, 9, 20, 9, 21), (5, 134, 1, 1, 5, 132, 5, 133), (5, 138, 1, 1, 5, 137, 0, 40), (5, 142, 1, 14, 5, 140, 5, 141), (9, 26, 1, 17, 9, 24, 9, 25), (5, 146, 1, 1, 5, 144, 5, 145), (9, 30, 1, 17, 9, 28, 9, 29), (5, 151, 1, 1, 5, 149, 5, 150), (9, 34, 1, 17, 9, 32, 9, 33), (5, 155, 1, 1, 5, 153, 5, 154), (8, 139, 1, 17, 8, 137, 8, 138), (5, 159, 1, 1, 5, 157, 5, 158), (8, 167, 1, 17, 8, 165, 8, 166), (5, 164, 1, 1, 5, 162, 5, 163), (9, 38, 1, 17, 9, 36, 9, 37), (5, 168, 1, 1, 5, 166, 5, 167), (9, 42, 1, 17, 9, 40, 9, 41), (5, 173, 1, 1, 5, 171, 5, 172), (9, 70, 1, 17, 9, 68, 9, 69), (5, 199, 1, 1, 5, 197, 5, 198), (9, 74, 1, 17, 9, 72, 9, 73), (5, 204, 1, 1, 5, 202, 5, 203), (9, 78, 1, 17, 9, 76, 9, 77), (5, 217, 1, 1, 5, 215, 5, 216), (4, 197, 1, 1, 4, 196, 0, 0), (9, 82, 1, 17, 9, 80, 9, 81), (4, 83, 1, 15, 4, 81, 4, 82), (4, 87, 1, 4, 4, 85, 4, 86), (5, 221, 1, 15, 5, 219, 5, 220), (9, 66, 1, 17, 9, 65, 0, 118), (5, 225, 1, 1, 5, 223, 5, 224), (8, 171, 1, 17, 8, 169, 8, 170), (5, 229, 1, 1, 5, 227, 5, 228), (9, 86, 1, 17, 9, 84, 9, 85), (9, 50, 1, 17, 9, 49, 0, 114), (5, 237, 1, 1, 5, 235, 5, 236), (9, 46, 1, 17, 9, 44, 9, 45), (6, 1, 1, 1, 5, 239, 6, 0), (9, 90, 1, 17, 9, 88, 9, 89), (6, 5, 1, 1, 6, 3, 6, 4), (6, 9, 1, 14, 6, 7, 6, 8), (6, 13, 1, 14, 6, 12, 0, 43), (9, 94, 1, 17, 9, 92, 9, 93), (9, 98, 1, 17, 9, 97, 0, 119), (6, 17, 1, 1, 6, 15, 6, 16), (6, 21, 1, 16, 6, 19, 6, 20), (8, 195, 1, 17, 8, 193, 8, 194), (6, 25, 1, 1, 6, 23, 6, 24), (9, 102, 1, 17, 9, 100, 9, 101), (6, 33, 1, 1, 6, 31, 6, 32), (6, 37, 1, 13, 6, 35, 6, 36), (9, 106, 1, 17, 9, 104, 9, 105), (6, 41, 1, 1, 6, 39, 6, 40), (9, 110, 1, 17, 9, 108, 9, 109), (6, 46, 1, 1, 6, 44, 6, 45), (6, 50, 1, 1, 6, 49, 0, 44), (6, 54, 1, 1, 6, 53, 0, 45), (9, 115, 1, 17, 9, 113, 9, 114), (9, 119, 1, 17, 9, 118, 0, 120), (9, 123, 1, 17, 9, 122, 0, 121), (6, 66, 1, 1, 6, 64, 6, 65), (6, 70, 1, 14, 6, 68, 6, 69), (5, 55, 1, 14, 5, 54, 0, 33), (5, 41, 1, 14, 5, 40, 0, 31), (9, 127, 1, 17, 9, 125, 9, 126), (6, 74, 1, 1, 6, 72, 6, 73), (9, 131, 1, 17, 9, 129, 9, 130), (6, 78, 1, 1, 6, 76, 6, 77), (9, 135, 1, 17, 9, 133, 9, 134), (6, 82, 1, 1, 6, 80, 6, 81), (9, 139, 1, 17, 9, 137, 9, 138), (6, 86, 1, 1, 6, 84, 6, 85), (9, 143, 1, 17, 9, 141, 9, 142)]
def zx_cp : List (List (Nat × Nat) × (Nat × Nat) × (Nat × Nat)) := [([(1, 72), (1, 74), (1, 76), (1, 78), (1, 80)], (1, 60), (1, 5)), ([(2, 123), (2, 125), (2, 127), (2, 129), (2, 131), (2, 133)], (2, 108), (1, 13)), ([(2, 96), (2, 98), (2, 100), (2, 102)], (2, 51), (1, 11)), ([(2, 11), (2, 13), (2, 15), (2, 17), (2, 19), (2, 21), (2, 23)], (1, 181), (1, 6)), ([(2, 149), (2, 151), (2, 153), (2, 155), (2, 157), (2, 159), (2, 161)], (2, 137), (1, 14)), ([(2, 197), (2, 199)], (2, 189), (1, 16)), ([(1, 143), (1, 145), (1, 147), (1, 149), (1, 151), (1, 153), (1, 155), (1, 157), (1, 159), (1, 161), (1, 163), (1, 165), (1, 167), (1, 169), (1, 171), (1, 173), (1, 175), (1, 177)], (1, 54), (1, 4)), ([(2, 35), (2, 37), (2, 39), (2, 41), (2, 43), (2, 45), (2, 47)], (1, 48), (1, 3)), ([(2, 77), (2, 79), (2, 81), (2, 83), (2, 85), (2, 87), (2, 89)], (2, 58), (1, 12)), ([(2, 177), (2, 179), (2, 181), (2, 183), (2, 185)], (2, 166), (1, 15)), ([(1, 41), (1, 43)], (1, 32), (1, 2)), ([(2, 216), (2, 218), (2, 220), (2, 222), (2, 224), (2, 226), (2, 228), (2, 230), (2, 232), (2, 234), (2, 236), (2, 238)], (1, 24), (1, 1)), ([(6, 173), (6, 175), (6, 177), (6, 179), (6, 181), (6, 183), (6, 185), (6, 187), (6, 189), (6, 191), (6, 193), (6, 195), (6, 197), (6, 199), (6, 201), (6, 203), (6, 205), (6, 207), (6, 209), (6, 211), (6, 213), (6, 215), (6, 217), (6, 219), (6, 221), (6, 223), (6, 225), (6, 227), (6, 229), (6, 231), (6, 233), (6, 235), (6, 237), (6, 239), (7, 1), (7, 3), (7, 5), (7, 7), (7, 9), (7, 11), (7, 13), (7, 15), (7, 17), (7, 19), (7, 21), (7, 23), (7, 25), (7, 27), (7, 29), (7, 31), (7, 33), (7, 35), (7, 37), (7, 39), (7, 41), (7, 43), (7, 45), (7, 47), (7, 49), (7, 51), (7, 53), (7, 55), (7, 57), (7, 59), (7, 61), (7, 63), (7, 65), (7, 67), (7, 69), (7, 71), (7, 73), (7, 75)], (6, 88), (1, 17))]
def zx_fk : List (List (Nat × Bool)) := [[(2, true), (2, true), (0, false), (0, false), (0, false)], [(2, true), (2, true), (2, true), (2, true), (0, false), (0, false)], [(2, true), (0, false), (0, false), (0, false)], [(2, true), (2, true), (0, false), (0, false), (0, false), (0, false), (1, false)], [(2, true), (2, true), (2, true), (2, true), (2, true), (0, false), (0, false)], [(2, true), (0, false)], [(2, true), (2, true), (2, true), (2, true), (2, true), (2, true), (2, true), (2, true), (0, false), (0, false), (0, false), (0, false), (0, false), (0, false), (0, false), (0, false), (0, false), (0, false)], [(2, true), (2, true), (2, true), (2, false), (0, false), (0, false), (0, false)], [(0, false), (0, false), (0, false), (0, false), (0, false), (0, false), (2, true)], [(2, true), (2, true), (2, true), (0, false), (0, false)], [(2, true), (0, false)], [(2, true), (2, true), (2, true), (2, true), (2, true), (2, true), (2, true), (2, true), (2, true), (2, false), (2, false), (0, false)], [(2, true), (2, true), (0, false), (0, false), (0, false), (0, false), (0, false), (0, false), (0, false), (0, false), (1, false), (2, true), (2, true), (2, true), (2, true), (2, true), (2, true), (2, true), (2, true), (2, true), (2, true), (2, true), (2, true), (2, true), (2, true), (2, true), (2, true), (2, true), (2, true), (2, true), (2, true), (2, true), (2, true), (2, true), (2, true), (2, true), (2, true), (2, true), (2, true), (2, true), (2, true), (2, true), (2, true), (0, false), (0, false), (0, false), (0, false), (0, false), (0, false), (2, true), (2, true), (2, true), (0, false), (0, false), (2, true), (2, true), (2, true), (0, false), (2, true), (2, true), (2, true), (0, false), (2, true), (2, true), (2, true), (2, true), (2, true), (2, true), (0, false), (0, false), (2, true), (2, true)]]
def zx_ow : List (Nat × Nat × Cond) := [(1, 29, .instanceMethod objectInit), (1, 30, .code objectInit ⟨#[0xb1]⟩ 1 none), (4, 169, .native arraycopyName), (4, 168, .static arraycopyName), (1, 22, .initialized "java/lang/System"), (1, 84, .arrayClass .int), (1, 46, .arrayClass .byte), (2, 164, .arrayClass .boolean), (1, 83, .arrayClass .long)]
end
section
/-! the words that the walker's tables stand for, and that the statement has them -/
def zx_tb (k : Nat) : List Cond := match k with
  | 0 => k2_sels lw_privs
  | 1 => tables_1_1
  | 2 => tables_1_2
  | 3 => tables_1_3
  | 4 => tables_1_4
  | 5 => tables_1_5
  | 6 => tables_1_6
  | 7 => tables_1_7
  | 8 => tables_1_8
  | 9 => tables_1_9
  | _ => []
theorem zx_tb_in (k : Nat) (w : Cond) (h : w ∈ zx_tb k) : w ∈ lw_tbl := by
  have hr : ∀ {a b : List Cond}, w ∈ b → w ∈ a ++ b := fun h => List.mem_append_right _ h
  have hl : ∀ {a b : List Cond}, w ∈ a → w ∈ a ++ b := fun h => List.mem_append_left _ h
  match k, h with
  | 0, h => exact hl h
  | 1, h => exact hr (hl h)
  | 2, h => exact hr (hr (hl h))
  | 3, h => exact hr (hr (hr (hl h)))
  | 4, h => exact hr (hr (hr (hr (hl h))))
  | 5, h => exact hr (hr (hr (hr (hr (hl h)))))
  | 6, h => exact hr (hr (hr (hr (hr (hr (hl h))))))
  | 7, h => exact hr (hr (hr (hr (hr (hr (hr (hl h)))))))
  | 8, h => exact hr (hr (hr (hr (hr (hr (hr (hr (hl h))))))))
  | 9, h => exact hr (hr (hr (hr (hr (hr (hr (hr (hr h))))))))
  | (k + 10), h => cases h
abbrev zx_Q : Type := Nat × Nat × Nat × Nat × Nat × Nat
def zx_os (o : Nat) : String := zx_on.getD o ""
def zx_me (k : Nat) : zx_M := zx_mt.getD k zm_law
def zx_ci (ci : Nat) : vw_C := vwCl.getD ci ("", fun _ => ("", "", "", false), 0)
def zx_fd (x y : Nat) : String × String × String := bif Nat.blt x 100 then (((zx_ci x).2.1 y).1, ((zx_ci x).2.1 y).2.1, ((zx_ci x).2.1 y).2.2.1) else match x with
  | 100 => ("java/lang/String", "value", "[B")
  | 101 => ("java/lang/String", "coder", "B")
  | 200 => ("java/lang/String", "COMPACT_STRINGS", "Z")
  | _ => ("jdk/internal/util/Preconditions", "SIOOBE_FORMATTER", "Ljava/util/function/BiFunction;")
def zx_fw (q : zx_Q) : Cond := .fieldLink (zx_os q.1) q.2.1 (zx_fd q.2.2.1 q.2.2.2.1).1 (zx_fd q.2.2.1 q.2.2.2.1).2.1 (zx_fd q.2.2.1 q.2.2.2.1).2.2
def zx_my (k : Nat) : MethodName := bif Nat.beq k 9000 then objectInit else bif Nat.beq k 9001 then arraycopyName else (zx_me k).1.1
def zx_mw (q : zx_Q) : Cond := .methodLink (zx_os q.1) q.2.1 (zx_my q.2.2.1)
def zx_nw1 (q : zx_Q) : Cond := .methodLinkNest (zx_os q.1) q.2.1 (zx_my q.2.2.1) "LaneDoors"
def zx_cw (q : zx_Q) : Cond := .classLink (zx_os q.1) q.2.1 (zx_ci q.2.2.1).1
def zx_kw (q : zx_Q) : Cond := .constant (zx_os q.1) q.2.1 (nI q.2.2.1)
def zx_jw (q : zx_Q) : Cond := .constantLong (zx_os q.1) q.2.1 (lN q.2.2.1)
def zx_mc (m : zx_M) : Cond := .code m.1.1 m.1.2.1 m.1.2.2.1 m.1.2.2.2
def zx_mi (m : zx_M) : Cond := .initialized m.1.1.cls
def zx_mk (m : zx_M) : Cond := bif Nat.beq m.2.1.2.1 1 then .static m.1.1 else .instanceMethod m.1.1
def zx_ms (m : zx_M) : List Cond := bif Nat.beq m.2.1.2.1 0 then [.selects m.1.1.cls m.1.1 m.1.1] else []
def zx_mws (m : zx_M) : List Cond := zx_mc m :: zx_mi m :: zx_mk m :: zx_ms m
def zx_cls (c : vw_C) : List Cond := .instantiable c.1 c.2.2 :: .initialized c.1 :: u_ws c.1 c.2.1 c.2.2
def zx_G : List Cond := zx_FL.map zx_fw ++ (zx_ML.map zx_mw ++ (zx_CL.map zx_cw ++ (zx_KL.map zx_kw ++ (zx_JL.map zx_jw ++ (zx_mt.flatMap zx_mws ++ (vwCl.flatMap zx_cls ++ zx_ow.map (fun q => q.2.2)))))))
def zx_nw : List Cond := zx_NL.map zx_nw1
def zx_gd (k i : Nat) (w : Cond) : Bool := decide ((zx_tb k)[i]? = some w) && goodWord w
theorem zx_gd_s {k i : Nat} {w : Cond} (h : zx_gd k i w = true) : w ∈ lw_tbl ∧ goodWord w = true := by
  obtain ⟨h1, h2⟩ := zx_and_b h
  exact ⟨zx_tb_in k w (List.mem_of_getElem? (of_decide_eq_true h1)), h2⟩
theorem zx_FL_ok : (zx_FL.all fun q => zx_gd q.2.2.2.2.1 q.2.2.2.2.2 (zx_fw q)) = true := by decide +kernel
theorem zx_CL_ok : (zx_CL.all fun q => zx_gd q.2.2.2.2.1 q.2.2.2.2.2 (zx_cw q)) = true := by decide +kernel
theorem zx_KL_ok : (zx_KL.all fun q => zx_gd q.2.2.2.2.1 q.2.2.2.2.2 (zx_kw q)) = true := by decide +kernel
theorem zx_JL_ok : (zx_JL.all fun q => zx_gd q.2.2.2.2.1 q.2.2.2.2.2 (zx_jw q)) = true := by decide +kernel
theorem zx_ow_ok : (zx_ow.all fun q => zx_gd q.1 q.2.1 q.2.2) = true := by decide +kernel
theorem zx_NL_ok : (zx_NL.all fun q => decide ((zx_tb q.2.2.2.2.1)[q.2.2.2.2.2]? = some (zx_nw1 q))) = true := by decide +kernel
end
section
/-! the methods' words and instructions are as the tables say -/
theorem zx_ML_ok : (zx_ML.all fun q => zx_gd q.2.2.2.2.1 q.2.2.2.2.2 (zx_mw q)) = true := by decide +kernel
def zx_ck (l : List zx_Q) (o i x y : Nat) : Bool := l.any fun q => Nat.beq q.1 o && (Nat.beq q.2.1 i && (Nat.beq q.2.2.1 x && Nat.beq q.2.2.2.1 y))
def zx_kd (k x : Nat) : Bool := Nat.blt x 9000 && (Nat.blt x 217 && Nat.beq (zx_me x).2.1.2.1 k)
def zx_eck (o : Nat) (cc : ByteArray) (q : zx_E) : Bool := decide (decode cc q.1 = .ok (q.2.1, q.2.2.1 - q.1)) && (Nat.blt q.1 q.2.2.1 && match q.2.1 with
  | .getfield i => zx_ck zx_FL o i q.2.2.2.1 q.2.2.2.2
  | .putfield i => zx_ck zx_FL o i q.2.2.2.1 q.2.2.2.2
  | .getstatic i => zx_ck zx_FL o i q.2.2.2.1 q.2.2.2.2
  | .invokevirtual i => zx_kd 0 q.2.2.2.1 && (Nat.beq q.2.2.2.2 0 && zx_ck zx_ML o i q.2.2.2.1 0)
  | .invokestatic i => bif Nat.beq q.2.2.2.1 9001 then zx_ck zx_ML o i 9001 0 else zx_kd 1 q.2.2.2.1 && (bif Nat.beq q.2.2.2.2 0 then zx_ck zx_ML o i q.2.2.2.1 0 else zx_ck zx_NL o i q.2.2.2.1 1)
  | .invokespecial i => bif Nat.beq q.2.2.2.1 9000 then zx_ck zx_ML o i 9000 0 else zx_kd 2 q.2.2.2.1 && (bif Nat.beq q.2.2.2.2 0 then zx_ck zx_ML o i q.2.2.2.1 0 else zx_ck zx_NL o i q.2.2.2.1 1)
  | .new i => zx_ck zx_CL o i q.2.2.2.1 0
  | .anewarray i => Nat.beq q.2.2.2.1 8 && zx_ck zx_CL o i 8 0
  | .ldc i => bif Nat.beq q.2.2.2.2 1 then Nat.beq i 34 && (Nat.beq o 3 && Nat.beq q.2.2.2.1 1) else zx_ck zx_KL o i q.2.2.2.1 0 && Nat.blt q.2.2.2.1 4294967296
  | .ldc_w i => Nat.beq q.2.2.2.2 0 && (zx_ck zx_KL o i q.2.2.2.1 0 && Nat.blt q.2.2.2.1 4294967296)
  | .ldc2_w i => zx_ck zx_JL o i q.2.2.2.1 0
  | _ => true)
def zx_mck (m : zx_M) (p : Nat × Nat × Nat × Nat × Nat × Nat × Nat × Nat) : Bool :=
  zx_gd p.1 p.2.1 (zx_mc m) && (zx_gd p.2.2.1 p.2.2.2.1 (zx_mi m) && (zx_gd p.2.2.2.2.1 p.2.2.2.2.2.1 (zx_mk m) && ((zx_ms m).all (fun w => zx_gd p.2.2.2.2.2.2.1 p.2.2.2.2.2.2.2 w) &&
  (decide (m.1.1.cls = zx_os m.2.1.1) && (plainName m.1.1.cls && (decide (m.1.1.cls ≠ "java/lang/invoke/MethodHandle") && (decide (m.1.1.cls ≠ "java/lang/invoke/VarHandle") &&
  (decide ((parseMethodDescriptor m.1.1.desc).map (fun d => d.parameters.length) = some m.2.1.2.2.1) && (Nat.ble m.1.2.2.1 60 && ((!Nat.beq m.2.1.2.1 2 || (decide (m.1.1.name = "<init>") && decide (m.1.2.2.2 = none))) &&
  m.2.2.all (fun r => r.2.all (zx_eck m.2.1.1 m.1.2.1))))))))))))
def zx_mq (k : Nat) : Bool := zx_mck (zx_me k) (zx_mp.getD k (0, 0, 0, 0, 0, 0, 0, 0))
theorem zt_1 : (zx_gd 4 162 (zx_mc zm_89)) = true := by decide +kernel
theorem zt_2 : (zx_gd 1 18 (zx_mi zm_89)) = true := by decide +kernel
theorem zt_3 : (zx_gd 4 161 (zx_mk zm_89)) = true := by decide +kernel
theorem zt_4 : (decide (zm_89.1.1.cls = zx_os zm_89.2.1.1)) = true := by decide +kernel
theorem zt_5 : zm_89.2.2.all (fun r => r.2.all (zx_eck zm_89.2.1.1 zm_89.1.2.1)) = true := by decide +kernel
theorem zt_6 : decide ((parseMethodDescriptor zm_89.1.1.desc).map (fun d => d.parameters.length) = some zm_89.2.1.2.2.1) = true := by decide +kernel
end
