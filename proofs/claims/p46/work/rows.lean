section
-- ===== PART A: goes FIRST, ahead of the names: the tables' words, and 'selects' of the private methods out of them =====
/-- a private method of a class that the tables say can be made, by its rows of tables_1 -/
def lw_okq (q : MethodName × Nat) : Prop := (q.1.cls ≠ "java/lang/invoke/MethodHandle" ∧ q.1.cls ≠ "java/lang/invoke/VarHandle") ∧ Cond.instantiable q.1.cls q.2 ∈ tables_1 ∧ Cond.privateMethod q.1 ∈ tables_1 ∧ Cond.instanceMethod q.1 ∈ tables_1
theorem lw_p0 : lw_okq (⟨"LaneDoors$Lexer", "takeWord", "()V"⟩, 7) := ⟨⟨by decide +kernel, by decide +kernel⟩, List.mem_of_getElem? (i := 181) (by decide +kernel), List.mem_of_getElem? (i := 525) (by decide +kernel), List.mem_of_getElem? (i := 526) (by decide +kernel)⟩
theorem lw_p1 : lw_okq (⟨"LaneDoors$Lexer", "wordKind", "()I"⟩, 7) := ⟨⟨by decide +kernel, by decide +kernel⟩, List.mem_of_getElem? (i := 181) (by decide +kernel), List.mem_of_getElem? (i := 529) (by decide +kernel), List.mem_of_getElem? (i := 530) (by decide +kernel)⟩
theorem lw_p2 : lw_okq (⟨"LaneDoors$Lexer", "takeNumber", "()V"⟩, 7) := ⟨⟨by decide +kernel, by decide +kernel⟩, List.mem_of_getElem? (i := 181) (by decide +kernel), List.mem_of_getElem? (i := 536) (by decide +kernel), List.mem_of_getElem? (i := 537) (by decide +kernel)⟩
theorem lw_p3 : lw_okq (⟨"LaneDoors$Reader", "readLine", "()Z"⟩, 7) := ⟨⟨by decide +kernel, by decide +kernel⟩, List.mem_of_getElem? (i := 48) (by decide +kernel), List.mem_of_getElem? (i := 600) (by decide +kernel), List.mem_of_getElem? (i := 601) (by decide +kernel)⟩
theorem lw_p4 : lw_okq (⟨"LaneDoors$Reader", "readLane", "()Z"⟩, 7) := ⟨⟨by decide +kernel, by decide +kernel⟩, List.mem_of_getElem? (i := 48) (by decide +kernel), List.mem_of_getElem? (i := 604) (by decide +kernel), List.mem_of_getElem? (i := 605) (by decide +kernel)⟩
theorem lw_p5 : lw_okq (⟨"LaneDoors$Reader", "readNewName", "([JI)Z"⟩, 7) := ⟨⟨by decide +kernel, by decide +kernel⟩, List.mem_of_getElem? (i := 48) (by decide +kernel), List.mem_of_getElem? (i := 609) (by decide +kernel), List.mem_of_getElem? (i := 610) (by decide +kernel)⟩
theorem lw_p6 : lw_okq (⟨"LaneDoors$Reader", "refuse", "(I)Z"⟩, 7) := ⟨⟨by decide +kernel, by decide +kernel⟩, List.mem_of_getElem? (i := 48) (by decide +kernel), List.mem_of_getElem? (i := 613) (by decide +kernel), List.mem_of_getElem? (i := 614) (by decide +kernel)⟩
theorem lw_p7 : lw_okq (⟨"LaneDoors$Reader", "expect", "(I)Z"⟩, 7) := ⟨⟨by decide +kernel, by decide +kernel⟩, List.mem_of_getElem? (i := 48) (by decide +kernel), List.mem_of_getElem? (i := 617) (by decide +kernel), List.mem_of_getElem? (i := 618) (by decide +kernel)⟩
theorem lw_p8 : lw_okq (⟨"LaneDoors$Reader", "readNumber", "(II)I"⟩, 7) := ⟨⟨by decide +kernel, by decide +kernel⟩, List.mem_of_getElem? (i := 48) (by decide +kernel), List.mem_of_getElem? (i := 621) (by decide +kernel), List.mem_of_getElem? (i := 622) (by decide +kernel)⟩
theorem lw_p9 : lw_okq (⟨"LaneDoors$Reader", "readDoor", "()Z"⟩, 7) := ⟨⟨by decide +kernel, by decide +kernel⟩, List.mem_of_getElem? (i := 48) (by decide +kernel), List.mem_of_getElem? (i := 629) (by decide +kernel), List.mem_of_getElem? (i := 630) (by decide +kernel)⟩
theorem lw_p10 : lw_okq (⟨"LaneDoors$Reader", "readLaneName", "()I"⟩, 7) := ⟨⟨by decide +kernel, by decide +kernel⟩, List.mem_of_getElem? (i := 48) (by decide +kernel), List.mem_of_getElem? (i := 633) (by decide +kernel), List.mem_of_getElem? (i := 634) (by decide +kernel)⟩
theorem lw_p11 : lw_okq (⟨"LaneDoors$Reader", "laneOfName", "()I"⟩, 7) := ⟨⟨by decide +kernel, by decide +kernel⟩, List.mem_of_getElem? (i := 48) (by decide +kernel), List.mem_of_getElem? (i := 637) (by decide +kernel), List.mem_of_getElem? (i := 638) (by decide +kernel)⟩
theorem lw_p12 : lw_okq (⟨"LaneDoors$Reader", "readHinge", "()Z"⟩, 7) := ⟨⟨by decide +kernel, by decide +kernel⟩, List.mem_of_getElem? (i := 48) (by decide +kernel), List.mem_of_getElem? (i := 650) (by decide +kernel), List.mem_of_getElem? (i := 651) (by decide +kernel)⟩
theorem lw_p13 : lw_okq (⟨"LaneDoors$Reader", "readSide", "()Z"⟩, 7) := ⟨⟨by decide +kernel, by decide +kernel⟩, List.mem_of_getElem? (i := 48) (by decide +kernel), List.mem_of_getElem? (i := 654) (by decide +kernel), List.mem_of_getElem? (i := 655) (by decide +kernel)⟩
theorem lw_p14 : lw_okq (⟨"LaneDoors$Reader", "readDoorWords", "()V"⟩, 7) := ⟨⟨by decide +kernel, by decide +kernel⟩, List.mem_of_getElem? (i := 48) (by decide +kernel), List.mem_of_getElem? (i := 665) (by decide +kernel), List.mem_of_getElem? (i := 666) (by decide +kernel)⟩
theorem lw_p15 : lw_okq (⟨"LaneDoors$Reader", "readCorner", "()Z"⟩, 7) := ⟨⟨by decide +kernel, by decide +kernel⟩, List.mem_of_getElem? (i := 48) (by decide +kernel), List.mem_of_getElem? (i := 669) (by decide +kernel), List.mem_of_getElem? (i := 670) (by decide +kernel)⟩
def lw_privs_1 : List (MethodName × Nat) := [(⟨"LaneDoors$Lexer", "takeWord", "()V"⟩, 7), (⟨"LaneDoors$Lexer", "wordKind", "()I"⟩, 7), (⟨"LaneDoors$Lexer", "takeNumber", "()V"⟩, 7), (⟨"LaneDoors$Reader", "readLine", "()Z"⟩, 7), (⟨"LaneDoors$Reader", "readLane", "()Z"⟩, 7), (⟨"LaneDoors$Reader", "readNewName", "([JI)Z"⟩, 7), (⟨"LaneDoors$Reader", "refuse", "(I)Z"⟩, 7), (⟨"LaneDoors$Reader", "expect", "(I)Z"⟩, 7), (⟨"LaneDoors$Reader", "readNumber", "(II)I"⟩, 7), (⟨"LaneDoors$Reader", "readDoor", "()Z"⟩, 7), (⟨"LaneDoors$Reader", "readLaneName", "()I"⟩, 7), (⟨"LaneDoors$Reader", "laneOfName", "()I"⟩, 7), (⟨"LaneDoors$Reader", "readHinge", "()Z"⟩, 7), (⟨"LaneDoors$Reader", "readSide", "()Z"⟩, 7), (⟨"LaneDoors$Reader", "readDoorWords", "()V"⟩, 7), (⟨"LaneDoors$Reader", "readCorner", "()Z"⟩, 7)]
theorem lw_r1 : ∀ q ∈ lw_privs_1, lw_okq q := List.forall_mem_cons.mpr ⟨lw_p0, List.forall_mem_cons.mpr ⟨lw_p1, List.forall_mem_cons.mpr ⟨lw_p2, List.forall_mem_cons.mpr ⟨lw_p3, List.forall_mem_cons.mpr ⟨lw_p4, List.forall_mem_cons.mpr ⟨lw_p5, List.forall_mem_cons.mpr ⟨lw_p6, List.forall_mem_cons.mpr ⟨lw_p7, List.forall_mem_cons.mpr ⟨lw_p8, List.forall_mem_cons.mpr ⟨lw_p9, List.forall_mem_cons.mpr ⟨lw_p10, List.forall_mem_cons.mpr ⟨lw_p11, List.forall_mem_cons.mpr ⟨lw_p12, List.forall_mem_cons.mpr ⟨lw_p13, List.forall_mem_cons.mpr ⟨lw_p14, List.forall_mem_cons.mpr ⟨lw_p15, fun _ h => absurd h List.not_mem_nil⟩⟩⟩⟩⟩⟩⟩⟩⟩⟩⟩⟩⟩⟩⟩⟩
theorem lw_p16 : lw_okq (⟨"LaneDoors$Reader", "beginOnce", "(I)Z"⟩, 7) := ⟨⟨by decide +kernel, by decide +kernel⟩, List.mem_of_getElem? (i := 48) (by decide +kernel), List.mem_of_getElem? (i := 682) (by decide +kernel), List.mem_of_getElem? (i := 683) (by decide +kernel)⟩
theorem lw_p17 : lw_okq (⟨"LaneDoors$Reader", "readChain", "(II)Z"⟩, 7) := ⟨⟨by decide +kernel, by decide +kernel⟩, List.mem_of_getElem? (i := 48) (by decide +kernel), List.mem_of_getElem? (i := 686) (by decide +kernel), List.mem_of_getElem? (i := 687) (by decide +kernel)⟩
theorem lw_p18 : lw_okq (⟨"LaneDoors$Reader", "readPart", "(II)Z"⟩, 7) := ⟨⟨by decide +kernel, by decide +kernel⟩, List.mem_of_getElem? (i := 48) (by decide +kernel), List.mem_of_getElem? (i := 690) (by decide +kernel), List.mem_of_getElem? (i := 691) (by decide +kernel)⟩
theorem lw_p19 : lw_okq (⟨"LaneDoors$Reader", "readOne", "(I)Z"⟩, 7) := ⟨⟨by decide +kernel, by decide +kernel⟩, List.mem_of_getElem? (i := 48) (by decide +kernel), List.mem_of_getElem? (i := 694) (by decide +kernel), List.mem_of_getElem? (i := 695) (by decide +kernel)⟩
theorem lw_p20 : lw_okq (⟨"LaneDoors$Reader", "readUnit", "(I)Z"⟩, 7) := ⟨⟨by decide +kernel, by decide +kernel⟩, List.mem_of_getElem? (i := 48) (by decide +kernel), List.mem_of_getElem? (i := 702) (by decide +kernel), List.mem_of_getElem? (i := 703) (by decide +kernel)⟩
theorem lw_p21 : lw_okq (⟨"LaneDoors$Reader", "readStock", "()Z"⟩, 7) := ⟨⟨by decide +kernel, by decide +kernel⟩, List.mem_of_getElem? (i := 48) (by decide +kernel), List.mem_of_getElem? (i := 712) (by decide +kernel), List.mem_of_getElem? (i := 713) (by decide +kernel)⟩
theorem lw_p22 : lw_okq (⟨"LaneDoors$Reader", "readDraw", "()Z"⟩, 7) := ⟨⟨by decide +kernel, by decide +kernel⟩, List.mem_of_getElem? (i := 48) (by decide +kernel), List.mem_of_getElem? (i := 716) (by decide +kernel), List.mem_of_getElem? (i := 717) (by decide +kernel)⟩
theorem lw_p23 : lw_okq (⟨"LaneDoors$Formula", "put", "(I)V"⟩, 5) := ⟨⟨by decide +kernel, by decide +kernel⟩, List.mem_of_getElem? (i := 60) (by decide +kernel), List.mem_of_getElem? (i := 839) (by decide +kernel), List.mem_of_getElem? (i := 840) (by decide +kernel)⟩
theorem lw_p24 : lw_okq (⟨"LaneDoors$Formula", "take", "()I"⟩, 5) := ⟨⟨by decide +kernel, by decide +kernel⟩, List.mem_of_getElem? (i := 60) (by decide +kernel), List.mem_of_getElem? (i := 843) (by decide +kernel), List.mem_of_getElem? (i := 844) (by decide +kernel)⟩
theorem lw_p25 : lw_okq (⟨"LaneDoors$Formula", "putOther", "(I)V"⟩, 5) := ⟨⟨by decide +kernel, by decide +kernel⟩, List.mem_of_getElem? (i := 60) (by decide +kernel), List.mem_of_getElem? (i := 850) (by decide +kernel), List.mem_of_getElem? (i := 851) (by decide +kernel)⟩
theorem lw_p26 : lw_okq (⟨"LaneDoors$History", "at", "(I)I"⟩, 4) := ⟨⟨by decide +kernel, by decide +kernel⟩, List.mem_of_getElem? (i := 291) (by decide +kernel), List.mem_of_getElem? (i := 877) (by decide +kernel), List.mem_of_getElem? (i := 878) (by decide +kernel)⟩
theorem lw_p27 : lw_okq (⟨"LaneDoors", "pushedShut", "(IIII)I"⟩, 12) := ⟨⟨by decide +kernel, by decide +kernel⟩, List.mem_of_getElem? (i := 24) (by decide +kernel), List.mem_of_getElem? (i := 912) (by decide +kernel), List.mem_of_getElem? (i := 913) (by decide +kernel)⟩
theorem lw_p28 : lw_okq (⟨"LaneDoors$History", "swap", "(LLaneDoors$State;)LLaneDoors$State;"⟩, 4) := ⟨⟨by decide +kernel, by decide +kernel⟩, List.mem_of_getElem? (i := 291) (by decide +kernel), List.mem_of_getElem? (i := 952) (by decide +kernel), List.mem_of_getElem? (i := 953) (by decide +kernel)⟩
theorem lw_p29 : lw_okq (⟨"LaneDoors", "isShutSet", "(I)Z"⟩, 12) := ⟨⟨by decide +kernel, by decide +kernel⟩, List.mem_of_getElem? (i := 24) (by decide +kernel), List.mem_of_getElem? (i := 972) (by decide +kernel), List.mem_of_getElem? (i := 973) (by decide +kernel)⟩
theorem lw_p30 : lw_okq (⟨"LaneDoors$Opener", "countOnward", "(II)I"⟩, 7) := ⟨⟨by decide +kernel, by decide +kernel⟩, List.mem_of_getElem? (i := 377) (by decide +kernel), List.mem_of_getElem? (i := 995) (by decide +kernel), List.mem_of_getElem? (i := 996) (by decide +kernel)⟩
theorem lw_p31 : lw_okq (⟨"LaneDoors$Opener", "comesNext", "(III)Z"⟩, 7) := ⟨⟨by decide +kernel, by decide +kernel⟩, List.mem_of_getElem? (i := 377) (by decide +kernel), List.mem_of_getElem? (i := 999) (by decide +kernel), List.mem_of_getElem? (i := 1000) (by decide +kernel)⟩
def lw_privs_2 : List (MethodName × Nat) := [(⟨"LaneDoors$Reader", "beginOnce", "(I)Z"⟩, 7), (⟨"LaneDoors$Reader", "readChain", "(II)Z"⟩, 7), (⟨"LaneDoors$Reader", "readPart", "(II)Z"⟩, 7), (⟨"LaneDoors$Reader", "readOne", "(I)Z"⟩, 7), (⟨"LaneDoors$Reader", "readUnit", "(I)Z"⟩, 7), (⟨"LaneDoors$Reader", "readStock", "()Z"⟩, 7), (⟨"LaneDoors$Reader", "readDraw", "()Z"⟩, 7), (⟨"LaneDoors$Formula", "put", "(I)V"⟩, 5), (⟨"LaneDoors$Formula", "take", "()I"⟩, 5), (⟨"LaneDoors$Formula", "putOther", "(I)V"⟩, 5), (⟨"LaneDoors$History", "at", "(I)I"⟩, 4), (⟨"LaneDoors", "pushedShut", "(IIII)I"⟩, 12), (⟨"LaneDoors$History", "swap", "(LLaneDoors$State;)LLaneDoors$State;"⟩, 4), (⟨"LaneDoors", "isShutSet", "(I)Z"⟩, 12), (⟨"LaneDoors$Opener", "countOnward", "(II)I"⟩, 7), (⟨"LaneDoors$Opener", "comesNext", "(III)Z"⟩, 7)]
theorem lw_r2 : ∀ q ∈ lw_privs_2, lw_okq q := List.forall_mem_cons.mpr ⟨lw_p16, List.forall_mem_cons.mpr ⟨lw_p17, List.forall_mem_cons.mpr ⟨lw_p18, List.forall_mem_cons.mpr ⟨lw_p19, List.forall_mem_cons.mpr ⟨lw_p20, List.forall_mem_cons.mpr ⟨lw_p21, List.forall_mem_cons.mpr ⟨lw_p22, List.forall_mem_cons.mpr ⟨lw_p23, List.forall_mem_cons.mpr ⟨lw_p24, List.forall_mem_cons.mpr ⟨lw_p25, List.forall_mem_cons.mpr ⟨lw_p26, List.forall_mem_cons.mpr ⟨lw_p27, List.forall_mem_cons.mpr ⟨lw_p28, List.forall_mem_cons.mpr ⟨lw_p29, List.forall_mem_cons.mpr ⟨lw_p30, List.forall_mem_cons.mpr ⟨lw_p31, fun _ h => absurd h List.not_mem_nil⟩⟩⟩⟩⟩⟩⟩⟩⟩⟩⟩⟩⟩⟩⟩⟩
theorem lw_p32 : lw_okq (⟨"LaneDoors$Opener", "yieldsBehind", "(II)Z"⟩, 7) := ⟨⟨by decide +kernel, by decide +kernel⟩, List.mem_of_getElem? (i := 377) (by decide +kernel), List.mem_of_getElem? (i := 1004) (by decide +kernel), List.mem_of_getElem? (i := 1005) (by decide +kernel)⟩
theorem lw_p33 : lw_okq (⟨"LaneDoors$Opener", "doorsOnward", "(II)I"⟩, 7) := ⟨⟨by decide +kernel, by decide +kernel⟩, List.mem_of_getElem? (i := 377) (by decide +kernel), List.mem_of_getElem? (i := 1013) (by decide +kernel), List.mem_of_getElem? (i := 1014) (by decide +kernel)⟩
theorem lw_p34 : lw_okq (⟨"LaneDoors", "mostOpen", "(II)I"⟩, 12) := ⟨⟨by decide +kernel, by decide +kernel⟩, List.mem_of_getElem? (i := 24) (by decide +kernel), List.mem_of_getElem? (i := 1032) (by decide +kernel), List.mem_of_getElem? (i := 1033) (by decide +kernel)⟩
theorem lw_p35 : lw_okq (⟨"LaneDoors$Opener", "markReached", "()V"⟩, 7) := ⟨⟨by decide +kernel, by decide +kernel⟩, List.mem_of_getElem? (i := 377) (by decide +kernel), List.mem_of_getElem? (i := 1040) (by decide +kernel), List.mem_of_getElem? (i := 1041) (by decide +kernel)⟩
theorem lw_p36 : lw_okq (⟨"LaneDoors$Opener", "lastOf", "(I)I"⟩, 7) := ⟨⟨by decide +kernel, by decide +kernel⟩, List.mem_of_getElem? (i := 377) (by decide +kernel), List.mem_of_getElem? (i := 1044) (by decide +kernel), List.mem_of_getElem? (i := 1045) (by decide +kernel)⟩
theorem lw_p37 : lw_okq (⟨"LaneDoors$Opener", "isReached", "(I)Z"⟩, 7) := ⟨⟨by decide +kernel, by decide +kernel⟩, List.mem_of_getElem? (i := 377) (by decide +kernel), List.mem_of_getElem? (i := 1048) (by decide +kernel), List.mem_of_getElem? (i := 1049) (by decide +kernel)⟩
theorem lw_p38 : lw_okq (⟨"LaneDoors$Opener", "isStuck", "(I)Z"⟩, 7) := ⟨⟨by decide +kernel, by decide +kernel⟩, List.mem_of_getElem? (i := 377) (by decide +kernel), List.mem_of_getElem? (i := 1063) (by decide +kernel), List.mem_of_getElem? (i := 1064) (by decide +kernel)⟩
theorem lw_p39 : lw_okq (⟨"LaneDoors", "neverBoth", "(III)Z"⟩, 12) := ⟨⟨by decide +kernel, by decide +kernel⟩, List.mem_of_getElem? (i := 24) (by decide +kernel), List.mem_of_getElem? (i := 1088) (by decide +kernel), List.mem_of_getElem? (i := 1089) (by decide +kernel)⟩
theorem lw_p40 : lw_okq (⟨"LaneDoors", "fewestTurned", "(I)I"⟩, 12) := ⟨⟨by decide +kernel, by decide +kernel⟩, List.mem_of_getElem? (i := 24) (by decide +kernel), List.mem_of_getElem? (i := 1096) (by decide +kernel), List.mem_of_getElem? (i := 1097) (by decide +kernel)⟩
theorem lw_p41 : lw_okq (⟨"LaneDoors$Streets", "walkOn", "(LLaneDoors$Plan;III)I"⟩, 5) := ⟨⟨by decide +kernel, by decide +kernel⟩, List.mem_of_getElem? (i := 406) (by decide +kernel), List.mem_of_getElem? (i := 1144) (by decide +kernel), List.mem_of_getElem? (i := 1145) (by decide +kernel)⟩
theorem lw_p42 : lw_okq (⟨"LaneDoors$Streets", "stepTo", "(IIII)V"⟩, 5) := ⟨⟨by decide +kernel, by decide +kernel⟩, List.mem_of_getElem? (i := 406) (by decide +kernel), List.mem_of_getElem? (i := 1148) (by decide +kernel), List.mem_of_getElem? (i := 1149) (by decide +kernel)⟩
theorem lw_p43 : lw_okq (⟨"LaneDoors$Opener", "winningMove", "(II)I"⟩, 7) := ⟨⟨by decide +kernel, by decide +kernel⟩, List.mem_of_getElem? (i := 377) (by decide +kernel), List.mem_of_getElem? (i := 1211) (by decide +kernel), List.mem_of_getElem? (i := 1212) (by decide +kernel)⟩
theorem lw_p44 : lw_okq (⟨"LaneDoors", "isTaleSet", "(I)Z"⟩, 12) := ⟨⟨by decide +kernel, by decide +kernel⟩, List.mem_of_getElem? (i := 24) (by decide +kernel), List.mem_of_getElem? (i := 1248) (by decide +kernel), List.mem_of_getElem? (i := 1249) (by decide +kernel)⟩
theorem lw_p45 : lw_okq (⟨"LaneDoors", "startTales", "(II)V"⟩, 12) := ⟨⟨by decide +kernel, by decide +kernel⟩, List.mem_of_getElem? (i := 24) (by decide +kernel), List.mem_of_getElem? (i := 1252) (by decide +kernel), List.mem_of_getElem? (i := 1253) (by decide +kernel)⟩
theorem lw_p46 : lw_okq (⟨"LaneDoorsModel", "clearBank", "()V"⟩, 72) := ⟨⟨by decide +kernel, by decide +kernel⟩, List.mem_of_getElem? (i := 1288) (by decide +kernel), List.mem_of_getElem? (i := 1294) (by decide +kernel), List.mem_of_getElem? (i := 1295) (by decide +kernel)⟩
theorem lw_p47 : lw_okq (⟨"LaneDoorsModel", "startAnew", "()V"⟩, 72) := ⟨⟨by decide +kernel, by decide +kernel⟩, List.mem_of_getElem? (i := 1288) (by decide +kernel), List.mem_of_getElem? (i := 1298) (by decide +kernel), List.mem_of_getElem? (i := 1299) (by decide +kernel)⟩
def lw_privs_3 : List (MethodName × Nat) := [(⟨"LaneDoors$Opener", "yieldsBehind", "(II)Z"⟩, 7), (⟨"LaneDoors$Opener", "doorsOnward", "(II)I"⟩, 7), (⟨"LaneDoors", "mostOpen", "(II)I"⟩, 12), (⟨"LaneDoors$Opener", "markReached", "()V"⟩, 7), (⟨"LaneDoors$Opener", "lastOf", "(I)I"⟩, 7), (⟨"LaneDoors$Opener", "isReached", "(I)Z"⟩, 7), (⟨"LaneDoors$Opener", "isStuck", "(I)Z"⟩, 7), (⟨"LaneDoors", "neverBoth", "(III)Z"⟩, 12), (⟨"LaneDoors", "fewestTurned", "(I)I"⟩, 12), (⟨"LaneDoors$Streets", "walkOn", "(LLaneDoors$Plan;III)I"⟩, 5), (⟨"LaneDoors$Streets", "stepTo", "(IIII)V"⟩, 5), (⟨"LaneDoors$Opener", "winningMove", "(II)I"⟩, 7), (⟨"LaneDoors", "isTaleSet", "(I)Z"⟩, 12), (⟨"LaneDoors", "startTales", "(II)V"⟩, 12), (⟨"LaneDoorsModel", "clearBank", "()V"⟩, 72), (⟨"LaneDoorsModel", "startAnew", "()V"⟩, 72)]
theorem lw_r3 : ∀ q ∈ lw_privs_3, lw_okq q := List.forall_mem_cons.mpr ⟨lw_p32, List.forall_mem_cons.mpr ⟨lw_p33, List.forall_mem_cons.mpr ⟨lw_p34, List.forall_mem_cons.mpr ⟨lw_p35, List.forall_mem_cons.mpr ⟨lw_p36, List.forall_mem_cons.mpr ⟨lw_p37, List.forall_mem_cons.mpr ⟨lw_p38, List.forall_mem_cons.mpr ⟨lw_p39, List.forall_mem_cons.mpr ⟨lw_p40, List.forall_mem_cons.mpr ⟨lw_p41, List.forall_mem_cons.mpr ⟨lw_p42, List.forall_mem_cons.mpr ⟨lw_p43, List.forall_mem_cons.mpr ⟨lw_p44, List.forall_mem_cons.mpr ⟨lw_p45, List.forall_mem_cons.mpr ⟨lw_p46, List.forall_mem_cons.mpr ⟨lw_p47, fun _ h => absurd h List.not_mem_nil⟩⟩⟩⟩⟩⟩⟩⟩⟩⟩⟩⟩⟩⟩⟩⟩
theorem lw_p48 : lw_okq (⟨"LaneDoorsModel", "goOn", "()V"⟩, 72) := ⟨⟨by decide +kernel, by decide +kernel⟩, List.mem_of_getElem? (i := 1288) (by decide +kernel), List.mem_of_getElem? (i := 1523) (by decide +kernel), List.mem_of_getElem? (i := 1524) (by decide +kernel)⟩
theorem lw_p49 : lw_okq (⟨"LaneDoorsModel", "sign", "(I)I"⟩, 72) := ⟨⟨by decide +kernel, by decide +kernel⟩, List.mem_of_getElem? (i := 1288) (by decide +kernel), List.mem_of_getElem? (i := 1527) (by decide +kernel), List.mem_of_getElem? (i := 1528) (by decide +kernel)⟩
theorem lw_p50 : lw_okq (⟨"LaneDoorsModel", "isGood", "()Z"⟩, 72) := ⟨⟨by decide +kernel, by decide +kernel⟩, List.mem_of_getElem? (i := 1288) (by decide +kernel), List.mem_of_getElem? (i := 1568) (by decide +kernel), List.mem_of_getElem? (i := 1569) (by decide +kernel)⟩
theorem lw_p51 : lw_okq (⟨"LaneDoorsModel", "readLine", "()V"⟩, 72) := ⟨⟨by decide +kernel, by decide +kernel⟩, List.mem_of_getElem? (i := 1288) (by decide +kernel), List.mem_of_getElem? (i := 1572) (by decide +kernel), List.mem_of_getElem? (i := 1573) (by decide +kernel)⟩
theorem lw_p52 : lw_okq (⟨"LaneDoorsModel", "isFull", "()Z"⟩, 72) := ⟨⟨by decide +kernel, by decide +kernel⟩, List.mem_of_getElem? (i := 1288) (by decide +kernel), List.mem_of_getElem? (i := 1576) (by decide +kernel), List.mem_of_getElem? (i := 1577) (by decide +kernel)⟩
theorem lw_p53 : lw_okq (⟨"LaneDoorsModel", "isWord", "(J)Z"⟩, 72) := ⟨⟨by decide +kernel, by decide +kernel⟩, List.mem_of_getElem? (i := 1288) (by decide +kernel), List.mem_of_getElem? (i := 1580) (by decide +kernel), List.mem_of_getElem? (i := 1581) (by decide +kernel)⟩
theorem lw_p54 : lw_okq (⟨"LaneDoorsModel", "misplaced", "()V"⟩, 72) := ⟨⟨by decide +kernel, by decide +kernel⟩, List.mem_of_getElem? (i := 1288) (by decide +kernel), List.mem_of_getElem? (i := 1584) (by decide +kernel), List.mem_of_getElem? (i := 1585) (by decide +kernel)⟩
theorem lw_p55 : lw_okq (⟨"LaneDoorsModel", "fails", "(II)V"⟩, 72) := ⟨⟨by decide +kernel, by decide +kernel⟩, List.mem_of_getElem? (i := 1288) (by decide +kernel), List.mem_of_getElem? (i := 1588) (by decide +kernel), List.mem_of_getElem? (i := 1589) (by decide +kernel)⟩
theorem lw_p56 : lw_okq (⟨"LaneDoorsModel", "readLane", "()V"⟩, 72) := ⟨⟨by decide +kernel, by decide +kernel⟩, List.mem_of_getElem? (i := 1288) (by decide +kernel), List.mem_of_getElem? (i := 1592) (by decide +kernel), List.mem_of_getElem? (i := 1593) (by decide +kernel)⟩
theorem lw_p57 : lw_okq (⟨"LaneDoorsModel", "laneHere", "()I"⟩, 72) := ⟨⟨by decide +kernel, by decide +kernel⟩, List.mem_of_getElem? (i := 1288) (by decide +kernel), List.mem_of_getElem? (i := 1596) (by decide +kernel), List.mem_of_getElem? (i := 1597) (by decide +kernel)⟩
theorem lw_p58 : lw_okq (⟨"LaneDoorsModel", "here", "([JII)I"⟩, 72) := ⟨⟨by decide +kernel, by decide +kernel⟩, List.mem_of_getElem? (i := 1288) (by decide +kernel), List.mem_of_getElem? (i := 1600) (by decide +kernel), List.mem_of_getElem? (i := 1601) (by decide +kernel)⟩
theorem lw_p59 : lw_okq (⟨"LaneDoorsModel", "fresh", "(I)J"⟩, 72) := ⟨⟨by decide +kernel, by decide +kernel⟩, List.mem_of_getElem? (i := 1288) (by decide +kernel), List.mem_of_getElem? (i := 1604) (by decide +kernel), List.mem_of_getElem? (i := 1605) (by decide +kernel)⟩
theorem lw_p60 : lw_okq (⟨"LaneDoorsModel", "after", "(JII)I"⟩, 72) := ⟨⟨by decide +kernel, by decide +kernel⟩, List.mem_of_getElem? (i := 1288) (by decide +kernel), List.mem_of_getElem? (i := 1608) (by decide +kernel), List.mem_of_getElem? (i := 1609) (by decide +kernel)⟩
theorem lw_p61 : lw_okq (⟨"LaneDoorsModel", "must", "(Z)V"⟩, 72) := ⟨⟨by decide +kernel, by decide +kernel⟩, List.mem_of_getElem? (i := 1288) (by decide +kernel), List.mem_of_getElem? (i := 1612) (by decide +kernel), List.mem_of_getElem? (i := 1613) (by decide +kernel)⟩
theorem lw_p62 : lw_okq (⟨"LaneDoorsModel", "numeral", "(II)I"⟩, 72) := ⟨⟨by decide +kernel, by decide +kernel⟩, List.mem_of_getElem? (i := 1288) (by decide +kernel), List.mem_of_getElem? (i := 1616) (by decide +kernel), List.mem_of_getElem? (i := 1617) (by decide +kernel)⟩
theorem lw_p63 : lw_okq (⟨"LaneDoorsModel", "readDoor", "()V"⟩, 72) := ⟨⟨by decide +kernel, by decide +kernel⟩, List.mem_of_getElem? (i := 1288) (by decide +kernel), List.mem_of_getElem? (i := 1620) (by decide +kernel), List.mem_of_getElem? (i := 1621) (by decide +kernel)⟩
def lw_privs_4 : List (MethodName × Nat) := [(⟨"LaneDoorsModel", "goOn", "()V"⟩, 72), (⟨"LaneDoorsModel", "sign", "(I)I"⟩, 72), (⟨"LaneDoorsModel", "isGood", "()Z"⟩, 72), (⟨"LaneDoorsModel", "readLine", "()V"⟩, 72), (⟨"LaneDoorsModel", "isFull", "()Z"⟩, 72), (⟨"LaneDoorsModel", "isWord", "(J)Z"⟩, 72), (⟨"LaneDoorsModel", "misplaced", "()V"⟩, 72), (⟨"LaneDoorsModel", "fails", "(II)V"⟩, 72), (⟨"LaneDoorsModel", "readLane", "()V"⟩, 72), (⟨"LaneDoorsModel", "laneHere", "()I"⟩, 72), (⟨"LaneDoorsModel", "here", "([JII)I"⟩, 72), (⟨"LaneDoorsModel", "fresh", "(I)J"⟩, 72), (⟨"LaneDoorsModel", "after", "(JII)I"⟩, 72), (⟨"LaneDoorsModel", "must", "(Z)V"⟩, 72), (⟨"LaneDoorsModel", "numeral", "(II)I"⟩, 72), (⟨"LaneDoorsModel", "readDoor", "()V"⟩, 72)]
theorem lw_r4 : ∀ q ∈ lw_privs_4, lw_okq q := List.forall_mem_cons.mpr ⟨lw_p48, List.forall_mem_cons.mpr ⟨lw_p49, List.forall_mem_cons.mpr ⟨lw_p50, List.forall_mem_cons.mpr ⟨lw_p51, List.forall_mem_cons.mpr ⟨lw_p52, List.forall_mem_cons.mpr ⟨lw_p53, List.forall_mem_cons.mpr ⟨lw_p54, List.forall_mem_cons.mpr ⟨lw_p55, List.forall_mem_cons.mpr ⟨lw_p56, List.forall_mem_cons.mpr ⟨lw_p57, List.forall_mem_cons.mpr ⟨lw_p58, List.forall_mem_cons.mpr ⟨lw_p59, List.forall_mem_cons.mpr ⟨lw_p60, List.forall_mem_cons.mpr ⟨lw_p61, List.forall_mem_cons.mpr ⟨lw_p62, List.forall_mem_cons.mpr ⟨lw_p63, fun _ h => absurd h List.not_mem_nil⟩⟩⟩⟩⟩⟩⟩⟩⟩⟩⟩⟩⟩⟩⟩⟩
theorem lw_p64 : lw_okq (⟨"LaneDoorsModel", "known", "(I)I"⟩, 72) := ⟨⟨by decide +kernel, by decide +kernel⟩, List.mem_of_getElem? (i := 1288) (by decide +kernel), List.mem_of_getElem? (i := 1624) (by decide +kernel), List.mem_of_getElem? (i := 1625) (by decide +kernel)⟩
theorem lw_p65 : lw_okq (⟨"LaneDoorsModel", "either", "(JJ)Z"⟩, 72) := ⟨⟨by decide +kernel, by decide +kernel⟩, List.mem_of_getElem? (i := 1288) (by decide +kernel), List.mem_of_getElem? (i := 1628) (by decide +kernel), List.mem_of_getElem? (i := 1629) (by decide +kernel)⟩
theorem lw_p66 : lw_okq (⟨"LaneDoorsModel", "isTaken", "(IZ)Z"⟩, 72) := ⟨⟨by decide +kernel, by decide +kernel⟩, List.mem_of_getElem? (i := 1288) (by decide +kernel), List.mem_of_getElem? (i := 1632) (by decide +kernel), List.mem_of_getElem? (i := 1633) (by decide +kernel)⟩
theorem lw_p67 : lw_okq (⟨"LaneDoorsModel", "perhaps", "(J)Z"⟩, 72) := ⟨⟨by decide +kernel, by decide +kernel⟩, List.mem_of_getElem? (i := 1288) (by decide +kernel), List.mem_of_getElem? (i := 1636) (by decide +kernel), List.mem_of_getElem? (i := 1637) (by decide +kernel)⟩
theorem lw_p68 : lw_okq (⟨"LaneDoorsModel", "readCorner", "()V"⟩, 72) := ⟨⟨by decide +kernel, by decide +kernel⟩, List.mem_of_getElem? (i := 1288) (by decide +kernel), List.mem_of_getElem? (i := 1640) (by decide +kernel), List.mem_of_getElem? (i := 1641) (by decide +kernel)⟩
theorem lw_p69 : lw_okq (⟨"LaneDoorsModel", "readRule", "()V"⟩, 72) := ⟨⟨by decide +kernel, by decide +kernel⟩, List.mem_of_getElem? (i := 1288) (by decide +kernel), List.mem_of_getElem? (i := 1644) (by decide +kernel), List.mem_of_getElem? (i := 1645) (by decide +kernel)⟩
theorem lw_p70 : lw_okq (⟨"LaneDoorsModel", "e", "()V"⟩, 72) := ⟨⟨by decide +kernel, by decide +kernel⟩, List.mem_of_getElem? (i := 1288) (by decide +kernel), List.mem_of_getElem? (i := 1648) (by decide +kernel), List.mem_of_getElem? (i := 1649) (by decide +kernel)⟩
theorem lw_p71 : lw_okq (⟨"LaneDoorsModel", "pushE", "(II)V"⟩, 72) := ⟨⟨by decide +kernel, by decide +kernel⟩, List.mem_of_getElem? (i := 1288) (by decide +kernel), List.mem_of_getElem? (i := 1652) (by decide +kernel), List.mem_of_getElem? (i := 1653) (by decide +kernel)⟩
theorem lw_p72 : lw_okq (⟨"LaneDoorsModel", "unit", "()Z"⟩, 72) := ⟨⟨by decide +kernel, by decide +kernel⟩, List.mem_of_getElem? (i := 1288) (by decide +kernel), List.mem_of_getElem? (i := 1656) (by decide +kernel), List.mem_of_getElem? (i := 1657) (by decide +kernel)⟩
theorem lw_p73 : lw_okq (⟨"LaneDoorsModel", "isSignHere", "(I)Z"⟩, 72) := ⟨⟨by decide +kernel, by decide +kernel⟩, List.mem_of_getElem? (i := 1288) (by decide +kernel), List.mem_of_getElem? (i := 1660) (by decide +kernel), List.mem_of_getElem? (i := 1661) (by decide +kernel)⟩
theorem lw_p74 : lw_okq (⟨"LaneDoorsModel", "wordHere", "()I"⟩, 72) := ⟨⟨by decide +kernel, by decide +kernel⟩, List.mem_of_getElem? (i := 1288) (by decide +kernel), List.mem_of_getElem? (i := 1664) (by decide +kernel), List.mem_of_getElem? (i := 1665) (by decide +kernel)⟩
theorem lw_p75 : lw_okq (⟨"LaneDoorsModel", "emit", "(II)V"⟩, 72) := ⟨⟨by decide +kernel, by decide +kernel⟩, List.mem_of_getElem? (i := 1288) (by decide +kernel), List.mem_of_getElem? (i := 1668) (by decide +kernel), List.mem_of_getElem? (i := 1669) (by decide +kernel)⟩
theorem lw_p76 : lw_okq (⟨"LaneDoorsModel", "behindUnit", "()Z"⟩, 72) := ⟨⟨by decide +kernel, by decide +kernel⟩, List.mem_of_getElem? (i := 1288) (by decide +kernel), List.mem_of_getElem? (i := 1672) (by decide +kernel), List.mem_of_getElem? (i := 1673) (by decide +kernel)⟩
theorem lw_p77 : lw_okq (⟨"LaneDoorsModel", "rankHere", "()I"⟩, 72) := ⟨⟨by decide +kernel, by decide +kernel⟩, List.mem_of_getElem? (i := 1288) (by decide +kernel), List.mem_of_getElem? (i := 1676) (by decide +kernel), List.mem_of_getElem? (i := 1677) (by decide +kernel)⟩
theorem lw_p78 : lw_okq (⟨"LaneDoorsModel", "isCompared", "()Z"⟩, 72) := ⟨⟨by decide +kernel, by decide +kernel⟩, List.mem_of_getElem? (i := 1288) (by decide +kernel), List.mem_of_getElem? (i := 1680) (by decide +kernel), List.mem_of_getElem? (i := 1681) (by decide +kernel)⟩
theorem lw_p79 : lw_okq (⟨"LaneDoorsModel", "isDoor", "(I)Z"⟩, 72) := ⟨⟨by decide +kernel, by decide +kernel⟩, List.mem_of_getElem? (i := 1288) (by decide +kernel), List.mem_of_getElem? (i := 1692) (by decide +kernel), List.mem_of_getElem? (i := 1693) (by decide +kernel)⟩
def lw_privs_5 : List (MethodName × Nat) := [(⟨"LaneDoorsModel", "known", "(I)I"⟩, 72), (⟨"LaneDoorsModel", "either", "(JJ)Z"⟩, 72), (⟨"LaneDoorsModel", "isTaken", "(IZ)Z"⟩, 72), (⟨"LaneDoorsModel", "perhaps", "(J)Z"⟩, 72), (⟨"LaneDoorsModel", "readCorner", "()V"⟩, 72), (⟨"LaneDoorsModel", "readRule", "()V"⟩, 72), (⟨"LaneDoorsModel", "e", "()V"⟩, 72), (⟨"LaneDoorsModel", "pushE", "(II)V"⟩, 72), (⟨"LaneDoorsModel", "unit", "()Z"⟩, 72), (⟨"LaneDoorsModel", "isSignHere", "(I)Z"⟩, 72), (⟨"LaneDoorsModel", "wordHere", "()I"⟩, 72), (⟨"LaneDoorsModel", "emit", "(II)V"⟩, 72), (⟨"LaneDoorsModel", "behindUnit", "()Z"⟩, 72), (⟨"LaneDoorsModel", "rankHere", "()I"⟩, 72), (⟨"LaneDoorsModel", "isCompared", "()Z"⟩, 72), (⟨"LaneDoorsModel", "isDoor", "(I)Z"⟩, 72)]
theorem lw_r5 : ∀ q ∈ lw_privs_5, lw_okq q := List.forall_mem_cons.mpr ⟨lw_p64, List.forall_mem_cons.mpr ⟨lw_p65, List.forall_mem_cons.mpr ⟨lw_p66, List.forall_mem_cons.mpr ⟨lw_p67, List.forall_mem_cons.mpr ⟨lw_p68, List.forall_mem_cons.mpr ⟨lw_p69, List.forall_mem_cons.mpr ⟨lw_p70, List.forall_mem_cons.mpr ⟨lw_p71, List.forall_mem_cons.mpr ⟨lw_p72, List.forall_mem_cons.mpr ⟨lw_p73, List.forall_mem_cons.mpr ⟨lw_p74, List.forall_mem_cons.mpr ⟨lw_p75, List.forall_mem_cons.mpr ⟨lw_p76, List.forall_mem_cons.mpr ⟨lw_p77, List.forall_mem_cons.mpr ⟨lw_p78, List.forall_mem_cons.mpr ⟨lw_p79, fun _ h => absurd h List.not_mem_nil⟩⟩⟩⟩⟩⟩⟩⟩⟩⟩⟩⟩⟩⟩⟩⟩
theorem lw_p80 : lw_okq (⟨"LaneDoorsModel", "many", "()I"⟩, 72) := ⟨⟨by decide +kernel, by decide +kernel⟩, List.mem_of_getElem? (i := 1288) (by decide +kernel), List.mem_of_getElem? (i := 1696) (by decide +kernel), List.mem_of_getElem? (i := 1697) (by decide +kernel)⟩
theorem lw_p81 : lw_okq (⟨"LaneDoorsModel", "lane", "(I)I"⟩, 72) := ⟨⟨by decide +kernel, by decide +kernel⟩, List.mem_of_getElem? (i := 1288) (by decide +kernel), List.mem_of_getElem? (i := 1703) (by decide +kernel), List.mem_of_getElem? (i := 1704) (by decide +kernel)⟩
theorem lw_p82 : lw_okq (⟨"LaneDoorsModel", "first", "(I)I"⟩, 72) := ⟨⟨by decide +kernel, by decide +kernel⟩, List.mem_of_getElem? (i := 1288) (by decide +kernel), List.mem_of_getElem? (i := 1707) (by decide +kernel), List.mem_of_getElem? (i := 1708) (by decide +kernel)⟩
theorem lw_p83 : lw_okq (⟨"LaneDoorsModel", "broad", "(I)I"⟩, 72) := ⟨⟨by decide +kernel, by decide +kernel⟩, List.mem_of_getElem? (i := 1288) (by decide +kernel), List.mem_of_getElem? (i := 1711) (by decide +kernel), List.mem_of_getElem? (i := 1712) (by decide +kernel)⟩
theorem lw_p84 : lw_okq (⟨"LaneDoorsModel", "hingeOf", "(II)I"⟩, 72) := ⟨⟨by decide +kernel, by decide +kernel⟩, List.mem_of_getElem? (i := 1288) (by decide +kernel), List.mem_of_getElem? (i := 1715) (by decide +kernel), List.mem_of_getElem? (i := 1716) (by decide +kernel)⟩
theorem lw_p85 : lw_okq (⟨"LaneDoorsModel", "layHinderers", "(I)V"⟩, 72) := ⟨⟨by decide +kernel, by decide +kernel⟩, List.mem_of_getElem? (i := 1288) (by decide +kernel), List.mem_of_getElem? (i := 1729) (by decide +kernel), List.mem_of_getElem? (i := 1730) (by decide +kernel)⟩
theorem lw_p86 : lw_okq (⟨"LaneDoorsModel", "doesHinder", "(III)Z"⟩, 72) := ⟨⟨by decide +kernel, by decide +kernel⟩, List.mem_of_getElem? (i := 1288) (by decide +kernel), List.mem_of_getElem? (i := 1733) (by decide +kernel), List.mem_of_getElem? (i := 1734) (by decide +kernel)⟩
theorem lw_p87 : lw_okq (⟨"LaneDoorsModel", "isSouth", "(I)Z"⟩, 72) := ⟨⟨by decide +kernel, by decide +kernel⟩, List.mem_of_getElem? (i := 1288) (by decide +kernel), List.mem_of_getElem? (i := 1737) (by decide +kernel), List.mem_of_getElem? (i := 1738) (by decide +kernel)⟩
theorem lw_p88 : lw_okq (⟨"LaneDoorsModel", "reach", "(I)I"⟩, 72) := ⟨⟨by decide +kernel, by decide +kernel⟩, List.mem_of_getElem? (i := 1288) (by decide +kernel), List.mem_of_getElem? (i := 1741) (by decide +kernel), List.mem_of_getElem? (i := 1742) (by decide +kernel)⟩
theorem lw_p89 : lw_okq (⟨"LaneDoorsModel", "wide", "(I)I"⟩, 72) := ⟨⟨by decide +kernel, by decide +kernel⟩, List.mem_of_getElem? (i := 1288) (by decide +kernel), List.mem_of_getElem? (i := 1745) (by decide +kernel), List.mem_of_getElem? (i := 1746) (by decide +kernel)⟩
theorem lw_p90 : lw_okq (⟨"LaneDoorsModel", "moving", "()I"⟩, 72) := ⟨⟨by decide +kernel, by decide +kernel⟩, List.mem_of_getElem? (i := 1288) (by decide +kernel), List.mem_of_getElem? (i := 1749) (by decide +kernel), List.mem_of_getElem? (i := 1750) (by decide +kernel)⟩
theorem lw_p91 : lw_okq (⟨"LaneDoorsModel", "canOpen", "(III)Z"⟩, 72) := ⟨⟨by decide +kernel, by decide +kernel⟩, List.mem_of_getElem? (i := 1288) (by decide +kernel), List.mem_of_getElem? (i := 1753) (by decide +kernel), List.mem_of_getElem? (i := 1754) (by decide +kernel)⟩
theorem lw_p92 : lw_okq (⟨"LaneDoorsModel", "isPlace", "(II)Z"⟩, 72) := ⟨⟨by decide +kernel, by decide +kernel⟩, List.mem_of_getElem? (i := 1288) (by decide +kernel), List.mem_of_getElem? (i := 1765) (by decide +kernel), List.mem_of_getElem? (i := 1766) (by decide +kernel)⟩
theorem lw_p93 : lw_okq (⟨"LaneDoorsModel", "isLane", "(I)Z"⟩, 72) := ⟨⟨by decide +kernel, by decide +kernel⟩, List.mem_of_getElem? (i := 1288) (by decide +kernel), List.mem_of_getElem? (i := 1769) (by decide +kernel), List.mem_of_getElem? (i := 1770) (by decide +kernel)⟩
theorem lw_p94 : lw_okq (⟨"LaneDoorsModel", "freeAt", "(III)I"⟩, 72) := ⟨⟨by decide +kernel, by decide +kernel⟩, List.mem_of_getElem? (i := 1288) (by decide +kernel), List.mem_of_getElem? (i := 1773) (by decide +kernel), List.mem_of_getElem? (i := 1774) (by decide +kernel)⟩
theorem lw_p95 : lw_okq (⟨"LaneDoorsModel", "oilOf", "(I)I"⟩, 72) := ⟨⟨by decide +kernel, by decide +kernel⟩, List.mem_of_getElem? (i := 1288) (by decide +kernel), List.mem_of_getElem? (i := 1781) (by decide +kernel), List.mem_of_getElem? (i := 1782) (by decide +kernel)⟩
def lw_privs_6 : List (MethodName × Nat) := [(⟨"LaneDoorsModel", "many", "()I"⟩, 72), (⟨"LaneDoorsModel", "lane", "(I)I"⟩, 72), (⟨"LaneDoorsModel", "first", "(I)I"⟩, 72), (⟨"LaneDoorsModel", "broad", "(I)I"⟩, 72), (⟨"LaneDoorsModel", "hingeOf", "(II)I"⟩, 72), (⟨"LaneDoorsModel", "layHinderers", "(I)V"⟩, 72), (⟨"LaneDoorsModel", "doesHinder", "(III)Z"⟩, 72), (⟨"LaneDoorsModel", "isSouth", "(I)Z"⟩, 72), (⟨"LaneDoorsModel", "reach", "(I)I"⟩, 72), (⟨"LaneDoorsModel", "wide", "(I)I"⟩, 72), (⟨"LaneDoorsModel", "moving", "()I"⟩, 72), (⟨"LaneDoorsModel", "canOpen", "(III)Z"⟩, 72), (⟨"LaneDoorsModel", "isPlace", "(II)Z"⟩, 72), (⟨"LaneDoorsModel", "isLane", "(I)Z"⟩, 72), (⟨"LaneDoorsModel", "freeAt", "(III)I"⟩, 72), (⟨"LaneDoorsModel", "oilOf", "(I)I"⟩, 72)]
theorem lw_r6 : ∀ q ∈ lw_privs_6, lw_okq q := List.forall_mem_cons.mpr ⟨lw_p80, List.forall_mem_cons.mpr ⟨lw_p81, List.forall_mem_cons.mpr ⟨lw_p82, List.forall_mem_cons.mpr ⟨lw_p83, List.forall_mem_cons.mpr ⟨lw_p84, List.forall_mem_cons.mpr ⟨lw_p85, List.forall_mem_cons.mpr ⟨lw_p86, List.forall_mem_cons.mpr ⟨lw_p87, List.forall_mem_cons.mpr ⟨lw_p88, List.forall_mem_cons.mpr ⟨lw_p89, List.forall_mem_cons.mpr ⟨lw_p90, List.forall_mem_cons.mpr ⟨lw_p91, List.forall_mem_cons.mpr ⟨lw_p92, List.forall_mem_cons.mpr ⟨lw_p93, List.forall_mem_cons.mpr ⟨lw_p94, List.forall_mem_cons.mpr ⟨lw_p95, fun _ h => absurd h List.not_mem_nil⟩⟩⟩⟩⟩⟩⟩⟩⟩⟩⟩⟩⟩⟩⟩⟩
theorem lw_p96 : lw_okq (⟨"LaneDoorsModel", "asked", "(III)I"⟩, 72) := ⟨⟨by decide +kernel, by decide +kernel⟩, List.mem_of_getElem? (i := 1288) (by decide +kernel), List.mem_of_getElem? (i := 1785) (by decide +kernel), List.mem_of_getElem? (i := 1786) (by decide +kernel)⟩
theorem lw_p97 : lw_okq (⟨"LaneDoorsModel", "keepAct", "()V"⟩, 72) := ⟨⟨by decide +kernel, by decide +kernel⟩, List.mem_of_getElem? (i := 1288) (by decide +kernel), List.mem_of_getElem? (i := 1797) (by decide +kernel), List.mem_of_getElem? (i := 1798) (by decide +kernel)⟩
theorem lw_p98 : lw_okq (⟨"LaneDoorsModel", "isIdle", "(I)Z"⟩, 72) := ⟨⟨by decide +kernel, by decide +kernel⟩, List.mem_of_getElem? (i := 1288) (by decide +kernel), List.mem_of_getElem? (i := 1809) (by decide +kernel), List.mem_of_getElem? (i := 1810) (by decide +kernel)⟩
theorem lw_p99 : lw_okq (⟨"LaneDoorsModel", "pushedBy", "(IIII)I"⟩, 72) := ⟨⟨by decide +kernel, by decide +kernel⟩, List.mem_of_getElem? (i := 1288) (by decide +kernel), List.mem_of_getElem? (i := 1821) (by decide +kernel), List.mem_of_getElem? (i := 1822) (by decide +kernel)⟩
theorem lw_p100 : lw_okq (⟨"LaneDoorsModel", "blows", "(I)I"⟩, 72) := ⟨⟨by decide +kernel, by decide +kernel⟩, List.mem_of_getElem? (i := 1288) (by decide +kernel), List.mem_of_getElem? (i := 1837) (by decide +kernel), List.mem_of_getElem? (i := 1838) (by decide +kernel)⟩
theorem lw_p101 : lw_okq (⟨"LaneDoorsModel", "blownBy", "(II)I"⟩, 72) := ⟨⟨by decide +kernel, by decide +kernel⟩, List.mem_of_getElem? (i := 1288) (by decide +kernel), List.mem_of_getElem? (i := 1841) (by decide +kernel), List.mem_of_getElem? (i := 1842) (by decide +kernel)⟩
theorem lw_p102 : lw_okq (⟨"LaneDoorsModel", "exchange", "()V"⟩, 72) := ⟨⟨by decide +kernel, by decide +kernel⟩, List.mem_of_getElem? (i := 1288) (by decide +kernel), List.mem_of_getElem? (i := 1865) (by decide +kernel), List.mem_of_getElem? (i := 1866) (by decide +kernel)⟩
theorem lw_p103 : lw_okq (⟨"LaneDoorsModel", "isShutSet", "(I)Z"⟩, 72) := ⟨⟨by decide +kernel, by decide +kernel⟩, List.mem_of_getElem? (i := 1288) (by decide +kernel), List.mem_of_getElem? (i := 1881) (by decide +kernel), List.mem_of_getElem? (i := 1882) (by decide +kernel)⟩
theorem lw_p104 : lw_okq (⟨"LaneDoorsModel", "isSet", "(I)Z"⟩, 72) := ⟨⟨by decide +kernel, by decide +kernel⟩, List.mem_of_getElem? (i := 1288) (by decide +kernel), List.mem_of_getElem? (i := 1885) (by decide +kernel), List.mem_of_getElem? (i := 1886) (by decide +kernel)⟩
theorem lw_p105 : lw_okq (⟨"LaneDoorsModel", "ordersBy", "(II)I"⟩, 72) := ⟨⟨by decide +kernel, by decide +kernel⟩, List.mem_of_getElem? (i := 1288) (by decide +kernel), List.mem_of_getElem? (i := 1889) (by decide +kernel), List.mem_of_getElem? (i := 1890) (by decide +kernel)⟩
theorem lw_p106 : lw_okq (⟨"LaneDoorsModel", "clearAhead", "()V"⟩, 72) := ⟨⟨by decide +kernel, by decide +kernel⟩, List.mem_of_getElem? (i := 1288) (by decide +kernel), List.mem_of_getElem? (i := 1893) (by decide +kernel), List.mem_of_getElem? (i := 1894) (by decide +kernel)⟩
theorem lw_p107 : lw_okq (⟨"LaneDoorsModel", "layWays", "(III)I"⟩, 72) := ⟨⟨by decide +kernel, by decide +kernel⟩, List.mem_of_getElem? (i := 1288) (by decide +kernel), List.mem_of_getElem? (i := 1897) (by decide +kernel), List.mem_of_getElem? (i := 1898) (by decide +kernel)⟩
theorem lw_p108 : lw_okq (⟨"LaneDoorsModel", "comesNext", "(IIIII)Z"⟩, 72) := ⟨⟨by decide +kernel, by decide +kernel⟩, List.mem_of_getElem? (i := 1288) (by decide +kernel), List.mem_of_getElem? (i := 1901) (by decide +kernel), List.mem_of_getElem? (i := 1902) (by decide +kernel)⟩
theorem lw_p109 : lw_okq (⟨"LaneDoorsModel", "layFirst", "(III)V"⟩, 72) := ⟨⟨by decide +kernel, by decide +kernel⟩, List.mem_of_getElem? (i := 1288) (by decide +kernel), List.mem_of_getElem? (i := 1905) (by decide +kernel), List.mem_of_getElem? (i := 1906) (by decide +kernel)⟩
theorem lw_p110 : lw_okq (⟨"LaneDoorsModel", "mostBy", "(II)I"⟩, 72) := ⟨⟨by decide +kernel, by decide +kernel⟩, List.mem_of_getElem? (i := 1288) (by decide +kernel), List.mem_of_getElem? (i := 1913) (by decide +kernel), List.mem_of_getElem? (i := 1914) (by decide +kernel)⟩
theorem lw_p111 : lw_okq (⟨"LaneDoorsModel", "layComes", "(III)V"⟩, 72) := ⟨⟨by decide +kernel, by decide +kernel⟩, List.mem_of_getElem? (i := 1288) (by decide +kernel), List.mem_of_getElem? (i := 1917) (by decide +kernel), List.mem_of_getElem? (i := 1918) (by decide +kernel)⟩
def lw_privs_7 : List (MethodName × Nat) := [(⟨"LaneDoorsModel", "asked", "(III)I"⟩, 72), (⟨"LaneDoorsModel", "keepAct", "()V"⟩, 72), (⟨"LaneDoorsModel", "isIdle", "(I)Z"⟩, 72), (⟨"LaneDoorsModel", "pushedBy", "(IIII)I"⟩, 72), (⟨"LaneDoorsModel", "blows", "(I)I"⟩, 72), (⟨"LaneDoorsModel", "blownBy", "(II)I"⟩, 72), (⟨"LaneDoorsModel", "exchange", "()V"⟩, 72), (⟨"LaneDoorsModel", "isShutSet", "(I)Z"⟩, 72), (⟨"LaneDoorsModel", "isSet", "(I)Z"⟩, 72), (⟨"LaneDoorsModel", "ordersBy", "(II)I"⟩, 72), (⟨"LaneDoorsModel", "clearAhead", "()V"⟩, 72), (⟨"LaneDoorsModel", "layWays", "(III)I"⟩, 72), (⟨"LaneDoorsModel", "comesNext", "(IIIII)Z"⟩, 72), (⟨"LaneDoorsModel", "layFirst", "(III)V"⟩, 72), (⟨"LaneDoorsModel", "mostBy", "(II)I"⟩, 72), (⟨"LaneDoorsModel", "layComes", "(III)V"⟩, 72)]
theorem lw_r7 : ∀ q ∈ lw_privs_7, lw_okq q := List.forall_mem_cons.mpr ⟨lw_p96, List.forall_mem_cons.mpr ⟨lw_p97, List.forall_mem_cons.mpr ⟨lw_p98, List.forall_mem_cons.mpr ⟨lw_p99, List.forall_mem_cons.mpr ⟨lw_p100, List.forall_mem_cons.mpr ⟨lw_p101, List.forall_mem_cons.mpr ⟨lw_p102, List.forall_mem_cons.mpr ⟨lw_p103, List.forall_mem_cons.mpr ⟨lw_p104, List.forall_mem_cons.mpr ⟨lw_p105, List.forall_mem_cons.mpr ⟨lw_p106, List.forall_mem_cons.mpr ⟨lw_p107, List.forall_mem_cons.mpr ⟨lw_p108, List.forall_mem_cons.mpr ⟨lw_p109, List.forall_mem_cons.mpr ⟨lw_p110, List.forall_mem_cons.mpr ⟨lw_p111, fun _ h => absurd h List.not_mem_nil⟩⟩⟩⟩⟩⟩⟩⟩⟩⟩⟩⟩⟩⟩⟩⟩
theorem lw_p112 : lw_okq (⟨"LaneDoorsModel", "isStuck", "(I)Z"⟩, 72) := ⟨⟨by decide +kernel, by decide +kernel⟩, List.mem_of_getElem? (i := 1288) (by decide +kernel), List.mem_of_getElem? (i := 1928) (by decide +kernel), List.mem_of_getElem? (i := 1929) (by decide +kernel)⟩
theorem lw_p113 : lw_okq (⟨"LaneDoorsModel", "oils", "(I)I"⟩, 72) := ⟨⟨by decide +kernel, by decide +kernel⟩, List.mem_of_getElem? (i := 1288) (by decide +kernel), List.mem_of_getElem? (i := 1936) (by decide +kernel), List.mem_of_getElem? (i := 1937) (by decide +kernel)⟩
theorem lw_p114 : lw_okq (⟨"LaneDoorsModel", "areFit", "(IIIII)Z"⟩, 72) := ⟨⟨by decide +kernel, by decide +kernel⟩, List.mem_of_getElem? (i := 1288) (by decide +kernel), List.mem_of_getElem? (i := 1968) (by decide +kernel), List.mem_of_getElem? (i := 1969) (by decide +kernel)⟩
theorem lw_p115 : lw_okq (⟨"LaneDoorsModel", "wayBy", "(IIIIIII)I"⟩, 72) := ⟨⟨by decide +kernel, by decide +kernel⟩, List.mem_of_getElem? (i := 1288) (by decide +kernel), List.mem_of_getElem? (i := 1972) (by decide +kernel), List.mem_of_getElem? (i := 1973) (by decide +kernel)⟩
theorem lw_p116 : lw_okq (⟨"LaneDoorsModel", "laySteps", "(IIII)V"⟩, 72) := ⟨⟨by decide +kernel, by decide +kernel⟩, List.mem_of_getElem? (i := 1288) (by decide +kernel), List.mem_of_getElem? (i := 1976) (by decide +kernel), List.mem_of_getElem? (i := 1977) (by decide +kernel)⟩
theorem lw_p117 : lw_okq (⟨"LaneDoorsModel", "comeTo", "(IIIII)V"⟩, 72) := ⟨⟨by decide +kernel, by decide +kernel⟩, List.mem_of_getElem? (i := 1288) (by decide +kernel), List.mem_of_getElem? (i := 1980) (by decide +kernel), List.mem_of_getElem? (i := 1981) (by decide +kernel)⟩
theorem lw_p118 : lw_okq (⟨"LaneDoorsModel", "isFreeFor", "(IIII)Z"⟩, 72) := ⟨⟨by decide +kernel, by decide +kernel⟩, List.mem_of_getElem? (i := 1288) (by decide +kernel), List.mem_of_getElem? (i := 1984) (by decide +kernel), List.mem_of_getElem? (i := 1985) (by decide +kernel)⟩
theorem lw_p119 : lw_okq (⟨"LaneDoorsModel", "winsBy", "(II)I"⟩, 72) := ⟨⟨by decide +kernel, by decide +kernel⟩, List.mem_of_getElem? (i := 1288) (by decide +kernel), List.mem_of_getElem? (i := 2016) (by decide +kernel), List.mem_of_getElem? (i := 2017) (by decide +kernel)⟩
theorem lw_p120 : lw_okq (⟨"LaneDoorsModel", "isTale", "(I)Z"⟩, 72) := ⟨⟨by decide +kernel, by decide +kernel⟩, List.mem_of_getElem? (i := 1288) (by decide +kernel), List.mem_of_getElem? (i := 2037) (by decide +kernel), List.mem_of_getElem? (i := 2038) (by decide +kernel)⟩
theorem lw_p121 : lw_okq (⟨"LaneDoorsModel", "layHeard", "(I)V"⟩, 72) := ⟨⟨by decide +kernel, by decide +kernel⟩, List.mem_of_getElem? (i := 1288) (by decide +kernel), List.mem_of_getElem? (i := 2041) (by decide +kernel), List.mem_of_getElem? (i := 2042) (by decide +kernel)⟩
def lw_privs_8 : List (MethodName × Nat) := [(⟨"LaneDoorsModel", "isStuck", "(I)Z"⟩, 72), (⟨"LaneDoorsModel", "oils", "(I)I"⟩, 72), (⟨"LaneDoorsModel", "areFit", "(IIIII)Z"⟩, 72), (⟨"LaneDoorsModel", "wayBy", "(IIIIIII)I"⟩, 72), (⟨"LaneDoorsModel", "laySteps", "(IIII)V"⟩, 72), (⟨"LaneDoorsModel", "comeTo", "(IIIII)V"⟩, 72), (⟨"LaneDoorsModel", "isFreeFor", "(IIII)Z"⟩, 72), (⟨"LaneDoorsModel", "winsBy", "(II)I"⟩, 72), (⟨"LaneDoorsModel", "isTale", "(I)Z"⟩, 72), (⟨"LaneDoorsModel", "layHeard", "(I)V"⟩, 72)]
theorem lw_r8 : ∀ q ∈ lw_privs_8, lw_okq q := List.forall_mem_cons.mpr ⟨lw_p112, List.forall_mem_cons.mpr ⟨lw_p113, List.forall_mem_cons.mpr ⟨lw_p114, List.forall_mem_cons.mpr ⟨lw_p115, List.forall_mem_cons.mpr ⟨lw_p116, List.forall_mem_cons.mpr ⟨lw_p117, List.forall_mem_cons.mpr ⟨lw_p118, List.forall_mem_cons.mpr ⟨lw_p119, List.forall_mem_cons.mpr ⟨lw_p120, List.forall_mem_cons.mpr ⟨lw_p121, fun _ h => absurd h List.not_mem_nil⟩⟩⟩⟩⟩⟩⟩⟩⟩⟩
def lw_privs : List (MethodName × Nat) := lw_privs_1 ++ (lw_privs_2 ++ (lw_privs_3 ++ (lw_privs_4 ++ (lw_privs_5 ++ (lw_privs_6 ++ (lw_privs_7 ++ (lw_privs_8)))))))
def lw_tbl : List Cond := k2_sels lw_privs ++ tables_1
theorem lw_privs_ok : ∀ q ∈ lw_privs, lw_okq q := by
  show ∀ q ∈ lw_privs_1 ++ (lw_privs_2 ++ (lw_privs_3 ++ (lw_privs_4 ++ (lw_privs_5 ++ (lw_privs_6 ++ (lw_privs_7 ++ (lw_privs_8))))))), lw_okq q
  exact List.forall_mem_append.mpr ⟨lw_r1, List.forall_mem_append.mpr ⟨lw_r2, List.forall_mem_append.mpr ⟨lw_r3, List.forall_mem_append.mpr ⟨lw_r4, List.forall_mem_append.mpr ⟨lw_r5, List.forall_mem_append.mpr ⟨lw_r6, List.forall_mem_append.mpr ⟨lw_r7, lw_r8⟩⟩⟩⟩⟩⟩⟩
end
section
def RX0 : String := "LaneDoors$Formula"
def TX0 : u_T := fun k => match k with
  | 0 => ("LaneDoors$Formula", "steps", "[I", true)
  | 1 => ("LaneDoors$Formula", "stack", "[I", true)
  | 2 => ("LaneDoors$Formula", "size", "I", false)
  | 3 => ("LaneDoors$Formula", "height", "I", false)
  | _ => ("LaneDoors$Formula", "units", "I", false)
def tyX0 : Nat → FieldType := fun k => match k with
  | 0 => .array .int
  | 1 => .array .int
  | 2 => .int
  | 3 => .int
  | _ => .int
theorem nmX0 : ∀ a, a < 5 → ∀ b, b < 5 → a ≠ b → (TX0 a).2.1 ≠ (TX0 b).2.1 := by decide +kernel
theorem tyX0_ok : ∀ k, k < 5 → parseFieldDescriptor (TX0 k).2.2.1 = some (tyX0 k) := by decide +kernel
def RX1 : String := "LaneDoors$Hearsay"
def TX1 : u_T := fun k => match k with
  | 0 => ("LaneDoors$Hearsay", "first", "[I", true)
  | 1 => ("LaneDoors$Hearsay", "second", "[I", true)
  | 2 => ("LaneDoors$Hearsay", "told", "[I", true)
  | 3 => ("LaneDoors$Hearsay", "untold", "[I", true)
  | 4 => ("LaneDoors$Hearsay", "count", "I", false)
  | _ => ("LaneDoors$Hearsay", "time", "I", false)
def tyX1 : Nat → FieldType := fun k => match k with
  | 0 => .array .int
  | 1 => .array .int
  | 2 => .array .int
  | 3 => .array .int
  | 4 => .int
  | _ => .int
theorem nmX1 : ∀ a, a < 6 → ∀ b, b < 6 → a ≠ b → (TX1 a).2.1 ≠ (TX1 b).2.1 := by decide +kernel
theorem tyX1_ok : ∀ k, k < 6 → parseFieldDescriptor (TX1 k).2.2.1 = some (tyX1 k) := by decide +kernel
def RX2 : String := "LaneDoors$History"
def TX2 : u_T := fun k => match k with
  | 0 => ("LaneDoors$History", "kept", "[LLaneDoors$State;", true)
  | 1 => ("LaneDoors$History", "first", "I", false)
  | 2 => ("LaneDoors$History", "done", "I", false)
  | _ => ("LaneDoors$History", "all", "I", false)
def tyX2 : Nat → FieldType := fun k => match k with
  | 0 => .array (.object "LaneDoors$State")
  | 1 => .int
  | 2 => .int
  | _ => .int
theorem nmX2 : ∀ a, a < 4 → ∀ b, b < 4 → a ≠ b → (TX2 a).2.1 ≠ (TX2 b).2.1 := by decide +kernel
theorem tyX2_ok : ∀ k, k < 4 → parseFieldDescriptor (TX2 k).2.2.1 = some (tyX2 k) := by decide +kernel
def RX3 : String := "LaneDoors$Lexer"
def TX3 : u_T := fun k => match k with
  | 0 => ("LaneDoors$Lexer", "tape", "LLaneDoors$Tape;", true)
  | 1 => ("LaneDoors$Lexer", "ownWords", "[J", true)
  | 2 => ("LaneDoors$Lexer", "next", "I", false)
  | 3 => ("LaneDoors$Lexer", "kind", "I", false)
  | 4 => ("LaneDoors$Lexer", "place", "I", false)
  | 5 => ("LaneDoors$Lexer", "number", "I", false)
  | _ => ("LaneDoors$Lexer", "word", "J", false)
def tyX3 : Nat → FieldType := fun k => match k with
  | 0 => .object "LaneDoors$Tape"
  | 1 => .array .long
  | 2 => .int
  | 3 => .int
  | 4 => .int
  | 5 => .int
  | _ => .long
theorem nmX3 : ∀ a, a < 7 → ∀ b, b < 7 → a ≠ b → (TX3 a).2.1 ≠ (TX3 b).2.1 := by decide +kernel
theorem tyX3_ok : ∀ k, k < 7 → parseFieldDescriptor (TX3 k).2.2.1 = some (tyX3 k) := by decide +kernel
def RX4 : String := "LaneDoors$Opener"
def TX4 : u_T := fun k => match k with
  | 0 => ("LaneDoors$Opener", "against", "[I", true)
  | 1 => ("LaneDoors$Opener", "earlier", "[I", true)
  | 2 => ("LaneDoors$Opener", "prices", "[I", true)
  | 3 => ("LaneDoors$Opener", "ways", "[I", true)
  | 4 => ("LaneDoors$Opener", "marks", "[Z", true)
  | 5 => ("LaneDoors$Opener", "open", "I", false)
  | _ => ("LaneDoors$Opener", "ready", "I", false)
def tyX4 : Nat → FieldType := fun k => match k with
  | 0 => .array .int
  | 1 => .array .int
  | 2 => .array .int
  | 3 => .array .int
  | 4 => .array .boolean
  | 5 => .int
  | _ => .int
theorem nmX4 : ∀ a, a < 7 → ∀ b, b < 7 → a ≠ b → (TX4 a).2.1 ≠ (TX4 b).2.1 := by decide +kernel
theorem tyX4_ok : ∀ k, k < 7 → parseFieldDescriptor (TX4 k).2.2.1 = some (tyX4 k) := by decide +kernel
def RX5 : String := "LaneDoors$Pile"
def TX5 : u_T := fun k => match k with
  | 0 => ("LaneDoors$Pile", "numbers", "[I", true)
  | _ => ("LaneDoors$Pile", "size", "I", false)
def tyX5 : Nat → FieldType := fun k => match k with
  | 0 => .array .int
  | _ => .int
theorem nmX5 : ∀ a, a < 2 → ∀ b, b < 2 → a ≠ b → (TX5 a).2.1 ≠ (TX5 b).2.1 := by decide +kernel
theorem tyX5_ok : ∀ k, k < 2 → parseFieldDescriptor (TX5 k).2.2.1 = some (tyX5 k) := by decide +kernel
def RX6 : String := "LaneDoors$Plan"
def TX6 : u_T := fun k => match k with
  | 0 => ("LaneDoors$Plan", "laneLong", "[I", true)
  | 1 => ("LaneDoors$Plan", "laneWide", "[I", true)
  | 2 => ("LaneDoors$Plan", "doorLane", "[I", true)
  | 3 => ("LaneDoors$Plan", "doorPlace", "[I", true)
  | 4 => ("LaneDoors$Plan", "doorBroad", "[I", true)
  | 5 => ("LaneDoors$Plan", "cornerFrom", "[I", true)
  | 6 => ("LaneDoors$Plan", "cornerTo", "[I", true)
  | 7 => ("LaneDoors$Plan", "oil", "LLaneDoors$Formula;", true)
  | 8 => ("LaneDoors$Plan", "lanes", "I", false)
  | 9 => ("LaneDoors$Plan", "doors", "I", false)
  | 10 => ("LaneDoors$Plan", "corners", "I", false)
  | 11 => ("LaneDoors$Plan", "south", "I", false)
  | 12 => ("LaneDoors$Plan", "right", "I", false)
  | 13 => ("LaneDoors$Plan", "loose", "I", false)
  | 14 => ("LaneDoors$Plan", "tied", "I", false)
  | 15 => ("LaneDoors$Plan", "open", "I", false)
  | 16 => ("LaneDoors$Plan", "stock", "I", false)
  | _ => ("LaneDoors$Plan", "draw", "I", false)
def tyX6 : Nat → FieldType := fun k => match k with
  | 0 => .array .int
  | 1 => .array .int
  | 2 => .array .int
  | 3 => .array .int
  | 4 => .array .int
  | 5 => .array .int
  | 6 => .array .int
  | 7 => .object "LaneDoors$Formula"
  | 8 => .int
  | 9 => .int
  | 10 => .int
  | 11 => .int
  | 12 => .int
  | 13 => .int
  | 14 => .int
  | 15 => .int
  | 16 => .int
  | _ => .int
theorem nmX6 : ∀ a, a < 18 → ∀ b, b < 18 → a ≠ b → (TX6 a).2.1 ≠ (TX6 b).2.1 := by decide +kernel
theorem tyX6_ok : ∀ k, k < 18 → parseFieldDescriptor (TX6 k).2.2.1 = some (tyX6 k) := by decide +kernel
def RX7 : String := "LaneDoors$Reader"
def TX7 : u_T := fun k => match k with
  | 0 => ("LaneDoors$Reader", "lexer", "LLaneDoors$Lexer;", true)
  | 1 => ("LaneDoors$Reader", "laneNames", "[J", true)
  | 2 => ("LaneDoors$Reader", "doorNames", "[J", true)
  | 3 => ("LaneDoors$Reader", "plan", "LLaneDoors$Plan;", false)
  | 4 => ("LaneDoors$Reader", "told", "I", false)
  | 5 => ("LaneDoors$Reader", "fault", "I", false)
  | _ => ("LaneDoors$Reader", "faultPlace", "I", false)
def tyX7 : Nat → FieldType := fun k => match k with
  | 0 => .object "LaneDoors$Lexer"
  | 1 => .array .long
  | 2 => .array .long
  | 3 => .object "LaneDoors$Plan"
  | 4 => .int
  | 5 => .int
  | _ => .int
theorem nmX7 : ∀ a, a < 7 → ∀ b, b < 7 → a ≠ b → (TX7 a).2.1 ≠ (TX7 b).2.1 := by decide +kernel
theorem tyX7_ok : ∀ k, k < 7 → parseFieldDescriptor (TX7 k).2.2.1 = some (tyX7 k) := by decide +kernel
def RX8 : String := "LaneDoors$State"
def TX8 : u_T := fun k => match k with
  | 0 => ("LaneDoors$State", "open", "I", false)
  | 1 => ("LaneDoors$State", "off", "I", false)
  | 2 => ("LaneDoors$State", "right", "I", false)
  | 3 => ("LaneDoors$State", "stock", "I", false)
  | 4 => ("LaneDoors$State", "day", "I", false)
  | 5 => ("LaneDoors$State", "seed", "I", false)
  | _ => ("LaneDoors$State", "times", "[I", true)
def tyX8 : Nat → FieldType := fun k => match k with
  | 0 => .int
  | 1 => .int
  | 2 => .int
  | 3 => .int
  | 4 => .int
  | 5 => .int
  | _ => .array .int
theorem nmX8 : ∀ a, a < 7 → ∀ b, b < 7 → a ≠ b → (TX8 a).2.1 ≠ (TX8 b).2.1 := by decide +kernel
theorem tyX8_ok : ∀ k, k < 7 → parseFieldDescriptor (TX8 k).2.2.1 = some (tyX8 k) := by decide +kernel
def RX9 : String := "LaneDoors$Streets"
def TX9 : u_T := fun k => match k with
  | 0 => ("LaneDoors$Streets", "free", "[I", true)
  | 1 => ("LaneDoors$Streets", "steps", "[I", true)
  | 2 => ("LaneDoors$Streets", "queue", "[I", true)
  | 3 => ("LaneDoors$Streets", "queued", "I", false)
  | _ => ("LaneDoors$Streets", "parts", "I", false)
def tyX9 : Nat → FieldType := fun k => match k with
  | 0 => .array .int
  | 1 => .array .int
  | 2 => .array .int
  | 3 => .int
  | _ => .int
theorem nmX9 : ∀ a, a < 5 → ∀ b, b < 5 → a ≠ b → (TX9 a).2.1 ≠ (TX9 b).2.1 := by decide +kernel
theorem tyX9_ok : ∀ k, k < 5 → parseFieldDescriptor (TX9 k).2.2.1 = some (tyX9 k) := by decide +kernel
def RX10 : String := "LaneDoors$Tape"
def TX10 : u_T := fun k => match k with
  | 0 => ("LaneDoors$Tape", "bytes", "[B", true)
  | _ => ("LaneDoors$Tape", "length", "I", false)
def tyX10 : Nat → FieldType := fun k => match k with
  | 0 => .array .byte
  | _ => .int
theorem nmX10 : ∀ a, a < 2 → ∀ b, b < 2 → a ≠ b → (TX10 a).2.1 ≠ (TX10 b).2.1 := by decide +kernel
theorem tyX10_ok : ∀ k, k < 2 → parseFieldDescriptor (TX10 k).2.2.1 = some (tyX10 k) := by decide +kernel
def RX11 : String := "LaneDoors"
def TX11 : u_T := fun k => match k with
  | 0 => ("LaneDoors", "tape", "LLaneDoors$Tape;", true)
  | 1 => ("LaneDoors", "reader", "LLaneDoors$Reader;", true)
  | 2 => ("LaneDoors", "history", "LLaneDoors$History;", true)
  | 3 => ("LaneDoors", "trial", "LLaneDoors$State;", true)
  | 4 => ("LaneDoors", "boxes", "[LLaneDoors$State;", true)
  | 5 => ("LaneDoors", "hearsay", "LLaneDoors$Hearsay;", true)
  | 6 => ("LaneDoors", "opener", "LLaneDoors$Opener;", true)
  | 7 => ("LaneDoors", "streets", "LLaneDoors$Streets;", true)
  | 8 => ("LaneDoors", "pile", "LLaneDoors$Pile;", true)
  | 9 => ("LaneDoors", "plan", "LLaneDoors$Plan;", false)
  | 10 => ("LaneDoors", "now", "LLaneDoors$State;", false)
  | _ => ("LaneDoors", "boxesKept", "I", false)
def tyX11 : Nat → FieldType := fun k => match k with
  | 0 => .object "LaneDoors$Tape"
  | 1 => .object "LaneDoors$Reader"
  | 2 => .object "LaneDoors$History"
  | 3 => .object "LaneDoors$State"
  | 4 => .array (.object "LaneDoors$State")
  | 5 => .object "LaneDoors$Hearsay"
  | 6 => .object "LaneDoors$Opener"
  | 7 => .object "LaneDoors$Streets"
  | 8 => .object "LaneDoors$Pile"
  | 9 => .object "LaneDoors$Plan"
  | 10 => .object "LaneDoors$State"
  | _ => .int
theorem nmX11 : ∀ a, a < 12 → ∀ b, b < 12 → a ≠ b → (TX11 a).2.1 ≠ (TX11 b).2.1 := by decide +kernel
theorem tyX11_ok : ∀ k, k < 12 → parseFieldDescriptor (TX11 k).2.2.1 = some (tyX11 k) := by decide +kernel
def RX12 : String := "LaneDoorsModel"
def TX12 : u_T := fun k => match k with
  | 0 => ("LaneDoorsModel", "tape", "[B", true)
  | 1 => ("LaneDoorsModel", "text", "[B", true)
  | 2 => ("LaneDoorsModel", "taped", "I", false)
  | 3 => ("LaneDoorsModel", "size", "I", false)
  | 4 => ("LaneDoorsModel", "faultKind", "I", false)
  | 5 => ("LaneDoorsModel", "faultPlace", "I", false)
  | 6 => ("LaneDoorsModel", "at", "I", false)
  | 7 => ("LaneDoorsModel", "end", "I", false)
  | 8 => ("LaneDoorsModel", "token", "I", false)
  | 9 => ("LaneDoorsModel", "number", "I", false)
  | 10 => ("LaneDoorsModel", "name", "J", false)
  | 11 => ("LaneDoorsModel", "lanes", "[I", true)
  | 12 => ("LaneDoorsModel", "doors", "[I", true)
  | 13 => ("LaneDoorsModel", "corners", "[I", true)
  | 14 => ("LaneDoorsModel", "units", "[I", true)
  | 15 => ("LaneDoorsModel", "stock", "[I", true)
  | 16 => ("LaneDoorsModel", "draw", "[I", true)
  | 17 => ("LaneDoorsModel", "longOf", "[I", true)
  | 18 => ("LaneDoorsModel", "wideOf", "[I", true)
  | 19 => ("LaneDoorsModel", "laneOf", "[I", true)
  | 20 => ("LaneDoorsModel", "placeOf", "[I", true)
  | 21 => ("LaneDoorsModel", "broadOf", "[I", true)
  | 22 => ("LaneDoorsModel", "oneLane", "[I", true)
  | 23 => ("LaneDoorsModel", "onePlace", "[I", true)
  | 24 => ("LaneDoorsModel", "otherLane", "[I", true)
  | 25 => ("LaneDoorsModel", "otherPlace", "[I", true)
  | 26 => ("LaneDoorsModel", "ruleFrom", "[I", true)
  | 27 => ("LaneDoorsModel", "ruleTo", "[I", true)
  | 28 => ("LaneDoorsModel", "toldOpen", "[I", true)
  | 29 => ("LaneDoorsModel", "toldRight", "[I", true)
  | 30 => ("LaneDoorsModel", "southern", "[I", true)
  | 31 => ("LaneDoorsModel", "loose", "[I", true)
  | 32 => ("LaneDoorsModel", "tied", "[I", true)
  | 33 => ("LaneDoorsModel", "isStock", "[Z", true)
  | 34 => ("LaneDoorsModel", "isDraw", "[Z", true)
  | 35 => ("LaneDoorsModel", "hasOil", "[Z", true)
  | 36 => ("LaneDoorsModel", "lName", "[J", true)
  | 37 => ("LaneDoorsModel", "dName", "[J", true)
  | 38 => ("LaneDoorsModel", "code", "[I", true)
  | 39 => ("LaneDoorsModel", "codeNumber", "[I", true)
  | 40 => ("LaneDoorsModel", "eWhat", "[I", true)
  | 41 => ("LaneDoorsModel", "eSign", "[I", true)
  | 42 => ("LaneDoorsModel", "pile", "[I", true)
  | 43 => ("LaneDoorsModel", "bank", "I", false)
  | 44 => ("LaneDoorsModel", "rb", "I", false)
  | 45 => ("LaneDoorsModel", "codes", "I", false)
  | 46 => ("LaneDoorsModel", "within", "I", false)
  | 47 => ("LaneDoorsModel", "piled", "I", false)
  | 48 => ("LaneDoorsModel", "unitsInRule", "I", false)
  | 49 => ("LaneDoorsModel", "all", "[I", true)
  | 50 => ("LaneDoorsModel", "hinderers", "[I", true)
  | 51 => ("LaneDoorsModel", "was", "[I", true)
  | 52 => ("LaneDoorsModel", "acts", "I", false)
  | 53 => ("LaneDoorsModel", "undone", "I", false)
  | 54 => ("LaneDoorsModel", "ways", "[I", true)
  | 55 => ("LaneDoorsModel", "ahead", "[I", true)
  | 56 => ("LaneDoorsModel", "laidRow", "[I", true)
  | 57 => ("LaneDoorsModel", "laid", "I", false)
  | 58 => ("LaneDoorsModel", "comesTo", "[Z", true)
  | 59 => ("LaneDoorsModel", "steps", "[I", true)
  | 60 => ("LaneDoorsModel", "queue", "[I", true)
  | 61 => ("LaneDoorsModel", "queued", "I", false)
  | 62 => ("LaneDoorsModel", "isMet", "[Z", true)
  | 63 => ("LaneDoorsModel", "wins", "[Z", true)
  | 64 => ("LaneDoorsModel", "hOne", "[I", true)
  | 65 => ("LaneDoorsModel", "hOther", "[I", true)
  | 66 => ("LaneDoorsModel", "hTold", "[I", true)
  | 67 => ("LaneDoorsModel", "hUntold", "[I", true)
  | 68 => ("LaneDoorsModel", "sounds", "I", false)
  | 69 => ("LaneDoorsModel", "time", "I", false)
  | 70 => ("LaneDoorsModel", "boxAll", "[I", true)
  | _ => ("LaneDoorsModel", "isBoxed", "[Z", true)
def tyX12 : Nat → FieldType := fun k => match k with
  | 0 => .array .byte
  | 1 => .array .byte
  | 2 => .int
  | 3 => .int
  | 4 => .int
  | 5 => .int
  | 6 => .int
  | 7 => .int
  | 8 => .int
  | 9 => .int
  | 10 => .long
  | 11 => .array .int
  | 12 => .array .int
  | 13 => .array .int
  | 14 => .array .int
  | 15 => .array .int
  | 16 => .array .int
  | 17 => .array .int
  | 18 => .array .int
  | 19 => .array .int
  | 20 => .array .int
  | 21 => .array .int
  | 22 => .array .int
  | 23 => .array .int
  | 24 => .array .int
  | 25 => .array .int
  | 26 => .array .int
  | 27 => .array .int
  | 28 => .array .int
  | 29 => .array .int
  | 30 => .array .int
  | 31 => .array .int
  | 32 => .array .int
  | 33 => .array .boolean
  | 34 => .array .boolean
  | 35 => .array .boolean
  | 36 => .array .long
  | 37 => .array .long
  | 38 => .array .int
  | 39 => .array .int
  | 40 => .array .int
  | 41 => .array .int
  | 42 => .array .int
  | 43 => .int
  | 44 => .int
  | 45 => .int
  | 46 => .int
  | 47 => .int
  | 48 => .int
  | 49 => .array .int
  | 50 => .array .int
  | 51 => .array .int
  | 52 => .int
  | 53 => .int
  | 54 => .array .int
  | 55 => .array .int
  | 56 => .array .int
  | 57 => .int
  | 58 => .array .boolean
  | 59 => .array .int
  | 60 => .array .int
  | 61 => .int
  | 62 => .array .boolean
  | 63 => .array .boolean
  | 64 => .array .int
  | 65 => .array .int
  | 66 => .array .int
  | 67 => .array .int
  | 68 => .int
  | 69 => .int
  | 70 => .array .int
  | _ => .array .boolean
theorem nmX12 : ∀ a, a < 72 → ∀ b, b < 72 → a ≠ b → (TX12 a).2.1 ≠ (TX12 b).2.1 := by decide +kernel
theorem tyX12_ok : ∀ k, k < 72 → parseFieldDescriptor (TX12 k).2.2.1 = some (tyX12 k) := by decide +kernel
abbrev vwCl : List vw_C := [(RX0, TX0, 5), (RX1, TX1, 6), (RX2, TX2, 4), (RX3, TX3, 7), (RX4, TX4, 7), (RX5, TX5, 2), (RX6, TX6, 18), (RX7, TX7, 7), (RX8, TX8, 7), (RX9, TX9, 5), (RX10, TX10, 2), (RX11, TX11, 12), (RX12, TX12, 72)]
end
section
/-! A walker over numbers. A value is 16 * payload + kind: kind 0 nothing, 1 the int that is named by the payload, 2 the object at that place of the world, 3 null, 4 that int (as 32 bits), 5 some long, 6 something from outside, 7 some int between two bounds (payload: lower * 2^32 + upper, both with 2^31 added), 8 null or some object. A row of locals is a number with digits of 72 bits, what is known of the named ints one with digits of 64 bits (bounds as in kind 7). A cell is tag + 16 * n + 2^20 * its digits: tags 0 1 2 known ints, bytes, booleans (digits of 32 bits), 3 4 5 unknown ones, 6 longs, 7 an object (n: its class; digits of 72 bits), 8 objects (digits of 72 bits, 0: null), 15 not made yet. -/
abbrev zx_H : Type := List (List Nat)
abbrev zx_E : Type := Nat × Nat × Nat × Nat × Nat
abbrev zx_M : Type := (MethodName × ByteArray × Nat × Option FieldType) × (Nat × Nat × Nat × Nat × Nat × Nat) × List (Nat × List zx_E)
abbrev zx_N : Type := List zx_E → Nat → Nat → List Nat → zx_H → Nat → Nat → Nat → Nat → Bool
abbrev zx_K : Type := List Nat → zx_H → Nat → Nat → Bool
noncomputable def zx_fn (n : Nat) (k : Nat → Bool) : Bool := @Nat.rec (fun _ => Bool) (k 0) (fun m _ => k (Nat.succ m)) n
noncomputable def zx_at {α : Type} (l : List α) (i : Nat) (k : α → Bool) : Bool := @List.rec α (fun _ => Nat → Bool) (fun _ => false) (fun a _ ih i => @Nat.rec (fun _ => Bool) (k a) (fun j _ => ih j) i) l i
noncomputable def zx_up {α : Type} (l : List α) (i : Nat) (x : α) (k : List α → Bool) : Bool := @List.rec α (fun _ => Nat → (List α → Bool) → Bool) (fun _ _ => false) (fun a t ih i k => @Nat.rec (fun _ => Bool) (k (x :: t)) (fun j _ => ih j (fun t' => k (a :: t'))) i) l i k
noncomputable def zx_bk (t : List (Nat × List zx_E)) (pc : Nat) (k : List zx_E → Bool) : Bool := @List.rec (Nat × List zx_E) (fun _ => Bool) false (fun q _ ih => bif Nat.beq q.1 pc then k q.2 else ih) t
/-- the first of a stack -/
noncomputable def zx_p1 (st : List Nat) (k : Nat → List Nat → Bool) : Bool := @List.rec Nat (fun _ => Bool) false (fun a t _ => k a t) st
noncomputable def zx_p2 (st : List Nat) (k : Nat → Nat → List Nat → Bool) : Bool := zx_p1 st (fun y st => zx_p1 st (fun x st => k y x st))
noncomputable def zx_p3 (st : List Nat) (k : Nat → Nat → Nat → List Nat → Bool) : Bool := zx_p1 st (fun z st => zx_p1 st (fun y st => zx_p1 st (fun x st => k z y x st)))
def zx_dg (o w B c j : Nat) : Nat := Nat.mod (Nat.shiftRight c (Nat.add o (Nat.mul w j))) B
def zx_sd (o w B c j x : Nat) : Nat := Nat.xor c (Nat.shiftLeft (Nat.xor (zx_dg o w B c j) x) (Nat.add o (Nat.mul w j)))
def zx_lg (row i : Nat) : Nat := zx_dg 0 72 4722366482869645213696 row i
def zx_ls (row i v : Nat) : Nat := zx_sd 0 72 4722366482869645213696 row i v
def zx_eg (e i : Nat) : Nat := zx_dg 0 64 18446744073709551616 e i
def zx_es (e i v : Nat) : Nat := zx_sd 0 64 18446744073709551616 e i v
def zx_og (c i : Nat) : Nat := zx_dg 20 72 4722366482869645213696 c i
def zx_os (c i v : Nat) : Nat := zx_sd 20 72 4722366482869645213696 c i v
def zx_ig (c i : Nat) : Nat := zx_dg 20 32 4294967296 c i
def zx_is (c i v : Nat) : Nat := zx_sd 20 32 4294967296 c i v
noncomputable def zx_hg (h : zx_H) (i : Nat) (k : Nat → Bool) : Bool := zx_at h (Nat.div i 16) (fun l => zx_at l (Nat.mod i 16) k)
noncomputable def zx_hs (h : zx_H) (i x : Nat) (k : zx_H → Bool) : Bool := zx_at h (Nat.div i 16) (fun l => zx_up l (Nat.mod i 16) x (fun l' => zx_up h (Nat.div i 16) l' k))
def zx_bi (n : Nat) : Nat := Nat.mod (Nat.add n 2147483648) 4294967296
def zx_kd (v : Nat) : Nat := Nat.mod v 16
def zx_pl (v : Nat) : Nat := Nat.div v 16
def zx_c (n : Nat) : Nat := Nat.add (Nat.mul n 16) 4
/-- the kind is one of a mask's bits: 146 ints, 332 references, 32 longs -/
def zx_kc (m v : Nat) : Bool := Nat.beq (Nat.mod (Nat.shiftRight m (Nat.mod v 16)) 2) 1
def zx_un : Nat := 68719476727
/-- bounds of an int -/
noncomputable def zx_iv (e v : Nat) (k : Nat → Nat → Bool) : Bool :=
  bif Nat.beq (zx_kd v) 4 then zx_fn (zx_bi (zx_pl v)) (fun b => k b b) else
  bif Nat.beq (zx_kd v) 1 then zx_fn (zx_eg e (zx_pl v)) (fun c => bif Nat.beq c 0 then false else zx_fn (Nat.div c 4294967296) (fun l => zx_fn (Nat.mod c 4294967296) (fun h => k l h))) else
  bif Nat.beq (zx_kd v) 7 then zx_fn (zx_pl v) (fun c => zx_fn (Nat.div c 4294967296) (fun l => zx_fn (Nat.mod c 4294967296) (fun h => k l h))) else false
/-- a value as it is known now -/
noncomputable def zx_no (e v : Nat) (k : Nat → Bool) : Bool :=
  bif zx_kc 130 v then zx_iv e v (fun l h => bif Nat.beq l h then zx_fn (zx_c (zx_bi l)) k else k v) else k v
def zx_ii (v : Nat) : Bool := zx_kc 146 v
/-- two numbers that are known, else some int -/
noncomputable def zx_b2 (f : Nat → Nat → Nat) (x y : Nat) (k : Nat → Bool) : Bool :=
  bif Nat.beq (zx_kd x) 4 && Nat.beq (zx_kd y) 4 then zx_fn (zx_c (f (zx_pl x) (zx_pl y))) k else bif zx_ii x && zx_ii y then k zx_un else false
def zx_f0 (x y : Nat) : Nat := Nat.mod (Nat.add x y) 4294967296
def zx_f1 (x y : Nat) : Nat := Nat.mod (Nat.add x (Nat.sub 4294967296 y)) 4294967296
def zx_f2 (x y : Nat) : Nat := Nat.mod (Nat.mul x y) 4294967296
noncomputable def zx_ad (x y : Nat) (k : Nat → Bool) : Bool := bif Nat.beq y 4 && zx_ii x then k x else bif Nat.beq x 4 && zx_ii y then k y else zx_b2 zx_f0 x y k
noncomputable def zx_an (x y : Nat) (k : Nat → Bool) : Bool :=
  bif Nat.beq y 68719476724 && zx_ii x then k x else
  bif Nat.beq (zx_kd y) 4 && (zx_kc 130 x && Nat.blt (zx_pl y) 2147483648) then zx_fn (Nat.add (Nat.mul (Nat.add 9223372036854775808 (Nat.add 2147483648 (zx_pl y))) 16) 7) k else zx_b2 Nat.land x y k
def zx_g6 (x y : Nat) : Nat := Nat.mod (Nat.mul x (Nat.pow 2 y)) 4294967296
def zx_g7 (x y : Nat) : Nat := bif Nat.blt x 2147483648 then Nat.div x (Nat.pow 2 y) else Nat.sub 4294967295 (Nat.div (Nat.sub 4294967295 x) (Nat.pow 2 y))
def zx_g8 (x y : Nat) : Nat := Nat.div x (Nat.pow 2 y)
noncomputable def zx_sh (f : Nat → Nat → Nat) (x y : Nat) (k : Nat → Bool) : Bool :=
  bif Nat.beq (zx_kd x) 4 && (Nat.beq (zx_kd y) 4 && Nat.blt (zx_pl y) 32) then zx_fn (zx_c (f (zx_pl x) (zx_pl y))) k else bif zx_ii x && zx_ii y then k zx_un else false
noncomputable def zx_sr (x y : Nat) (k : Nat → Bool) : Bool := bif Nat.beq x 4 && zx_ii y then k 4 else zx_sh zx_g7 x y k
noncomputable def zx_dv (f : Nat → Nat → Nat) (x y : Nat) (k : Nat → Bool) : Bool :=
  bif Nat.beq (zx_kd x) 4 && (Nat.beq (zx_kd y) 4 && (Nat.blt (zx_pl x) 2147483648 && (Nat.blt 0 (zx_pl y) && Nat.blt (zx_pl y) 2147483648))) then zx_fn (zx_c (f (zx_pl x) (zx_pl y))) k else false
def zx_n8 (x : Nat) : Nat := bif Nat.blt (Nat.mod x 256) 128 then Nat.mod x 256 else Nat.add (Nat.mod x 256) 4294967040
def zx_n16 (x : Nat) : Nat := Nat.mod x 65536
noncomputable def zx_u1 (f : Nat → Nat) (x : Nat) (k : Nat → Bool) : Bool := bif Nat.beq (zx_kd x) 4 then zx_fn (zx_c (f (zx_pl x))) k else bif zx_ii x then k zx_un else false
/-- which way a comparison goes, with what is known then -/
def zx_bd (l h : Nat) : Nat := Nat.add (Nat.mul l 4294967296) h
noncomputable def zx_lt (e x y : Nat) (kt kf : Nat → Bool) : Bool := zx_iv e x (fun l1 h1 => zx_iv e y (fun l2 h2 =>
  bif Nat.blt h1 l2 then kt e else bif Nat.ble h2 l1 then kf e else
  bif Nat.beq (zx_kd x) 1 && Nat.beq l2 h2 then zx_fn (zx_es e (zx_pl x) (zx_bd l1 (Nat.pred l2))) kt && zx_fn (zx_es e (zx_pl x) (zx_bd l2 h1)) kf else
  bif Nat.beq (zx_kd y) 1 && Nat.beq l1 h1 then zx_fn (zx_es e (zx_pl y) (zx_bd (Nat.succ l1) h2)) kt && zx_fn (zx_es e (zx_pl y) (zx_bd l2 l1)) kf else kt e && kf e))
noncomputable def zx_eq (e x y : Nat) (kt kf : Nat → Bool) : Bool := zx_iv e x (fun l1 h1 => zx_iv e y (fun l2 h2 =>
  bif Nat.blt h1 l2 || Nat.blt h2 l1 then kf e else bif Nat.beq l1 h1 && Nat.beq l2 h2 then kt e else
  bif Nat.beq (zx_kd x) 1 && Nat.beq x y then kt e else
  bif Nat.beq (zx_kd x) 1 && Nat.beq l2 h2 then zx_fn (zx_es e (zx_pl x) (zx_bd l2 l2)) kt && ((bif Nat.blt l1 l2 then zx_fn (zx_es e (zx_pl x) (zx_bd l1 (Nat.pred l2))) kf else true) && (bif Nat.blt l2 h1 then zx_fn (zx_es e (zx_pl x) (zx_bd (Nat.succ l2) h1)) kf else true)) else
  bif Nat.beq (zx_kd y) 1 && Nat.beq l1 h1 then zx_fn (zx_es e (zx_pl y) (zx_bd l1 l1)) kt && ((bif Nat.blt l2 l1 then zx_fn (zx_es e (zx_pl y) (zx_bd l2 (Nat.pred l1))) kf else true) && (bif Nat.blt l1 h2 then zx_fn (zx_es e (zx_pl y) (zx_bd (Nat.succ l1) h2)) kf else true)) else kt e && kf e))
/-- conditions: 0 lt, 1 ge, 2 gt, 3 le, 4 eq, 5 ne -/
noncomputable def zx_cm (c e x y : Nat) (kt kf : Nat → Bool) : Bool :=
  bif Nat.ble c 1 then (bif Nat.beq c 0 then zx_lt e x y kt kf else zx_lt e x y kf kt) else
  bif Nat.ble c 3 then (bif Nat.beq c 2 then zx_lt e y x kt kf else zx_lt e y x kf kt) else
  (bif Nat.beq c 4 then zx_eq e x y kt kf else zx_eq e x y kf kt)
/-- a place of an array of n: surely within -/
noncomputable def zx_in (e i n : Nat) : Bool := zx_iv e i (fun l h => Nat.ble 2147483648 l && Nat.blt h (Nat.add n 2147483648))
/-- one of few: each by itself -/
noncomputable def zx_sp (e i : Nat) (k : Nat → Bool) : Bool := zx_iv e i (fun l h => bif Nat.beq (zx_kd i) 1 && Nat.blt h (Nat.add l 4) then
  zx_fn (zx_es e (zx_pl i) (zx_bd l l)) k && ((bif Nat.ble (Nat.add l 1) h then zx_fn (zx_es e (zx_pl i) (zx_bd (Nat.add l 1) (Nat.add l 1))) k else true) && ((bif Nat.ble (Nat.add l 2) h then zx_fn (zx_es e (zx_pl i) (zx_bd (Nat.add l 2) (Nat.add l 2))) k else true) && (bif Nat.ble (Nat.add l 3) h then zx_fn (zx_es e (zx_pl i) (zx_bd (Nat.add l 3) (Nat.add l 3))) k else true))) else false)
def zx_hd (c : Nat) : Nat := Nat.mod c 1048576
def zx_tg (c : Nat) : Nat := Nat.mod c 16
def zx_cn (c : Nat) : Nat := Nat.div (Nat.mod c 1048576) 16
/-- what a store makes of an int: as it is, a byte, a bit -/
def zx_nr (t x : Nat) : Nat := bif Nat.beq t 0 then x else bif Nat.beq t 1 then zx_n8 x else Nat.mod x 2
/-- an array of which no more is known -/
def zx_uk (t n : Nat) : Nat := Nat.add (Nat.add 3 t) (Nat.add (Nat.mul n 16) 4503599626321920)
end
section
/-! the tables: which methods are run, their instructions, and the texts from outside (printed by program) -/
def zx_words : Nat := 1355962653310105568209060942670667279271680251398077175202975583093442815506132487061390106670918954763921750744163149622268579774057396726340990600626155418956696488326664661484071118805321804948271599812473632989865490347707514146358901664168372526901300972220526973674253014537007599039602578317676
def zy_lcs : List Nat := [1818324581, 1819242087, 2003395685, 1685024626, 26990, 24948, 422826697060, 1818584692, 491394656372, 474316174440, 495791207528, 465726042981, 1953064292, 1869636974, 109330312357234, 2003399784, 7301484, 495874696043, 1685217655, 499984983411, 6578553, 482854658917, 28530, 6385252, 7237492]
def zx_signs : Nat := 44952984568449741802252347
def zx_SW : List (Nat × List (Nat × Nat)) := [(1795, [(0, 252), (1, 315), (2, 338), (3, 351), (4, 374), (5, 407), (6, 430), (7, 463), (8, 496), (9, 519), (10, 542), (11, 565), (12, 588), (13, 611), (14, 634), (15, 657), (16, 710), (17, 723), (18, 736), (19, 749), (20, 762), (21, 785), (22, 808), (23, 831), (24, 864), (25, 887), (26, 920), (27, 943), (28, 966), (29, 1019), (30, 1042), (31, 1065), (32, 1098), (33, 1151), (34, 1194), (35, 1237), (36, 1270), (37, 1283), (38, 1346), (39, 1409), (40, 1472), (41, 1505), (42, 1528), (43, 1561), (44, 1584), (45, 1607), (46, 1640), (47, 1673), (48, 1726), (49, 1749), (50, 1772)]), (179, [(0, 76), (1, 81), (2, 91), (3, 101), (4, 108), (5, 115), (6, 123), (7, 131), (8, 139), (9, 144), (10, 149), (11, 154), (12, 159), (13, 164), (14, 174)]), (199, [(0, 76), (1, 84), (2, 92), (3, 100), (4, 108), (5, 116), (6, 124), (7, 132), (8, 140), (9, 148), (10, 156), (11, 164), (12, 172), (13, 180), (14, 191)]), (203, [(37, 144), (38, 189), (39, 203), (40, 203), (41, 203), (42, 128), (43, 120), (44, 203), (45, 124), (46, 203), (47, 132), (48, 203), (49, 203), (50, 203), (51, 203), (52, 203), (53, 203), (54, 203), (55, 203), (56, 203), (57, 203), (58, 203), (59, 203), (60, 156), (61, 178), (62, 167)]), (82, [(98, 44), (100, 59), (112, 67), (116, 50)]), (135, [(106, 80), (121, 113), (122, 88), (123, 96), (124, 104)]), (204, [(37, 192), (42, 176), (43, 168), (45, 172), (47, 180), (60, 126), (61, 154), (62, 140), (119, 92), (120, 109)]), (171, [(0, 68), (1, 74), (2, 80), (3, 86), (4, 98), (5, 112), (6, 123), (7, 134), (8, 148), (9, 162)]), (184, [(0, 68), (1, 78), (2, 88), (3, 98), (4, 114), (5, 126), (6, 138), (7, 150), (8, 162), (9, 174)]), (44, [(0, 28), (1, 36)]), (212, [(100, 96), (101, 212), (102, 212), (103, 120), (104, 212), (105, 212), (106, 212), (107, 212), (108, 212), (109, 212), (110, 212), (111, 212), (112, 212), (113, 212), (114, 145), (115, 212), (116, 170), (117, 202), (118, 207)]), (48, [(0, 28), (1, 35), (2, 41)]), (70, [(0, 28), (1, 40), (2, 52)])]
def zc_L_law_0 : List (Nat × List zx_E) := [(0, [(0, 30, 109248748468303532426541642480939391036720979351712827526531546418042237417110628252665443765958691478625241575826573280355046495734701237269093836311829292319803286967885967570508320852340184441831617345664008700691746420613928817222429092872375, 12, 3), (3, 20, 0, 0, 4), (4, 41, 325, 2, 7), (7, 1, 1, 332, 8), (8, 30, 2307060599492146329444221036003718157600683112930945907234932469468882049561918732614457931808798820598062206552832035145451844504101507824758624839056290354783521578457600262424135698985769765079235636358112320131844903270203654997907560023193822115655959763556628030551602304341808941203642076660881163479243935410345675026322153382582048114069655948314810301119214232406572110924152053989902237687544306454942976905510704236144786518826271097089684540687850476715310501038192846511705663767024031251667362840961461859101290950182434178157174580900532655580618963111058056358436605070491200203880037038490115308467086752349204393196519491244470365507639956974030352000949050680994094475836754107609618169839975796830769871914166175864634881920580667057060203290783970746515753794710514878137621974111662382188436880653954590067095418517157655672064157401895406167965918940826604607194821101043933010616542673385417007041062371837274548490862040500710421365856809633358403357005790161847513528977039718955087139017115742187302187038278098482397651109300831344042402686112131853448610749135713911151327771086876944815773168252334353985031518961629459606066864999795086294201325247620856425711314917466823022288404170884341161372096251409599294106512217195277247173831962757358588214381318852336160442256975801476961707443493955256008298952652276226988383510714550469276775317304750010847203643651109260432638434163228942941197787883531921331021721760396255146629458987855375076360630506488898208464032748198827874297940210577227699065703065714887, 72, 11), (11, 20, 0, 0, 12), (12, 41, 324, 2, 15), (15, 1, 2, 332, 16), (16, 4, 4, 0, 17), (17, 1, 3, 146, 18)]), (18, [(18, 0, 3, 146, 19), (19, 0, 0, 332, 20), (20, 32, 0, 0, 21), (21, 4, 100, 0, 23), (23, 6, 0, 0, 24), (24, 24, 1801, 2, 27), (27, 0, 0, 332, 28), (28, 0, 3, 146, 29), (29, 33, 9, 0, 30), (30, 4, 1012, 0, 32), (32, 8, 0, 0, 33), (33, 26, 0, 0, 252)]), (252, [(252, 0, 1, 332, 253), (253, 0, 0, 332, 254), (254, 0, 3, 146, 255), (255, 4, 20, 0, 256), (256, 5, 0, 0, 257), (257, 33, 9, 0, 258), (258, 0, 0, 332, 259), (259, 0, 3, 146, 260), (260, 4, 36, 0, 261), (261, 5, 0, 0, 262), (262, 33, 9, 0, 263), (263, 0, 0, 332, 264), (264, 0, 3, 146, 265), (265, 4, 52, 0, 266), (266, 5, 0, 0, 267), (267, 33, 9, 0, 268), (268, 0, 0, 332, 269), (269, 0, 3, 146, 270), (270, 4, 68, 0, 271), (271, 5, 0, 0, 272), (272, 33, 9, 0, 273), (273, 0, 0, 332, 274), (274, 0, 3, 146, 275), (275, 4, 84, 0, 276), (276, 5, 0, 0, 277), (277, 33, 9, 0, 278), (278, 41, 322, 0, 281), (281, 21, 0, 0, 282), (282, 0, 2, 332, 283), (283, 0, 0, 332, 284), (284, 0, 3, 146, 285), (285, 4, 20, 0, 286), (286, 5, 0, 0, 287), (287, 33, 9, 0, 288), (288, 0, 0, 332, 289), (289, 0, 3, 146, 290), (290, 4, 36, 0, 291), (291, 5, 0, 0, 292), (292, 33, 9, 0, 293), (293, 0, 0, 332, 294), (294, 0, 3, 146, 295), (295, 4, 52, 0, 296), (296, 5, 0, 0, 297), (297, 33, 9, 0, 298), (298, 0, 0, 332, 299), (299, 0, 3, 146, 300), (300, 4, 68, 0, 301), (301, 5, 0, 0, 302), (302, 33, 9, 0, 303), (303, 0, 0, 332, 304), (304, 0, 3, 146, 305), (305, 4, 84, 0, 306), (306, 5, 0, 0, 307), (307, 33, 9, 0, 308), (308, 41, 321, 0, 311), (311, 21, 0, 0, 312), (312, 23, 1795, 0, 315)]), (315, [(315, 0, 1, 332, 316), (316, 0, 0, 332, 317), (317, 0, 3, 146, 318), (318, 4, 20, 0, 319), (319, 5, 0, 0, 320), (320, 33, 9, 0, 321), (321, 41, 320, 0, 324), (324, 21, 0, 0, 325), (325, 0, 2, 332, 326), (326, 0, 0, 332, 327), (327, 0, 3, 146, 328), (328, 4, 20, 0, 329), (329, 5, 0, 0, 330), (330, 33, 9, 0, 331), (331, 41, 319, 0, 334), (334, 21, 0, 0, 335), (335, 23, 1795, 0, 338)]), (338, [(338, 0, 1, 332, 339), (339, 41, 268, 0, 342), (342, 21, 0, 0, 343), (343, 0, 2, 332, 344), (344, 41, 231, 0, 347), (347, 21, 0, 0, 348), (348, 23, 1795, 0, 351)])]
def zc_L_law_1 : List (Nat × List zx_E) := [(351, [(351, 0, 1, 332, 352), (352, 0, 0, 332, 353), (353, 0, 3, 146, 354), (354, 4, 20, 0, 355), (355, 5, 0, 0, 356), (356, 33, 9, 0, 357), (357, 41, 230, 0, 360), (360, 21, 0, 0, 361), (361, 0, 2, 332, 362), (362, 0, 0, 332, 363), (363, 0, 3, 146, 364), (364, 4, 20, 0, 365), (365, 5, 0, 0, 366), (366, 33, 9, 0, 367), (367, 41, 229, 0, 370), (370, 21, 0, 0, 371), (371, 23, 1795, 0, 374)]), (374, [(374, 0, 1, 332, 375), (375, 0, 0, 332, 376), (376, 0, 3, 146, 377), (377, 4, 20, 0, 378), (378, 5, 0, 0, 379), (379, 33, 9, 0, 380), (380, 0, 0, 332, 381), (381, 0, 3, 146, 382), (382, 4, 36, 0, 383), (383, 5, 0, 0, 384), (384, 33, 9, 0, 385), (385, 41, 228, 0, 388), (388, 21, 0, 0, 389), (389, 0, 2, 332, 390), (390, 0, 0, 332, 391), (391, 0, 3, 146, 392), (392, 4, 20, 0, 393), (393, 5, 0, 0, 394), (394, 33, 9, 0, 395), (395, 0, 0, 332, 396), (396, 0, 3, 146, 397), (397, 4, 36, 0, 398), (398, 5, 0, 0, 399), (399, 33, 9, 0, 400), (400, 41, 227, 0, 403), (403, 21, 0, 0, 404), (404, 23, 1795, 0, 407)]), (407, [(407, 0, 1, 332, 408), (408, 0, 0, 332, 409), (409, 0, 3, 146, 410), (410, 4, 20, 0, 411), (411, 5, 0, 0, 412), (412, 33, 9, 0, 413), (413, 41, 226, 0, 416), (416, 21, 0, 0, 417), (417, 0, 2, 332, 418), (418, 0, 0, 332, 419), (419, 0, 3, 146, 420), (420, 4, 20, 0, 421), (421, 5, 0, 0, 422), (422, 33, 9, 0, 423), (423, 41, 214, 0, 426), (426, 21, 0, 0, 427), (427, 23, 1795, 0, 430)]), (430, [(430, 0, 1, 332, 431), (431, 0, 0, 332, 432), (432, 0, 3, 146, 433), (433, 4, 20, 0, 434), (434, 5, 0, 0, 435), (435, 33, 9, 0, 436), (436, 0, 0, 332, 437), (437, 0, 3, 146, 438), (438, 4, 36, 0, 439), (439, 5, 0, 0, 440), (440, 33, 9, 0, 441), (441, 41, 225, 0, 444), (444, 21, 0, 0, 445), (445, 0, 2, 332, 446), (446, 0, 0, 332, 447), (447, 0, 3, 146, 448), (448, 4, 20, 0, 449), (449, 5, 0, 0, 450), (450, 33, 9, 0, 451), (451, 0, 0, 332, 452), (452, 0, 3, 146, 453), (453, 4, 36, 0, 454), (454, 5, 0, 0, 455), (455, 33, 9, 0, 456), (456, 41, 224, 0, 459), (459, 21, 0, 0, 460), (460, 23, 1795, 0, 463)]), (463, [(463, 0, 1, 332, 464), (464, 0, 0, 332, 465), (465, 0, 3, 146, 466), (466, 4, 20, 0, 467), (467, 5, 0, 0, 468), (468, 33, 9, 0, 469), (469, 0, 0, 332, 470), (470, 0, 3, 146, 471), (471, 4, 36, 0, 472), (472, 5, 0, 0, 473), (473, 33, 9, 0, 474), (474, 41, 223, 0, 477), (477, 21, 0, 0, 478), (478, 0, 2, 332, 479), (479, 0, 0, 332, 480), (480, 0, 3, 146, 481), (481, 4, 20, 0, 482), (482, 5, 0, 0, 483), (483, 33, 9, 0, 484), (484, 0, 0, 332, 485), (485, 0, 3, 146, 486), (486, 4, 36, 0, 487), (487, 5, 0, 0, 488), (488, 33, 9, 0, 489), (489, 41, 222, 0, 492), (492, 21, 0, 0, 493), (493, 23, 1795, 0, 496)])]
def zc_L_law_2 : List (Nat × List zx_E) := [(496, [(496, 0, 1, 332, 497), (497, 0, 0, 332, 498), (498, 0, 3, 146, 499), (499, 4, 20, 0, 500), (500, 5, 0, 0, 501), (501, 33, 9, 0, 502), (502, 41, 221, 0, 505), (505, 21, 0, 0, 506), (506, 0, 2, 332, 507), (507, 0, 0, 332, 508), (508, 0, 3, 146, 509), (509, 4, 20, 0, 510), (510, 5, 0, 0, 511), (511, 33, 9, 0, 512), (512, 41, 220, 0, 515), (515, 21, 0, 0, 516), (516, 23, 1795, 0, 519)]), (519, [(519, 0, 1, 332, 520), (520, 0, 0, 332, 521), (521, 0, 3, 146, 522), (522, 4, 20, 0, 523), (523, 5, 0, 0, 524), (524, 33, 9, 0, 525), (525, 41, 219, 0, 528), (528, 21, 0, 0, 529), (529, 0, 2, 332, 530), (530, 0, 0, 332, 531), (531, 0, 3, 146, 532), (532, 4, 20, 0, 533), (533, 5, 0, 0, 534), (534, 33, 9, 0, 535), (535, 41, 218, 0, 538), (538, 21, 0, 0, 539), (539, 23, 1795, 0, 542)]), (542, [(542, 0, 1, 332, 543), (543, 0, 0, 332, 544), (544, 0, 3, 146, 545), (545, 4, 20, 0, 546), (546, 5, 0, 0, 547), (547, 33, 9, 0, 548), (548, 41, 217, 0, 551), (551, 21, 0, 0, 552), (552, 0, 2, 332, 553), (553, 0, 0, 332, 554), (554, 0, 3, 146, 555), (555, 4, 20, 0, 556), (556, 5, 0, 0, 557), (557, 33, 9, 0, 558), (558, 41, 216, 0, 561), (561, 21, 0, 0, 562), (562, 23, 1795, 0, 565)]), (565, [(565, 0, 1, 332, 566), (566, 0, 0, 332, 567), (567, 0, 3, 146, 568), (568, 4, 20, 0, 569), (569, 5, 0, 0, 570), (570, 33, 9, 0, 571), (571, 41, 215, 0, 574), (574, 21, 0, 0, 575), (575, 0, 2, 332, 576), (576, 0, 0, 332, 577), (577, 0, 3, 146, 578), (578, 4, 20, 0, 579), (579, 5, 0, 0, 580), (580, 33, 9, 0, 581), (581, 41, 213, 0, 584), (584, 21, 0, 0, 585), (585, 23, 1795, 0, 588)]), (588, [(588, 0, 1, 332, 589), (589, 0, 0, 332, 590), (590, 0, 3, 146, 591), (591, 4, 20, 0, 592), (592, 5, 0, 0, 593), (593, 33, 9, 0, 594), (594, 41, 212, 0, 597), (597, 21, 0, 0, 598), (598, 0, 2, 332, 599), (599, 0, 0, 332, 600), (600, 0, 3, 146, 601), (601, 4, 20, 0, 602), (602, 5, 0, 0, 603), (603, 33, 9, 0, 604), (604, 41, 211, 0, 607), (607, 21, 0, 0, 608), (608, 23, 1795, 0, 611)]), (611, [(611, 0, 1, 332, 612), (612, 0, 0, 332, 613), (613, 0, 3, 146, 614), (614, 4, 20, 0, 615), (615, 5, 0, 0, 616), (616, 33, 9, 0, 617), (617, 41, 210, 0, 620), (620, 21, 0, 0, 621), (621, 0, 2, 332, 622), (622, 0, 0, 332, 623), (623, 0, 3, 146, 624), (624, 4, 20, 0, 625), (625, 5, 0, 0, 626), (626, 33, 9, 0, 627), (627, 41, 209, 0, 630), (630, 21, 0, 0, 631), (631, 23, 1795, 0, 634)])]
def zc_L_law_3 : List (Nat × List zx_E) := [(634, [(634, 0, 1, 332, 635), (635, 0, 0, 332, 636), (636, 0, 3, 146, 637), (637, 4, 20, 0, 638), (638, 5, 0, 0, 639), (639, 33, 9, 0, 640), (640, 41, 208, 0, 643), (643, 21, 0, 0, 644), (644, 0, 2, 332, 645), (645, 0, 0, 332, 646), (646, 0, 3, 146, 647), (647, 4, 20, 0, 648), (648, 5, 0, 0, 649), (649, 33, 9, 0, 650), (650, 41, 207, 0, 653), (653, 21, 0, 0, 654), (654, 23, 1795, 0, 657)]), (657, [(657, 0, 1, 332, 658), (658, 0, 0, 332, 659), (659, 0, 3, 146, 660), (660, 4, 20, 0, 661), (661, 5, 0, 0, 662), (662, 33, 9, 0, 663), (663, 0, 0, 332, 664), (664, 0, 3, 146, 665), (665, 4, 36, 0, 666), (666, 5, 0, 0, 667), (667, 33, 9, 0, 668), (668, 0, 0, 332, 669), (669, 0, 3, 146, 670), (670, 4, 52, 0, 671), (671, 5, 0, 0, 672), (672, 33, 9, 0, 673), (673, 0, 0, 332, 674), (674, 0, 3, 146, 675), (675, 4, 68, 0, 676), (676, 5, 0, 0, 677), (677, 33, 9, 0, 678), (678, 41, 206, 0, 681), (681, 21, 0, 0, 682), (682, 0, 2, 332, 683), (683, 0, 0, 332, 684), (684, 0, 3, 146, 685), (685, 4, 20, 0, 686), (686, 5, 0, 0, 687), (687, 33, 9, 0, 688), (688, 0, 0, 332, 689), (689, 0, 3, 146, 690), (690, 4, 36, 0, 691), (691, 5, 0, 0, 692), (692, 33, 9, 0, 693), (693, 0, 0, 332, 694), (694, 0, 3, 146, 695), (695, 4, 52, 0, 696), (696, 5, 0, 0, 697), (697, 33, 9, 0, 698), (698, 0, 0, 332, 699), (699, 0, 3, 146, 700), (700, 4, 68, 0, 701), (701, 5, 0, 0, 702), (702, 33, 9, 0, 703), (703, 41, 205, 0, 706), (706, 21, 0, 0, 707), (707, 23, 1795, 0, 710)]), (710, [(710, 0, 1, 332, 711), (711, 41, 204, 0, 714), (714, 21, 0, 0, 715), (715, 0, 2, 332, 716), (716, 41, 203, 0, 719), (719, 21, 0, 0, 720), (720, 23, 1795, 0, 723)]), (723, [(723, 0, 1, 332, 724), (724, 41, 201, 0, 727), (727, 21, 0, 0, 728), (728, 0, 2, 332, 729), (729, 41, 198, 0, 732), (732, 21, 0, 0, 733), (733, 23, 1795, 0, 736)]), (736, [(736, 0, 1, 332, 737), (737, 41, 196, 0, 740), (740, 21, 0, 0, 741), (741, 0, 2, 332, 742), (742, 41, 195, 0, 745), (745, 21, 0, 0, 746), (746, 23, 1795, 0, 749)]), (749, [(749, 0, 1, 332, 750), (750, 41, 190, 0, 753), (753, 21, 0, 0, 754), (754, 0, 2, 332, 755), (755, 41, 188, 0, 758), (758, 21, 0, 0, 759), (759, 23, 1795, 0, 762)]), (762, [(762, 0, 1, 332, 763), (763, 0, 0, 332, 764), (764, 0, 3, 146, 765), (765, 4, 20, 0, 766), (766, 5, 0, 0, 767), (767, 33, 9, 0, 768), (768, 41, 187, 0, 771), (771, 21, 0, 0, 772), (772, 0, 2, 332, 773), (773, 0, 0, 332, 774), (774, 0, 3, 146, 775), (775, 4, 20, 0, 776), (776, 5, 0, 0, 777), (777, 33, 9, 0, 778), (778, 41, 186, 0, 781), (781, 21, 0, 0, 782), (782, 23, 1795, 0, 785)])]
def zc_L_law_4 : List (Nat × List zx_E) := [(785, [(785, 0, 1, 332, 786), (786, 0, 0, 332, 787), (787, 0, 3, 146, 788), (788, 4, 20, 0, 789), (789, 5, 0, 0, 790), (790, 33, 9, 0, 791), (791, 41, 185, 0, 794), (794, 21, 0, 0, 795), (795, 0, 2, 332, 796), (796, 0, 0, 332, 797), (797, 0, 3, 146, 798), (798, 4, 20, 0, 799), (799, 5, 0, 0, 800), (800, 33, 9, 0, 801), (801, 41, 184, 0, 804), (804, 21, 0, 0, 805), (805, 23, 1795, 0, 808)]), (808, [(808, 0, 1, 332, 809), (809, 0, 0, 332, 810), (810, 0, 3, 146, 811), (811, 4, 20, 0, 812), (812, 5, 0, 0, 813), (813, 33, 9, 0, 814), (814, 41, 181, 0, 817), (817, 21, 0, 0, 818), (818, 0, 2, 332, 819), (819, 0, 0, 332, 820), (820, 0, 3, 146, 821), (821, 4, 20, 0, 822), (822, 5, 0, 0, 823), (823, 33, 9, 0, 824), (824, 41, 179, 0, 827), (827, 21, 0, 0, 828), (828, 23, 1795, 0, 831)]), (831, [(831, 0, 1, 332, 832), (832, 0, 0, 332, 833), (833, 0, 3, 146, 834), (834, 4, 20, 0, 835), (835, 5, 0, 0, 836), (836, 33, 9, 0, 837), (837, 0, 0, 332, 838), (838, 0, 3, 146, 839), (839, 4, 36, 0, 840), (840, 5, 0, 0, 841), (841, 33, 9, 0, 842), (842, 41, 168, 0, 845), (845, 21, 0, 0, 846), (846, 0, 2, 332, 847), (847, 0, 0, 332, 848), (848, 0, 3, 146, 849), (849, 4, 20, 0, 850), (850, 5, 0, 0, 851), (851, 33, 9, 0, 852), (852, 0, 0, 332, 853), (853, 0, 3, 146, 854), (854, 4, 36, 0, 855), (855, 5, 0, 0, 856), (856, 33, 9, 0, 857), (857, 41, 162, 0, 860), (860, 21, 0, 0, 861), (861, 23, 1795, 0, 864)]), (864, [(864, 0, 1, 332, 865), (865, 0, 0, 332, 866), (866, 0, 3, 146, 867), (867, 4, 20, 0, 868), (868, 5, 0, 0, 869), (869, 33, 9, 0, 870), (870, 41, 160, 0, 873), (873, 21, 0, 0, 874), (874, 0, 2, 332, 875), (875, 0, 0, 332, 876), (876, 0, 3, 146, 877), (877, 4, 20, 0, 878), (878, 5, 0, 0, 879), (879, 33, 9, 0, 880), (880, 41, 159, 0, 883), (883, 21, 0, 0, 884), (884, 23, 1795, 0, 887)]), (887, [(887, 0, 1, 332, 888), (888, 0, 0, 332, 889), (889, 0, 3, 146, 890), (890, 4, 20, 0, 891), (891, 5, 0, 0, 892), (892, 33, 9, 0, 893), (893, 0, 0, 332, 894), (894, 0, 3, 146, 895), (895, 4, 36, 0, 896), (896, 5, 0, 0, 897), (897, 33, 9, 0, 898), (898, 41, 154, 0, 901), (901, 21, 0, 0, 902), (902, 0, 2, 332, 903), (903, 0, 0, 332, 904), (904, 0, 3, 146, 905), (905, 4, 20, 0, 906), (906, 5, 0, 0, 907), (907, 33, 9, 0, 908), (908, 0, 0, 332, 909), (909, 0, 3, 146, 910), (910, 4, 36, 0, 911), (911, 5, 0, 0, 912), (912, 33, 9, 0, 913), (913, 41, 151, 0, 916), (916, 21, 0, 0, 917), (917, 23, 1795, 0, 920)])]
def zc_L_law_5 : List (Nat × List zx_E) := [(920, [(920, 0, 1, 332, 921), (921, 0, 0, 332, 922), (922, 0, 3, 146, 923), (923, 4, 20, 0, 924), (924, 5, 0, 0, 925), (925, 33, 9, 0, 926), (926, 41, 150, 0, 929), (929, 21, 0, 0, 930), (930, 0, 2, 332, 931), (931, 0, 0, 332, 932), (932, 0, 3, 146, 933), (933, 4, 20, 0, 934), (934, 5, 0, 0, 935), (935, 33, 9, 0, 936), (936, 41, 149, 0, 939), (939, 21, 0, 0, 940), (940, 23, 1795, 0, 943)]), (943, [(943, 0, 1, 332, 944), (944, 0, 0, 332, 945), (945, 0, 3, 146, 946), (946, 4, 20, 0, 947), (947, 5, 0, 0, 948), (948, 33, 9, 0, 949), (949, 41, 148, 0, 952), (952, 21, 0, 0, 953), (953, 0, 2, 332, 954), (954, 0, 0, 332, 955), (955, 0, 3, 146, 956), (956, 4, 20, 0, 957), (957, 5, 0, 0, 958), (958, 33, 9, 0, 959), (959, 41, 147, 0, 962), (962, 21, 0, 0, 963), (963, 23, 1795, 0, 966)]), (966, [(966, 0, 1, 332, 967), (967, 0, 0, 332, 968), (968, 0, 3, 146, 969), (969, 4, 20, 0, 970), (970, 5, 0, 0, 971), (971, 33, 9, 0, 972), (972, 0, 0, 332, 973), (973, 0, 3, 146, 974), (974, 4, 36, 0, 975), (975, 5, 0, 0, 976), (976, 33, 9, 0, 977), (977, 0, 0, 332, 978), (978, 0, 3, 146, 979), (979, 4, 52, 0, 980), (980, 5, 0, 0, 981), (981, 33, 9, 0, 982), (982, 0, 0, 332, 983), (983, 0, 3, 146, 984), (984, 4, 68, 0, 985), (985, 5, 0, 0, 986), (986, 33, 9, 0, 987), (987, 41, 144, 0, 990), (990, 21, 0, 0, 991), (991, 0, 2, 332, 992), (992, 0, 0, 332, 993), (993, 0, 3, 146, 994), (994, 4, 20, 0, 995), (995, 5, 0, 0, 996), (996, 33, 9, 0, 997), (997, 0, 0, 332, 998), (998, 0, 3, 146, 999), (999, 4, 36, 0, 1000), (1000, 5, 0, 0, 1001), (1001, 33, 9, 0, 1002), (1002, 0, 0, 332, 1003), (1003, 0, 3, 146, 1004), (1004, 4, 52, 0, 1005), (1005, 5, 0, 0, 1006), (1006, 33, 9, 0, 1007), (1007, 0, 0, 332, 1008), (1008, 0, 3, 146, 1009), (1009, 4, 68, 0, 1010), (1010, 5, 0, 0, 1011), (1011, 33, 9, 0, 1012), (1012, 41, 142, 0, 1015), (1015, 21, 0, 0, 1016), (1016, 23, 1795, 0, 1019)]), (1019, [(1019, 0, 1, 332, 1020), (1020, 0, 0, 332, 1021), (1021, 0, 3, 146, 1022), (1022, 4, 20, 0, 1023), (1023, 5, 0, 0, 1024), (1024, 33, 9, 0, 1025), (1025, 41, 141, 0, 1028), (1028, 21, 0, 0, 1029), (1029, 0, 2, 332, 1030), (1030, 0, 0, 332, 1031), (1031, 0, 3, 146, 1032), (1032, 4, 20, 0, 1033), (1033, 5, 0, 0, 1034), (1034, 33, 9, 0, 1035), (1035, 41, 140, 0, 1038), (1038, 21, 0, 0, 1039), (1039, 23, 1795, 0, 1042)]), (1042, [(1042, 0, 1, 332, 1043), (1043, 0, 0, 332, 1044), (1044, 0, 3, 146, 1045), (1045, 4, 20, 0, 1046), (1046, 5, 0, 0, 1047), (1047, 33, 9, 0, 1048), (1048, 41, 134, 0, 1051), (1051, 21, 0, 0, 1052), (1052, 0, 2, 332, 1053), (1053, 0, 0, 332, 1054), (1054, 0, 3, 146, 1055), (1055, 4, 20, 0, 1056), (1056, 5, 0, 0, 1057), (1057, 33, 9, 0, 1058), (1058, 41, 130, 0, 1061), (1061, 21, 0, 0, 1062), (1062, 23, 1795, 0, 1065)])]
def zc_L_law_6 : List (Nat × List zx_E) := [(1065, [(1065, 0, 1, 332, 1066), (1066, 0, 0, 332, 1067), (1067, 0, 3, 146, 1068), (1068, 4, 20, 0, 1069), (1069, 5, 0, 0, 1070), (1070, 33, 9, 0, 1071), (1071, 0, 0, 332, 1072), (1072, 0, 3, 146, 1073), (1073, 4, 36, 0, 1074), (1074, 5, 0, 0, 1075), (1075, 33, 9, 0, 1076), (1076, 41, 129, 0, 1079), (1079, 21, 0, 0, 1080), (1080, 0, 2, 332, 1081), (1081, 0, 0, 332, 1082), (1082, 0, 3, 146, 1083), (1083, 4, 20, 0, 1084), (1084, 5, 0, 0, 1085), (1085, 33, 9, 0, 1086), (1086, 0, 0, 332, 1087), (1087, 0, 3, 146, 1088), (1088, 4, 36, 0, 1089), (1089, 5, 0, 0, 1090), (1090, 33, 9, 0, 1091), (1091, 41, 128, 0, 1094), (1094, 21, 0, 0, 1095), (1095, 23, 1795, 0, 1098)]), (1098, [(1098, 0, 1, 332, 1099), (1099, 0, 0, 332, 1100), (1100, 0, 3, 146, 1101), (1101, 4, 20, 0, 1102), (1102, 5, 0, 0, 1103), (1103, 33, 9, 0, 1104), (1104, 0, 0, 332, 1105), (1105, 0, 3, 146, 1106), (1106, 4, 36, 0, 1107), (1107, 5, 0, 0, 1108), (1108, 33, 9, 0, 1109), (1109, 0, 0, 332, 1110), (1110, 0, 3, 146, 1111), (1111, 4, 52, 0, 1112), (1112, 5, 0, 0, 1113), (1113, 33, 9, 0, 1114), (1114, 0, 0, 332, 1115), (1115, 0, 3, 146, 1116), (1116, 4, 68, 0, 1117), (1117, 5, 0, 0, 1118), (1118, 33, 9, 0, 1119), (1119, 41, 127, 0, 1122), (1122, 21, 0, 0, 1123), (1123, 0, 2, 332, 1124), (1124, 0, 0, 332, 1125), (1125, 0, 3, 146, 1126), (1126, 4, 20, 0, 1127), (1127, 5, 0, 0, 1128), (1128, 33, 9, 0, 1129), (1129, 0, 0, 332, 1130), (1130, 0, 3, 146, 1131), (1131, 4, 36, 0, 1132), (1132, 5, 0, 0, 1133), (1133, 33, 9, 0, 1134), (1134, 0, 0, 332, 1135), (1135, 0, 3, 146, 1136), (1136, 4, 52, 0, 1137), (1137, 5, 0, 0, 1138), (1138, 33, 9, 0, 1139), (1139, 0, 0, 332, 1140), (1140, 0, 3, 146, 1141), (1141, 4, 68, 0, 1142), (1142, 5, 0, 0, 1143), (1143, 33, 9, 0, 1144), (1144, 41, 126, 0, 1147), (1147, 21, 0, 0, 1148), (1148, 23, 1795, 0, 1151)]), (1151, [(1151, 0, 1, 332, 1152), (1152, 0, 0, 332, 1153), (1153, 0, 3, 146, 1154), (1154, 4, 20, 0, 1155), (1155, 5, 0, 0, 1156), (1156, 33, 9, 0, 1157), (1157, 0, 0, 332, 1158), (1158, 0, 3, 146, 1159), (1159, 4, 36, 0, 1160), (1160, 5, 0, 0, 1161), (1161, 33, 9, 0, 1162), (1162, 0, 0, 332, 1163), (1163, 0, 3, 146, 1164), (1164, 4, 52, 0, 1165), (1165, 5, 0, 0, 1166), (1166, 33, 9, 0, 1167), (1167, 41, 125, 0, 1170), (1170, 21, 0, 0, 1171), (1171, 0, 2, 332, 1172), (1172, 0, 0, 332, 1173), (1173, 0, 3, 146, 1174), (1174, 4, 20, 0, 1175), (1175, 5, 0, 0, 1176), (1176, 33, 9, 0, 1177), (1177, 0, 0, 332, 1178), (1178, 0, 3, 146, 1179), (1179, 4, 36, 0, 1180), (1180, 5, 0, 0, 1181), (1181, 33, 9, 0, 1182), (1182, 0, 0, 332, 1183), (1183, 0, 3, 146, 1184), (1184, 4, 52, 0, 1185), (1185, 5, 0, 0, 1186), (1186, 33, 9, 0, 1187), (1187, 41, 124, 0, 1190), (1190, 21, 0, 0, 1191), (1191, 23, 1795, 0, 1194)])]
def zc_L_law_7 : List (Nat × List zx_E) := [(1194, [(1194, 0, 1, 332, 1195), (1195, 0, 0, 332, 1196), (1196, 0, 3, 146, 1197), (1197, 4, 20, 0, 1198), (1198, 5, 0, 0, 1199), (1199, 33, 9, 0, 1200), (1200, 0, 0, 332, 1201), (1201, 0, 3, 146, 1202), (1202, 4, 36, 0, 1203), (1203, 5, 0, 0, 1204), (1204, 33, 9, 0, 1205), (1205, 0, 0, 332, 1206), (1206, 0, 3, 146, 1207), (1207, 4, 52, 0, 1208), (1208, 5, 0, 0, 1209), (1209, 33, 9, 0, 1210), (1210, 41, 122, 0, 1213), (1213, 21, 0, 0, 1214), (1214, 0, 2, 332, 1215), (1215, 0, 0, 332, 1216), (1216, 0, 3, 146, 1217), (1217, 4, 20, 0, 1218), (1218, 5, 0, 0, 1219), (1219, 33, 9, 0, 1220), (1220, 0, 0, 332, 1221), (1221, 0, 3, 146, 1222), (1222, 4, 36, 0, 1223), (1223, 5, 0, 0, 1224), (1224, 33, 9, 0, 1225), (1225, 0, 0, 332, 1226), (1226, 0, 3, 146, 1227), (1227, 4, 52, 0, 1228), (1228, 5, 0, 0, 1229), (1229, 33, 9, 0, 1230), (1230, 41, 121, 0, 1233), (1233, 21, 0, 0, 1234), (1234, 23, 1795, 0, 1237)]), (1237, [(1237, 0, 1, 332, 1238), (1238, 0, 0, 332, 1239), (1239, 0, 3, 146, 1240), (1240, 4, 20, 0, 1241), (1241, 5, 0, 0, 1242), (1242, 33, 9, 0, 1243), (1243, 0, 0, 332, 1244), (1244, 0, 3, 146, 1245), (1245, 4, 36, 0, 1246), (1246, 5, 0, 0, 1247), (1247, 33, 9, 0, 1248), (1248, 41, 118, 0, 1251), (1251, 21, 0, 0, 1252), (1252, 0, 2, 332, 1253), (1253, 0, 0, 332, 1254), (1254, 0, 3, 146, 1255), (1255, 4, 20, 0, 1256), (1256, 5, 0, 0, 1257), (1257, 33, 9, 0, 1258), (1258, 0, 0, 332, 1259), (1259, 0, 3, 146, 1260), (1260, 4, 36, 0, 1261), (1261, 5, 0, 0, 1262), (1262, 33, 9, 0, 1263), (1263, 41, 117, 0, 1266), (1266, 21, 0, 0, 1267), (1267, 23, 1795, 0, 1270)]), (1270, [(1270, 0, 1, 332, 1271), (1271, 41, 113, 0, 1274), (1274, 21, 0, 0, 1275), (1275, 0, 2, 332, 1276), (1276, 41, 110, 0, 1279), (1279, 21, 0, 0, 1280), (1280, 23, 1795, 0, 1283)]), (1283, [(1283, 0, 1, 332, 1284), (1284, 0, 0, 332, 1285), (1285, 0, 3, 146, 1286), (1286, 4, 20, 0, 1287), (1287, 5, 0, 0, 1288), (1288, 33, 9, 0, 1289), (1289, 0, 0, 332, 1290), (1290, 0, 3, 146, 1291), (1291, 4, 36, 0, 1292), (1292, 5, 0, 0, 1293), (1293, 33, 9, 0, 1294), (1294, 0, 0, 332, 1295), (1295, 0, 3, 146, 1296), (1296, 4, 52, 0, 1297), (1297, 5, 0, 0, 1298), (1298, 33, 9, 0, 1299), (1299, 0, 0, 332, 1300), (1300, 0, 3, 146, 1301), (1301, 4, 68, 0, 1302), (1302, 5, 0, 0, 1303), (1303, 33, 9, 0, 1304), (1304, 0, 0, 332, 1305), (1305, 0, 3, 146, 1306), (1306, 4, 84, 0, 1307), (1307, 5, 0, 0, 1308), (1308, 33, 9, 0, 1309), (1309, 41, 107, 0, 1312), (1312, 21, 0, 0, 1313), (1313, 0, 2, 332, 1314), (1314, 0, 0, 332, 1315), (1315, 0, 3, 146, 1316), (1316, 4, 20, 0, 1317), (1317, 5, 0, 0, 1318), (1318, 33, 9, 0, 1319), (1319, 0, 0, 332, 1320), (1320, 0, 3, 146, 1321), (1321, 4, 36, 0, 1322), (1322, 5, 0, 0, 1323), (1323, 33, 9, 0, 1324), (1324, 0, 0, 332, 1325), (1325, 0, 3, 146, 1326), (1326, 4, 52, 0, 1327), (1327, 5, 0, 0, 1328), (1328, 33, 9, 0, 1329), (1329, 0, 0, 332, 1330), (1330, 0, 3, 146, 1331), (1331, 4, 68, 0, 1332), (1332, 5, 0, 0, 1333), (1333, 33, 9, 0, 1334), (1334, 0, 0, 332, 1335), (1335, 0, 3, 146, 1336), (1336, 4, 84, 0, 1337), (1337, 5, 0, 0, 1338), (1338, 33, 9, 0, 1339), (1339, 41, 106, 0, 1342), (1342, 21, 0, 0, 1343), (1343, 23, 1795, 0, 1346)])]
def zc_L_law_8 : List (Nat × List zx_E) := [(1346, [(1346, 0, 1, 332, 1347), (1347, 0, 0, 332, 1348), (1348, 0, 3, 146, 1349), (1349, 4, 20, 0, 1350), (1350, 5, 0, 0, 1351), (1351, 33, 9, 0, 1352), (1352, 0, 0, 332, 1353), (1353, 0, 3, 146, 1354), (1354, 4, 36, 0, 1355), (1355, 5, 0, 0, 1356), (1356, 33, 9, 0, 1357), (1357, 0, 0, 332, 1358), (1358, 0, 3, 146, 1359), (1359, 4, 52, 0, 1360), (1360, 5, 0, 0, 1361), (1361, 33, 9, 0, 1362), (1362, 0, 0, 332, 1363), (1363, 0, 3, 146, 1364), (1364, 4, 68, 0, 1365), (1365, 5, 0, 0, 1366), (1366, 33, 9, 0, 1367), (1367, 0, 0, 332, 1368), (1368, 0, 3, 146, 1369), (1369, 4, 84, 0, 1370), (1370, 5, 0, 0, 1371), (1371, 33, 9, 0, 1372), (1372, 41, 105, 0, 1375), (1375, 21, 0, 0, 1376), (1376, 0, 2, 332, 1377), (1377, 0, 0, 332, 1378), (1378, 0, 3, 146, 1379), (1379, 4, 20, 0, 1380), (1380, 5, 0, 0, 1381), (1381, 33, 9, 0, 1382), (1382, 0, 0, 332, 1383), (1383, 0, 3, 146, 1384), (1384, 4, 36, 0, 1385), (1385, 5, 0, 0, 1386), (1386, 33, 9, 0, 1387), (1387, 0, 0, 332, 1388), (1388, 0, 3, 146, 1389), (1389, 4, 52, 0, 1390), (1390, 5, 0, 0, 1391), (1391, 33, 9, 0, 1392), (1392, 0, 0, 332, 1393), (1393, 0, 3, 146, 1394), (1394, 4, 68, 0, 1395), (1395, 5, 0, 0, 1396), (1396, 33, 9, 0, 1397), (1397, 0, 0, 332, 1398), (1398, 0, 3, 146, 1399), (1399, 4, 84, 0, 1400), (1400, 5, 0, 0, 1401), (1401, 33, 9, 0, 1402), (1402, 41, 104, 0, 1405), (1405, 21, 0, 0, 1406), (1406, 23, 1795, 0, 1409)]), (1409, [(1409, 0, 1, 332, 1410), (1410, 0, 0, 332, 1411), (1411, 0, 3, 146, 1412), (1412, 4, 20, 0, 1413), (1413, 5, 0, 0, 1414), (1414, 33, 9, 0, 1415), (1415, 0, 0, 332, 1416), (1416, 0, 3, 146, 1417), (1417, 4, 36, 0, 1418), (1418, 5, 0, 0, 1419), (1419, 33, 9, 0, 1420), (1420, 0, 0, 332, 1421), (1421, 0, 3, 146, 1422), (1422, 4, 52, 0, 1423), (1423, 5, 0, 0, 1424), (1424, 33, 9, 0, 1425), (1425, 0, 0, 332, 1426), (1426, 0, 3, 146, 1427), (1427, 4, 68, 0, 1428), (1428, 5, 0, 0, 1429), (1429, 33, 9, 0, 1430), (1430, 0, 0, 332, 1431), (1431, 0, 3, 146, 1432), (1432, 4, 84, 0, 1433), (1433, 5, 0, 0, 1434), (1434, 33, 9, 0, 1435), (1435, 41, 92, 0, 1438), (1438, 21, 0, 0, 1439), (1439, 0, 2, 332, 1440), (1440, 0, 0, 332, 1441), (1441, 0, 3, 146, 1442), (1442, 4, 20, 0, 1443), (1443, 5, 0, 0, 1444), (1444, 33, 9, 0, 1445), (1445, 0, 0, 332, 1446), (1446, 0, 3, 146, 1447), (1447, 4, 36, 0, 1448), (1448, 5, 0, 0, 1449), (1449, 33, 9, 0, 1450), (1450, 0, 0, 332, 1451), (1451, 0, 3, 146, 1452), (1452, 4, 52, 0, 1453), (1453, 5, 0, 0, 1454), (1454, 33, 9, 0, 1455), (1455, 0, 0, 332, 1456), (1456, 0, 3, 146, 1457), (1457, 4, 68, 0, 1458), (1458, 5, 0, 0, 1459), (1459, 33, 9, 0, 1460), (1460, 0, 0, 332, 1461), (1461, 0, 3, 146, 1462), (1462, 4, 84, 0, 1463), (1463, 5, 0, 0, 1464), (1464, 33, 9, 0, 1465), (1465, 41, 83, 0, 1468), (1468, 21, 0, 0, 1469), (1469, 23, 1795, 0, 1472)])]
def zc_L_law_9 : List (Nat × List zx_E) := [(1472, [(1472, 0, 1, 332, 1473), (1473, 0, 0, 332, 1474), (1474, 0, 3, 146, 1475), (1475, 4, 20, 0, 1476), (1476, 5, 0, 0, 1477), (1477, 33, 9, 0, 1478), (1478, 0, 0, 332, 1479), (1479, 0, 3, 146, 1480), (1480, 4, 36, 0, 1481), (1481, 5, 0, 0, 1482), (1482, 33, 9, 0, 1483), (1483, 41, 79, 0, 1486), (1486, 21, 0, 0, 1487), (1487, 0, 2, 332, 1488), (1488, 0, 0, 332, 1489), (1489, 0, 3, 146, 1490), (1490, 4, 20, 0, 1491), (1491, 5, 0, 0, 1492), (1492, 33, 9, 0, 1493), (1493, 0, 0, 332, 1494), (1494, 0, 3, 146, 1495), (1495, 4, 36, 0, 1496), (1496, 5, 0, 0, 1497), (1497, 33, 9, 0, 1498), (1498, 41, 77, 0, 1501), (1501, 21, 0, 0, 1502), (1502, 23, 1795, 0, 1505)]), (1505, [(1505, 0, 1, 332, 1506), (1506, 0, 0, 332, 1507), (1507, 0, 3, 146, 1508), (1508, 4, 20, 0, 1509), (1509, 5, 0, 0, 1510), (1510, 33, 9, 0, 1511), (1511, 41, 75, 0, 1514), (1514, 21, 0, 0, 1515), (1515, 0, 2, 332, 1516), (1516, 0, 0, 332, 1517), (1517, 0, 3, 146, 1518), (1518, 4, 20, 0, 1519), (1519, 5, 0, 0, 1520), (1520, 33, 9, 0, 1521), (1521, 41, 74, 0, 1524), (1524, 21, 0, 0, 1525), (1525, 23, 1795, 0, 1528)]), (1528, [(1528, 0, 1, 332, 1529), (1529, 0, 0, 332, 1530), (1530, 0, 3, 146, 1531), (1531, 4, 20, 0, 1532), (1532, 5, 0, 0, 1533), (1533, 33, 9, 0, 1534), (1534, 0, 0, 332, 1535), (1535, 0, 3, 146, 1536), (1536, 4, 36, 0, 1537), (1537, 5, 0, 0, 1538), (1538, 33, 9, 0, 1539), (1539, 41, 72, 0, 1542), (1542, 21, 0, 0, 1543), (1543, 0, 2, 332, 1544), (1544, 0, 0, 332, 1545), (1545, 0, 3, 146, 1546), (1546, 4, 20, 0, 1547), (1547, 5, 0, 0, 1548), (1548, 33, 9, 0, 1549), (1549, 0, 0, 332, 1550), (1550, 0, 3, 146, 1551), (1551, 4, 36, 0, 1552), (1552, 5, 0, 0, 1553), (1553, 33, 9, 0, 1554), (1554, 41, 71, 0, 1557), (1557, 21, 0, 0, 1558), (1558, 23, 1795, 0, 1561)]), (1561, [(1561, 0, 1, 332, 1562), (1562, 0, 0, 332, 1563), (1563, 0, 3, 146, 1564), (1564, 4, 20, 0, 1565), (1565, 5, 0, 0, 1566), (1566, 33, 9, 0, 1567), (1567, 41, 69, 0, 1570), (1570, 21, 0, 0, 1571), (1571, 0, 2, 332, 1572), (1572, 0, 0, 332, 1573), (1573, 0, 3, 146, 1574), (1574, 4, 20, 0, 1575), (1575, 5, 0, 0, 1576), (1576, 33, 9, 0, 1577), (1577, 41, 68, 0, 1580), (1580, 21, 0, 0, 1581), (1581, 23, 1795, 0, 1584)]), (1584, [(1584, 0, 1, 332, 1585), (1585, 0, 0, 332, 1586), (1586, 0, 3, 146, 1587), (1587, 4, 20, 0, 1588), (1588, 5, 0, 0, 1589), (1589, 33, 9, 0, 1590), (1590, 41, 67, 0, 1593), (1593, 0, 2, 332, 1594), (1594, 0, 0, 332, 1595), (1595, 0, 3, 146, 1596), (1596, 4, 20, 0, 1597), (1597, 5, 0, 0, 1598), (1598, 33, 9, 0, 1599), (1599, 41, 66, 0, 1602), (1602, 24, 1795, 4, 1605), (1605, 4, 4, 0, 1606), (1606, 42, 0, 0, 1607)])]
def zc_L_law_10 : List (Nat × List zx_E) := [(1607, [(1607, 0, 1, 332, 1608), (1608, 0, 0, 332, 1609), (1609, 0, 3, 146, 1610), (1610, 4, 20, 0, 1611), (1611, 5, 0, 0, 1612), (1612, 33, 9, 0, 1613), (1613, 0, 0, 332, 1614), (1614, 0, 3, 146, 1615), (1615, 4, 36, 0, 1616), (1616, 5, 0, 0, 1617), (1617, 33, 9, 0, 1618), (1618, 41, 60, 0, 1621), (1621, 21, 0, 0, 1622), (1622, 0, 2, 332, 1623), (1623, 0, 0, 332, 1624), (1624, 0, 3, 146, 1625), (1625, 4, 20, 0, 1626), (1626, 5, 0, 0, 1627), (1627, 33, 9, 0, 1628), (1628, 0, 0, 332, 1629), (1629, 0, 3, 146, 1630), (1630, 4, 36, 0, 1631), (1631, 5, 0, 0, 1632), (1632, 33, 9, 0, 1633), (1633, 41, 58, 0, 1636), (1636, 21, 0, 0, 1637), (1637, 23, 1795, 0, 1640)]), (1640, [(1640, 0, 1, 332, 1641), (1641, 0, 0, 332, 1642), (1642, 0, 3, 146, 1643), (1643, 4, 20, 0, 1644), (1644, 5, 0, 0, 1645), (1645, 33, 9, 0, 1646), (1646, 0, 0, 332, 1647), (1647, 0, 3, 146, 1648), (1648, 4, 36, 0, 1649), (1649, 5, 0, 0, 1650), (1650, 33, 9, 0, 1651), (1651, 41, 55, 0, 1654), (1654, 21, 0, 0, 1655), (1655, 0, 2, 332, 1656), (1656, 0, 0, 332, 1657), (1657, 0, 3, 146, 1658), (1658, 4, 20, 0, 1659), (1659, 5, 0, 0, 1660), (1660, 33, 9, 0, 1661), (1661, 0, 0, 332, 1662), (1662, 0, 3, 146, 1663), (1663, 4, 36, 0, 1664), (1664, 5, 0, 0, 1665), (1665, 33, 9, 0, 1666), (1666, 41, 54, 0, 1669), (1669, 21, 0, 0, 1670), (1670, 23, 1795, 0, 1673)]), (1673, [(1673, 0, 1, 332, 1674), (1674, 0, 0, 332, 1675), (1675, 0, 3, 146, 1676), (1676, 4, 20, 0, 1677), (1677, 5, 0, 0, 1678), (1678, 33, 9, 0, 1679), (1679, 0, 0, 332, 1680), (1680, 0, 3, 146, 1681), (1681, 4, 36, 0, 1682), (1682, 5, 0, 0, 1683), (1683, 33, 9, 0, 1684), (1684, 0, 0, 332, 1685), (1685, 0, 3, 146, 1686), (1686, 4, 52, 0, 1687), (1687, 5, 0, 0, 1688), (1688, 33, 9, 0, 1689), (1689, 0, 0, 332, 1690), (1690, 0, 3, 146, 1691), (1691, 4, 68, 0, 1692), (1692, 5, 0, 0, 1693), (1693, 33, 9, 0, 1694), (1694, 41, 35, 0, 1697), (1697, 21, 0, 0, 1698), (1698, 0, 2, 332, 1699), (1699, 0, 0, 332, 1700), (1700, 0, 3, 146, 1701), (1701, 4, 20, 0, 1702), (1702, 5, 0, 0, 1703), (1703, 33, 9, 0, 1704), (1704, 0, 0, 332, 1705), (1705, 0, 3, 146, 1706), (1706, 4, 36, 0, 1707), (1707, 5, 0, 0, 1708), (1708, 33, 9, 0, 1709), (1709, 0, 0, 332, 1710), (1710, 0, 3, 146, 1711), (1711, 4, 52, 0, 1712), (1712, 5, 0, 0, 1713), (1713, 33, 9, 0, 1714), (1714, 0, 0, 332, 1715), (1715, 0, 3, 146, 1716), (1716, 4, 68, 0, 1717), (1717, 5, 0, 0, 1718), (1718, 33, 9, 0, 1719), (1719, 41, 15, 0, 1722), (1722, 21, 0, 0, 1723), (1723, 23, 1795, 0, 1726)])]
def zc_L_law_11 : List (Nat × List zx_E) := [(1726, [(1726, 0, 1, 332, 1727), (1727, 0, 0, 332, 1728), (1728, 0, 3, 146, 1729), (1729, 4, 20, 0, 1730), (1730, 5, 0, 0, 1731), (1731, 33, 9, 0, 1732), (1732, 41, 14, 0, 1735), (1735, 21, 0, 0, 1736), (1736, 0, 2, 332, 1737), (1737, 0, 0, 332, 1738), (1738, 0, 3, 146, 1739), (1739, 4, 20, 0, 1740), (1740, 5, 0, 0, 1741), (1741, 33, 9, 0, 1742), (1742, 41, 13, 0, 1745), (1745, 21, 0, 0, 1746), (1746, 23, 1795, 0, 1749)]), (1749, [(1749, 0, 1, 332, 1750), (1750, 0, 0, 332, 1751), (1751, 0, 3, 146, 1752), (1752, 4, 20, 0, 1753), (1753, 5, 0, 0, 1754), (1754, 33, 9, 0, 1755), (1755, 41, 8, 0, 1758), (1758, 21, 0, 0, 1759), (1759, 0, 2, 332, 1760), (1760, 0, 0, 332, 1761), (1761, 0, 3, 146, 1762), (1762, 4, 20, 0, 1763), (1763, 5, 0, 0, 1764), (1764, 33, 9, 0, 1765), (1765, 41, 5, 0, 1768), (1768, 21, 0, 0, 1769), (1769, 23, 1795, 0, 1772)]), (1772, [(1772, 0, 1, 332, 1773), (1773, 0, 0, 332, 1774), (1774, 0, 3, 146, 1775), (1775, 4, 20, 0, 1776), (1776, 5, 0, 0, 1777), (1777, 33, 9, 0, 1778), (1778, 41, 2, 0, 1781), (1781, 21, 0, 0, 1782), (1782, 0, 2, 332, 1783), (1783, 0, 0, 332, 1784), (1784, 0, 3, 146, 1785), (1785, 4, 20, 0, 1786), (1786, 5, 0, 0, 1787), (1787, 33, 9, 0, 1788), (1788, 41, 0, 0, 1791), (1791, 21, 0, 0, 1792), (1792, 23, 1795, 0, 1795)]), (1795, [(1795, 3, 3, 100, 1798), (1798, 23, 18, 0, 1801)]), (1801, [(1801, 4, 20, 0, 1802), (1802, 42, 0, 0, 1803)])]
def zc_L_law : List (Nat × List zx_E) := zc_L_law_0 ++ (zc_L_law_1 ++ (zc_L_law_2 ++ (zc_L_law_3 ++ (zc_L_law_4 ++ (zc_L_law_5 ++ (zc_L_law_6 ++ (zc_L_law_7 ++ (zc_L_law_8 ++ (zc_L_law_9 ++ (zc_L_law_10 ++ (zc_L_law_11)))))))))))
def zc_X12_about : List (Nat × List zx_E) := [(0, [(0, 0, 1, 146, 1), (1, 26, 1, 0, 76)]), (76, [(76, 0, 0, 332, 77), (77, 41, 1, 0, 80), (80, 42, 0, 0, 81)]), (81, [(81, 0, 0, 332, 82), (82, 27, 199, 11, 85), (85, 0, 0, 332, 86), (86, 27, 199, 43, 89), (89, 33, 9, 0, 90), (90, 42, 0, 0, 91)]), (91, [(91, 0, 0, 332, 92), (92, 27, 199, 13, 95), (95, 0, 0, 332, 96), (96, 27, 199, 43, 99), (99, 33, 9, 0, 100), (100, 42, 0, 0, 101)]), (101, [(101, 0, 0, 332, 102), (102, 27, 199, 49, 105), (105, 4, 4, 0, 106), (106, 33, 9, 0, 107), (107, 42, 0, 0, 108)]), (108, [(108, 0, 0, 332, 109), (109, 27, 199, 49, 112), (112, 4, 20, 0, 113), (113, 33, 9, 0, 114), (114, 42, 0, 0, 115)]), (115, [(115, 0, 0, 332, 116), (116, 27, 199, 49, 119), (119, 4, 212, 0, 121), (121, 33, 9, 0, 122), (122, 42, 0, 0, 123)]), (123, [(123, 0, 0, 332, 124), (124, 27, 199, 49, 127), (127, 4, 228, 0, 129), (129, 33, 9, 0, 130), (130, 42, 0, 0, 131)]), (131, [(131, 0, 0, 332, 132), (132, 27, 199, 49, 135), (135, 4, 244, 0, 137), (137, 33, 9, 0, 138), (138, 42, 0, 0, 139)]), (139, [(139, 0, 0, 332, 140), (140, 27, 199, 52, 143), (143, 42, 0, 0, 144)]), (144, [(144, 0, 0, 332, 145), (145, 27, 199, 53, 148), (148, 42, 0, 0, 149)]), (149, [(149, 0, 0, 332, 150), (150, 27, 199, 68, 153), (153, 42, 0, 0, 154)]), (154, [(154, 0, 0, 332, 155), (155, 27, 199, 69, 158), (158, 42, 0, 0, 159)]), (159, [(159, 0, 0, 332, 160), (160, 27, 199, 2, 163), (163, 42, 0, 0, 164)]), (164, [(164, 0, 0, 332, 165), (165, 27, 199, 14, 168), (168, 0, 0, 332, 169), (169, 27, 199, 43, 172), (172, 33, 9, 0, 173), (173, 42, 0, 0, 174)]), (174, [(174, 0, 0, 332, 175), (175, 27, 199, 57, 178), (178, 42, 0, 0, 179)]), (179, [(179, 4, 68719476724, 0, 180), (180, 42, 0, 0, 181)])]
def zc_X12_many : List (Nat × List zx_E) := [(0, [(0, 0, 0, 332, 1), (1, 27, 199, 12, 4), (4, 0, 0, 332, 5), (5, 27, 199, 43, 8), (8, 33, 9, 0, 9), (9, 42, 0, 0, 10)])]
def zc_X11_about : List (Nat × List zx_E) := [(0, [(0, 0, 1, 146, 1), (1, 26, 2, 0, 76)]), (76, [(76, 0, 0, 332, 77), (77, 27, 183, 9, 80), (80, 27, 103, 9, 83), (83, 42, 0, 0, 84)]), (84, [(84, 0, 0, 332, 85), (85, 27, 183, 9, 88), (88, 27, 103, 8, 91), (91, 42, 0, 0, 92)]), (92, [(92, 0, 0, 332, 93), (93, 27, 183, 9, 96), (96, 27, 103, 10, 99), (99, 42, 0, 0, 100)]), (100, [(100, 0, 0, 332, 101), (101, 27, 183, 10, 104), (104, 27, 135, 0, 107), (107, 42, 0, 0, 108)]), (108, [(108, 0, 0, 332, 109), (109, 27, 183, 10, 112), (112, 27, 135, 1, 115), (115, 42, 0, 0, 116)]), (116, [(116, 0, 0, 332, 117), (117, 27, 183, 10, 120), (120, 27, 135, 3, 123), (123, 42, 0, 0, 124)]), (124, [(124, 0, 0, 332, 125), (125, 27, 183, 10, 128), (128, 27, 135, 4, 131), (131, 42, 0, 0, 132)]), (132, [(132, 0, 0, 332, 133), (133, 27, 183, 10, 136), (136, 27, 135, 5, 139), (139, 42, 0, 0, 140)]), (140, [(140, 0, 0, 332, 141), (141, 27, 183, 2, 144), (144, 41, 4, 0, 147), (147, 42, 0, 0, 148)]), (148, [(148, 0, 0, 332, 149), (149, 27, 183, 2, 152), (152, 41, 3, 0, 155), (155, 42, 0, 0, 156)]), (156, [(156, 0, 0, 332, 157), (157, 27, 183, 5, 160), (160, 27, 23, 4, 163), (163, 42, 0, 0, 164)]), (164, [(164, 0, 0, 332, 165), (165, 27, 183, 5, 168), (168, 27, 23, 5, 171), (171, 42, 0, 0, 172)]), (172, [(172, 0, 0, 332, 173), (173, 27, 183, 0, 176), (176, 27, 167, 1, 179), (179, 42, 0, 0, 180)]), (180, [(180, 0, 0, 332, 181), (181, 27, 183, 9, 184), (184, 27, 103, 7, 187), (187, 27, 7, 4, 190), (190, 42, 0, 0, 191)]), (191, [(191, 0, 0, 332, 192), (192, 27, 183, 8, 195), (195, 27, 87, 1, 198), (198, 42, 0, 0, 199)]), (199, [(199, 4, 68719476724, 0, 200), (200, 42, 0, 0, 201)])]
def zc_X2_undone : List (Nat × List zx_E) := [(0, [(0, 0, 0, 332, 1), (1, 27, 39, 3, 4), (4, 0, 0, 332, 5), (5, 27, 39, 2, 8), (8, 6, 0, 0, 9), (9, 42, 0, 0, 10)])]
def zc_X2_done : List (Nat × List zx_E) := [(0, [(0, 0, 0, 332, 1), (1, 27, 39, 2, 4), (4, 42, 0, 0, 5)])]
def zc_X12_back : List (Nat × List zx_E) := [(0, [(0, 0, 1, 146, 1), (1, 4, 4, 0, 2), (2, 4, 36, 0, 3), (3, 41, 7, 1, 6), (6, 25, 18, 4, 9), (9, 0, 0, 332, 10), (10, 27, 199, 71, 13), (13, 0, 1, 146, 14), (14, 33, 54, 0, 15), (15, 25, 20, 5, 18)]), (18, [(18, 4, 68719476724, 0, 19), (19, 42, 0, 0, 20)]), (20, [(20, 4, 4, 0, 21), (21, 1, 2, 146, 22)]), (22, [(22, 0, 2, 146, 23), (23, 4, 260, 0, 25), (25, 24, 51, 1, 28), (28, 0, 0, 332, 29), (29, 27, 199, 49, 32), (32, 0, 2, 146, 33), (33, 0, 0, 332, 34), (34, 27, 199, 70, 37), (37, 4, 260, 0, 39), (39, 0, 1, 146, 40), (40, 7, 0, 0, 41), (41, 0, 2, 146, 42), (42, 5, 0, 0, 43), (43, 33, 9, 0, 44), (44, 34, 9, 0, 45), (45, 3, 2, 20, 48), (48, 23, 22, 0, 51)]), (51, [(51, 0, 0, 332, 52), (52, 4, 4, 0, 53), (53, 28, 153092295, 52, 56), (56, 0, 0, 332, 57), (57, 4, 4, 0, 58), (58, 28, 153092295, 53, 61), (61, 0, 0, 332, 62), (62, 27, 199, 49, 65), (65, 4, 4, 0, 66), (66, 33, 9, 0, 67), (67, 41, 6, 1, 70), (70, 42, 0, 0, 71)])]
def zc_X12_bitsOf : List (Nat × List zx_E) := [(0, [(0, 4, 4, 0, 1), (1, 1, 1, 146, 2), (2, 0, 0, 146, 3), (3, 1, 2, 146, 4)]), (4, [(4, 0, 2, 146, 5), (5, 25, 20, 4, 8), (8, 3, 1, 20, 11), (11, 0, 2, 146, 12), (12, 0, 2, 146, 13), (13, 4, 20, 0, 14), (14, 6, 0, 0, 15), (15, 8, 0, 0, 16), (16, 1, 2, 146, 17), (17, 23, 4, 0, 20)]), (20, [(20, 0, 1, 146, 21), (21, 42, 0, 0, 22)])]
def zc_X12_isIn : List (Nat × List zx_E) := [(0, [(0, 0, 0, 146, 1), (1, 0, 1, 146, 2), (2, 24, 14, 0, 5), (5, 0, 0, 146, 6), (6, 0, 2, 146, 7), (7, 24, 14, 2, 10), (10, 4, 20, 0, 11), (11, 23, 15, 0, 14)]), (14, [(14, 4, 4, 0, 15)]), (15, [(15, 42, 0, 0, 16)])]
def zc_X11_back : List (Nat × List zx_E) := [(0, [(0, 0, 1, 146, 1), (1, 25, 24, 0, 4), (4, 0, 1, 146, 5), (5, 0, 0, 332, 6), (6, 27, 183, 4, 9), (9, 32, 0, 0, 10), (10, 24, 24, 1, 13), (13, 0, 0, 332, 14), (14, 27, 183, 11, 17), (17, 0, 1, 146, 18), (18, 41, 12, 1, 21), (21, 25, 26, 5, 24)]), (24, [(24, 4, 68719476724, 0, 25), (25, 42, 0, 0, 26)]), (26, [(26, 0, 0, 332, 27), (27, 27, 183, 10, 30), (30, 0, 0, 332, 31), (31, 27, 183, 4, 34), (34, 0, 1, 146, 35), (35, 37, 0, 0, 36), (36, 41, 11, 0, 39), (39, 0, 0, 332, 40), (40, 27, 183, 2, 43), (43, 41, 10, 0, 46), (46, 0, 0, 332, 47), (47, 27, 183, 10, 50), (50, 27, 135, 0, 53), (53, 41, 9, 1, 56), (56, 42, 0, 0, 57)])]
def zc_J6_bitCount_0f7a4 : List (Nat × List zx_E) := [(0, [(0, 0, 0, 146, 1), (1, 0, 0, 146, 2), (2, 4, 20, 0, 3), (3, 13, 0, 0, 4), (4, 4, 22906492244, 0, 7), (7, 8, 0, 0, 8), (8, 6, 0, 0, 9), (9, 1, 0, 146, 10), (10, 0, 0, 146, 11), (11, 4, 13743895348, 0, 14), (14, 8, 0, 0, 15), (15, 0, 0, 146, 16), (16, 4, 36, 0, 17), (17, 13, 0, 0, 18), (18, 4, 13743895348, 0, 21), (21, 8, 0, 0, 22), (22, 5, 0, 0, 23), (23, 1, 0, 146, 24), (24, 0, 0, 146, 25), (25, 0, 0, 146, 26), (26, 4, 68, 0, 27), (27, 13, 0, 0, 28), (28, 5, 0, 0, 29), (29, 4, 4042322164, 0, 32), (32, 8, 0, 0, 33), (33, 1, 0, 146, 34), (34, 0, 0, 146, 35), (35, 0, 0, 146, 36), (36, 4, 132, 0, 38), (38, 13, 0, 0, 39), (39, 5, 0, 0, 40), (40, 1, 0, 146, 41), (41, 0, 0, 146, 42), (42, 0, 0, 146, 43), (43, 4, 260, 0, 45), (45, 13, 0, 0, 46), (46, 5, 0, 0, 47), (47, 1, 0, 146, 48), (48, 0, 0, 146, 49), (49, 4, 1012, 0, 51), (51, 8, 0, 0, 52), (52, 42, 0, 0, 53)])]
def zc_X2_forget : List (Nat × List zx_E) := [(0, [(0, 0, 0, 332, 1), (1, 4, 4, 0, 2), (2, 28, 153092135, 1, 5), (5, 0, 0, 332, 6), (6, 4, 4, 0, 7), (7, 28, 153092135, 2, 10), (10, 0, 0, 332, 11), (11, 4, 4, 0, 12), (12, 28, 153092135, 3, 15), (15, 43, 0, 0, 16)])]
def zc_X8_copy : List (Nat × List zx_E) := [(0, [(0, 0, 0, 332, 1), (1, 0, 1, 332, 2), (2, 27, 135, 0, 5), (5, 28, 153092231, 0, 8), (8, 0, 0, 332, 9), (9, 0, 1, 332, 10), (10, 27, 135, 1, 13), (13, 28, 153092231, 1, 16), (16, 0, 0, 332, 17), (17, 0, 1, 332, 18), (18, 27, 135, 2, 21), (21, 28, 153092231, 2, 24), (24, 0, 0, 332, 25), (25, 0, 1, 332, 26), (26, 27, 135, 3, 29), (29, 28, 153092231, 3, 32), (32, 0, 0, 332, 33), (33, 0, 1, 332, 34), (34, 27, 135, 4, 37), (37, 28, 153092231, 4, 40), (40, 0, 0, 332, 41), (41, 0, 1, 332, 42), (42, 27, 135, 5, 45), (45, 28, 153092231, 5, 48), (48, 0, 1, 332, 49), (49, 27, 135, 6, 52), (52, 4, 4, 0, 53), (53, 0, 0, 332, 54), (54, 27, 135, 6, 57), (57, 4, 4, 0, 58), (58, 4, 164, 0, 60), (60, 40, 0, 0, 63), (63, 43, 0, 0, 64)])]
def zc_X11_bit : List (Nat × List zx_E) := [(0, [(0, 0, 0, 146, 1), (1, 0, 1, 146, 2), (2, 12, 0, 0, 3), (3, 4, 20, 0, 4), (4, 8, 0, 0, 5), (5, 42, 0, 0, 6)])]
def zc_X12_image : List (Nat × List zx_E) := [(0, [(0, 0, 1, 146, 1), (1, 4, 4, 0, 2), (2, 4, 36, 0, 3), (3, 41, 7, 1, 6), (6, 25, 11, 5, 9), (9, 4, 68719476724, 0, 10), (10, 42, 0, 0, 11)]), (11, [(11, 4, 4, 0, 12), (12, 1, 2, 146, 13)]), (13, [(13, 0, 2, 146, 14), (14, 4, 260, 0, 16), (16, 24, 42, 1, 19), (19, 0, 0, 332, 20), (20, 27, 199, 70, 23), (23, 4, 260, 0, 25), (25, 0, 1, 146, 26), (26, 7, 0, 0, 27), (27, 0, 2, 146, 28), (28, 5, 0, 0, 29), (29, 0, 0, 332, 30), (30, 27, 199, 49, 33), (33, 0, 2, 146, 34), (34, 33, 9, 0, 35), (35, 34, 9, 0, 36), (36, 3, 2, 20, 39), (39, 23, 13, 0, 42)]), (42, [(42, 0, 0, 332, 43), (43, 27, 199, 71, 46), (46, 0, 1, 146, 47), (47, 4, 20, 0, 48), (48, 34, 54, 0, 49), (49, 0, 0, 332, 50), (50, 27, 199, 49, 53), (53, 4, 4, 0, 54), (54, 33, 9, 0, 55), (55, 41, 6, 1, 58), (58, 42, 0, 0, 59)])]
def zc_X11_image : List (Nat × List zx_E) := [(0, [(0, 0, 1, 146, 1), (1, 25, 13, 0, 4), (4, 0, 1, 146, 5), (5, 0, 0, 332, 6), (6, 27, 183, 4, 9), (9, 32, 0, 0, 10), (10, 24, 15, 0, 13)]), (13, [(13, 4, 68719476724, 0, 14), (14, 42, 0, 0, 15)]), (15, [(15, 0, 0, 332, 16), (16, 27, 183, 4, 19), (19, 0, 1, 146, 20), (20, 37, 0, 0, 21), (21, 0, 0, 332, 22), (22, 27, 183, 10, 25), (25, 41, 11, 0, 28), (28, 0, 0, 332, 29), (29, 20, 0, 0, 30), (30, 27, 183, 11, 33), (33, 4, 20, 0, 34), (34, 0, 1, 146, 35), (35, 11, 0, 0, 36), (36, 9, 0, 0, 37), (37, 28, 153092279, 11, 40), (40, 0, 0, 332, 41), (41, 27, 183, 10, 44), (44, 27, 135, 0, 47), (47, 41, 9, 1, 50), (50, 42, 0, 0, 51)])]
def zc_X12_ahead : List (Nat × List zx_E) := [(0, [(0, 0, 0, 332, 1), (1, 0, 1, 146, 2), (2, 41, 33, 0, 5), (5, 25, 45, 4, 8), (8, 0, 0, 332, 9), (9, 0, 2, 146, 10), (10, 41, 32, 0, 13), (13, 25, 45, 4, 16), (16, 0, 0, 332, 17), (17, 0, 3, 146, 18), (18, 41, 32, 0, 21), (21, 25, 45, 4, 24), (24, 0, 2, 146, 25), (25, 0, 3, 146, 26), (26, 24, 45, 4, 29), (29, 0, 1, 146, 30), (30, 0, 2, 146, 31), (31, 41, 19, 1, 34), (34, 25, 45, 4, 37), (37, 0, 1, 146, 38), (38, 0, 3, 146, 39), (39, 41, 19, 1, 42), (42, 25, 47, 5, 45)]), (45, [(45, 4, 68719476724, 0, 46), (46, 42, 0, 0, 47)]), (47, [(47, 0, 0, 332, 48), (48, 0, 4, 146, 50), (50, 41, 21, 0, 53), (53, 0, 0, 332, 54), (54, 27, 199, 55, 57), (57, 0, 3, 146, 58), (58, 22, 0, 0, 59), (59, 33, 9, 0, 60), (60, 4, 20, 0, 61), (61, 0, 2, 146, 62), (62, 11, 0, 0, 63), (63, 9, 0, 0, 64), (64, 34, 9, 0, 65), (65, 0, 0, 332, 66), (66, 0, 1, 146, 67), (67, 4, 4, 0, 68), (68, 0, 0, 332, 69), (69, 41, 20, 0, 72), (72, 41, 16, 0, 75), (75, 42, 0, 0, 76)])]
def zc_X12_layWays : List (Nat × List zx_E) := [(0, [(0, 0, 1, 146, 1), (1, 1, 4, 146, 3)]), (3, [(3, 0, 4, 146, 5), (5, 25, 104, 0, 8), (8, 0, 0, 332, 9), (9, 27, 199, 54, 12), (12, 0, 4, 146, 14), (14, 0, 4, 146, 16), (16, 0, 1, 146, 17), (17, 24, 24, 5, 20), (20, 4, 20, 0, 21), (21, 23, 25, 0, 24)]), (24, [(24, 4, 4, 0, 25)]), (25, [(25, 34, 9, 0, 26), (26, 0, 4, 146, 28), (28, 0, 1, 146, 29), (29, 8, 0, 0, 30), (30, 0, 4, 146, 32), (32, 24, 98, 5, 35), (35, 0, 4, 146, 37), (37, 0, 1, 146, 38), (38, 24, 44, 5, 41), (41, 23, 98, 0, 44)]), (44, [(44, 4, 4, 0, 45), (45, 1, 5, 146, 47)]), (47, [(47, 0, 5, 146, 49), (49, 0, 0, 332, 50), (50, 41, 1, 0, 53), (53, 24, 98, 1, 56), (56, 0, 0, 332, 57), (57, 0, 5, 146, 59), (59, 0, 1, 146, 60), (60, 0, 4, 146, 62), (62, 0, 2, 146, 63), (63, 0, 3, 146, 64), (64, 41, 17, 0, 67), (67, 25, 92, 4, 70), (70, 0, 0, 332, 71), (71, 27, 199, 54, 74), (74, 0, 4, 146, 76), (76, 22, 0, 0, 77), (77, 33, 9, 0, 78), (78, 0, 0, 332, 79), (79, 27, 199, 54, 82), (82, 0, 4, 146, 84), (84, 4, 20, 0, 85), (85, 0, 5, 146, 87), (87, 11, 0, 0, 88), (88, 9, 0, 0, 89), (89, 33, 9, 0, 90), (90, 5, 0, 0, 91), (91, 34, 9, 0, 92)]), (92, [(92, 3, 5, 20, 95), (95, 23, 47, 0, 98)]), (98, [(98, 3, 4, 68719476724, 101), (101, 23, 3, 0, 104)]), (104, [(104, 0, 0, 332, 105), (105, 27, 199, 54, 108), (108, 4, 4, 0, 109), (109, 33, 9, 0, 110), (110, 42, 0, 0, 111)])]
def zc_X12_comesNext : List (Nat × List zx_E) := [(0, [(0, 0, 2, 146, 1), (1, 0, 3, 146, 2), (2, 4, 68719476724, 0, 3), (3, 10, 0, 0, 4), (4, 8, 0, 0, 5), (5, 0, 1, 146, 6), (6, 41, 19, 1, 9), (9, 25, 45, 4, 12), (12, 0, 0, 332, 13), (13, 27, 199, 55, 16), (16, 0, 1, 146, 17), (17, 33, 9, 0, 18), (18, 0, 2, 146, 19), (19, 8, 0, 0, 20), (20, 0, 3, 146, 21), (21, 4, 68719476724, 0, 22), (22, 10, 0, 0, 23), (23, 8, 0, 0, 24), (24, 25, 45, 5, 27), (27, 0, 0, 332, 28), (28, 0, 1, 146, 29), (29, 0, 4, 146, 31), (31, 0, 3, 146, 32), (32, 9, 0, 0, 33), (33, 0, 5, 146, 35), (35, 41, 18, 0, 38), (38, 25, 45, 4, 41), (41, 4, 20, 0, 42), (42, 23, 46, 0, 45)]), (45, [(45, 4, 4, 0, 46)]), (46, [(46, 42, 0, 0, 47)])]
def zc_X12_canOpen : List (Nat × List zx_E) := [(0, [(0, 0, 3, 146, 1), (1, 0, 1, 146, 2), (2, 41, 19, 1, 5), (5, 25, 31, 4, 8), (8, 0, 2, 146, 9), (9, 0, 1, 146, 10), (10, 41, 19, 1, 13), (13, 25, 31, 5, 16), (16, 0, 0, 332, 17), (17, 27, 199, 50, 20), (20, 0, 1, 146, 21), (21, 33, 9, 0, 22), (22, 0, 2, 146, 23), (23, 8, 0, 0, 24), (24, 25, 31, 5, 27), (27, 4, 20, 0, 28), (28, 23, 32, 0, 31)]), (31, [(31, 4, 4, 0, 32)]), (32, [(32, 42, 0, 0, 33)])]
def zc_X12_has : List (Nat × List zx_E) := [(0, [(0, 0, 0, 146, 1), (1, 0, 1, 146, 2), (2, 12, 0, 0, 3), (3, 4, 20, 0, 4), (4, 8, 0, 0, 5), (5, 4, 20, 0, 6), (6, 24, 13, 5, 9), (9, 4, 20, 0, 10), (10, 23, 14, 0, 13)]), (13, [(13, 4, 4, 0, 14)]), (14, [(14, 42, 0, 0, 15)])]
def zc_X12_moving : List (Nat × List zx_E) := [(0, [(0, 4, 20, 0, 1), (1, 0, 0, 332, 2), (2, 41, 1, 0, 5), (5, 11, 0, 0, 6), (6, 4, 20, 0, 7), (7, 6, 0, 0, 8), (8, 0, 0, 332, 9), (9, 27, 199, 32, 12), (12, 0, 0, 332, 13), (13, 27, 199, 43, 16), (16, 33, 9, 0, 17), (17, 4, 68719476724, 0, 18), (18, 10, 0, 0, 19), (19, 8, 0, 0, 20), (20, 0, 0, 332, 21), (21, 27, 199, 49, 24), (24, 4, 20, 0, 25), (25, 33, 9, 0, 26), (26, 4, 68719476724, 0, 27), (27, 10, 0, 0, 28), (28, 8, 0, 0, 29), (29, 42, 0, 0, 30)])]
def zc_X12_layHeard : List (Nat × List zx_E) := [(0, [(0, 0, 0, 332, 1), (1, 0, 0, 332, 2), (2, 27, 199, 49, 5), (5, 4, 36, 0, 6), (6, 33, 9, 0, 7), (7, 41, 23, 0, 10), (10, 0, 0, 332, 11), (11, 41, 22, 0, 14), (14, 4, 4, 0, 15), (15, 1, 2, 146, 16)]), (16, [(16, 0, 2, 146, 17), (17, 0, 0, 332, 18), (18, 27, 199, 68, 21), (21, 24, 81, 1, 24), (24, 0, 0, 332, 25), (25, 27, 199, 66, 28), (28, 0, 2, 146, 29), (29, 33, 9, 0, 30), (30, 0, 1, 146, 31), (31, 24, 75, 2, 34), (34, 0, 0, 332, 35), (35, 27, 199, 67, 38), (38, 0, 2, 146, 39), (39, 33, 9, 0, 40), (40, 25, 53, 0, 43), (43, 0, 0, 332, 44), (44, 27, 199, 67, 47), (47, 0, 2, 146, 48), (48, 33, 9, 0, 49), (49, 0, 1, 146, 50), (50, 24, 75, 3, 53)]), (53, [(53, 0, 0, 332, 54), (54, 27, 199, 55, 57), (57, 0, 0, 332, 58), (58, 27, 199, 65, 61), (61, 0, 2, 146, 62), (62, 33, 9, 0, 63), (63, 22, 0, 0, 64), (64, 33, 9, 0, 65), (65, 4, 20, 0, 66), (66, 0, 0, 332, 67), (67, 27, 199, 64, 70), (70, 0, 2, 146, 71), (71, 33, 9, 0, 72), (72, 11, 0, 0, 73), (73, 9, 0, 0, 74), (74, 34, 9, 0, 75)]), (75, [(75, 3, 2, 20, 78), (78, 23, 16, 0, 81)]), (81, [(81, 43, 0, 0, 82)])]
def zc_X12_clearAhead : List (Nat × List zx_E) := [(0, [(0, 4, 4, 0, 1), (1, 1, 1, 146, 2)]), (2, [(2, 0, 1, 146, 3), (3, 4, 164, 0, 5), (5, 24, 21, 1, 8), (8, 0, 0, 332, 9), (9, 27, 199, 55, 12), (12, 0, 1, 146, 13), (13, 4, 4, 0, 14), (14, 34, 9, 0, 15), (15, 3, 1, 20, 18), (18, 23, 2, 0, 21)]), (21, [(21, 43, 0, 0, 22)])]
def zc_X12_layHinderers : List (Nat × List zx_E) := [(0, [(0, 4, 4, 0, 1), (1, 1, 2, 146, 2)]), (2, [(2, 0, 2, 146, 3), (3, 0, 0, 332, 4), (4, 41, 1, 0, 7), (7, 24, 61, 1, 10), (10, 0, 0, 332, 11), (11, 27, 199, 50, 14), (14, 0, 2, 146, 15), (15, 4, 4, 0, 16), (16, 34, 9, 0, 17), (17, 4, 4, 0, 18), (18, 1, 3, 146, 19)]), (19, [(19, 0, 3, 146, 20), (20, 0, 0, 332, 21), (21, 41, 1, 0, 24), (24, 24, 55, 1, 27), (27, 0, 0, 332, 28), (28, 0, 3, 146, 29), (29, 0, 2, 146, 30), (30, 0, 1, 146, 31), (31, 41, 24, 0, 34), (34, 25, 49, 4, 37), (37, 0, 0, 332, 38), (38, 27, 199, 50, 41), (41, 0, 2, 146, 42), (42, 22, 0, 0, 43), (43, 33, 9, 0, 44), (44, 4, 20, 0, 45), (45, 0, 3, 146, 46), (46, 11, 0, 0, 47), (47, 9, 0, 0, 48), (48, 34, 9, 0, 49)]), (49, [(49, 3, 3, 20, 52), (52, 23, 19, 0, 55)]), (55, [(55, 3, 2, 20, 58), (58, 23, 2, 0, 61)]), (61, [(61, 43, 0, 0, 62)])]
def zc_X12_doesHinder : List (Nat × List zx_E) := [(0, [(0, 0, 0, 332, 1), (1, 0, 1, 146, 2), (2, 41, 26, 0, 5), (5, 0, 0, 332, 6), (6, 0, 2, 146, 7), (7, 41, 26, 0, 10), (10, 24, 26, 5, 13), (13, 0, 0, 332, 14), (14, 0, 1, 146, 15), (15, 41, 31, 0, 18), (18, 0, 0, 332, 19), (19, 0, 2, 146, 20), (20, 41, 31, 0, 23), (23, 24, 28, 5, 26)]), (26, [(26, 4, 4, 0, 27), (27, 42, 0, 0, 28)]), (28, [(28, 0, 0, 332, 29), (29, 0, 1, 146, 30), (30, 0, 3, 146, 31), (31, 41, 30, 0, 34), (34, 0, 0, 332, 35), (35, 0, 2, 146, 36), (36, 41, 29, 0, 39), (39, 0, 0, 332, 40), (40, 0, 2, 146, 41), (41, 41, 29, 0, 44), (44, 0, 0, 332, 45), (45, 0, 2, 146, 46), (46, 41, 28, 0, 49), (49, 5, 0, 0, 50), (50, 4, 20, 0, 51), (51, 6, 0, 0, 52), (52, 41, 7, 1, 55), (55, 25, 85, 4, 58), (58, 0, 0, 332, 59), (59, 0, 1, 146, 60), (60, 41, 27, 0, 63), (63, 0, 0, 332, 64), (64, 0, 2, 146, 65), (65, 41, 27, 0, 68), (68, 5, 0, 0, 69), (69, 0, 0, 332, 70), (70, 0, 0, 332, 71), (71, 0, 1, 146, 72), (72, 41, 26, 0, 75), (75, 41, 25, 0, 78), (78, 24, 85, 3, 81), (81, 4, 20, 0, 82), (82, 23, 86, 0, 85)]), (85, [(85, 4, 4, 0, 86)]), (86, [(86, 42, 0, 0, 87)])]
def zc_X12_wide : List (Nat × List zx_E) := [(0, [(0, 0, 0, 332, 1), (1, 27, 199, 18, 4), (4, 4, 68, 0, 5), (5, 0, 0, 332, 6), (6, 27, 199, 43, 9), (9, 7, 0, 0, 10), (10, 0, 1, 146, 11), (11, 5, 0, 0, 12), (12, 33, 9, 0, 13), (13, 42, 0, 0, 14)])]
def zc_X12_lane : List (Nat × List zx_E) := [(0, [(0, 0, 0, 332, 1), (1, 27, 199, 19, 4), (4, 4, 164, 0, 6), (6, 0, 0, 332, 7), (7, 27, 199, 43, 10), (10, 7, 0, 0, 11), (11, 0, 1, 146, 12), (12, 5, 0, 0, 13), (13, 33, 9, 0, 14), (14, 42, 0, 0, 15)])]
def zc_X12_reach : List (Nat × List zx_E) := [(0, [(0, 0, 0, 332, 1), (1, 0, 1, 146, 2), (2, 41, 28, 0, 5), (5, 0, 0, 332, 6), (6, 0, 0, 332, 7), (7, 0, 1, 146, 8), (8, 41, 26, 0, 11), (11, 41, 25, 0, 14), (14, 24, 25, 1, 17), (17, 0, 0, 332, 18), (18, 0, 1, 146, 19), (19, 41, 28, 0, 22), (22, 23, 34, 0, 25)]), (25, [(25, 0, 0, 332, 26), (26, 0, 0, 332, 27), (27, 0, 1, 146, 28), (28, 41, 26, 0, 31), (31, 41, 25, 0, 34)]), (34, [(34, 42, 0, 0, 35)])]
def zc_X12_broad : List (Nat × List zx_E) := [(0, [(0, 0, 0, 332, 1), (1, 27, 199, 21, 4), (4, 4, 164, 0, 6), (6, 0, 0, 332, 7), (7, 27, 199, 43, 10), (10, 7, 0, 0, 11), (11, 0, 1, 146, 12), (12, 5, 0, 0, 13), (13, 33, 9, 0, 14), (14, 42, 0, 0, 15)])]
def zc_X12_first : List (Nat × List zx_E) := [(0, [(0, 0, 0, 332, 1), (1, 27, 199, 20, 4), (4, 4, 164, 0, 6), (6, 0, 0, 332, 7), (7, 27, 199, 43, 10), (10, 7, 0, 0, 11), (11, 0, 1, 146, 12), (12, 5, 0, 0, 13), (13, 33, 9, 0, 14), (14, 42, 0, 0, 15)])]
def zc_X12_hingeOf : List (Nat × List zx_E) := [(0, [(0, 0, 2, 146, 1), (1, 0, 1, 146, 2), (2, 41, 19, 1, 5), (5, 25, 24, 4, 8), (8, 0, 0, 332, 9), (9, 0, 1, 146, 10), (10, 41, 29, 0, 13), (13, 0, 0, 332, 14), (14, 0, 1, 146, 15), (15, 41, 28, 0, 18), (18, 5, 0, 0, 19), (19, 4, 20, 0, 20), (20, 6, 0, 0, 21), (21, 23, 29, 0, 24)]), (24, [(24, 0, 0, 332, 25), (25, 0, 1, 146, 26), (26, 41, 29, 0, 29)]), (29, [(29, 42, 0, 0, 30)])]
def zc_X12_isSouth : List (Nat × List zx_E) := [(0, [(0, 0, 0, 332, 1), (1, 27, 199, 30, 4), (4, 0, 0, 332, 5), (5, 27, 199, 43, 8), (8, 33, 9, 0, 9), (9, 0, 1, 146, 10), (10, 41, 19, 1, 13), (13, 42, 0, 0, 14)])]
def zc_X12_isDoor : List (Nat × List zx_E) := [(0, [(0, 0, 1, 146, 1), (1, 4, 4, 0, 2), (2, 0, 0, 332, 3), (3, 41, 1, 0, 6), (6, 4, 20, 0, 7), (7, 6, 0, 0, 8), (8, 41, 7, 1, 11), (11, 42, 0, 0, 12)])]
def zc_X12_isTale : List (Nat × List zx_E) := [(0, [(0, 0, 0, 332, 1), (1, 0, 1, 146, 2), (2, 41, 34, 0, 5), (5, 25, 23, 4, 8), (8, 0, 1, 146, 9), (9, 0, 0, 332, 10), (10, 41, 20, 0, 13), (13, 4, 68719476724, 0, 14), (14, 10, 0, 0, 15), (15, 8, 0, 0, 16), (16, 25, 23, 5, 19), (19, 4, 20, 0, 20), (20, 23, 24, 0, 23)]), (23, [(23, 4, 4, 0, 24)]), (24, [(24, 42, 0, 0, 25)])]
def zc_X12_isSet : List (Nat × List zx_E) := [(0, [(0, 0, 1, 146, 1), (1, 4, 4, 0, 2), (2, 4, 20, 0, 3), (3, 0, 0, 332, 4), (4, 41, 1, 0, 7), (7, 11, 0, 0, 8), (8, 4, 20, 0, 9), (9, 6, 0, 0, 10), (10, 41, 7, 1, 13), (13, 42, 0, 0, 14)])]
def zc_X11_ahead : List (Nat × List zx_E) := [(0, [(0, 0, 0, 332, 1), (1, 0, 1, 146, 2), (2, 41, 52, 0, 5), (5, 25, 51, 4, 8), (8, 0, 0, 332, 9), (9, 27, 183, 9, 12), (12, 0, 2, 146, 13), (13, 41, 50, 0, 16), (16, 25, 51, 4, 19), (19, 0, 0, 332, 20), (20, 27, 183, 9, 23), (23, 0, 3, 146, 24), (24, 41, 50, 0, 27), (27, 25, 51, 4, 30), (30, 0, 2, 146, 31), (31, 0, 3, 146, 32), (32, 24, 51, 4, 35), (35, 0, 1, 146, 36), (36, 0, 2, 146, 37), (37, 41, 12, 1, 40), (40, 25, 51, 4, 43), (43, 0, 1, 146, 44), (44, 0, 3, 146, 45), (45, 41, 12, 1, 48), (48, 25, 53, 5, 51)]), (51, [(51, 4, 68719476724, 0, 52), (52, 42, 0, 0, 53)]), (53, [(53, 0, 0, 332, 54), (54, 0, 1, 146, 55), (55, 0, 4, 146, 57), (57, 41, 42, 0, 60), (60, 0, 0, 332, 61), (61, 27, 183, 6, 64), (64, 0, 2, 146, 65), (65, 0, 3, 146, 66), (66, 41, 41, 0, 69), (69, 0, 0, 332, 70), (70, 27, 183, 6, 73), (73, 0, 1, 146, 74), (74, 41, 36, 0, 77), (77, 42, 0, 0, 78)])]
def zc_X4_countOrders : List (Nat × List zx_E) := [(0, [(0, 0, 1, 146, 1), (1, 4, 16372, 0, 4), (4, 41, 39, 5, 7), (7, 25, 12, 5, 10), (10, 4, 4, 0, 11), (11, 42, 0, 0, 12)]), (12, [(12, 0, 1, 146, 13), (13, 1, 2, 146, 14)]), (14, [(14, 0, 2, 146, 15), (15, 25, 53, 0, 18), (18, 0, 2, 146, 19), (19, 0, 1, 146, 20), (20, 41, 39, 5, 23), (23, 25, 47, 4, 26), (26, 0, 0, 332, 27), (27, 27, 71, 3, 30), (30, 0, 2, 146, 31), (31, 0, 2, 146, 32), (32, 0, 1, 146, 33), (33, 24, 40, 5, 36), (36, 4, 20, 0, 37), (37, 23, 46, 0, 40)]), (40, [(40, 0, 0, 332, 41), (41, 0, 1, 146, 42), (42, 0, 2, 146, 43), (43, 41, 37, 0, 46)]), (46, [(46, 34, 9, 0, 47)]), (47, [(47, 3, 2, 68719476724, 50), (50, 23, 14, 0, 53)]), (53, [(53, 0, 0, 332, 54), (54, 27, 71, 3, 57), (57, 4, 4, 0, 58), (58, 33, 9, 0, 59), (59, 42, 0, 0, 60)])]
def zc_X4_countOnward : List (Nat × List zx_E) := [(0, [(0, 4, 4, 0, 1), (1, 1, 3, 146, 2), (2, 4, 4, 0, 3), (3, 1, 4, 146, 5)]), (5, [(5, 0, 4, 146, 7), (7, 4, 164, 0, 9), (9, 24, 43, 1, 12), (12, 0, 0, 332, 13), (13, 0, 1, 146, 14), (14, 0, 2, 146, 15), (15, 0, 4, 146, 17), (17, 41, 38, 0, 20), (20, 25, 37, 4, 23), (23, 0, 3, 146, 24), (24, 0, 0, 332, 25), (25, 27, 71, 3, 28), (28, 0, 2, 146, 29), (29, 4, 20, 0, 30), (30, 0, 4, 146, 32), (32, 11, 0, 0, 33), (33, 9, 0, 0, 34), (34, 33, 9, 0, 35), (35, 5, 0, 0, 36), (36, 1, 3, 146, 37)]), (37, [(37, 3, 4, 20, 40), (40, 23, 5, 0, 43)]), (43, [(43, 0, 3, 146, 44), (44, 42, 0, 0, 45)])]
def zc_X4_comesNext : List (Nat × List zx_E) := [(0, [(0, 0, 1, 146, 1), (1, 0, 2, 146, 2), (2, 4, 68719476724, 0, 3), (3, 10, 0, 0, 4), (4, 8, 0, 0, 5), (5, 0, 3, 146, 6), (6, 41, 12, 5, 9), (9, 4, 20, 0, 10), (10, 24, 41, 5, 13), (13, 0, 0, 332, 14), (14, 0, 3, 146, 15), (15, 0, 2, 146, 16), (16, 41, 40, 0, 19), (19, 25, 41, 4, 22), (22, 0, 0, 332, 23), (23, 27, 71, 1, 26), (26, 0, 3, 146, 27), (27, 33, 9, 0, 28), (28, 0, 1, 146, 29), (29, 8, 0, 0, 30), (30, 0, 2, 146, 31), (31, 41, 39, 5, 34), (34, 25, 41, 4, 37), (37, 4, 20, 0, 38), (38, 23, 42, 0, 41)]), (41, [(41, 4, 4, 0, 42)]), (42, [(42, 42, 0, 0, 43)])]
def zc_X11_isPart : List (Nat × List zx_E) := [(0, [(0, 0, 0, 146, 1), (1, 0, 1, 146, 2), (2, 4, 68719476724, 0, 3), (3, 10, 0, 0, 4), (4, 8, 0, 0, 5), (5, 25, 12, 5, 8), (8, 4, 20, 0, 9), (9, 23, 13, 0, 12)]), (12, [(12, 4, 4, 0, 13)]), (13, [(13, 42, 0, 0, 14)])]
def zc_X4_yieldsBehind : List (Nat × List zx_E) := [(0, [(0, 0, 0, 332, 1), (1, 27, 71, 6, 4), (4, 0, 2, 146, 5), (5, 4, 68719476724, 0, 6), (6, 10, 0, 0, 7), (7, 8, 0, 0, 8), (8, 0, 1, 146, 9), (9, 41, 12, 5, 12), (12, 4, 20, 0, 13), (13, 24, 36, 5, 16), (16, 0, 0, 332, 17), (17, 27, 71, 0, 20), (20, 0, 1, 146, 21), (21, 33, 9, 0, 22), (22, 0, 0, 332, 23), (23, 27, 71, 5, 26), (26, 0, 2, 146, 27), (27, 9, 0, 0, 28), (28, 8, 0, 0, 29), (29, 25, 36, 5, 32), (32, 4, 20, 0, 33), (33, 23, 37, 0, 36)]), (36, [(36, 4, 4, 0, 37)]), (37, [(37, 42, 0, 0, 38)])]
def zc_X4_putAhead : List (Nat × List zx_E) := [(0, [(0, 0, 1, 146, 1), (1, 25, 29, 0, 4), (4, 0, 2, 146, 5), (5, 25, 29, 0, 8), (8, 0, 2, 146, 9), (9, 0, 0, 332, 10), (10, 27, 71, 1, 13), (13, 32, 0, 0, 14), (14, 24, 29, 1, 17), (17, 0, 0, 332, 18), (18, 27, 71, 1, 21), (21, 0, 2, 146, 22), (22, 22, 0, 0, 23), (23, 33, 9, 0, 24), (24, 4, 20, 0, 25), (25, 0, 1, 146, 26), (26, 11, 0, 0, 27), (27, 9, 0, 0, 28), (28, 34, 9, 0, 29)]), (29, [(29, 43, 0, 0, 30)])]
def zc_X11_startTales : List (Nat × List zx_E) := [(0, [(0, 0, 0, 332, 1), (1, 27, 183, 6, 4), (4, 0, 0, 332, 5), (5, 27, 183, 9, 8), (8, 0, 0, 332, 9), (9, 27, 183, 10, 12), (12, 27, 135, 2, 15), (15, 41, 46, 0, 18), (18, 0, 0, 332, 19), (19, 27, 183, 6, 22), (22, 4, 4, 0, 23), (23, 0, 1, 146, 24), (24, 41, 44, 0, 27), (27, 4, 4, 0, 28), (28, 1, 3, 146, 29)]), (29, [(29, 0, 3, 146, 30), (30, 0, 0, 332, 31), (31, 27, 183, 5, 34), (34, 27, 23, 4, 37), (37, 24, 83, 1, 40), (40, 0, 0, 332, 41), (41, 27, 183, 5, 44), (44, 0, 3, 146, 45), (45, 0, 2, 146, 46), (46, 41, 43, 0, 49), (49, 25, 77, 4, 52), (52, 0, 0, 332, 53), (53, 27, 183, 6, 56), (56, 0, 0, 332, 57), (57, 27, 183, 5, 60), (60, 27, 23, 0, 63), (63, 0, 3, 146, 64), (64, 33, 9, 0, 65), (65, 0, 0, 332, 66), (66, 27, 183, 5, 69), (69, 27, 23, 1, 72), (72, 0, 3, 146, 73), (73, 33, 9, 0, 74), (74, 41, 41, 0, 77)]), (77, [(77, 3, 3, 20, 80), (80, 23, 29, 0, 83)]), (83, [(83, 43, 0, 0, 84)])]
def zc_X1_counts : List (Nat × List zx_E) := [(0, [(0, 0, 1, 146, 1), (1, 25, 22, 0, 4), (4, 0, 1, 146, 5), (5, 0, 0, 332, 6), (6, 27, 23, 4, 9), (9, 24, 22, 1, 12), (12, 0, 0, 332, 13), (13, 27, 23, 2, 16), (16, 0, 1, 146, 17), (17, 33, 9, 0, 18), (18, 0, 2, 146, 19), (19, 24, 24, 3, 22)]), (22, [(22, 4, 4, 0, 23), (23, 42, 0, 0, 24)]), (24, [(24, 0, 0, 332, 25), (25, 27, 23, 3, 28), (28, 0, 1, 146, 29), (29, 33, 9, 0, 30), (30, 4, 68719476724, 0, 31), (31, 24, 44, 4, 34), (34, 0, 0, 332, 35), (35, 27, 23, 3, 38), (38, 0, 1, 146, 39), (39, 33, 9, 0, 40), (40, 0, 2, 146, 41), (41, 24, 48, 3, 44)]), (44, [(44, 4, 20, 0, 45), (45, 23, 49, 0, 48)]), (48, [(48, 4, 4, 0, 49)]), (49, [(49, 42, 0, 0, 50)])]
def zc_X4_startFrom : List (Nat × List zx_E) := [(0, [(0, 0, 0, 332, 1), (1, 0, 1, 146, 2), (2, 4, 16372, 0, 5), (5, 8, 0, 0, 6), (6, 28, 153092167, 5, 9), (9, 0, 0, 332, 10), (10, 0, 2, 146, 11), (11, 4, 16372, 0, 14), (14, 8, 0, 0, 15), (15, 28, 153092167, 6, 18), (18, 0, 0, 332, 19), (19, 27, 71, 1, 22), (22, 4, 4, 0, 23), (23, 41, 45, 1, 26), (26, 43, 0, 0, 27)])]
def zc_J7_fill_53178 : List (Nat × List zx_E) := [(0, [(0, 4, 4, 0, 1), (1, 1, 2, 146, 2), (2, 0, 0, 332, 3), (3, 32, 0, 0, 4), (4, 1, 3, 146, 5)]), (5, [(5, 0, 2, 146, 6), (6, 0, 3, 146, 7), (7, 24, 20, 1, 10), (10, 0, 0, 332, 11), (11, 0, 2, 146, 12), (12, 0, 1, 146, 13), (13, 34, 9, 0, 14), (14, 3, 2, 20, 17), (17, 23, 5, 0, 20)]), (20, [(20, 43, 0, 0, 21)])]
def zc_X4_look : List (Nat × List zx_E) := [(0, [(0, 4, 4, 0, 1), (1, 1, 3, 146, 2)]), (2, [(2, 0, 3, 146, 3), (3, 4, 164, 0, 5), (5, 24, 26, 1, 8), (8, 0, 0, 332, 9), (9, 27, 71, 0, 12), (12, 0, 3, 146, 13), (13, 0, 1, 332, 14), (14, 0, 3, 146, 15), (15, 0, 2, 146, 16), (16, 41, 47, 0, 19), (19, 34, 9, 0, 20), (20, 3, 3, 20, 23), (23, 23, 2, 0, 26)]), (26, [(26, 43, 0, 0, 27)])]
def zc_X6_hinderers : List (Nat × List zx_E) := [(0, [(0, 4, 4, 0, 1), (1, 1, 3, 146, 2), (2, 4, 4, 0, 3), (3, 1, 4, 146, 5)]), (5, [(5, 0, 4, 146, 7), (7, 0, 0, 332, 8), (8, 27, 103, 9, 11), (11, 24, 38, 1, 14), (14, 0, 0, 332, 15), (15, 0, 4, 146, 17), (17, 0, 1, 146, 18), (18, 0, 2, 146, 19), (19, 41, 48, 0, 22), (22, 25, 32, 4, 25), (25, 0, 3, 146, 26), (26, 4, 20, 0, 27), (27, 0, 4, 146, 29), (29, 11, 0, 0, 30), (30, 9, 0, 0, 31), (31, 1, 3, 146, 32)]), (32, [(32, 3, 4, 20, 35), (35, 23, 5, 0, 38)]), (38, [(38, 0, 3, 146, 39), (39, 42, 0, 0, 40)])]
def zc_X6_standsAgainst : List (Nat × List zx_E) := [(0, [(0, 0, 0, 332, 1), (1, 0, 1, 146, 2), (2, 41, 50, 0, 5), (5, 25, 50, 4, 8), (8, 0, 0, 332, 9), (9, 0, 2, 146, 10), (10, 41, 50, 0, 13), (13, 25, 50, 4, 16), (16, 0, 0, 332, 17), (17, 27, 103, 2, 20), (20, 0, 1, 146, 21), (21, 33, 9, 0, 22), (22, 0, 0, 332, 23), (23, 27, 103, 2, 26), (26, 0, 2, 146, 27), (27, 33, 9, 0, 28), (28, 24, 50, 5, 31), (31, 0, 0, 332, 32), (32, 27, 103, 11, 35), (35, 0, 1, 146, 36), (36, 41, 12, 5, 39), (39, 0, 0, 332, 40), (40, 27, 103, 11, 43), (43, 0, 2, 146, 44), (44, 41, 12, 5, 47), (47, 24, 52, 5, 50)]), (50, [(50, 4, 4, 0, 51), (51, 42, 0, 0, 52)]), (52, [(52, 0, 0, 332, 53), (53, 0, 1, 146, 54), (54, 0, 3, 146, 55), (55, 41, 51, 0, 58), (58, 1, 4, 146, 60), (60, 0, 4, 146, 62), (62, 0, 0, 332, 63), (63, 27, 103, 3, 66), (66, 0, 2, 146, 67), (67, 33, 9, 0, 68), (68, 24, 118, 0, 71), (71, 0, 4, 146, 73), (73, 0, 0, 332, 74), (74, 27, 103, 3, 77), (77, 0, 2, 146, 78), (78, 33, 9, 0, 79), (79, 0, 0, 332, 80), (80, 27, 103, 4, 83), (83, 0, 2, 146, 84), (84, 33, 9, 0, 85), (85, 5, 0, 0, 86), (86, 24, 118, 1, 89), (89, 0, 0, 332, 90), (90, 0, 1, 146, 91), (91, 41, 49, 0, 94), (94, 0, 0, 332, 95), (95, 0, 2, 146, 96), (96, 41, 49, 0, 99), (99, 5, 0, 0, 100), (100, 0, 0, 332, 101), (101, 27, 103, 1, 104), (104, 0, 0, 332, 105), (105, 27, 103, 2, 108), (108, 0, 1, 146, 109), (109, 33, 9, 0, 110), (110, 33, 9, 0, 111), (111, 24, 118, 3, 114), (114, 4, 20, 0, 115), (115, 23, 119, 0, 118)]), (118, [(118, 4, 4, 0, 119)]), (119, [(119, 42, 0, 0, 120)])]
def zc_X6_reach : List (Nat × List zx_E) := [(0, [(0, 0, 0, 332, 1), (1, 0, 1, 146, 2), (2, 41, 50, 0, 5), (5, 25, 31, 4, 8), (8, 0, 0, 332, 9), (9, 27, 103, 4, 12), (12, 0, 1, 146, 13), (13, 33, 9, 0, 14), (14, 0, 0, 332, 15), (15, 27, 103, 1, 18), (18, 0, 0, 332, 19), (19, 27, 103, 2, 22), (22, 0, 1, 146, 23), (23, 33, 9, 0, 24), (24, 33, 9, 0, 25), (25, 41, 342, 1, 28), (28, 23, 32, 0, 31)]), (31, [(31, 4, 4, 0, 32)]), (32, [(32, 42, 0, 0, 33)])]
def zc_X6_isDoor : List (Nat × List zx_E) := [(0, [(0, 0, 1, 146, 1), (1, 25, 16, 0, 4), (4, 0, 1, 146, 5), (5, 0, 0, 332, 6), (6, 27, 103, 9, 9), (9, 24, 16, 1, 12), (12, 4, 20, 0, 13), (13, 23, 17, 0, 16)]), (16, [(16, 4, 4, 0, 17)]), (17, [(17, 42, 0, 0, 18)])]
def zc_X6_hingePlace : List (Nat × List zx_E) := [(0, [(0, 0, 0, 332, 1), (1, 0, 1, 146, 2), (2, 41, 50, 0, 5), (5, 25, 10, 5, 8), (8, 4, 68719476724, 0, 9), (9, 42, 0, 0, 10)]), (10, [(10, 0, 2, 146, 11), (11, 0, 1, 146, 12), (12, 41, 12, 5, 15), (15, 25, 27, 5, 18), (18, 0, 0, 332, 19), (19, 27, 103, 3, 22), (22, 0, 1, 146, 23), (23, 33, 9, 0, 24), (24, 23, 42, 0, 27)]), (27, [(27, 0, 0, 332, 28), (28, 27, 103, 3, 31), (31, 0, 1, 146, 32), (32, 33, 9, 0, 33), (33, 0, 0, 332, 34), (34, 27, 103, 4, 37), (37, 0, 1, 146, 38), (38, 33, 9, 0, 39), (39, 5, 0, 0, 40), (40, 4, 20, 0, 41), (41, 6, 0, 0, 42)]), (42, [(42, 42, 0, 0, 43)])]
def zc_X11_isTaleSet : List (Nat × List zx_E) := [(0, [(0, 0, 1, 146, 1), (1, 0, 0, 332, 2), (2, 27, 183, 9, 5), (5, 41, 53, 0, 8), (8, 0, 0, 332, 9), (9, 27, 183, 9, 12), (12, 27, 103, 14, 15), (15, 4, 68719476724, 0, 16), (16, 10, 0, 0, 17), (17, 8, 0, 0, 18), (18, 0, 0, 332, 19), (19, 27, 183, 10, 22), (22, 27, 135, 1, 25), (25, 4, 68719476724, 0, 26), (26, 10, 0, 0, 27), (27, 8, 0, 0, 28), (28, 41, 39, 1, 31), (31, 42, 0, 0, 32)])]
def zc_X6_allDoors : List (Nat × List zx_E) := [(0, [(0, 4, 20, 0, 1), (1, 0, 0, 332, 2), (2, 27, 103, 9, 5), (5, 11, 0, 0, 6), (6, 4, 20, 0, 7), (7, 6, 0, 0, 8), (8, 42, 0, 0, 9)])]
def zc_X12_firsts : List (Nat × List zx_E) := [(0, [(0, 0, 0, 332, 1), (1, 0, 1, 146, 2), (2, 41, 33, 0, 5), (5, 25, 10, 5, 8), (8, 4, 68719476724, 0, 9), (9, 42, 0, 0, 10)]), (10, [(10, 0, 0, 332, 11), (11, 0, 2, 146, 12), (12, 41, 21, 0, 15), (15, 0, 0, 332, 16), (16, 0, 1, 146, 17), (17, 4, 4, 0, 18), (18, 0, 0, 332, 19), (19, 41, 20, 0, 22), (22, 41, 16, 0, 25), (25, 21, 0, 0, 26), (26, 4, 4, 0, 27), (27, 1, 3, 146, 28), (28, 4, 4, 0, 29), (29, 1, 4, 146, 31)]), (31, [(31, 0, 4, 146, 33), (33, 0, 0, 332, 34), (34, 41, 1, 0, 37), (37, 24, 81, 1, 40), (40, 0, 0, 332, 41), (41, 0, 4, 146, 43), (43, 0, 1, 146, 44), (44, 4, 4, 0, 45), (45, 4, 4, 0, 46), (46, 0, 0, 332, 47), (47, 41, 20, 0, 50), (50, 41, 17, 0, 53), (53, 25, 75, 4, 56), (56, 0, 0, 332, 57), (57, 27, 199, 54, 60), (60, 4, 20, 0, 61), (61, 0, 4, 146, 63), (63, 11, 0, 0, 64), (64, 33, 9, 0, 65), (65, 25, 75, 3, 68), (68, 0, 3, 146, 69), (69, 4, 20, 0, 70), (70, 0, 4, 146, 72), (72, 11, 0, 0, 73), (73, 9, 0, 0, 74), (74, 1, 3, 146, 75)]), (75, [(75, 3, 4, 20, 78), (78, 23, 31, 0, 81)]), (81, [(81, 0, 3, 146, 82), (82, 42, 0, 0, 83)])]
def zc_X11_firsts : List (Nat × List zx_E) := [(0, [(0, 0, 0, 332, 1), (1, 0, 1, 146, 2), (2, 41, 52, 0, 5), (5, 25, 10, 5, 8), (8, 4, 68719476724, 0, 9), (9, 42, 0, 0, 10)]), (10, [(10, 0, 0, 332, 11), (11, 0, 1, 146, 12), (12, 0, 2, 146, 13), (13, 41, 42, 0, 16), (16, 0, 0, 332, 17), (17, 27, 183, 6, 20), (20, 0, 1, 146, 21), (21, 41, 36, 0, 24), (24, 21, 0, 0, 25), (25, 0, 0, 332, 26), (26, 27, 183, 6, 29), (29, 0, 1, 146, 30), (30, 41, 56, 0, 33), (33, 42, 0, 0, 34)])]
def zc_X4_firstDoors : List (Nat × List zx_E) := [(0, [(0, 0, 1, 146, 1), (1, 4, 16372, 0, 4), (4, 41, 39, 5, 7), (7, 25, 19, 4, 10), (10, 0, 0, 332, 11), (11, 0, 1, 146, 12), (12, 4, 4, 0, 13), (13, 41, 57, 0, 16), (16, 23, 20, 0, 19)]), (19, [(19, 4, 4, 0, 20)]), (20, [(20, 42, 0, 0, 21)])]
def zc_X4_doorsOnward : List (Nat × List zx_E) := [(0, [(0, 4, 4, 0, 1), (1, 1, 3, 146, 2), (2, 4, 4, 0, 3), (3, 1, 4, 146, 5)]), (5, [(5, 0, 4, 146, 7), (7, 4, 164, 0, 9), (9, 24, 50, 1, 12), (12, 0, 0, 332, 13), (13, 0, 1, 146, 14), (14, 0, 2, 146, 15), (15, 0, 4, 146, 17), (17, 41, 38, 0, 20), (20, 25, 44, 4, 23), (23, 0, 0, 332, 24), (24, 27, 71, 3, 27), (27, 0, 2, 146, 28), (28, 4, 20, 0, 29), (29, 0, 4, 146, 31), (31, 11, 0, 0, 32), (32, 9, 0, 0, 33), (33, 33, 9, 0, 34), (34, 25, 44, 3, 37), (37, 0, 3, 146, 38), (38, 4, 20, 0, 39), (39, 0, 4, 146, 41), (41, 11, 0, 0, 42), (42, 9, 0, 0, 43), (43, 1, 3, 146, 44)]), (44, [(44, 3, 4, 20, 47), (47, 23, 5, 0, 50)]), (50, [(50, 0, 3, 146, 51), (51, 42, 0, 0, 52)])]
def zc_X12_tales : List (Nat × List zx_E) := [(0, [(0, 0, 0, 332, 1), (1, 4, 4, 0, 2), (2, 28, 153092295, 57, 5), (5, 0, 0, 332, 6), (6, 0, 1, 146, 7), (7, 41, 33, 0, 10), (10, 25, 15, 5, 13), (13, 4, 68719476724, 0, 14), (14, 42, 0, 0, 15)]), (15, [(15, 0, 0, 332, 16), (16, 0, 2, 146, 17), (17, 41, 21, 0, 20), (20, 0, 0, 332, 21), (21, 0, 1, 146, 22), (22, 4, 4, 0, 23), (23, 0, 0, 332, 24), (24, 41, 20, 0, 27), (27, 41, 16, 0, 30), (30, 1, 3, 146, 31), (31, 0, 3, 146, 32), (32, 25, 45, 3, 35), (35, 0, 0, 332, 36), (36, 0, 1, 146, 37), (37, 4, 4, 0, 38), (38, 0, 0, 332, 39), (39, 41, 20, 0, 42), (42, 41, 59, 0, 45)]), (45, [(45, 0, 3, 146, 46), (46, 42, 0, 0, 47)])]
def zc_X12_layFirst : List (Nat × List zx_E) := [(0, [(0, 4, 4, 0, 1), (1, 1, 4, 146, 3), (3, 0, 0, 332, 4), (4, 4, 4, 0, 5), (5, 28, 153092295, 57, 8)]), (8, [(8, 0, 4, 146, 10), (10, 0, 1, 146, 11), (11, 24, 85, 4, 14), (14, 4, 4, 0, 15), (15, 1, 5, 146, 17)]), (17, [(17, 0, 0, 332, 18), (18, 0, 5, 146, 20), (20, 0, 1, 146, 21), (21, 0, 4, 146, 23), (23, 0, 2, 146, 24), (24, 0, 3, 146, 25), (25, 41, 17, 0, 28), (28, 25, 46, 4, 31), (31, 0, 0, 332, 32), (32, 27, 199, 54, 35), (35, 0, 4, 146, 37), (37, 4, 20, 0, 38), (38, 0, 5, 146, 40), (40, 11, 0, 0, 41), (41, 9, 0, 0, 42), (42, 33, 9, 0, 43), (43, 25, 52, 5, 46)]), (46, [(46, 3, 5, 20, 49), (49, 23, 17, 0, 52)]), (52, [(52, 0, 0, 332, 53), (53, 27, 199, 56, 56), (56, 0, 0, 332, 57), (57, 27, 199, 57, 60), (60, 0, 5, 146, 62), (62, 34, 9, 0, 63), (63, 0, 0, 332, 64), (64, 20, 0, 0, 65), (65, 27, 199, 57, 68), (68, 4, 20, 0, 69), (69, 5, 0, 0, 70), (70, 28, 153092295, 57, 73), (73, 0, 4, 146, 75), (75, 4, 20, 0, 76), (76, 0, 5, 146, 78), (78, 11, 0, 0, 79), (79, 9, 0, 0, 80), (80, 1, 4, 146, 82), (82, 23, 8, 0, 85)]), (85, [(85, 43, 0, 0, 86)])]
def zc_X11_tales : List (Nat × List zx_E) := [(0, [(0, 0, 0, 332, 1), (1, 27, 183, 8, 4), (4, 41, 65, 0, 7), (7, 0, 0, 332, 8), (8, 0, 1, 146, 9), (9, 41, 52, 0, 12), (12, 25, 17, 5, 15), (15, 4, 68719476724, 0, 16), (16, 42, 0, 0, 17)]), (17, [(17, 0, 0, 332, 18), (18, 0, 1, 146, 19), (19, 0, 2, 146, 20), (20, 41, 42, 0, 23), (23, 0, 0, 332, 24), (24, 27, 183, 6, 27), (27, 0, 1, 146, 28), (28, 41, 36, 0, 31), (31, 1, 3, 146, 32), (32, 0, 0, 332, 33), (33, 27, 183, 6, 36), (36, 0, 1, 146, 37), (37, 0, 0, 332, 38), (38, 27, 183, 8, 41), (41, 41, 61, 0, 44), (44, 0, 3, 146, 45), (45, 42, 0, 0, 46)])]
def zc_X4_pileFirstOrder : List (Nat × List zx_E) := [(0, [(0, 0, 1, 146, 1), (1, 4, 16372, 0, 4), (4, 41, 39, 5, 7), (7, 25, 19, 4, 10), (10, 0, 0, 332, 11), (11, 27, 71, 3, 14), (14, 4, 4, 0, 15), (15, 33, 9, 0, 16), (16, 25, 20, 5, 19)]), (19, [(19, 43, 0, 0, 20)]), (20, [(20, 4, 4, 0, 21), (21, 1, 3, 146, 22), (22, 0, 1, 146, 23), (23, 41, 9, 1, 26), (26, 1, 4, 146, 28)]), (28, [(28, 0, 4, 146, 30), (30, 25, 69, 3, 33), (33, 0, 0, 332, 34), (34, 0, 1, 146, 35), (35, 0, 3, 146, 36), (36, 41, 57, 0, 39), (39, 41, 63, 1, 42), (42, 1, 5, 146, 44), (44, 0, 5, 146, 46), (46, 4, 68719476724, 0, 47), (47, 24, 63, 4, 50), (50, 0, 2, 332, 51), (51, 0, 5, 146, 53), (53, 41, 62, 0, 56), (56, 0, 3, 146, 57), (57, 4, 20, 0, 58), (58, 0, 5, 146, 60), (60, 11, 0, 0, 61), (61, 9, 0, 0, 62), (62, 1, 3, 146, 63)]), (63, [(63, 3, 4, 68719476724, 66), (66, 23, 28, 0, 69)]), (69, [(69, 43, 0, 0, 70)])]
def zc_X5_put : List (Nat × List zx_E) := [(0, [(0, 0, 0, 332, 1), (1, 27, 87, 1, 4), (4, 0, 0, 332, 5), (5, 27, 87, 0, 8), (8, 32, 0, 0, 9), (9, 24, 32, 1, 12), (12, 0, 0, 332, 13), (13, 27, 87, 0, 16), (16, 0, 0, 332, 17), (17, 27, 87, 1, 20), (20, 0, 1, 146, 21), (21, 34, 9, 0, 22), (22, 0, 0, 332, 23), (23, 20, 0, 0, 24), (24, 27, 87, 1, 27), (27, 4, 20, 0, 28), (28, 5, 0, 0, 29), (29, 28, 153092183, 1, 32)]), (32, [(32, 43, 0, 0, 33)])]
def zc_X4_firstOf : List (Nat × List zx_E) := [(0, [(0, 0, 0, 146, 1), (1, 25, 8, 5, 4), (4, 4, 68719476724, 0, 5), (5, 23, 12, 0, 8)]), (8, [(8, 0, 0, 146, 9), (9, 41, 64, 1, 12)]), (12, [(12, 42, 0, 0, 13)])]
def zc_J6_numberOfTrailingZeros_0f7a4 : List (Nat × List zx_E) := [(0, [(0, 0, 0, 146, 1), (1, 4, 68719476724, 0, 2), (2, 10, 0, 0, 3), (3, 0, 0, 146, 4), (4, 4, 20, 0, 5), (5, 6, 0, 0, 6), (6, 8, 0, 0, 7), (7, 1, 0, 146, 8), (8, 0, 0, 146, 9), (9, 25, 17, 2, 12), (12, 0, 0, 146, 13), (13, 4, 516, 0, 15), (15, 8, 0, 0, 16), (16, 42, 0, 0, 17)]), (17, [(17, 4, 20, 0, 18), (18, 1, 1, 146, 19), (19, 0, 0, 146, 20), (20, 4, 1048580, 0, 23), (23, 24, 34, 3, 26), (26, 3, 1, 260, 29), (29, 0, 0, 146, 30), (30, 4, 260, 0, 32), (32, 13, 0, 0, 33), (33, 1, 0, 146, 34)]), (34, [(34, 0, 0, 146, 35), (35, 4, 4100, 0, 38), (38, 24, 49, 3, 41), (41, 3, 1, 132, 44), (44, 0, 0, 146, 45), (45, 4, 132, 0, 47), (47, 13, 0, 0, 48), (48, 1, 0, 146, 49)]), (49, [(49, 0, 0, 146, 50), (50, 4, 260, 0, 52), (52, 24, 62, 3, 55), (55, 3, 1, 68, 58), (58, 0, 0, 146, 59), (59, 4, 68, 0, 60), (60, 13, 0, 0, 61), (61, 1, 0, 146, 62)]), (62, [(62, 0, 0, 146, 63), (63, 4, 68, 0, 64), (64, 24, 74, 3, 67), (67, 3, 1, 36, 70), (70, 0, 0, 146, 71), (71, 4, 36, 0, 72), (72, 13, 0, 0, 73), (73, 1, 0, 146, 74)]), (74, [(74, 0, 1, 146, 75), (75, 0, 0, 146, 76), (76, 4, 20, 0, 77), (77, 13, 0, 0, 78), (78, 5, 0, 0, 79), (79, 42, 0, 0, 80)])]
def zc_X5_clear : List (Nat × List zx_E) := [(0, [(0, 0, 0, 332, 1), (1, 4, 4, 0, 2), (2, 28, 153092183, 1, 5), (5, 43, 0, 0, 6)])]
def zc_X12_later : List (Nat × List zx_E) := [(0, [(0, 0, 1, 146, 1), (1, 4, 4, 0, 2), (2, 4, 16004, 0, 5), (5, 41, 7, 1, 8), (8, 25, 23, 4, 11), (11, 0, 0, 332, 12), (12, 27, 199, 69, 15), (15, 0, 1, 146, 16), (16, 5, 0, 0, 17), (17, 4, 1600004, 0, 20), (20, 24, 25, 3, 23)]), (23, [(23, 4, 68719476724, 0, 24), (24, 42, 0, 0, 25)]), (25, [(25, 0, 0, 332, 26), (26, 20, 0, 0, 27), (27, 27, 199, 69, 30), (30, 0, 1, 146, 31), (31, 5, 0, 0, 32), (32, 28, 153092295, 69, 35), (35, 0, 0, 332, 36), (36, 27, 199, 69, 39), (39, 42, 0, 0, 40)])]
def zc_X11_later : List (Nat × List zx_E) := [(0, [(0, 0, 1, 146, 1), (1, 25, 26, 0, 4), (4, 0, 1, 146, 5), (5, 4, 16004, 0, 8), (8, 24, 26, 2, 11), (11, 0, 0, 332, 12), (12, 27, 183, 5, 15), (15, 27, 23, 5, 18), (18, 0, 1, 146, 19), (19, 5, 0, 0, 20), (20, 4, 1600004, 0, 23), (23, 24, 28, 3, 26)]), (26, [(26, 4, 68719476724, 0, 27), (27, 42, 0, 0, 28)]), (28, [(28, 0, 0, 332, 29), (29, 27, 183, 5, 32), (32, 20, 0, 0, 33), (33, 27, 23, 5, 36), (36, 0, 1, 146, 37), (37, 5, 0, 0, 38), (38, 28, 153092119, 5, 41), (41, 0, 0, 332, 42), (42, 27, 183, 5, 45), (45, 27, 23, 5, 48), (48, 42, 0, 0, 49)])]
def zc_X12_untell : List (Nat × List zx_E) := [(0, [(0, 0, 1, 146, 1), (1, 4, 4, 0, 2), (2, 0, 0, 332, 3), (3, 27, 199, 68, 6), (6, 4, 20, 0, 7), (7, 6, 0, 0, 8), (8, 41, 7, 1, 11), (11, 25, 23, 4, 14), (14, 0, 0, 332, 15), (15, 27, 199, 67, 18), (18, 0, 1, 146, 19), (19, 33, 9, 0, 20), (20, 25, 25, 0, 23)]), (23, [(23, 4, 4, 0, 24), (24, 42, 0, 0, 25)]), (25, [(25, 0, 0, 332, 26), (26, 27, 199, 67, 29), (29, 0, 1, 146, 30), (30, 0, 0, 332, 31), (31, 27, 199, 69, 34), (34, 34, 9, 0, 35), (35, 4, 20, 0, 36), (36, 42, 0, 0, 37)])]
def zc_X11_untell : List (Nat × List zx_E) := [(0, [(0, 0, 0, 332, 1), (1, 27, 183, 5, 4), (4, 0, 1, 146, 5), (5, 41, 70, 0, 8), (8, 42, 0, 0, 9)])]
def zc_X1_takeBack : List (Nat × List zx_E) := [(0, [(0, 0, 1, 146, 1), (1, 25, 22, 0, 4), (4, 0, 1, 146, 5), (5, 0, 0, 332, 6), (6, 27, 23, 4, 9), (9, 24, 22, 1, 12), (12, 0, 0, 332, 13), (13, 27, 23, 3, 16), (16, 0, 1, 146, 17), (17, 33, 9, 0, 18), (18, 4, 68719476724, 0, 19), (19, 24, 24, 4, 22)]), (22, [(22, 4, 4, 0, 23), (23, 42, 0, 0, 24)]), (24, [(24, 0, 0, 332, 25), (25, 27, 23, 3, 28), (28, 0, 1, 146, 29), (29, 0, 0, 332, 30), (30, 27, 23, 5, 33), (33, 34, 9, 0, 34), (34, 4, 20, 0, 35), (35, 42, 0, 0, 36)])]
def zc_X12_heard : List (Nat × List zx_E) := [(0, [(0, 0, 0, 332, 1), (1, 0, 1, 146, 2), (2, 41, 32, 0, 5), (5, 25, 30, 4, 8), (8, 0, 0, 332, 9), (9, 0, 2, 146, 10), (10, 41, 32, 0, 13), (13, 25, 30, 4, 16), (16, 0, 1, 146, 17), (17, 0, 2, 146, 18), (18, 24, 30, 4, 21), (21, 0, 0, 332, 22), (22, 27, 199, 68, 25), (25, 4, 484, 0, 27), (27, 24, 32, 5, 30)]), (30, [(30, 4, 68719476724, 0, 31), (31, 42, 0, 0, 32)]), (32, [(32, 0, 0, 332, 33), (33, 27, 199, 64, 36), (36, 0, 0, 332, 37), (37, 27, 199, 68, 40), (40, 0, 1, 146, 41), (41, 34, 9, 0, 42), (42, 0, 0, 332, 43), (43, 27, 199, 65, 46), (46, 0, 0, 332, 47), (47, 27, 199, 68, 50), (50, 0, 2, 146, 51), (51, 34, 9, 0, 52), (52, 0, 0, 332, 53), (53, 27, 199, 66, 56), (56, 0, 0, 332, 57), (57, 27, 199, 68, 60), (60, 0, 0, 332, 61), (61, 27, 199, 69, 64), (64, 34, 9, 0, 65), (65, 0, 0, 332, 66), (66, 27, 199, 67, 69), (69, 0, 0, 332, 70), (70, 27, 199, 68, 73), (73, 4, 68719476724, 0, 74), (74, 34, 9, 0, 75), (75, 0, 0, 332, 76), (76, 20, 0, 0, 77), (77, 27, 199, 68, 80), (80, 4, 20, 0, 81), (81, 5, 0, 0, 82), (82, 28, 153092295, 68, 85), (85, 0, 0, 332, 86), (86, 27, 199, 68, 89), (89, 4, 20, 0, 90), (90, 6, 0, 0, 91), (91, 42, 0, 0, 92)])]
def zc_X11_heard : List (Nat × List zx_E) := [(0, [(0, 0, 0, 332, 1), (1, 27, 183, 9, 4), (4, 0, 1, 146, 5), (5, 41, 50, 0, 8), (8, 25, 27, 4, 11), (11, 0, 0, 332, 12), (12, 27, 183, 9, 15), (15, 0, 2, 146, 16), (16, 41, 50, 0, 19), (19, 25, 27, 4, 22), (22, 0, 1, 146, 23), (23, 0, 2, 146, 24), (24, 24, 29, 5, 27)]), (27, [(27, 4, 68719476724, 0, 28), (28, 42, 0, 0, 29)]), (29, [(29, 0, 0, 332, 30), (30, 27, 183, 5, 33), (33, 0, 1, 146, 34), (34, 0, 2, 146, 35), (35, 41, 73, 0, 38), (38, 42, 0, 0, 39)])]
def zc_X1_tell : List (Nat × List zx_E) := [(0, [(0, 0, 0, 332, 1), (1, 27, 23, 4, 4), (4, 4, 484, 0, 6), (6, 24, 11, 0, 9), (9, 4, 68719476724, 0, 10), (10, 42, 0, 0, 11)]), (11, [(11, 0, 0, 332, 12), (12, 27, 23, 0, 15), (15, 0, 0, 332, 16), (16, 27, 23, 4, 19), (19, 0, 1, 146, 20), (20, 34, 9, 0, 21), (21, 0, 0, 332, 22), (22, 27, 23, 1, 25), (25, 0, 0, 332, 26), (26, 27, 23, 4, 29), (29, 0, 2, 146, 30), (30, 34, 9, 0, 31), (31, 0, 0, 332, 32), (32, 27, 23, 2, 35), (35, 0, 0, 332, 36), (36, 27, 23, 4, 39), (39, 0, 0, 332, 40), (40, 27, 23, 5, 43), (43, 34, 9, 0, 44), (44, 0, 0, 332, 45), (45, 27, 23, 3, 48), (48, 0, 0, 332, 49), (49, 27, 23, 4, 52), (52, 4, 68719476724, 0, 53), (53, 34, 9, 0, 54), (54, 0, 0, 332, 55), (55, 20, 0, 0, 56), (56, 27, 23, 4, 59), (59, 4, 20, 0, 60), (60, 5, 0, 0, 61), (61, 28, 153092119, 4, 64), (64, 0, 0, 332, 65), (65, 27, 23, 4, 68), (68, 4, 20, 0, 69), (69, 6, 0, 0, 70), (70, 42, 0, 0, 71)])]
def zc_X12_lies : List (Nat × List zx_E) := [(0, [(0, 0, 1, 146, 1), (1, 4, 4, 0, 2), (2, 0, 0, 332, 3), (3, 27, 199, 57, 6), (6, 4, 20, 0, 7), (7, 6, 0, 0, 8), (8, 41, 7, 1, 11), (11, 25, 23, 4, 14), (14, 0, 0, 332, 15), (15, 27, 199, 56, 18), (18, 0, 1, 146, 19), (19, 33, 9, 0, 20), (20, 23, 24, 0, 23)]), (23, [(23, 4, 68719476724, 0, 24)]), (24, [(24, 42, 0, 0, 25)])]
def zc_X11_lies : List (Nat × List zx_E) := [(0, [(0, 0, 0, 332, 1), (1, 27, 183, 8, 4), (4, 0, 1, 146, 5), (5, 41, 76, 0, 8), (8, 42, 0, 0, 9)])]
def zc_X5_at : List (Nat × List zx_E) := [(0, [(0, 0, 1, 146, 1), (1, 25, 21, 0, 4), (4, 0, 1, 146, 5), (5, 0, 0, 332, 6), (6, 27, 87, 1, 9), (9, 24, 21, 1, 12), (12, 0, 0, 332, 13), (13, 27, 87, 0, 16), (16, 0, 1, 146, 17), (17, 33, 9, 0, 18), (18, 23, 22, 0, 21)]), (21, [(21, 4, 68719476724, 0, 22)]), (22, [(22, 42, 0, 0, 23)])]
def zc_X12_race : List (Nat × List zx_E) := [(0, [(0, 0, 0, 332, 1), (1, 0, 1, 146, 2), (2, 41, 34, 0, 5), (5, 25, 22, 4, 8), (8, 0, 0, 332, 9), (9, 0, 2, 146, 10), (10, 41, 34, 0, 13), (13, 25, 22, 4, 16), (16, 0, 1, 146, 17), (17, 0, 2, 146, 18), (18, 8, 0, 0, 19), (19, 25, 24, 4, 22)]), (22, [(22, 4, 68719476724, 0, 23), (23, 42, 0, 0, 24)]), (24, [(24, 0, 0, 332, 25), (25, 0, 0, 332, 26), (26, 27, 199, 49, 29), (29, 4, 36, 0, 30), (30, 33, 9, 0, 31), (31, 41, 23, 0, 34), (34, 4, 68719476724, 0, 35), (35, 1, 3, 146, 36), (36, 4, 20, 0, 37), (37, 0, 0, 332, 38), (38, 41, 1, 0, 41), (41, 11, 0, 0, 42), (42, 4, 20, 0, 43), (43, 6, 0, 0, 44), (44, 1, 4, 146, 46)]), (46, [(46, 0, 4, 146, 48), (48, 0, 0, 332, 49), (49, 27, 199, 49, 52), (52, 4, 4, 0, 53), (53, 33, 9, 0, 54), (54, 24, 143, 0, 57), (57, 0, 4, 146, 59), (59, 0, 0, 332, 60), (60, 27, 199, 49, 63), (63, 4, 4, 0, 64), (64, 33, 9, 0, 65), (65, 8, 0, 0, 66), (66, 0, 0, 332, 67), (67, 27, 199, 49, 70), (70, 4, 4, 0, 71), (71, 33, 9, 0, 72), (72, 24, 78, 4, 75), (75, 23, 137, 0, 78)]), (78, [(78, 0, 4, 146, 80), (80, 0, 0, 332, 81), (81, 27, 199, 49, 84), (84, 4, 4, 0, 85), (85, 33, 9, 0, 86), (86, 4, 68719476724, 0, 87), (87, 10, 0, 0, 88), (88, 8, 0, 0, 89), (89, 41, 6, 1, 92), (92, 4, 36, 0, 93), (93, 15, 0, 0, 94), (94, 25, 101, 5, 97), (97, 4, 20, 0, 98), (98, 23, 102, 0, 101)]), (101, [(101, 4, 4, 0, 102)]), (102, [(102, 1, 5, 146, 104), (104, 0, 0, 332, 105), (105, 0, 4, 146, 107), (107, 0, 5, 146, 109), (109, 25, 116, 4, 112), (112, 0, 1, 146, 113), (113, 23, 117, 0, 116)]), (116, [(116, 0, 2, 146, 117)]), (117, [(117, 41, 78, 0, 120), (120, 1, 3, 146, 121), (121, 0, 0, 332, 122), (122, 27, 199, 63, 125), (125, 0, 4, 146, 127), (127, 0, 3, 146, 128), (128, 25, 135, 0, 131), (131, 4, 20, 0, 132), (132, 23, 136, 0, 135)]), (135, [(135, 4, 4, 0, 136)]), (136, [(136, 34, 54, 0, 137)]), (137, [(137, 3, 4, 68719476724, 140), (140, 23, 46, 0, 143)]), (143, [(143, 0, 3, 146, 144), (144, 25, 151, 1, 147), (147, 4, 4, 0, 148), (148, 23, 155, 0, 151)]), (151, [(151, 4, 164, 0, 153), (153, 0, 3, 146, 154), (154, 5, 0, 0, 155)]), (155, [(155, 42, 0, 0, 156)])]
def zc_X12_winsBy : List (Nat × List zx_E) := [(0, [(0, 4, 4, 0, 1), (1, 1, 3, 146, 2)]), (2, [(2, 0, 3, 146, 3), (3, 0, 0, 332, 4), (4, 41, 1, 0, 7), (7, 24, 46, 1, 10), (10, 0, 0, 332, 11), (11, 0, 3, 146, 12), (12, 0, 1, 146, 13), (13, 0, 0, 332, 14), (14, 41, 20, 0, 17), (17, 0, 2, 146, 18), (18, 8, 0, 0, 19), (19, 41, 18, 0, 22), (22, 25, 40, 4, 25), (25, 0, 0, 332, 26), (26, 27, 199, 63, 29), (29, 0, 1, 146, 30), (30, 4, 20, 0, 31), (31, 0, 3, 146, 32), (32, 11, 0, 0, 33), (33, 9, 0, 0, 34), (34, 33, 54, 0, 35), (35, 25, 40, 5, 38), (38, 0, 3, 146, 39), (39, 42, 0, 0, 40)]), (40, [(40, 3, 3, 20, 43), (43, 23, 2, 0, 46)]), (46, [(46, 4, 68719476724, 0, 47), (47, 42, 0, 0, 48)])]
def zc_X11_race : List (Nat × List zx_E) := [(0, [(0, 0, 1, 146, 1), (1, 0, 0, 332, 2), (2, 27, 183, 9, 5), (5, 41, 53, 0, 8), (8, 41, 39, 1, 11), (11, 25, 34, 4, 14), (14, 0, 2, 146, 15), (15, 0, 0, 332, 16), (16, 27, 183, 9, 19), (19, 41, 53, 0, 22), (22, 41, 39, 1, 25), (25, 25, 34, 4, 28), (28, 0, 1, 146, 29), (29, 0, 2, 146, 30), (30, 8, 0, 0, 31), (31, 25, 36, 4, 34)]), (34, [(34, 4, 68719476724, 0, 35), (35, 42, 0, 0, 36)]), (36, [(36, 0, 0, 332, 37), (37, 27, 183, 6, 40), (40, 0, 0, 332, 41), (41, 27, 183, 9, 44), (44, 0, 0, 332, 45), (45, 27, 183, 10, 48), (48, 27, 135, 2, 51), (51, 41, 46, 0, 54), (54, 0, 0, 332, 55), (55, 27, 183, 6, 58), (58, 0, 0, 332, 59), (59, 27, 183, 10, 62), (62, 27, 135, 0, 65), (65, 0, 0, 332, 66), (66, 27, 183, 10, 69), (69, 0, 0, 332, 70), (70, 27, 183, 9, 73), (73, 41, 82, 0, 76), (76, 41, 44, 0, 79), (79, 0, 0, 332, 80), (80, 27, 183, 6, 83), (83, 0, 1, 146, 84), (84, 0, 2, 146, 85), (85, 41, 80, 0, 88), (88, 1, 3, 146, 89), (89, 0, 3, 146, 90), (90, 4, 68719476724, 0, 91), (91, 24, 98, 5, 94), (94, 4, 4, 0, 95), (95, 23, 102, 0, 98)]), (98, [(98, 4, 164, 0, 100), (100, 0, 3, 146, 101), (101, 5, 0, 0, 102)]), (102, [(102, 42, 0, 0, 103)])]
def zc_X4_winningDoor : List (Nat × List zx_E) := [(0, [(0, 0, 1, 146, 1), (1, 0, 2, 146, 2), (2, 9, 0, 0, 3), (3, 0, 0, 332, 4), (4, 27, 71, 6, 7), (7, 8, 0, 0, 8), (8, 1, 3, 146, 9), (9, 0, 3, 146, 10), (10, 1, 4, 146, 12)]), (12, [(12, 0, 4, 146, 14), (14, 25, 73, 0, 17), (17, 0, 4, 146, 19), (19, 0, 3, 146, 20), (20, 41, 39, 5, 23), (23, 25, 67, 4, 26), (26, 0, 4, 146, 28), (28, 41, 9, 1, 31), (31, 4, 36, 0, 32), (32, 15, 0, 0, 33), (33, 25, 40, 5, 36), (36, 0, 1, 146, 37), (37, 23, 41, 0, 40)]), (40, [(40, 0, 2, 146, 41)]), (41, [(41, 1, 5, 146, 43), (43, 0, 0, 332, 44), (44, 27, 71, 4, 47), (47, 0, 4, 146, 49), (49, 0, 0, 332, 50), (50, 0, 5, 146, 52), (52, 0, 4, 146, 54), (54, 41, 81, 0, 57), (57, 4, 68719476724, 0, 58), (58, 24, 65, 4, 61), (61, 4, 20, 0, 62), (62, 23, 66, 0, 65)]), (65, [(65, 4, 4, 0, 66)]), (66, [(66, 34, 54, 0, 67)]), (67, [(67, 3, 4, 68719476724, 70), (70, 23, 12, 0, 73)]), (73, [(73, 0, 0, 332, 74), (74, 0, 1, 146, 75), (75, 4, 4, 0, 76), (76, 41, 81, 0, 79), (79, 42, 0, 0, 80)])]
def zc_X4_winningMove : List (Nat × List zx_E) := [(0, [(0, 4, 4, 0, 1), (1, 1, 3, 146, 2)]), (2, [(2, 0, 3, 146, 3), (3, 4, 164, 0, 5), (5, 24, 47, 1, 8), (8, 0, 1, 146, 9), (9, 0, 3, 146, 10), (10, 41, 12, 5, 13), (13, 4, 20, 0, 14), (14, 24, 41, 5, 17), (17, 0, 0, 332, 18), (18, 0, 3, 146, 19), (19, 0, 2, 146, 20), (20, 41, 40, 0, 23), (23, 25, 41, 4, 26), (26, 0, 0, 332, 27), (27, 27, 71, 4, 30), (30, 0, 2, 146, 31), (31, 4, 20, 0, 32), (32, 0, 3, 146, 33), (33, 11, 0, 0, 34), (34, 9, 0, 0, 35), (35, 33, 54, 0, 36), (36, 25, 41, 5, 39), (39, 0, 3, 146, 40), (40, 42, 0, 0, 41)]), (41, [(41, 3, 3, 20, 44), (44, 23, 2, 0, 47)]), (47, [(47, 4, 68719476724, 0, 48), (48, 42, 0, 0, 49)])]
def zc_X8_ready : List (Nat × List zx_E) := [(0, [(0, 0, 1, 332, 1), (1, 41, 53, 0, 4), (4, 0, 0, 332, 5), (5, 27, 135, 0, 8), (8, 4, 68719476724, 0, 9), (9, 10, 0, 0, 10), (10, 8, 0, 0, 11), (11, 0, 1, 332, 12), (12, 27, 103, 14, 15), (15, 4, 68719476724, 0, 16), (16, 10, 0, 0, 17), (17, 8, 0, 0, 18), (18, 0, 0, 332, 19), (19, 27, 135, 1, 22), (22, 4, 68719476724, 0, 23), (23, 10, 0, 0, 24), (24, 8, 0, 0, 25), (25, 42, 0, 0, 26)])]
def zc_X12_make : List (Nat × List zx_E) := [(0, [(0, 0, 0, 332, 1), (1, 0, 1, 146, 2), (2, 0, 2, 146, 3), (3, 0, 3, 146, 4), (4, 0, 4, 146, 6), (6, 0, 5, 146, 8), (8, 41, 91, 0, 11), (11, 25, 16, 5, 14), (14, 4, 68719476724, 0, 15), (15, 42, 0, 0, 16)]), (16, [(16, 0, 0, 332, 17), (17, 27, 199, 49, 20), (20, 4, 4, 0, 21), (21, 33, 9, 0, 22), (22, 0, 0, 332, 23), (23, 27, 199, 32, 26), (26, 0, 0, 332, 27), (27, 27, 199, 43, 30), (30, 33, 9, 0, 31), (31, 4, 68719476724, 0, 32), (32, 10, 0, 0, 33), (33, 8, 0, 0, 34), (34, 1, 6, 146, 36), (36, 4, 4, 0, 37), (37, 1, 7, 146, 39)]), (39, [(39, 0, 7, 146, 41), (41, 4, 52, 0, 42), (42, 24, 116, 2, 45), (45, 4, 4, 0, 46), (46, 1, 8, 146, 48)]), (48, [(48, 0, 8, 146, 50), (50, 0, 6, 146, 52), (52, 24, 110, 2, 55), (55, 0, 8, 146, 57), (57, 0, 6, 146, 59), (59, 8, 0, 0, 60), (60, 0, 8, 146, 62), (62, 24, 104, 5, 65), (65, 0, 8, 146, 67), (67, 41, 6, 1, 70), (70, 0, 7, 146, 72), (72, 24, 104, 5, 75), (75, 0, 0, 332, 76), (76, 0, 1, 146, 77), (77, 0, 2, 146, 78), (78, 0, 3, 146, 79), (79, 0, 4, 146, 81), (81, 0, 5, 146, 83), (83, 0, 0, 332, 84), (84, 27, 199, 49, 87), (87, 4, 4, 0, 88), (88, 33, 9, 0, 89), (89, 0, 8, 146, 91), (91, 4, 68719476724, 0, 92), (92, 10, 0, 0, 93), (93, 8, 0, 0, 94), (94, 4, 68719476724, 0, 95), (95, 41, 84, 0, 98), (98, 25, 104, 0, 101), (101, 0, 8, 146, 103), (103, 42, 0, 0, 104)]), (104, [(104, 3, 8, 20, 107), (107, 23, 48, 0, 110)]), (110, [(110, 3, 7, 20, 113), (113, 23, 39, 0, 116)]), (116, [(116, 4, 68719476724, 0, 117), (117, 42, 0, 0, 118)])]
def zc_X12_wayBy : List (Nat × List zx_E) := [(0, [(0, 0, 0, 332, 1), (1, 4, 260, 0, 3), (3, 0, 1, 146, 4), (4, 7, 0, 0, 5), (5, 0, 2, 146, 6), (6, 5, 0, 0, 7), (7, 0, 5, 146, 9), (9, 0, 6, 146, 11), (11, 0, 7, 146, 13), (13, 41, 85, 0, 16), (16, 0, 0, 332, 17), (17, 27, 199, 59, 20), (20, 4, 260, 0, 22), (22, 0, 3, 146, 23), (23, 7, 0, 0, 24), (24, 0, 4, 146, 26), (26, 5, 0, 0, 27), (27, 33, 9, 0, 28), (28, 42, 0, 0, 29)])]
def zc_X12_laySteps_0 : List (Nat × List zx_E) := [(0, [(0, 4, 4, 0, 1), (1, 1, 5, 146, 3)]), (3, [(3, 0, 5, 146, 5), (5, 4, 1028, 0, 7), (7, 24, 24, 1, 10), (10, 0, 0, 332, 11), (11, 27, 199, 59, 14), (14, 0, 5, 146, 16), (16, 4, 68719476724, 0, 17), (17, 34, 9, 0, 18), (18, 3, 5, 20, 21), (21, 23, 3, 0, 24)]), (24, [(24, 0, 0, 332, 25), (25, 4, 4, 0, 26), (26, 28, 153092295, 61, 29), (29, 0, 0, 332, 30), (30, 0, 1, 146, 31), (31, 4, 68719476724, 0, 32), (32, 0, 2, 146, 33), (33, 0, 3, 146, 34), (34, 0, 4, 146, 36), (36, 41, 86, 0, 39), (39, 4, 4, 0, 40), (40, 1, 5, 146, 42)]), (42, [(42, 0, 5, 146, 44), (44, 0, 0, 332, 45), (45, 27, 199, 61, 48), (48, 24, 227, 1, 51), (51, 0, 0, 332, 52), (52, 27, 199, 60, 55), (55, 0, 5, 146, 57), (57, 33, 9, 0, 58), (58, 1, 6, 146, 60), (60, 0, 6, 146, 62), (62, 4, 260, 0, 64), (64, 15, 0, 0, 65), (65, 25, 82, 3, 68), (68, 0, 0, 332, 69), (69, 0, 6, 146, 71), (71, 4, 20, 0, 72), (72, 6, 0, 0, 73), (73, 0, 6, 146, 75), (75, 0, 2, 146, 76), (76, 0, 3, 146, 77), (77, 0, 4, 146, 79), (79, 41, 86, 0, 82)]), (82, [(82, 0, 6, 146, 84), (84, 4, 260, 0, 86), (86, 15, 0, 0, 87), (87, 4, 244, 0, 89), (89, 24, 106, 1, 92), (92, 0, 0, 332, 93), (93, 0, 6, 146, 95), (95, 4, 20, 0, 96), (96, 5, 0, 0, 97), (97, 0, 6, 146, 99), (99, 0, 2, 146, 100), (100, 0, 3, 146, 101), (101, 0, 4, 146, 103), (103, 41, 86, 0, 106)]), (106, [(106, 4, 100, 0, 108), (108, 0, 0, 332, 109), (109, 27, 199, 43, 112), (112, 7, 0, 0, 113), (113, 1, 7, 146, 115)]), (115, [(115, 0, 7, 146, 117), (117, 4, 100, 0, 119), (119, 0, 0, 332, 120), (120, 27, 199, 43, 123), (123, 7, 0, 0, 124), (124, 0, 0, 332, 125), (125, 27, 199, 13, 128), (128, 0, 0, 332, 129), (129, 27, 199, 43, 132), (132, 33, 9, 0, 133), (133, 5, 0, 0, 134), (134, 24, 221, 1, 137), (137, 4, 260, 0, 139), (139, 0, 0, 332, 140), (140, 27, 199, 22, 143), (143, 0, 7, 146, 145), (145, 33, 9, 0, 146), (146, 7, 0, 0, 147), (147, 0, 0, 332, 148), (148, 27, 199, 23, 151), (151, 0, 7, 146, 153), (153, 33, 9, 0, 154), (154, 5, 0, 0, 155), (155, 1, 8, 146, 157), (157, 4, 260, 0, 159), (159, 0, 0, 332, 160), (160, 27, 199, 24, 163), (163, 0, 7, 146, 165), (165, 33, 9, 0, 166), (166, 7, 0, 0, 167), (167, 0, 0, 332, 168), (168, 27, 199, 25, 171), (171, 0, 7, 146, 173), (173, 33, 9, 0, 174), (174, 5, 0, 0, 175), (175, 1, 9, 146, 177), (177, 0, 6, 146, 179), (179, 0, 8, 146, 181), (181, 24, 196, 5, 184), (184, 0, 0, 332, 185), (185, 0, 9, 146, 187), (187, 0, 6, 146, 189), (189, 0, 2, 146, 190), (190, 0, 3, 146, 191), (191, 0, 4, 146, 193), (193, 41, 86, 0, 196)])]
def zc_X12_laySteps_1 : List (Nat × List zx_E) := [(196, [(196, 0, 6, 146, 198), (198, 0, 9, 146, 200), (200, 24, 215, 5, 203), (203, 0, 0, 332, 204), (204, 0, 8, 146, 206), (206, 0, 6, 146, 208), (208, 0, 2, 146, 209), (209, 0, 3, 146, 210), (210, 0, 4, 146, 212), (212, 41, 86, 0, 215)]), (215, [(215, 3, 7, 20, 218), (218, 23, 115, 0, 221)]), (221, [(221, 3, 5, 20, 224), (224, 23, 42, 0, 227)]), (227, [(227, 43, 0, 0, 228)])]
def zc_X12_laySteps : List (Nat × List zx_E) := zc_X12_laySteps_0 ++ (zc_X12_laySteps_1)
def zc_X12_comeTo : List (Nat × List zx_E) := [(0, [(0, 0, 0, 332, 1), (1, 27, 199, 59, 4), (4, 0, 1, 146, 5), (5, 33, 9, 0, 6), (6, 25, 22, 1, 9), (9, 0, 0, 332, 10), (10, 0, 1, 146, 11), (11, 0, 3, 146, 12), (12, 0, 4, 146, 14), (14, 0, 5, 146, 16), (16, 41, 87, 0, 19), (19, 25, 23, 5, 22)]), (22, [(22, 43, 0, 0, 23)]), (23, [(23, 0, 0, 332, 24), (24, 27, 199, 59, 27), (27, 0, 1, 146, 28), (28, 0, 2, 146, 29), (29, 25, 36, 1, 32), (32, 4, 4, 0, 33), (33, 23, 44, 0, 36)]), (36, [(36, 0, 0, 332, 37), (37, 27, 199, 59, 40), (40, 0, 2, 146, 41), (41, 33, 9, 0, 42), (42, 4, 20, 0, 43), (43, 5, 0, 0, 44)]), (44, [(44, 34, 9, 0, 45), (45, 0, 0, 332, 46), (46, 27, 199, 60, 49), (49, 0, 0, 332, 50), (50, 27, 199, 61, 53), (53, 0, 1, 146, 54), (54, 34, 9, 0, 55), (55, 0, 0, 332, 56), (56, 20, 0, 0, 57), (57, 27, 199, 61, 60), (60, 4, 20, 0, 61), (61, 5, 0, 0, 62), (62, 28, 153092295, 61, 65), (65, 43, 0, 0, 66)])]
def zc_X12_isFreeFor : List (Nat × List zx_E) := [(0, [(0, 0, 1, 146, 1), (1, 0, 4, 146, 3), (3, 24, 42, 4, 6), (6, 0, 0, 332, 7), (7, 0, 1, 146, 8), (8, 4, 260, 0, 10), (10, 14, 0, 0, 11), (11, 0, 1, 146, 12), (12, 4, 260, 0, 14), (14, 15, 0, 0, 15), (15, 41, 89, 0, 18), (18, 25, 42, 4, 21), (21, 0, 0, 332, 22), (22, 0, 1, 146, 23), (23, 4, 260, 0, 25), (25, 14, 0, 0, 26), (26, 0, 1, 146, 27), (27, 4, 260, 0, 29), (29, 15, 0, 0, 30), (30, 0, 3, 146, 31), (31, 41, 88, 0, 34), (34, 0, 2, 146, 35), (35, 24, 42, 0, 38), (38, 4, 20, 0, 39), (39, 23, 43, 0, 42)]), (42, [(42, 4, 4, 0, 43)]), (43, [(43, 42, 0, 0, 44)])]
def zc_X12_freeAt : List (Nat × List zx_E) := [(0, [(0, 0, 0, 332, 1), (1, 0, 1, 146, 2), (2, 41, 25, 0, 5), (5, 1, 4, 146, 7), (7, 4, 4, 0, 8), (8, 1, 5, 146, 10)]), (10, [(10, 0, 5, 146, 12), (12, 0, 0, 332, 13), (13, 41, 1, 0, 16), (16, 24, 71, 1, 19), (19, 0, 3, 146, 20), (20, 0, 5, 146, 22), (22, 41, 19, 1, 25), (25, 25, 65, 4, 28), (28, 0, 0, 332, 29), (29, 0, 5, 146, 31), (31, 41, 26, 0, 34), (34, 0, 1, 146, 35), (35, 24, 65, 5, 38), (38, 0, 0, 332, 39), (39, 0, 5, 146, 41), (41, 0, 0, 332, 42), (42, 27, 199, 49, 45), (45, 4, 36, 0, 46), (46, 33, 9, 0, 47), (47, 41, 30, 0, 50), (50, 0, 2, 146, 51), (51, 24, 65, 5, 54), (54, 0, 4, 146, 56), (56, 0, 0, 332, 57), (57, 0, 5, 146, 59), (59, 41, 27, 0, 62), (62, 6, 0, 0, 63), (63, 1, 4, 146, 65)]), (65, [(65, 3, 5, 20, 68), (68, 23, 10, 0, 71)]), (71, [(71, 0, 4, 146, 73), (73, 25, 80, 1, 76), (76, 4, 4, 0, 77), (77, 23, 82, 0, 80)]), (80, [(80, 0, 4, 146, 82)]), (82, [(82, 42, 0, 0, 83)])]
def zc_X12_isPlace : List (Nat × List zx_E) := [(0, [(0, 0, 0, 332, 1), (1, 0, 1, 146, 2), (2, 41, 90, 0, 5), (5, 25, 35, 4, 8), (8, 0, 2, 146, 9), (9, 4, 4, 0, 10), (10, 0, 0, 332, 11), (11, 27, 199, 17, 14), (14, 4, 68, 0, 15), (15, 0, 0, 332, 16), (16, 27, 199, 43, 19), (19, 7, 0, 0, 20), (20, 0, 1, 146, 21), (21, 5, 0, 0, 22), (22, 33, 9, 0, 23), (23, 4, 20, 0, 24), (24, 6, 0, 0, 25), (25, 41, 7, 1, 28), (28, 25, 35, 4, 31), (31, 4, 20, 0, 32), (32, 23, 36, 0, 35)]), (35, [(35, 4, 4, 0, 36)]), (36, [(36, 42, 0, 0, 37)])]
def zc_X12_isLane : List (Nat × List zx_E) := [(0, [(0, 0, 1, 146, 1), (1, 4, 4, 0, 2), (2, 0, 0, 332, 3), (3, 27, 199, 11, 6), (6, 0, 0, 332, 7), (7, 27, 199, 43, 10), (10, 33, 9, 0, 11), (11, 4, 20, 0, 12), (12, 6, 0, 0, 13), (13, 41, 7, 1, 16), (16, 42, 0, 0, 17)])]
def zc_X12_areFit : List (Nat × List zx_E) := [(0, [(0, 0, 0, 332, 1), (1, 0, 1, 146, 2), (2, 0, 2, 146, 3), (3, 41, 89, 0, 6), (6, 25, 34, 4, 9), (9, 0, 0, 332, 10), (10, 0, 3, 146, 11), (11, 0, 4, 146, 13), (13, 41, 89, 0, 16), (16, 25, 34, 4, 19), (19, 0, 5, 146, 21), (21, 4, 20, 0, 22), (22, 4, 132, 0, 24), (24, 41, 7, 1, 27), (27, 25, 34, 4, 30), (30, 4, 20, 0, 31), (31, 23, 35, 0, 34)]), (34, [(34, 4, 4, 0, 35)]), (35, [(35, 42, 0, 0, 36)])]
def zc_X11_make : List (Nat × List zx_E) := [(0, [(0, 0, 0, 332, 1), (1, 27, 183, 9, 4), (4, 0, 1, 146, 5), (5, 0, 2, 146, 6), (6, 41, 100, 0, 9), (9, 1, 6, 146, 11), (11, 0, 0, 332, 12), (12, 27, 183, 9, 15), (15, 0, 3, 146, 16), (16, 0, 4, 146, 18), (18, 41, 100, 0, 21), (21, 1, 7, 146, 23), (23, 0, 6, 146, 25), (25, 4, 68719476724, 0, 26), (26, 24, 43, 4, 29), (29, 0, 7, 146, 31), (31, 4, 68719476724, 0, 32), (32, 24, 43, 4, 35), (35, 0, 5, 146, 37), (37, 41, 103, 1, 40), (40, 25, 45, 5, 43)]), (43, [(43, 4, 68719476724, 0, 44), (44, 42, 0, 0, 45)]), (45, [(45, 0, 0, 332, 46), (46, 27, 183, 10, 49), (49, 27, 135, 0, 52), (52, 0, 0, 332, 53), (53, 27, 183, 9, 56), (56, 27, 103, 14, 59), (59, 4, 68719476724, 0, 60), (60, 10, 0, 0, 61), (61, 8, 0, 0, 62), (62, 1, 8, 146, 64), (64, 4, 4, 0, 65), (65, 1, 9, 146, 67)]), (67, [(67, 0, 9, 146, 69), (69, 4, 52, 0, 70), (70, 24, 169, 2, 73), (73, 4, 4, 0, 74), (74, 1, 10, 146, 76)]), (76, [(76, 0, 10, 146, 78), (78, 0, 8, 146, 80), (80, 24, 163, 2, 83), (83, 0, 10, 146, 85), (85, 0, 8, 146, 87), (87, 41, 39, 1, 90), (90, 25, 157, 4, 93), (93, 0, 10, 146, 95), (95, 41, 9, 1, 98), (98, 0, 9, 146, 100), (100, 24, 157, 5, 103), (103, 0, 0, 332, 104), (104, 27, 183, 7, 107), (107, 0, 0, 332, 108), (108, 27, 183, 9, 111), (111, 0, 0, 332, 112), (112, 27, 183, 10, 115), (115, 27, 135, 0, 118), (118, 0, 10, 146, 120), (120, 4, 68719476724, 0, 121), (121, 10, 0, 0, 122), (122, 8, 0, 0, 123), (123, 0, 0, 332, 124), (124, 27, 183, 10, 127), (127, 27, 135, 2, 130), (130, 41, 99, 0, 133), (133, 0, 0, 332, 134), (134, 27, 183, 7, 137), (137, 0, 0, 332, 138), (138, 27, 183, 9, 141), (141, 0, 6, 146, 143), (143, 0, 7, 146, 145), (145, 0, 5, 146, 147), (147, 41, 93, 0, 150), (150, 4, 68719476724, 0, 151), (151, 24, 157, 4, 154), (154, 0, 10, 146, 156), (156, 42, 0, 0, 157)]), (157, [(157, 3, 10, 20, 160), (160, 23, 76, 0, 163)]), (163, [(163, 3, 9, 20, 166), (166, 23, 67, 0, 169)]), (169, [(169, 4, 68719476724, 0, 170), (170, 42, 0, 0, 171)])]
def zc_X9_stepsBetween : List (Nat × List zx_E) := [(0, [(0, 0, 0, 332, 1), (1, 0, 1, 332, 2), (2, 0, 2, 146, 3), (3, 0, 4, 146, 5), (5, 4, 68719476724, 0, 6), (6, 41, 95, 0, 9), (9, 21, 0, 0, 10), (10, 0, 0, 332, 11), (11, 0, 3, 146, 12), (12, 41, 94, 0, 15), (15, 42, 0, 0, 16)])]
def zc_X9_stepsTo : List (Nat × List zx_E) := [(0, [(0, 0, 1, 146, 1), (1, 25, 19, 0, 4), (4, 0, 1, 146, 5), (5, 4, 1028, 0, 7), (7, 24, 19, 1, 10), (10, 0, 0, 332, 11), (11, 27, 151, 1, 14), (14, 0, 1, 146, 15), (15, 33, 9, 0, 16), (16, 23, 20, 0, 19)]), (19, [(19, 4, 68719476724, 0, 20)]), (20, [(20, 42, 0, 0, 21)])]
def zc_X9_walkFrom : List (Nat × List zx_E) := [(0, [(0, 0, 0, 332, 1), (1, 27, 151, 1, 4), (4, 4, 68719476724, 0, 5), (5, 41, 45, 1, 8), (8, 0, 0, 332, 9), (9, 0, 1, 332, 10), (10, 0, 2, 146, 11), (11, 0, 3, 146, 12), (12, 0, 4, 146, 14), (14, 41, 96, 0, 17), (17, 42, 0, 0, 18)])]
def zc_X9_walkOn : List (Nat × List zx_E) := [(0, [(0, 0, 0, 332, 1), (1, 4, 4, 0, 2), (2, 28, 153092247, 3, 5), (5, 0, 0, 332, 6), (6, 0, 2, 146, 7), (7, 4, 4, 0, 8), (8, 0, 3, 146, 9), (9, 0, 4, 146, 11), (11, 41, 97, 0, 14), (14, 4, 4, 0, 15), (15, 1, 5, 146, 17)]), (17, [(17, 0, 5, 146, 19), (19, 0, 0, 332, 20), (20, 27, 151, 3, 23), (23, 24, 178, 1, 26), (26, 0, 5, 146, 28), (28, 4, 1028, 0, 30), (30, 24, 178, 1, 33), (33, 0, 0, 332, 34), (34, 27, 151, 2, 37), (37, 0, 5, 146, 39), (39, 33, 9, 0, 40), (40, 1, 6, 146, 42), (42, 0, 0, 332, 43), (43, 27, 151, 1, 46), (46, 0, 6, 146, 48), (48, 33, 9, 0, 49), (49, 4, 20, 0, 50), (50, 5, 0, 0, 51), (51, 1, 7, 146, 53), (53, 0, 6, 146, 55), (55, 4, 260, 0, 57), (57, 15, 0, 0, 58), (58, 1, 8, 146, 60), (60, 0, 8, 146, 62), (62, 25, 78, 3, 65), (65, 0, 0, 332, 66), (66, 0, 6, 146, 68), (68, 4, 20, 0, 69), (69, 6, 0, 0, 70), (70, 0, 7, 146, 72), (72, 0, 3, 146, 73), (73, 0, 4, 146, 75), (75, 41, 97, 0, 78)]), (78, [(78, 0, 8, 146, 80), (80, 4, 244, 0, 82), (82, 24, 98, 1, 85), (85, 0, 0, 332, 86), (86, 0, 6, 146, 88), (88, 4, 20, 0, 89), (89, 5, 0, 0, 90), (90, 0, 7, 146, 92), (92, 0, 3, 146, 93), (93, 0, 4, 146, 95), (95, 41, 97, 0, 98)]), (98, [(98, 4, 4, 0, 99), (99, 1, 9, 146, 101)]), (101, [(101, 0, 9, 146, 103), (103, 0, 1, 332, 104), (104, 27, 103, 10, 107), (107, 24, 172, 1, 110), (110, 0, 1, 332, 111), (111, 27, 103, 5, 114), (114, 0, 9, 146, 116), (116, 33, 9, 0, 117), (117, 0, 6, 146, 119), (119, 24, 138, 5, 122), (122, 0, 0, 332, 123), (123, 0, 1, 332, 124), (124, 27, 103, 6, 127), (127, 0, 9, 146, 129), (129, 33, 9, 0, 130), (130, 0, 7, 146, 132), (132, 0, 3, 146, 133), (133, 0, 4, 146, 135), (135, 41, 97, 0, 138)]), (138, [(138, 0, 1, 332, 139), (139, 27, 103, 6, 142), (142, 0, 9, 146, 144), (144, 33, 9, 0, 145), (145, 0, 6, 146, 147), (147, 24, 166, 5, 150), (150, 0, 0, 332, 151), (151, 0, 1, 332, 152), (152, 27, 103, 5, 155), (155, 0, 9, 146, 157), (157, 33, 9, 0, 158), (158, 0, 7, 146, 160), (160, 0, 3, 146, 161), (161, 0, 4, 146, 163), (163, 41, 97, 0, 166)]), (166, [(166, 3, 9, 20, 169), (169, 23, 101, 0, 172)]), (172, [(172, 3, 5, 20, 175), (175, 23, 17, 0, 178)]), (178, [(178, 0, 0, 332, 179), (179, 27, 151, 3, 182), (182, 42, 0, 0, 183)])]
def zc_X9_stepTo : List (Nat × List zx_E) := [(0, [(0, 0, 1, 146, 1), (1, 0, 4, 146, 3), (3, 24, 33, 4, 6), (6, 0, 0, 332, 7), (7, 0, 1, 146, 8), (8, 41, 98, 0, 11), (11, 0, 3, 146, 12), (12, 24, 33, 0, 15), (15, 0, 0, 332, 16), (16, 0, 1, 146, 17), (17, 41, 94, 0, 20), (20, 4, 68719476724, 0, 21), (21, 24, 33, 5, 24), (24, 0, 0, 332, 25), (25, 27, 151, 3, 28), (28, 4, 1028, 0, 30), (30, 24, 34, 0, 33)]), (33, [(33, 43, 0, 0, 34)]), (34, [(34, 0, 0, 332, 35), (35, 27, 151, 1, 38), (38, 0, 1, 146, 39), (39, 0, 2, 146, 40), (40, 34, 9, 0, 41), (41, 0, 0, 332, 42), (42, 27, 151, 2, 45), (45, 0, 0, 332, 46), (46, 27, 151, 3, 49), (49, 0, 1, 146, 50), (50, 34, 9, 0, 51), (51, 0, 0, 332, 52), (52, 20, 0, 0, 53), (53, 27, 151, 3, 56), (56, 4, 20, 0, 57), (57, 5, 0, 0, 58), (58, 28, 153092247, 3, 61), (61, 43, 0, 0, 62)])]
def zc_X9_freeAt : List (Nat × List zx_E) := [(0, [(0, 0, 1, 146, 1), (1, 25, 19, 0, 4), (4, 0, 1, 146, 5), (5, 4, 1028, 0, 7), (7, 24, 19, 1, 10), (10, 0, 0, 332, 11), (11, 27, 151, 0, 14), (14, 0, 1, 146, 15), (15, 33, 9, 0, 16), (16, 23, 20, 0, 19)]), (19, [(19, 4, 4, 0, 20)]), (20, [(20, 42, 0, 0, 21)])]
def zc_X9_measure : List (Nat × List zx_E) := [(0, [(0, 4, 4, 0, 1), (1, 1, 4, 146, 3)]), (3, [(3, 0, 4, 146, 5), (5, 4, 1028, 0, 7), (7, 24, 46, 1, 10), (10, 0, 0, 332, 11), (11, 27, 151, 0, 14), (14, 0, 4, 146, 16), (16, 0, 1, 332, 17), (17, 0, 4, 146, 19), (19, 41, 102, 0, 22), (22, 25, 38, 4, 25), (25, 0, 1, 332, 26), (26, 27, 103, 1, 29), (29, 0, 4, 146, 31), (31, 4, 260, 0, 33), (33, 14, 0, 0, 34), (34, 33, 9, 0, 35), (35, 23, 39, 0, 38)]), (38, [(38, 4, 4, 0, 39)]), (39, [(39, 34, 9, 0, 40), (40, 3, 4, 20, 43), (43, 23, 3, 0, 46)]), (46, [(46, 4, 4, 0, 47), (47, 1, 4, 146, 49)]), (49, [(49, 0, 4, 146, 51), (51, 0, 1, 332, 52), (52, 27, 103, 9, 55), (55, 24, 125, 1, 58), (58, 0, 1, 332, 59), (59, 0, 1, 332, 60), (60, 27, 103, 2, 63), (63, 0, 4, 146, 65), (65, 33, 9, 0, 66), (66, 0, 1, 332, 67), (67, 0, 4, 146, 69), (69, 0, 3, 146, 70), (70, 41, 51, 0, 73), (73, 41, 100, 0, 76), (76, 1, 5, 146, 78), (78, 0, 2, 146, 79), (79, 0, 4, 146, 81), (81, 41, 12, 5, 84), (84, 4, 20, 0, 85), (85, 24, 119, 5, 88), (88, 0, 5, 146, 90), (90, 4, 68719476724, 0, 91), (91, 24, 119, 4, 94), (94, 0, 0, 332, 95), (95, 27, 151, 0, 98), (98, 0, 5, 146, 100), (100, 4, 4, 0, 101), (101, 0, 0, 332, 102), (102, 27, 151, 0, 105), (105, 0, 5, 146, 107), (107, 33, 9, 0, 108), (108, 0, 1, 332, 109), (109, 0, 4, 146, 111), (111, 41, 49, 0, 114), (114, 6, 0, 0, 115), (115, 41, 341, 1, 118), (118, 34, 9, 0, 119)]), (119, [(119, 3, 4, 20, 122), (122, 23, 49, 0, 125)]), (125, [(125, 43, 0, 0, 126)])]
def zc_X6_spot : List (Nat × List zx_E) := [(0, [(0, 0, 0, 332, 1), (1, 0, 1, 146, 2), (2, 41, 101, 0, 5), (5, 25, 22, 4, 8), (8, 0, 2, 146, 9), (9, 25, 22, 0, 12), (12, 0, 2, 146, 13), (13, 0, 0, 332, 14), (14, 27, 103, 0, 17), (17, 0, 1, 146, 18), (18, 33, 9, 0, 19), (19, 24, 24, 0, 22)]), (22, [(22, 4, 68719476724, 0, 23), (23, 42, 0, 0, 24)]), (24, [(24, 4, 260, 0, 26), (26, 0, 1, 146, 27), (27, 7, 0, 0, 28), (28, 0, 2, 146, 29), (29, 5, 0, 0, 30), (30, 42, 0, 0, 31)])]
def zc_X6_isLane : List (Nat × List zx_E) := [(0, [(0, 0, 1, 146, 1), (1, 25, 16, 0, 4), (4, 0, 1, 146, 5), (5, 0, 0, 332, 6), (6, 27, 103, 8, 9), (9, 24, 16, 1, 12), (12, 4, 20, 0, 13), (13, 23, 17, 0, 16)]), (16, [(16, 4, 4, 0, 17)]), (17, [(17, 42, 0, 0, 18)])]
def zc_X6_isSpot : List (Nat × List zx_E) := [(0, [(0, 0, 1, 146, 1), (1, 25, 30, 0, 4), (4, 0, 1, 146, 5), (5, 4, 1028, 0, 7), (7, 24, 30, 1, 10), (10, 0, 0, 332, 11), (11, 0, 1, 146, 12), (12, 4, 260, 0, 14), (14, 14, 0, 0, 15), (15, 0, 1, 146, 16), (16, 4, 260, 0, 18), (18, 15, 0, 0, 19), (19, 41, 100, 0, 22), (22, 0, 1, 146, 23), (23, 24, 30, 5, 26), (26, 4, 20, 0, 27), (27, 23, 31, 0, 30)]), (30, [(30, 4, 4, 0, 31)]), (31, [(31, 42, 0, 0, 32)])]
def zc_X11_isCart : List (Nat × List zx_E) := [(0, [(0, 0, 0, 146, 1), (1, 4, 20, 0, 2), (2, 24, 15, 0, 5), (5, 0, 0, 146, 6), (6, 4, 132, 0, 8), (8, 24, 15, 2, 11), (11, 4, 20, 0, 12), (12, 23, 16, 0, 15)]), (15, [(15, 4, 4, 0, 16)]), (16, [(16, 42, 0, 0, 17)])]
def zc_X12_way : List (Nat × List zx_E) := [(0, [(0, 0, 0, 332, 1), (1, 0, 1, 146, 2), (2, 0, 2, 146, 3), (3, 0, 3, 146, 4), (4, 0, 4, 146, 6), (6, 0, 5, 146, 8), (8, 41, 91, 0, 11), (11, 25, 35, 4, 14), (14, 0, 0, 332, 15), (15, 0, 1, 146, 16), (16, 0, 2, 146, 17), (17, 0, 3, 146, 18), (18, 0, 4, 146, 20), (20, 0, 5, 146, 22), (22, 0, 0, 332, 23), (23, 27, 199, 49, 26), (26, 4, 4, 0, 27), (27, 33, 9, 0, 28), (28, 4, 68719476724, 0, 29), (29, 41, 84, 0, 32), (32, 23, 36, 0, 35)]), (35, [(35, 4, 68719476724, 0, 36)]), (36, [(36, 42, 0, 0, 37)])]
def zc_X11_way : List (Nat × List zx_E) := [(0, [(0, 0, 0, 332, 1), (1, 27, 183, 9, 4), (4, 0, 1, 146, 5), (5, 0, 2, 146, 6), (6, 41, 100, 0, 9), (9, 1, 6, 146, 11), (11, 0, 0, 332, 12), (12, 27, 183, 9, 15), (15, 0, 3, 146, 16), (16, 0, 4, 146, 18), (18, 41, 100, 0, 21), (21, 1, 7, 146, 23), (23, 0, 6, 146, 25), (25, 4, 68719476724, 0, 26), (26, 24, 43, 4, 29), (29, 0, 7, 146, 31), (31, 4, 68719476724, 0, 32), (32, 24, 43, 4, 35), (35, 0, 5, 146, 37), (37, 41, 103, 1, 40), (40, 25, 45, 5, 43)]), (43, [(43, 4, 68719476724, 0, 44), (44, 42, 0, 0, 45)]), (45, [(45, 0, 0, 332, 46), (46, 27, 183, 7, 49), (49, 0, 0, 332, 50), (50, 27, 183, 9, 53), (53, 0, 0, 332, 54), (54, 27, 183, 10, 57), (57, 27, 135, 0, 60), (60, 0, 0, 332, 61), (61, 27, 183, 10, 64), (64, 27, 135, 2, 67), (67, 41, 99, 0, 70), (70, 0, 0, 332, 71), (71, 27, 183, 7, 74), (74, 0, 0, 332, 75), (75, 27, 183, 9, 78), (78, 0, 6, 146, 80), (80, 0, 7, 146, 82), (82, 0, 5, 146, 84), (84, 41, 93, 0, 87), (87, 42, 0, 0, 88)])]
def zc_X12_needs : List (Nat × List zx_E) := [(0, [(0, 0, 0, 332, 1), (1, 4, 4, 0, 2), (2, 28, 153092295, 57, 5), (5, 0, 0, 332, 6), (6, 0, 1, 146, 7), (7, 0, 2, 146, 8), (8, 0, 3, 146, 9), (9, 0, 4, 146, 11), (11, 0, 5, 146, 13), (13, 41, 91, 0, 16), (16, 25, 40, 4, 19), (19, 0, 0, 332, 20), (20, 0, 1, 146, 21), (21, 0, 2, 146, 22), (22, 0, 3, 146, 23), (23, 0, 4, 146, 25), (25, 0, 5, 146, 27), (27, 0, 0, 332, 28), (28, 27, 199, 49, 31), (31, 4, 4, 0, 32), (32, 33, 9, 0, 33), (33, 4, 68719476724, 0, 34), (34, 41, 84, 0, 37), (37, 25, 42, 1, 40)]), (40, [(40, 4, 68719476724, 0, 41), (41, 42, 0, 0, 42)]), (42, [(42, 4, 4, 0, 43), (43, 1, 6, 146, 45)]), (45, [(45, 0, 6, 146, 47), (47, 4, 1028, 0, 49), (49, 24, 159, 1, 52), (52, 0, 6, 146, 54), (54, 4, 260, 0, 56), (56, 0, 1, 146, 57), (57, 7, 0, 0, 58), (58, 0, 2, 146, 59), (59, 5, 0, 0, 60), (60, 24, 153, 4, 63), (63, 0, 6, 146, 65), (65, 4, 260, 0, 67), (67, 0, 3, 146, 68), (68, 7, 0, 0, 69), (69, 0, 4, 146, 71), (71, 5, 0, 0, 72), (72, 24, 153, 4, 75), (75, 0, 0, 332, 76), (76, 0, 6, 146, 78), (78, 4, 260, 0, 80), (80, 14, 0, 0, 81), (81, 0, 6, 146, 83), (83, 4, 260, 0, 85), (85, 15, 0, 0, 86), (86, 41, 89, 0, 89), (89, 25, 95, 5, 92), (92, 23, 153, 0, 95)]), (95, [(95, 0, 0, 332, 96), (96, 0, 1, 146, 97), (97, 0, 2, 146, 98), (98, 0, 3, 146, 99), (99, 0, 4, 146, 101), (101, 0, 5, 146, 103), (103, 0, 0, 332, 104), (104, 27, 199, 49, 107), (107, 4, 4, 0, 108), (108, 33, 9, 0, 109), (109, 0, 6, 146, 111), (111, 41, 84, 0, 114), (114, 25, 120, 0, 117), (117, 23, 153, 0, 120)]), (120, [(120, 0, 0, 332, 121), (121, 27, 199, 56, 124), (124, 0, 0, 332, 125), (125, 27, 199, 57, 128), (128, 4, 1604, 0, 130), (130, 0, 6, 146, 132), (132, 4, 260, 0, 134), (134, 14, 0, 0, 135), (135, 7, 0, 0, 136), (136, 0, 6, 146, 138), (138, 4, 260, 0, 140), (140, 15, 0, 0, 141), (141, 5, 0, 0, 142), (142, 34, 9, 0, 143), (143, 0, 0, 332, 144), (144, 20, 0, 0, 145), (145, 27, 199, 57, 148), (148, 4, 20, 0, 149), (149, 5, 0, 0, 150), (150, 28, 153092295, 57, 153)]), (153, [(153, 3, 6, 20, 156), (156, 23, 45, 0, 159)]), (159, [(159, 0, 0, 332, 160), (160, 27, 199, 57, 163), (163, 42, 0, 0, 164)])]
def zc_X11_needs : List (Nat × List zx_E) := [(0, [(0, 0, 0, 332, 1), (1, 27, 183, 8, 4), (4, 41, 65, 0, 7), (7, 0, 0, 332, 8), (8, 27, 183, 9, 11), (11, 0, 1, 146, 12), (12, 0, 2, 146, 13), (13, 41, 100, 0, 16), (16, 1, 6, 146, 18), (18, 0, 0, 332, 19), (19, 27, 183, 9, 22), (22, 0, 3, 146, 23), (23, 0, 4, 146, 25), (25, 41, 100, 0, 28), (28, 1, 7, 146, 30), (30, 0, 6, 146, 32), (32, 4, 68719476724, 0, 33), (33, 24, 50, 4, 36), (36, 0, 7, 146, 38), (38, 4, 68719476724, 0, 39), (39, 24, 50, 4, 42), (42, 0, 5, 146, 44), (44, 41, 103, 1, 47), (47, 25, 52, 5, 50)]), (50, [(50, 4, 68719476724, 0, 51), (51, 42, 0, 0, 52)]), (52, [(52, 0, 0, 332, 53), (53, 27, 183, 7, 56), (56, 0, 0, 332, 57), (57, 27, 183, 9, 60), (60, 0, 0, 332, 61), (61, 27, 183, 10, 64), (64, 27, 135, 0, 67), (67, 0, 0, 332, 68), (68, 27, 183, 10, 71), (71, 27, 135, 2, 74), (74, 41, 99, 0, 77), (77, 0, 0, 332, 78), (78, 27, 183, 7, 81), (81, 0, 0, 332, 82), (82, 27, 183, 9, 85), (85, 0, 6, 146, 87), (87, 0, 7, 146, 89), (89, 0, 5, 146, 91), (91, 41, 93, 0, 94), (94, 4, 68719476724, 0, 95), (95, 24, 100, 5, 98), (98, 4, 68719476724, 0, 99), (99, 42, 0, 0, 100)]), (100, [(100, 4, 4, 0, 101), (101, 1, 8, 146, 103)]), (103, [(103, 0, 8, 146, 105), (105, 4, 1028, 0, 107), (107, 24, 164, 1, 110), (110, 0, 8, 146, 112), (112, 0, 6, 146, 114), (114, 24, 158, 4, 117), (117, 0, 8, 146, 119), (119, 0, 7, 146, 121), (121, 24, 158, 4, 124), (124, 0, 0, 332, 125), (125, 27, 183, 7, 128), (128, 0, 0, 332, 129), (129, 27, 183, 9, 132), (132, 0, 6, 146, 134), (134, 0, 7, 146, 136), (136, 0, 5, 146, 138), (138, 0, 8, 146, 140), (140, 41, 109, 0, 143), (143, 25, 158, 4, 146), (146, 0, 0, 332, 147), (147, 27, 183, 8, 150), (150, 0, 8, 146, 152), (152, 41, 108, 1, 155), (155, 41, 62, 0, 158)]), (158, [(158, 3, 8, 20, 161), (161, 23, 103, 0, 164)]), (164, [(164, 0, 0, 332, 165), (165, 27, 183, 8, 168), (168, 27, 87, 1, 171), (171, 42, 0, 0, 172)])]
def zc_X11_spotNumber : List (Nat × List zx_E) := [(0, [(0, 4, 1604, 0, 2), (2, 0, 0, 146, 3), (3, 4, 260, 0, 5), (5, 14, 0, 0, 6), (6, 7, 0, 0, 7), (7, 0, 0, 146, 8), (8, 4, 260, 0, 10), (10, 15, 0, 0, 11), (11, 5, 0, 0, 12), (12, 42, 0, 0, 13)])]
def zc_X9_isNeeded : List (Nat × List zx_E) := [(0, [(0, 0, 0, 332, 1), (1, 0, 5, 146, 3), (3, 41, 98, 0, 6), (6, 0, 4, 146, 8), (8, 24, 13, 1, 11), (11, 4, 4, 0, 12), (12, 42, 0, 0, 13)]), (13, [(13, 0, 0, 332, 14), (14, 0, 1, 332, 15), (15, 0, 2, 146, 16), (16, 0, 4, 146, 18), (18, 0, 5, 146, 20), (20, 41, 95, 0, 23), (23, 21, 0, 0, 24), (24, 0, 0, 332, 25), (25, 0, 3, 146, 26), (26, 41, 94, 0, 29), (29, 4, 68719476724, 0, 30), (30, 24, 37, 5, 33), (33, 4, 20, 0, 34), (34, 23, 38, 0, 37)]), (37, [(37, 4, 4, 0, 38)]), (38, [(38, 42, 0, 0, 39)])]
def zc_X12_calm : List (Nat × List zx_E) := [(0, [(0, 0, 0, 332, 1), (1, 0, 0, 332, 2), (2, 27, 199, 49, 5), (5, 4, 36, 0, 6), (6, 33, 9, 0, 7), (7, 41, 23, 0, 10), (10, 0, 0, 332, 11), (11, 27, 199, 49, 14), (14, 4, 4, 0, 15), (15, 33, 9, 0, 16), (16, 1, 1, 146, 17), (17, 0, 0, 332, 18), (18, 27, 199, 49, 21), (21, 4, 244, 0, 23), (23, 33, 9, 0, 24), (24, 1, 2, 146, 25), (25, 4, 4, 0, 26), (26, 1, 3, 146, 27)]), (27, [(27, 0, 3, 146, 28), (28, 4, 324, 0, 30), (30, 24, 65, 2, 33), (33, 0, 0, 332, 34), (34, 0, 1, 146, 35), (35, 4, 4, 0, 36), (36, 41, 111, 0, 39), (39, 25, 44, 5, 42), (42, 0, 3, 146, 43), (43, 42, 0, 0, 44)]), (44, [(44, 0, 0, 332, 45), (45, 0, 2, 146, 46), (46, 41, 112, 0, 49), (49, 1, 2, 146, 50), (50, 0, 1, 146, 51), (51, 0, 0, 332, 52), (52, 0, 1, 146, 53), (53, 0, 2, 146, 54), (54, 41, 111, 0, 57), (57, 9, 0, 0, 58), (58, 1, 1, 146, 59), (59, 3, 3, 20, 62), (62, 23, 27, 0, 65)]), (65, [(65, 4, 68719476724, 0, 66), (66, 42, 0, 0, 67)])]
def zc_X12_blownBy : List (Nat × List zx_E) := [(0, [(0, 0, 1, 146, 1), (1, 1, 3, 146, 2), (2, 0, 0, 332, 3), (3, 41, 20, 0, 6), (6, 0, 0, 332, 7), (7, 27, 199, 31, 10), (10, 0, 0, 332, 11), (11, 27, 199, 43, 14), (14, 33, 9, 0, 15), (15, 8, 0, 0, 16), (16, 1, 4, 146, 18), (18, 4, 4, 0, 19), (19, 1, 5, 146, 21)]), (21, [(21, 0, 5, 146, 23), (23, 0, 0, 332, 24), (24, 41, 1, 0, 27), (27, 24, 77, 1, 30), (30, 0, 2, 146, 31), (31, 4, 36, 0, 32), (32, 15, 0, 0, 33), (33, 25, 41, 5, 36), (36, 0, 5, 146, 38), (38, 23, 50, 0, 41)]), (41, [(41, 0, 0, 332, 42), (42, 41, 1, 0, 45), (45, 4, 20, 0, 46), (46, 6, 0, 0, 47), (47, 0, 5, 146, 49), (49, 6, 0, 0, 50)]), (50, [(50, 1, 6, 146, 52), (52, 0, 0, 332, 53), (53, 0, 6, 146, 55), (55, 0, 3, 146, 56), (56, 0, 4, 146, 58), (58, 41, 18, 0, 61), (61, 25, 71, 4, 64), (64, 0, 3, 146, 65), (65, 4, 20, 0, 66), (66, 0, 6, 146, 68), (68, 11, 0, 0, 69), (69, 9, 0, 0, 70), (70, 1, 3, 146, 71)]), (71, [(71, 3, 5, 20, 74), (74, 23, 21, 0, 77)]), (77, [(77, 0, 3, 146, 78), (78, 0, 1, 146, 79), (79, 4, 68719476724, 0, 80), (80, 10, 0, 0, 81), (81, 8, 0, 0, 82), (82, 42, 0, 0, 83)])]
def zc_X12_blows : List (Nat × List zx_E) := [(0, [(0, 4, 2196, 0, 3), (3, 0, 1, 146, 4), (4, 7, 0, 0, 5), (5, 4, 1140, 0, 7), (7, 5, 0, 0, 8), (8, 4, 16004, 0, 11), (11, 15, 0, 0, 12), (12, 42, 0, 0, 13)])]
def zc_X11_calm : List (Nat × List zx_E) := [(0, [(0, 0, 0, 332, 1), (1, 27, 183, 3, 4), (4, 0, 0, 332, 5), (5, 27, 183, 10, 8), (8, 41, 11, 0, 11), (11, 4, 4, 0, 12), (12, 1, 1, 146, 13)]), (13, [(13, 0, 1, 146, 14), (14, 4, 324, 0, 16), (16, 24, 61, 2, 19), (19, 0, 0, 332, 20), (20, 27, 183, 3, 23), (23, 0, 0, 332, 24), (24, 27, 183, 9, 27), (27, 41, 116, 0, 30), (30, 0, 0, 332, 31), (31, 27, 183, 9, 34), (34, 27, 103, 13, 37), (37, 8, 0, 0, 38), (38, 25, 43, 5, 41), (41, 0, 1, 146, 42), (42, 42, 0, 0, 43)]), (43, [(43, 0, 0, 332, 44), (44, 27, 183, 3, 47), (47, 0, 0, 332, 48), (48, 27, 183, 9, 51), (51, 41, 114, 0, 54), (54, 21, 0, 0, 55), (55, 3, 1, 20, 58), (58, 23, 13, 0, 61)]), (61, [(61, 4, 68719476724, 0, 62), (62, 42, 0, 0, 63)])]
def zc_X8_blow : List (Nat × List zx_E) := [(0, [(0, 0, 0, 332, 1), (1, 0, 0, 332, 2), (2, 27, 135, 5, 5), (5, 4, 2196, 0, 8), (8, 7, 0, 0, 9), (9, 4, 1140, 0, 11), (11, 5, 0, 0, 12), (12, 4, 16004, 0, 15), (15, 15, 0, 0, 16), (16, 28, 153092231, 5, 19), (19, 0, 0, 332, 20), (20, 27, 135, 0, 23), (23, 1, 2, 146, 24), (24, 4, 4, 0, 25), (25, 1, 3, 146, 26)]), (26, [(26, 0, 3, 146, 27), (27, 0, 1, 332, 28), (28, 27, 103, 9, 31), (31, 24, 106, 1, 34), (34, 0, 0, 332, 35), (35, 27, 135, 5, 38), (38, 4, 36, 0, 39), (39, 15, 0, 0, 40), (40, 25, 47, 5, 43), (43, 0, 3, 146, 44), (44, 23, 55, 0, 47)]), (47, [(47, 0, 1, 332, 48), (48, 27, 103, 9, 51), (51, 4, 20, 0, 52), (52, 6, 0, 0, 53), (53, 0, 3, 146, 54), (54, 6, 0, 0, 55)]), (55, [(55, 1, 4, 146, 57), (57, 0, 0, 332, 58), (58, 0, 1, 332, 59), (59, 41, 82, 0, 62), (62, 0, 1, 332, 63), (63, 27, 103, 13, 66), (66, 8, 0, 0, 67), (67, 0, 4, 146, 69), (69, 41, 12, 5, 72), (72, 4, 20, 0, 73), (73, 24, 100, 5, 76), (76, 0, 1, 332, 77), (77, 0, 4, 146, 79), (79, 0, 0, 332, 80), (80, 27, 135, 2, 83), (83, 41, 47, 0, 86), (86, 0, 0, 332, 87), (87, 27, 135, 0, 90), (90, 8, 0, 0, 91), (91, 25, 100, 5, 94), (94, 0, 0, 332, 95), (95, 0, 4, 146, 97), (97, 41, 115, 0, 100)]), (100, [(100, 3, 3, 20, 103), (103, 23, 26, 0, 106)]), (106, [(106, 0, 0, 332, 107), (107, 27, 135, 0, 110), (110, 0, 2, 146, 111), (111, 4, 68719476724, 0, 112), (112, 10, 0, 0, 113), (113, 8, 0, 0, 114), (114, 42, 0, 0, 115)])]
def zc_X8_setOpen : List (Nat × List zx_E) := [(0, [(0, 0, 1, 146, 1), (1, 25, 35, 0, 4), (4, 0, 1, 146, 5), (5, 0, 0, 332, 6), (6, 27, 135, 6, 9), (9, 32, 0, 0, 10), (10, 24, 35, 1, 13), (13, 0, 0, 332, 14), (14, 20, 0, 0, 15), (15, 27, 135, 0, 18), (18, 4, 20, 0, 19), (19, 0, 1, 146, 20), (20, 11, 0, 0, 21), (21, 9, 0, 0, 22), (22, 28, 153092231, 0, 25), (25, 0, 0, 332, 26), (26, 27, 135, 6, 29), (29, 0, 1, 146, 30), (30, 22, 0, 0, 31), (31, 33, 9, 0, 32), (32, 4, 20, 0, 33), (33, 5, 0, 0, 34), (34, 34, 9, 0, 35)]), (35, [(35, 43, 0, 0, 36)])]
def zc_X8_openable : List (Nat × List zx_E) := [(0, [(0, 0, 0, 332, 1), (1, 0, 1, 332, 2), (2, 41, 82, 0, 5), (5, 1, 2, 146, 6), (6, 4, 4, 0, 7), (7, 1, 3, 146, 8)]), (8, [(8, 0, 3, 146, 9), (9, 0, 1, 332, 10), (10, 27, 103, 9, 13), (13, 24, 47, 1, 16), (16, 0, 1, 332, 17), (17, 0, 3, 146, 18), (18, 0, 0, 332, 19), (19, 27, 135, 2, 22), (22, 41, 47, 0, 25), (25, 0, 0, 332, 26), (26, 27, 135, 0, 29), (29, 8, 0, 0, 30), (30, 25, 41, 4, 33), (33, 0, 2, 146, 34), (34, 4, 20, 0, 35), (35, 0, 3, 146, 36), (36, 11, 0, 0, 37), (37, 4, 68719476724, 0, 38), (38, 10, 0, 0, 39), (39, 8, 0, 0, 40), (40, 1, 2, 146, 41)]), (41, [(41, 3, 3, 20, 44), (44, 23, 8, 0, 47)]), (47, [(47, 0, 2, 146, 48), (48, 42, 0, 0, 49)])]
def zc_X12_parts : List (Nat × List zx_E) := [(0, [(0, 0, 1, 146, 1), (1, 4, 20, 0, 2), (2, 4, 132, 0, 4), (4, 41, 7, 1, 7), (7, 25, 19, 4, 10), (10, 0, 2, 146, 11), (11, 4, 4, 0, 12), (12, 4, 20, 0, 13), (13, 41, 7, 1, 16), (16, 25, 21, 5, 19)]), (19, [(19, 4, 68719476724, 0, 20), (20, 42, 0, 0, 21)]), (21, [(21, 4, 4, 0, 22), (22, 1, 3, 146, 23), (23, 4, 4, 0, 24), (24, 1, 4, 146, 26), (26, 4, 4, 0, 27), (27, 1, 5, 146, 29)]), (29, [(29, 0, 5, 146, 31), (31, 4, 1028, 0, 33), (33, 24, 50, 1, 36), (36, 0, 0, 332, 37), (37, 27, 199, 62, 40), (40, 0, 5, 146, 42), (42, 4, 4, 0, 43), (43, 34, 54, 0, 44), (44, 3, 5, 20, 47), (47, 23, 29, 0, 50)]), (50, [(50, 4, 4, 0, 51), (51, 1, 5, 146, 53)]), (53, [(53, 0, 5, 146, 55), (55, 4, 1028, 0, 57), (57, 24, 159, 1, 60), (60, 0, 0, 332, 61), (61, 27, 199, 62, 64), (64, 0, 5, 146, 66), (66, 33, 54, 0, 67), (67, 25, 153, 5, 70), (70, 0, 0, 332, 71), (71, 0, 5, 146, 73), (73, 0, 1, 146, 74), (74, 0, 0, 332, 75), (75, 27, 199, 49, 78), (78, 4, 4, 0, 79), (79, 33, 9, 0, 80), (80, 4, 68719476724, 0, 81), (81, 41, 87, 0, 84), (84, 25, 90, 5, 87), (87, 23, 153, 0, 90)]), (90, [(90, 0, 0, 332, 91), (91, 0, 5, 146, 93), (93, 0, 1, 146, 94), (94, 0, 0, 332, 95), (95, 27, 199, 49, 98), (98, 4, 4, 0, 99), (99, 33, 9, 0, 100), (100, 4, 68719476724, 0, 101), (101, 41, 85, 0, 104), (104, 4, 4, 0, 105), (105, 1, 6, 146, 107)]), (107, [(107, 0, 6, 146, 109), (109, 0, 0, 332, 110), (110, 27, 199, 61, 113), (113, 24, 135, 1, 116), (116, 0, 0, 332, 117), (117, 27, 199, 62, 120), (120, 0, 0, 332, 121), (121, 27, 199, 60, 124), (124, 0, 6, 146, 126), (126, 33, 9, 0, 127), (127, 4, 20, 0, 128), (128, 34, 54, 0, 129), (129, 3, 6, 20, 132), (132, 23, 107, 0, 135)]), (135, [(135, 3, 3, 20, 138), (138, 0, 0, 332, 139), (139, 27, 199, 61, 142), (142, 0, 4, 146, 144), (144, 24, 153, 3, 147), (147, 0, 0, 332, 148), (148, 27, 199, 61, 151), (151, 1, 4, 146, 153)]), (153, [(153, 3, 5, 20, 156), (156, 23, 53, 0, 159)]), (159, [(159, 0, 2, 146, 160), (160, 25, 167, 5, 163), (163, 0, 3, 146, 164), (164, 23, 169, 0, 167)]), (167, [(167, 0, 4, 146, 169)]), (169, [(169, 42, 0, 0, 170)])]
def zc_X11_parts : List (Nat × List zx_E) := [(0, [(0, 0, 1, 146, 1), (1, 41, 103, 1, 4), (4, 25, 14, 4, 7), (7, 0, 2, 146, 8), (8, 41, 120, 1, 11), (11, 25, 16, 5, 14)]), (14, [(14, 4, 68719476724, 0, 15), (15, 42, 0, 0, 16)]), (16, [(16, 0, 0, 332, 17), (17, 27, 183, 7, 20), (20, 0, 0, 332, 21), (21, 27, 183, 9, 24), (24, 0, 0, 332, 25), (25, 27, 183, 10, 28), (28, 27, 135, 0, 31), (31, 0, 0, 332, 32), (32, 27, 183, 10, 35), (35, 27, 135, 2, 38), (38, 41, 99, 0, 41), (41, 0, 0, 332, 42), (42, 27, 183, 7, 45), (45, 0, 0, 332, 46), (46, 27, 183, 9, 49), (49, 0, 1, 146, 50), (50, 41, 119, 0, 53), (53, 1, 3, 146, 54), (54, 0, 2, 146, 55), (55, 25, 68, 5, 58), (58, 0, 0, 332, 59), (59, 27, 183, 7, 62), (62, 27, 151, 4, 65), (65, 23, 69, 0, 68)]), (68, [(68, 0, 3, 146, 69)]), (69, [(69, 42, 0, 0, 70)])]
def zc_X9_splitIntoParts : List (Nat × List zx_E) := [(0, [(0, 0, 0, 332, 1), (1, 27, 151, 1, 4), (4, 4, 68719476724, 0, 5), (5, 41, 45, 1, 8), (8, 0, 0, 332, 9), (9, 4, 4, 0, 10), (10, 28, 153092247, 4, 13), (13, 4, 4, 0, 14), (14, 1, 3, 146, 15), (15, 4, 4, 0, 16), (16, 1, 4, 146, 18)]), (18, [(18, 0, 4, 146, 20), (20, 4, 1028, 0, 22), (22, 24, 77, 1, 25), (25, 0, 0, 332, 26), (26, 27, 151, 0, 29), (29, 0, 4, 146, 31), (31, 33, 9, 0, 32), (32, 0, 2, 146, 33), (33, 24, 71, 0, 36), (36, 0, 0, 332, 37), (37, 27, 151, 1, 40), (40, 0, 4, 146, 42), (42, 33, 9, 0, 43), (43, 4, 68719476724, 0, 44), (44, 24, 71, 5, 47), (47, 0, 0, 332, 48), (48, 20, 0, 0, 49), (49, 27, 151, 4, 52), (52, 4, 20, 0, 53), (53, 5, 0, 0, 54), (54, 28, 153092247, 4, 57), (57, 0, 3, 146, 58), (58, 0, 0, 332, 59), (59, 0, 1, 332, 60), (60, 0, 4, 146, 62), (62, 0, 2, 146, 63), (63, 4, 68719476724, 0, 64), (64, 41, 96, 0, 67), (67, 41, 341, 1, 70), (70, 1, 3, 146, 71)]), (71, [(71, 3, 4, 20, 74), (74, 23, 18, 0, 77)]), (77, [(77, 0, 3, 146, 78), (78, 42, 0, 0, 79)])]
def zc_X11_isZeroOrOne : List (Nat × List zx_E) := [(0, [(0, 0, 0, 146, 1), (1, 25, 9, 4, 4), (4, 0, 0, 146, 5), (5, 4, 20, 0, 6), (6, 24, 13, 5, 9)]), (9, [(9, 4, 20, 0, 10), (10, 23, 14, 0, 13)]), (13, [(13, 4, 4, 0, 14)]), (14, [(14, 42, 0, 0, 15)])]
def zc_X12_far : List (Nat × List zx_E) := [(0, [(0, 0, 0, 332, 1), (1, 4, 4, 0, 2), (2, 28, 153092295, 57, 5), (5, 0, 0, 332, 6), (6, 0, 1, 146, 7), (7, 0, 2, 146, 8), (8, 41, 89, 0, 11), (11, 25, 24, 4, 14), (14, 0, 3, 146, 15), (15, 4, 20, 0, 16), (16, 4, 132, 0, 18), (18, 41, 7, 1, 21), (21, 25, 26, 5, 24)]), (24, [(24, 4, 68719476724, 0, 25), (25, 42, 0, 0, 26)]), (26, [(26, 0, 0, 332, 27), (27, 4, 260, 0, 29), (29, 0, 1, 146, 30), (30, 7, 0, 0, 31), (31, 0, 2, 146, 32), (32, 5, 0, 0, 33), (33, 0, 3, 146, 34), (34, 0, 0, 332, 35), (35, 27, 199, 49, 38), (38, 4, 4, 0, 39), (39, 33, 9, 0, 40), (40, 4, 68719476724, 0, 41), (41, 41, 85, 0, 44), (44, 0, 0, 332, 45), (45, 27, 199, 61, 48), (48, 25, 53, 5, 51), (51, 4, 68719476724, 0, 52), (52, 42, 0, 0, 53)]), (53, [(53, 4, 68719476724, 0, 54), (54, 1, 4, 146, 56), (56, 4, 4, 0, 57), (57, 1, 5, 146, 59)]), (59, [(59, 0, 5, 146, 61), (61, 4, 1028, 0, 63), (63, 24, 108, 1, 66), (66, 0, 0, 332, 67), (67, 27, 199, 59, 70), (70, 0, 5, 146, 72), (72, 33, 9, 0, 73), (73, 25, 102, 0, 76), (76, 0, 4, 146, 78), (78, 25, 98, 0, 81), (81, 0, 0, 332, 82), (82, 27, 199, 59, 85), (85, 0, 5, 146, 87), (87, 33, 9, 0, 88), (88, 0, 0, 332, 89), (89, 27, 199, 59, 92), (92, 0, 4, 146, 94), (94, 33, 9, 0, 95), (95, 24, 102, 3, 98)]), (98, [(98, 0, 5, 146, 100), (100, 1, 4, 146, 102)]), (102, [(102, 3, 5, 20, 105), (105, 23, 59, 0, 108)]), (108, [(108, 0, 0, 332, 109), (109, 27, 199, 56, 112), (112, 4, 4, 0, 113), (113, 4, 1604, 0, 115), (115, 0, 4, 146, 117), (117, 4, 260, 0, 119), (119, 14, 0, 0, 120), (120, 7, 0, 0, 121), (121, 0, 4, 146, 123), (123, 4, 260, 0, 125), (125, 15, 0, 0, 126), (126, 5, 0, 0, 127), (127, 34, 9, 0, 128), (128, 0, 0, 332, 129), (129, 4, 20, 0, 130), (130, 28, 153092295, 57, 133), (133, 0, 0, 332, 134), (134, 27, 199, 59, 137), (137, 0, 4, 146, 139), (139, 33, 9, 0, 140), (140, 42, 0, 0, 141)])]
def zc_X11_far : List (Nat × List zx_E) := [(0, [(0, 0, 0, 332, 1), (1, 27, 183, 8, 4), (4, 41, 65, 0, 7), (7, 0, 0, 332, 8), (8, 27, 183, 9, 11), (11, 0, 1, 146, 12), (12, 0, 2, 146, 13), (13, 41, 100, 0, 16), (16, 1, 4, 146, 18), (18, 0, 4, 146, 20), (20, 4, 68719476724, 0, 21), (21, 24, 31, 4, 24), (24, 0, 3, 146, 25), (25, 41, 103, 1, 28), (28, 25, 33, 5, 31)]), (31, [(31, 4, 68719476724, 0, 32), (32, 42, 0, 0, 33)]), (33, [(33, 0, 0, 332, 34), (34, 27, 183, 7, 37), (37, 0, 0, 332, 38), (38, 27, 183, 9, 41), (41, 0, 0, 332, 42), (42, 27, 183, 10, 45), (45, 27, 135, 0, 48), (48, 0, 0, 332, 49), (49, 27, 183, 10, 52), (52, 27, 135, 2, 55), (55, 41, 99, 0, 58), (58, 0, 0, 332, 59), (59, 27, 183, 7, 62), (62, 0, 0, 332, 63), (63, 27, 183, 9, 66), (66, 0, 4, 146, 68), (68, 0, 3, 146, 69), (69, 4, 68719476724, 0, 70), (70, 41, 95, 0, 73), (73, 25, 78, 5, 76), (76, 4, 68719476724, 0, 77), (77, 42, 0, 0, 78)]), (78, [(78, 0, 0, 332, 79), (79, 27, 183, 7, 82), (82, 41, 123, 0, 85), (85, 1, 5, 146, 87), (87, 0, 0, 332, 88), (88, 27, 183, 8, 91), (91, 0, 5, 146, 93), (93, 41, 108, 1, 96), (96, 41, 62, 0, 99), (99, 0, 0, 332, 100), (100, 27, 183, 7, 103), (103, 0, 5, 146, 105), (105, 41, 94, 0, 108), (108, 42, 0, 0, 109)])]
def zc_X9_farthest : List (Nat × List zx_E) := [(0, [(0, 4, 4, 0, 1), (1, 1, 1, 146, 2), (2, 4, 20, 0, 3), (3, 1, 2, 146, 4)]), (4, [(4, 0, 2, 146, 5), (5, 4, 1028, 0, 7), (7, 24, 33, 1, 10), (10, 0, 0, 332, 11), (11, 27, 151, 1, 14), (14, 0, 2, 146, 15), (15, 33, 9, 0, 16), (16, 0, 0, 332, 17), (17, 27, 151, 1, 20), (20, 0, 1, 146, 21), (21, 33, 9, 0, 22), (22, 24, 27, 3, 25), (25, 0, 2, 146, 26), (26, 1, 1, 146, 27)]), (27, [(27, 3, 2, 20, 30), (30, 23, 4, 0, 33)]), (33, [(33, 0, 1, 146, 34), (34, 42, 0, 0, 35)])]
def zc_X12_spread : List (Nat × List zx_E) := [(0, [(0, 0, 0, 332, 1), (1, 0, 1, 146, 2), (2, 0, 2, 146, 3), (3, 41, 89, 0, 6), (6, 25, 19, 4, 9), (9, 0, 3, 146, 10), (10, 4, 20, 0, 11), (11, 4, 132, 0, 13), (13, 41, 7, 1, 16), (16, 25, 21, 5, 19)]), (19, [(19, 4, 68719476724, 0, 20), (20, 42, 0, 0, 21)]), (21, [(21, 0, 0, 332, 22), (22, 4, 260, 0, 24), (24, 0, 1, 146, 25), (25, 7, 0, 0, 26), (26, 0, 2, 146, 27), (27, 5, 0, 0, 28), (28, 0, 3, 146, 29), (29, 0, 0, 332, 30), (30, 27, 199, 49, 33), (33, 4, 4, 0, 34), (34, 33, 9, 0, 35), (35, 4, 68719476724, 0, 36), (36, 41, 85, 0, 39), (39, 0, 0, 332, 40), (40, 27, 199, 61, 43), (43, 42, 0, 0, 44)])]
def zc_X11_spread : List (Nat × List zx_E) := [(0, [(0, 0, 0, 332, 1), (1, 27, 183, 9, 4), (4, 0, 1, 146, 5), (5, 0, 2, 146, 6), (6, 41, 100, 0, 9), (9, 1, 4, 146, 11), (11, 0, 4, 146, 13), (13, 4, 68719476724, 0, 14), (14, 24, 24, 4, 17), (17, 0, 3, 146, 18), (18, 41, 103, 1, 21), (21, 25, 26, 5, 24)]), (24, [(24, 4, 68719476724, 0, 25), (25, 42, 0, 0, 26)]), (26, [(26, 0, 0, 332, 27), (27, 27, 183, 7, 30), (30, 0, 0, 332, 31), (31, 27, 183, 9, 34), (34, 0, 0, 332, 35), (35, 27, 183, 10, 38), (38, 27, 135, 0, 41), (41, 0, 0, 332, 42), (42, 27, 183, 10, 45), (45, 27, 135, 2, 48), (48, 41, 99, 0, 51), (51, 0, 0, 332, 52), (52, 27, 183, 7, 55), (55, 0, 0, 332, 56), (56, 27, 183, 9, 59), (59, 0, 4, 146, 61), (61, 0, 3, 146, 62), (62, 4, 68719476724, 0, 63), (63, 41, 95, 0, 66), (66, 42, 0, 0, 67)])]
def zc_X12_widest : List (Nat × List zx_E) := [(0, [(0, 0, 0, 332, 1), (1, 0, 1, 146, 2), (2, 0, 2, 146, 3), (3, 41, 89, 0, 6), (6, 25, 19, 4, 9), (9, 0, 0, 332, 10), (10, 0, 3, 146, 11), (11, 0, 4, 146, 13), (13, 41, 89, 0, 16), (16, 25, 21, 5, 19)]), (19, [(19, 4, 68719476724, 0, 20), (20, 42, 0, 0, 21)]), (21, [(21, 4, 132, 0, 23), (23, 1, 5, 146, 25)]), (25, [(25, 0, 5, 146, 27), (27, 25, 57, 3, 30), (30, 0, 0, 332, 31), (31, 0, 1, 146, 32), (32, 0, 2, 146, 33), (33, 0, 3, 146, 34), (34, 0, 4, 146, 36), (36, 0, 5, 146, 38), (38, 0, 0, 332, 39), (39, 27, 199, 49, 42), (42, 4, 4, 0, 43), (43, 33, 9, 0, 44), (44, 4, 68719476724, 0, 45), (45, 41, 84, 0, 48), (48, 25, 57, 1, 51), (51, 3, 5, 68719476724, 54), (54, 23, 25, 0, 57)]), (57, [(57, 0, 5, 146, 59), (59, 42, 0, 0, 60)])]
def zc_X11_widest : List (Nat × List zx_E) := [(0, [(0, 0, 0, 332, 1), (1, 27, 183, 9, 4), (4, 0, 1, 146, 5), (5, 0, 2, 146, 6), (6, 41, 100, 0, 9), (9, 1, 5, 146, 11), (11, 0, 0, 332, 12), (12, 27, 183, 9, 15), (15, 0, 3, 146, 16), (16, 0, 4, 146, 18), (18, 41, 100, 0, 21), (21, 1, 6, 146, 23), (23, 0, 5, 146, 25), (25, 4, 68719476724, 0, 26), (26, 24, 35, 4, 29), (29, 0, 6, 146, 31), (31, 4, 68719476724, 0, 32), (32, 24, 37, 5, 35)]), (35, [(35, 4, 68719476724, 0, 36), (36, 42, 0, 0, 37)]), (37, [(37, 0, 0, 332, 38), (38, 27, 183, 7, 41), (41, 0, 0, 332, 42), (42, 27, 183, 9, 45), (45, 0, 0, 332, 46), (46, 27, 183, 10, 49), (49, 27, 135, 0, 52), (52, 0, 0, 332, 53), (53, 27, 183, 10, 56), (56, 27, 135, 2, 59), (59, 41, 99, 0, 62), (62, 4, 132, 0, 64), (64, 1, 7, 146, 66)]), (66, [(66, 0, 7, 146, 68), (68, 4, 20, 0, 69), (69, 24, 102, 0, 72), (72, 0, 0, 332, 73), (73, 27, 183, 7, 76), (76, 0, 0, 332, 77), (77, 27, 183, 9, 80), (80, 0, 5, 146, 82), (82, 0, 6, 146, 84), (84, 0, 7, 146, 86), (86, 41, 93, 0, 89), (89, 4, 68719476724, 0, 90), (90, 24, 96, 4, 93), (93, 0, 7, 146, 95), (95, 42, 0, 0, 96)]), (96, [(96, 3, 7, 68719476724, 99), (99, 23, 66, 0, 102)]), (102, [(102, 4, 4, 0, 103), (103, 42, 0, 0, 104)])]
def zc_X12_narrow : List (Nat × List zx_E) := [(0, [(0, 0, 0, 332, 1), (1, 0, 1, 146, 2), (2, 41, 90, 0, 5), (5, 25, 17, 4, 8), (8, 0, 2, 146, 9), (9, 4, 4, 0, 10), (10, 4, 20, 0, 11), (11, 41, 7, 1, 14), (14, 25, 19, 5, 17)]), (17, [(17, 4, 68719476724, 0, 18), (18, 42, 0, 0, 19)]), (19, [(19, 4, 4, 0, 20), (20, 1, 3, 146, 21), (21, 4, 20, 0, 22), (22, 1, 4, 146, 24)]), (24, [(24, 0, 0, 332, 25), (25, 0, 1, 146, 26), (26, 0, 4, 146, 28), (28, 41, 89, 0, 31), (31, 25, 71, 4, 34), (34, 0, 0, 332, 35), (35, 0, 1, 146, 36), (36, 0, 4, 146, 38), (38, 0, 0, 332, 39), (39, 27, 199, 49, 42), (42, 4, 4, 0, 43), (43, 33, 9, 0, 44), (44, 41, 88, 0, 47), (47, 0, 0, 332, 48), (48, 0, 1, 146, 49), (49, 0, 3, 146, 50), (50, 0, 0, 332, 51), (51, 27, 199, 49, 54), (54, 4, 4, 0, 55), (55, 33, 9, 0, 56), (56, 41, 88, 0, 59), (59, 24, 65, 1, 62), (62, 0, 4, 146, 64), (64, 1, 3, 146, 65)]), (65, [(65, 3, 4, 20, 68), (68, 23, 24, 0, 71)]), (71, [(71, 0, 2, 146, 72), (72, 25, 90, 5, 75), (75, 0, 0, 332, 76), (76, 0, 1, 146, 77), (77, 0, 3, 146, 78), (78, 0, 0, 332, 79), (79, 27, 199, 49, 82), (82, 4, 4, 0, 83), (83, 33, 9, 0, 84), (84, 41, 88, 0, 87), (87, 23, 91, 0, 90)]), (90, [(90, 0, 3, 146, 91)]), (91, [(91, 42, 0, 0, 92)])]
def zc_X11_narrow : List (Nat × List zx_E) := [(0, [(0, 0, 0, 332, 1), (1, 27, 183, 9, 4), (4, 0, 1, 146, 5), (5, 41, 101, 0, 8), (8, 25, 18, 4, 11), (11, 0, 2, 146, 12), (12, 41, 120, 1, 15), (15, 25, 20, 5, 18)]), (18, [(18, 4, 68719476724, 0, 19), (19, 42, 0, 0, 20)]), (20, [(20, 0, 0, 332, 21), (21, 27, 183, 7, 24), (24, 0, 0, 332, 25), (25, 27, 183, 9, 28), (28, 0, 0, 332, 29), (29, 27, 183, 10, 32), (32, 27, 135, 0, 35), (35, 0, 0, 332, 36), (36, 27, 183, 10, 39), (39, 27, 135, 2, 42), (42, 41, 99, 0, 45), (45, 4, 4, 0, 46), (46, 1, 3, 146, 47), (47, 4, 20, 0, 48), (48, 1, 4, 146, 50)]), (50, [(50, 0, 4, 146, 52), (52, 0, 0, 332, 53), (53, 27, 183, 9, 56), (56, 27, 103, 0, 59), (59, 0, 1, 146, 60), (60, 33, 9, 0, 61), (61, 24, 109, 1, 64), (64, 0, 0, 332, 65), (65, 27, 183, 7, 68), (68, 0, 0, 332, 69), (69, 27, 183, 9, 72), (72, 0, 1, 146, 73), (73, 0, 4, 146, 75), (75, 41, 100, 0, 78), (78, 41, 98, 0, 81), (81, 0, 0, 332, 82), (82, 27, 183, 7, 85), (85, 0, 0, 332, 86), (86, 27, 183, 9, 89), (89, 0, 1, 146, 90), (90, 0, 3, 146, 91), (91, 41, 100, 0, 94), (94, 41, 98, 0, 97), (97, 24, 103, 1, 100), (100, 0, 4, 146, 102), (102, 1, 3, 146, 103)]), (103, [(103, 3, 4, 20, 106), (106, 23, 50, 0, 109)]), (109, [(109, 0, 2, 146, 110), (110, 25, 132, 5, 113), (113, 0, 0, 332, 114), (114, 27, 183, 7, 117), (117, 0, 0, 332, 118), (118, 27, 183, 9, 121), (121, 0, 1, 146, 122), (122, 0, 3, 146, 123), (123, 41, 100, 0, 126), (126, 41, 98, 0, 129), (129, 23, 133, 0, 132)]), (132, [(132, 0, 3, 146, 133)]), (133, [(133, 42, 0, 0, 134)])]
def zc_X12_good : List (Nat × List zx_E) := [(0, [(0, 0, 1, 146, 1), (1, 4, 4, 0, 2), (2, 4, 20, 0, 3), (3, 41, 7, 1, 6), (6, 25, 11, 5, 9), (9, 4, 68719476724, 0, 10), (10, 42, 0, 0, 11)]), (11, [(11, 4, 68719476724, 0, 12), (12, 1, 2, 146, 13), (13, 0, 0, 332, 14), (14, 0, 0, 332, 15), (15, 27, 199, 49, 18), (18, 4, 36, 0, 19), (19, 33, 9, 0, 20), (20, 0, 0, 332, 21), (21, 41, 20, 0, 24), (24, 41, 131, 0, 27), (27, 41, 6, 1, 30), (30, 1, 3, 146, 31), (31, 4, 4, 0, 32), (32, 1, 4, 146, 34)]), (34, [(34, 0, 4, 146, 36), (36, 0, 0, 332, 37), (37, 41, 1, 0, 40), (40, 24, 100, 1, 43), (43, 0, 0, 332, 44), (44, 0, 4, 146, 46), (46, 41, 133, 0, 49), (49, 25, 55, 5, 52), (52, 23, 94, 0, 55)]), (55, [(55, 0, 0, 332, 56), (56, 0, 0, 332, 57), (57, 27, 199, 49, 60), (60, 4, 36, 0, 61), (61, 33, 9, 0, 62), (62, 4, 20, 0, 63), (63, 0, 4, 146, 65), (65, 11, 0, 0, 66), (66, 10, 0, 0, 67), (67, 0, 0, 332, 68), (68, 41, 20, 0, 71), (71, 41, 131, 0, 74), (74, 41, 6, 1, 77), (77, 1, 5, 146, 79), (79, 0, 5, 146, 81), (81, 0, 3, 146, 82), (82, 24, 88, 2, 85), (85, 23, 94, 0, 88)]), (88, [(88, 0, 4, 146, 90), (90, 1, 2, 146, 91), (91, 0, 5, 146, 93), (93, 1, 3, 146, 94)]), (94, [(94, 3, 4, 20, 97), (97, 23, 34, 0, 100)]), (100, [(100, 0, 1, 146, 101), (101, 25, 108, 5, 104), (104, 0, 3, 146, 105), (105, 23, 109, 0, 108)]), (108, [(108, 0, 2, 146, 109)]), (109, [(109, 42, 0, 0, 110)])]
def zc_X12_mostBy : List (Nat × List zx_E) := [(0, [(0, 0, 0, 332, 1), (1, 0, 0, 332, 2), (2, 27, 199, 49, 5), (5, 4, 4, 0, 6), (6, 33, 9, 0, 7), (7, 0, 1, 146, 8), (8, 0, 2, 146, 9), (9, 41, 132, 0, 12), (12, 0, 0, 332, 13), (13, 27, 199, 49, 16), (16, 4, 4, 0, 17), (17, 33, 9, 0, 18), (18, 1, 3, 146, 19), (19, 4, 4, 0, 20), (20, 1, 4, 146, 22)]), (22, [(22, 0, 4, 146, 24), (24, 4, 20, 0, 25), (25, 0, 0, 332, 26), (26, 41, 1, 0, 29), (29, 11, 0, 0, 30), (30, 24, 64, 1, 33), (33, 0, 0, 332, 34), (34, 27, 199, 58, 37), (37, 0, 4, 146, 39), (39, 33, 54, 0, 40), (40, 25, 58, 4, 43), (43, 0, 4, 146, 45), (45, 41, 6, 1, 48), (48, 0, 3, 146, 49), (49, 41, 6, 1, 52), (52, 24, 58, 3, 55), (55, 0, 4, 146, 57), (57, 1, 3, 146, 58)]), (58, [(58, 3, 4, 20, 61), (61, 23, 22, 0, 64)]), (64, [(64, 0, 3, 146, 65), (65, 42, 0, 0, 66)])]
def zc_X12_layComes : List (Nat × List zx_E) := [(0, [(0, 0, 0, 332, 1), (1, 0, 2, 146, 2), (2, 41, 23, 0, 5), (5, 4, 4, 0, 6), (6, 1, 4, 146, 8)]), (8, [(8, 0, 4, 146, 10), (10, 4, 16388, 0, 13), (13, 24, 40, 1, 16), (16, 0, 0, 332, 17), (17, 27, 199, 58, 20), (20, 0, 4, 146, 22), (22, 0, 4, 146, 24), (24, 0, 1, 146, 25), (25, 24, 32, 5, 28), (28, 4, 20, 0, 29), (29, 23, 33, 0, 32)]), (32, [(32, 4, 4, 0, 33)]), (33, [(33, 34, 54, 0, 34), (34, 3, 4, 20, 37), (37, 23, 8, 0, 40)]), (40, [(40, 0, 1, 146, 41), (41, 1, 4, 146, 43)]), (43, [(43, 0, 4, 146, 45), (45, 4, 20, 0, 46), (46, 0, 0, 332, 47), (47, 41, 1, 0, 50), (50, 11, 0, 0, 51), (51, 24, 113, 1, 54), (54, 4, 4, 0, 55), (55, 1, 5, 146, 57)]), (57, [(57, 0, 5, 146, 59), (59, 0, 0, 332, 60), (60, 41, 1, 0, 63), (63, 24, 107, 1, 66), (66, 0, 0, 332, 67), (67, 27, 199, 58, 70), (70, 0, 4, 146, 72), (72, 33, 54, 0, 73), (73, 25, 107, 4, 76), (76, 0, 0, 332, 77), (77, 0, 5, 146, 79), (79, 0, 4, 146, 81), (81, 0, 3, 146, 82), (82, 41, 18, 0, 85), (85, 25, 101, 4, 88), (88, 0, 0, 332, 89), (89, 27, 199, 58, 92), (92, 0, 4, 146, 94), (94, 4, 20, 0, 95), (95, 0, 5, 146, 97), (97, 11, 0, 0, 98), (98, 9, 0, 0, 99), (99, 4, 20, 0, 100), (100, 34, 54, 0, 101)]), (101, [(101, 3, 5, 20, 104), (104, 23, 57, 0, 107)]), (107, [(107, 3, 4, 20, 110), (110, 23, 43, 0, 113)]), (113, [(113, 43, 0, 0, 114)])]
def zc_X12_isIdle : List (Nat × List zx_E) := [(0, [(0, 0, 0, 332, 1), (1, 41, 20, 0, 4), (4, 0, 0, 332, 5), (5, 27, 199, 49, 8), (8, 4, 4, 0, 9), (9, 33, 9, 0, 10), (10, 4, 68719476724, 0, 11), (11, 10, 0, 0, 12), (12, 8, 0, 0, 13), (13, 0, 1, 146, 14), (14, 41, 19, 1, 17), (17, 42, 0, 0, 18)])]
def zc_X11_good : List (Nat × List zx_E) := [(0, [(0, 0, 1, 146, 1), (1, 41, 120, 1, 4), (4, 25, 9, 5, 7), (7, 4, 68719476724, 0, 8), (8, 42, 0, 0, 9)]), (9, [(9, 0, 0, 332, 10), (10, 27, 183, 10, 13), (13, 0, 0, 332, 14), (14, 27, 183, 9, 17), (17, 41, 82, 0, 20), (20, 1, 2, 146, 21), (21, 0, 0, 332, 22), (22, 0, 2, 146, 23), (23, 0, 0, 332, 24), (24, 27, 183, 10, 27), (27, 27, 135, 2, 30), (30, 41, 135, 0, 33), (33, 41, 9, 1, 36), (36, 1, 3, 146, 37), (37, 4, 68719476724, 0, 38), (38, 1, 4, 146, 40), (40, 4, 4, 0, 41), (41, 1, 5, 146, 43)]), (43, [(43, 0, 5, 146, 45), (45, 0, 0, 332, 46), (46, 27, 183, 9, 49), (49, 27, 103, 9, 52), (52, 24, 106, 1, 55), (55, 0, 2, 146, 56), (56, 0, 5, 146, 58), (58, 41, 12, 1, 61), (61, 4, 20, 0, 62), (62, 24, 100, 5, 65), (65, 0, 0, 332, 66), (66, 0, 2, 146, 67), (67, 0, 0, 332, 68), (68, 27, 183, 10, 71), (71, 27, 135, 2, 74), (74, 4, 20, 0, 75), (75, 0, 5, 146, 77), (77, 11, 0, 0, 78), (78, 10, 0, 0, 79), (79, 41, 135, 0, 82), (82, 41, 9, 1, 85), (85, 1, 6, 146, 87), (87, 0, 6, 146, 89), (89, 0, 3, 146, 90), (90, 24, 100, 3, 93), (93, 0, 6, 146, 95), (95, 1, 3, 146, 96), (96, 0, 5, 146, 98), (98, 1, 4, 146, 100)]), (100, [(100, 3, 5, 20, 103), (103, 23, 43, 0, 106)]), (106, [(106, 0, 1, 146, 107), (107, 25, 114, 5, 110), (110, 0, 3, 146, 111), (111, 23, 116, 0, 114)]), (114, [(114, 0, 4, 146, 116)]), (116, [(116, 42, 0, 0, 117)])]
def zc_X11_mostOpen : List (Nat × List zx_E) := [(0, [(0, 0, 0, 332, 1), (1, 27, 183, 6, 4), (4, 0, 0, 332, 5), (5, 27, 183, 9, 8), (8, 0, 2, 146, 9), (9, 41, 46, 0, 12), (12, 0, 0, 332, 13), (13, 27, 183, 6, 16), (16, 0, 0, 332, 17), (17, 27, 183, 10, 20), (20, 27, 135, 0, 23), (23, 0, 1, 146, 24), (24, 41, 44, 0, 27), (27, 0, 0, 332, 28), (28, 27, 183, 6, 31), (31, 41, 136, 0, 34), (34, 42, 0, 0, 35)])]
def zc_X4_mostOpen : List (Nat × List zx_E) := [(0, [(0, 0, 0, 332, 1), (1, 41, 138, 0, 4), (4, 4, 4, 0, 5), (5, 1, 1, 146, 6), (6, 4, 20, 0, 7), (7, 1, 2, 146, 8)]), (8, [(8, 0, 2, 146, 9), (9, 0, 0, 332, 10), (10, 27, 71, 6, 13), (13, 24, 43, 2, 16), (16, 0, 0, 332, 17), (17, 0, 2, 146, 18), (18, 41, 137, 0, 21), (21, 25, 37, 4, 24), (24, 0, 2, 146, 25), (25, 41, 9, 1, 28), (28, 0, 1, 146, 29), (29, 41, 9, 1, 32), (32, 24, 37, 3, 35), (35, 0, 2, 146, 36), (36, 1, 1, 146, 37)]), (37, [(37, 3, 2, 20, 40), (40, 23, 8, 0, 43)]), (43, [(43, 0, 0, 332, 44), (44, 27, 71, 5, 47), (47, 0, 1, 146, 48), (48, 9, 0, 0, 49), (49, 42, 0, 0, 50)])]
def zc_X4_isReached : List (Nat × List zx_E) := [(0, [(0, 0, 1, 146, 1), (1, 0, 0, 332, 2), (2, 27, 71, 6, 5), (5, 41, 39, 5, 8), (8, 25, 24, 4, 11), (11, 0, 0, 332, 12), (12, 27, 71, 4, 15), (15, 0, 1, 146, 16), (16, 33, 54, 0, 17), (17, 25, 24, 4, 20), (20, 4, 20, 0, 21), (21, 23, 25, 0, 24)]), (24, [(24, 4, 4, 0, 25)]), (25, [(25, 42, 0, 0, 26)])]
def zc_X4_markReached : List (Nat × List zx_E) := [(0, [(0, 0, 0, 332, 1), (1, 27, 71, 4, 4), (4, 4, 4, 0, 5), (5, 4, 20, 0, 6), (6, 34, 54, 0, 7), (7, 4, 20, 0, 8), (8, 1, 1, 146, 9)]), (9, [(9, 0, 1, 146, 10), (10, 0, 0, 332, 11), (11, 27, 71, 6, 14), (14, 24, 71, 2, 17), (17, 0, 1, 146, 18), (18, 0, 0, 332, 19), (19, 27, 71, 6, 22), (22, 41, 39, 5, 25), (25, 25, 65, 4, 28), (28, 0, 0, 332, 29), (29, 0, 1, 146, 30), (30, 41, 139, 0, 33), (33, 1, 2, 146, 34), (34, 0, 0, 332, 35), (35, 27, 71, 4, 38), (38, 0, 1, 146, 39), (39, 0, 2, 146, 40), (40, 4, 68719476724, 0, 41), (41, 24, 63, 4, 44), (44, 0, 0, 332, 45), (45, 27, 71, 4, 48), (48, 0, 1, 146, 49), (49, 4, 20, 0, 50), (50, 0, 2, 146, 51), (51, 11, 0, 0, 52), (52, 4, 68719476724, 0, 53), (53, 10, 0, 0, 54), (54, 8, 0, 0, 55), (55, 33, 54, 0, 56), (56, 25, 63, 4, 59), (59, 4, 20, 0, 60), (60, 23, 64, 0, 63)]), (63, [(63, 4, 4, 0, 64)]), (64, [(64, 34, 54, 0, 65)]), (65, [(65, 3, 1, 20, 68), (68, 23, 9, 0, 71)]), (71, [(71, 43, 0, 0, 72)])]
def zc_X4_lastOf : List (Nat × List zx_E) := [(0, [(0, 4, 4, 0, 1), (1, 1, 2, 146, 2)]), (2, [(2, 0, 2, 146, 3), (3, 4, 164, 0, 5), (5, 24, 40, 1, 8), (8, 0, 1, 146, 9), (9, 0, 2, 146, 10), (10, 41, 12, 5, 13), (13, 4, 20, 0, 14), (14, 24, 34, 5, 17), (17, 0, 0, 332, 18), (18, 0, 2, 146, 19), (19, 0, 1, 146, 20), (20, 4, 20, 0, 21), (21, 0, 2, 146, 22), (22, 11, 0, 0, 23), (23, 4, 68719476724, 0, 24), (24, 10, 0, 0, 25), (25, 8, 0, 0, 26), (26, 41, 40, 0, 29), (29, 25, 34, 4, 32), (32, 0, 2, 146, 33), (33, 42, 0, 0, 34)]), (34, [(34, 3, 2, 20, 37), (37, 23, 2, 0, 40)]), (40, [(40, 4, 68719476724, 0, 41), (41, 42, 0, 0, 42)])]
def zc_X12_gusts : List (Nat × List zx_E) := [(0, [(0, 0, 1, 146, 1), (1, 4, 4, 0, 2), (2, 4, 324, 0, 4), (4, 41, 7, 1, 7), (7, 25, 12, 5, 10), (10, 4, 68719476724, 0, 11), (11, 42, 0, 0, 12)]), (12, [(12, 0, 0, 332, 13), (13, 0, 0, 332, 14), (14, 27, 199, 49, 17), (17, 4, 36, 0, 18), (18, 33, 9, 0, 19), (19, 41, 23, 0, 22), (22, 0, 0, 332, 23), (23, 27, 199, 49, 26), (26, 4, 4, 0, 27), (27, 33, 9, 0, 28), (28, 1, 2, 146, 29), (29, 0, 0, 332, 30), (30, 27, 199, 49, 33), (33, 4, 244, 0, 35), (35, 33, 9, 0, 36), (36, 1, 3, 146, 37), (37, 4, 4, 0, 38), (38, 1, 4, 146, 40)]), (40, [(40, 0, 4, 146, 42), (42, 0, 1, 146, 43), (43, 24, 67, 1, 46), (46, 0, 0, 332, 47), (47, 0, 3, 146, 48), (48, 41, 112, 0, 51), (51, 1, 3, 146, 52), (52, 0, 2, 146, 53), (53, 0, 0, 332, 54), (54, 0, 2, 146, 55), (55, 0, 3, 146, 56), (56, 41, 111, 0, 59), (59, 9, 0, 0, 60), (60, 1, 2, 146, 61), (61, 3, 4, 20, 64), (64, 23, 40, 0, 67)]), (67, [(67, 0, 2, 146, 68), (68, 42, 0, 0, 69)])]
def zc_X11_gusts : List (Nat × List zx_E) := [(0, [(0, 0, 1, 146, 1), (1, 25, 10, 0, 4), (4, 0, 1, 146, 5), (5, 4, 324, 0, 7), (7, 24, 12, 3, 10)]), (10, [(10, 4, 68719476724, 0, 11), (11, 42, 0, 0, 12)]), (12, [(12, 0, 0, 332, 13), (13, 27, 183, 3, 16), (16, 0, 0, 332, 17), (17, 27, 183, 10, 20), (20, 41, 11, 0, 23), (23, 4, 4, 0, 24), (24, 1, 2, 146, 25)]), (25, [(25, 0, 2, 146, 26), (26, 0, 1, 146, 27), (27, 24, 48, 1, 30), (30, 0, 0, 332, 31), (31, 27, 183, 3, 34), (34, 0, 0, 332, 35), (35, 27, 183, 9, 38), (38, 41, 114, 0, 41), (41, 21, 0, 0, 42), (42, 3, 2, 20, 45), (45, 23, 25, 0, 48)]), (48, [(48, 0, 0, 332, 49), (49, 27, 183, 3, 52), (52, 27, 135, 0, 55), (55, 42, 0, 0, 56)])]
def zc_X12_push : List (Nat × List zx_E) := [(0, [(0, 0, 0, 332, 1), (1, 0, 1, 146, 2), (2, 0, 2, 146, 3), (3, 0, 3, 146, 4), (4, 0, 4, 146, 6), (6, 41, 143, 0, 9), (9, 42, 0, 0, 10)])]
def zc_X12_pushedBy_0 : List (Nat × List zx_E) := [(0, [(0, 0, 0, 332, 1), (1, 0, 1, 146, 2), (2, 0, 2, 146, 3), (3, 41, 89, 0, 6), (6, 25, 34, 4, 9), (9, 0, 0, 332, 10), (10, 0, 1, 146, 11), (11, 0, 3, 146, 12), (12, 41, 89, 0, 15), (15, 25, 34, 4, 18), (18, 0, 2, 146, 19), (19, 0, 3, 146, 20), (20, 24, 34, 4, 23), (23, 0, 4, 146, 25), (25, 4, 20, 0, 26), (26, 4, 132, 0, 28), (28, 41, 7, 1, 31), (31, 25, 36, 5, 34)]), (34, [(34, 4, 68719476724, 0, 35), (35, 42, 0, 0, 36)]), (36, [(36, 4, 4, 0, 37), (37, 1, 5, 146, 39), (39, 0, 3, 146, 40), (40, 0, 2, 146, 41), (41, 24, 48, 3, 44), (44, 4, 20, 0, 45), (45, 23, 49, 0, 48)]), (48, [(48, 4, 4, 0, 49)]), (49, [(49, 1, 6, 146, 51), (51, 4, 4, 0, 52), (52, 1, 7, 146, 54)]), (54, [(54, 0, 7, 146, 56), (56, 0, 0, 332, 57), (57, 41, 1, 0, 60), (60, 24, 193, 1, 63), (63, 0, 0, 332, 64), (64, 0, 7, 146, 66), (66, 0, 0, 332, 67), (67, 27, 199, 49, 70), (70, 4, 36, 0, 71), (71, 33, 9, 0, 72), (72, 41, 30, 0, 75), (75, 1, 8, 146, 77), (77, 0, 6, 146, 79), (79, 25, 102, 4, 82), (82, 0, 8, 146, 84), (84, 0, 2, 146, 85), (85, 24, 98, 3, 88), (88, 0, 8, 146, 90), (90, 0, 3, 146, 91), (91, 24, 98, 2, 94), (94, 4, 20, 0, 95), (95, 23, 119, 0, 98)]), (98, [(98, 4, 4, 0, 99), (99, 23, 119, 0, 102)]), (102, [(102, 0, 8, 146, 104), (104, 0, 2, 146, 105), (105, 24, 118, 1, 108), (108, 0, 8, 146, 110), (110, 0, 3, 146, 111), (111, 24, 118, 0, 114), (114, 4, 20, 0, 115), (115, 23, 119, 0, 118)]), (118, [(118, 4, 4, 0, 119)]), (119, [(119, 1, 9, 146, 121), (121, 0, 0, 332, 122), (122, 27, 199, 49, 125), (125, 4, 4, 0, 126), (126, 33, 9, 0, 127), (127, 0, 0, 332, 128), (128, 27, 199, 32, 131), (131, 0, 0, 332, 132), (132, 27, 199, 43, 135), (135, 33, 9, 0, 136), (136, 4, 68719476724, 0, 137), (137, 10, 0, 0, 138), (138, 8, 0, 0, 139), (139, 0, 7, 146, 141), (141, 41, 19, 1, 144), (144, 25, 187, 4, 147), (147, 0, 0, 332, 148), (148, 0, 7, 146, 150), (150, 41, 26, 0, 153), (153, 0, 1, 146, 154), (154, 24, 187, 5, 157), (157, 0, 9, 146, 159), (159, 25, 187, 4, 162), (162, 0, 0, 332, 163), (163, 27, 199, 49, 166), (166, 4, 36, 0, 167), (167, 33, 9, 0, 168), (168, 0, 7, 146, 170), (170, 41, 19, 1, 173), (173, 0, 6, 146, 175), (175, 24, 187, 4, 178), (178, 0, 5, 146, 180), (180, 4, 20, 0, 181), (181, 0, 7, 146, 183), (183, 11, 0, 0, 184), (184, 9, 0, 0, 185), (185, 1, 5, 146, 187)])]
def zc_X12_pushedBy_1 : List (Nat × List zx_E) := [(187, [(187, 3, 7, 20, 190), (190, 23, 54, 0, 193)]), (193, [(193, 0, 6, 146, 195), (195, 25, 202, 4, 198), (198, 0, 2, 146, 199), (199, 23, 203, 0, 202)]), (202, [(202, 0, 3, 146, 203)]), (203, [(203, 1, 7, 146, 205), (205, 0, 6, 146, 207), (207, 25, 214, 4, 210), (210, 0, 3, 146, 211), (211, 23, 215, 0, 214)]), (214, [(214, 0, 2, 146, 215)]), (215, [(215, 1, 8, 146, 217), (217, 0, 7, 146, 219), (219, 1, 9, 146, 221)]), (221, [(221, 0, 9, 146, 223), (223, 0, 8, 146, 225), (225, 24, 259, 2, 228), (228, 0, 0, 332, 229), (229, 0, 1, 146, 230), (230, 0, 9, 146, 232), (232, 0, 0, 332, 233), (233, 27, 199, 49, 236), (236, 4, 4, 0, 237), (237, 33, 9, 0, 238), (238, 0, 5, 146, 240), (240, 4, 68719476724, 0, 241), (241, 10, 0, 0, 242), (242, 8, 0, 0, 243), (243, 41, 88, 0, 246), (246, 0, 4, 146, 248), (248, 24, 253, 1, 251), (251, 4, 68719476724, 0, 252), (252, 42, 0, 0, 253)]), (253, [(253, 3, 9, 20, 256), (256, 23, 221, 0, 259)]), (259, [(259, 0, 5, 146, 261), (261, 42, 0, 0, 262)])]
def zc_X12_pushedBy : List (Nat × List zx_E) := zc_X12_pushedBy_0 ++ (zc_X12_pushedBy_1)
def zc_X11_push : List (Nat × List zx_E) := [(0, [(0, 0, 0, 332, 1), (1, 0, 1, 146, 2), (2, 0, 2, 146, 3), (3, 0, 3, 146, 4), (4, 0, 4, 146, 6), (6, 41, 145, 0, 9), (9, 42, 0, 0, 10)])]
def zc_X11_pushedShut : List (Nat × List zx_E) := [(0, [(0, 0, 0, 332, 1), (1, 27, 183, 9, 4), (4, 0, 1, 146, 5), (5, 0, 2, 146, 6), (6, 41, 100, 0, 9), (9, 4, 68719476724, 0, 10), (10, 24, 39, 4, 13), (13, 0, 0, 332, 14), (14, 27, 183, 9, 17), (17, 0, 1, 146, 18), (18, 0, 3, 146, 19), (19, 41, 100, 0, 22), (22, 4, 68719476724, 0, 23), (23, 24, 39, 4, 26), (26, 0, 2, 146, 27), (27, 0, 3, 146, 28), (28, 24, 39, 4, 31), (31, 0, 4, 146, 33), (33, 41, 103, 1, 36), (36, 25, 41, 5, 39)]), (39, [(39, 4, 68719476724, 0, 40), (40, 42, 0, 0, 41)]), (41, [(41, 0, 0, 332, 42), (42, 27, 183, 10, 45), (45, 0, 0, 332, 46), (46, 27, 183, 9, 49), (49, 0, 1, 146, 50), (50, 0, 2, 146, 51), (51, 0, 3, 146, 52), (52, 41, 146, 0, 55), (55, 1, 5, 146, 57), (57, 0, 0, 332, 58), (58, 27, 183, 7, 61), (61, 0, 0, 332, 62), (62, 27, 183, 9, 65), (65, 0, 0, 332, 66), (66, 27, 183, 10, 69), (69, 27, 135, 0, 72), (72, 0, 5, 146, 74), (74, 4, 68719476724, 0, 75), (75, 10, 0, 0, 76), (76, 8, 0, 0, 77), (77, 0, 0, 332, 78), (78, 27, 183, 10, 81), (81, 27, 135, 2, 84), (84, 41, 99, 0, 87), (87, 0, 2, 146, 88), (88, 0, 3, 146, 89), (89, 41, 342, 1, 92), (92, 1, 6, 146, 94)]), (94, [(94, 0, 6, 146, 96), (96, 0, 2, 146, 97), (97, 0, 3, 146, 98), (98, 41, 341, 1, 101), (101, 24, 134, 2, 104), (104, 0, 0, 332, 105), (105, 27, 183, 7, 108), (108, 0, 0, 332, 109), (109, 27, 183, 9, 112), (112, 0, 1, 146, 113), (113, 0, 6, 146, 115), (115, 41, 100, 0, 118), (118, 41, 98, 0, 121), (121, 0, 4, 146, 123), (123, 24, 128, 1, 126), (126, 4, 68719476724, 0, 127), (127, 42, 0, 0, 128)]), (128, [(128, 3, 6, 20, 131), (131, 23, 94, 0, 134)]), (134, [(134, 0, 5, 146, 136), (136, 42, 0, 0, 137)])]
def zc_X8_pushedBy : List (Nat × List zx_E) := [(0, [(0, 4, 4, 0, 1), (1, 1, 5, 146, 3), (3, 0, 4, 146, 5), (5, 0, 3, 146, 6), (6, 24, 13, 3, 9), (9, 4, 20, 0, 10), (10, 23, 14, 0, 13)]), (13, [(13, 4, 4, 0, 14)]), (14, [(14, 1, 6, 146, 16), (16, 4, 4, 0, 17), (17, 1, 7, 146, 19)]), (19, [(19, 0, 7, 146, 21), (21, 0, 1, 332, 22), (22, 27, 103, 9, 25), (25, 24, 171, 1, 28), (28, 0, 1, 332, 29), (29, 0, 7, 146, 31), (31, 0, 0, 332, 32), (32, 27, 135, 2, 35), (35, 41, 51, 0, 38), (38, 1, 8, 146, 40), (40, 0, 6, 146, 42), (42, 25, 66, 4, 45), (45, 0, 8, 146, 47), (47, 0, 3, 146, 48), (48, 24, 62, 3, 51), (51, 0, 8, 146, 53), (53, 0, 4, 146, 55), (55, 24, 62, 2, 58), (58, 4, 20, 0, 59), (59, 23, 84, 0, 62)]), (62, [(62, 4, 4, 0, 63), (63, 23, 84, 0, 66)]), (66, [(66, 0, 8, 146, 68), (68, 0, 3, 146, 69), (69, 24, 83, 1, 72), (72, 0, 8, 146, 74), (74, 0, 4, 146, 76), (76, 24, 83, 0, 79), (79, 4, 20, 0, 80), (80, 23, 84, 0, 83)]), (83, [(83, 4, 4, 0, 84)]), (84, [(84, 1, 9, 146, 86), (86, 0, 0, 332, 87), (87, 27, 135, 0, 90), (90, 0, 1, 332, 91), (91, 27, 103, 14, 94), (94, 4, 68719476724, 0, 95), (95, 10, 0, 0, 96), (96, 8, 0, 0, 97), (97, 0, 7, 146, 99), (99, 41, 12, 5, 102), (102, 4, 20, 0, 103), (103, 24, 132, 5, 106), (106, 0, 0, 332, 107), (107, 27, 135, 2, 110), (110, 0, 7, 146, 112), (112, 41, 12, 5, 115), (115, 25, 122, 5, 118), (118, 4, 20, 0, 119), (119, 23, 123, 0, 122)]), (122, [(122, 4, 4, 0, 123)]), (123, [(123, 0, 6, 146, 125), (125, 24, 132, 5, 128), (128, 4, 20, 0, 129), (129, 23, 133, 0, 132)]), (132, [(132, 4, 4, 0, 133)]), (133, [(133, 1, 10, 146, 135), (135, 0, 1, 332, 136), (136, 27, 103, 2, 139), (139, 0, 7, 146, 141), (141, 33, 9, 0, 142), (142, 0, 2, 146, 143), (143, 24, 165, 5, 146), (146, 0, 9, 146, 148), (148, 25, 165, 4, 151), (151, 0, 10, 146, 153), (153, 25, 165, 4, 156), (156, 0, 5, 146, 158), (158, 4, 20, 0, 159), (159, 0, 7, 146, 161), (161, 11, 0, 0, 162), (162, 9, 0, 0, 163), (163, 1, 5, 146, 165)]), (165, [(165, 3, 7, 20, 168), (168, 23, 19, 0, 171)]), (171, [(171, 0, 5, 146, 173), (173, 42, 0, 0, 174)])]
def zc_X12_vow : List (Nat × List zx_E) := [(0, [(0, 0, 1, 146, 1), (1, 4, 4, 0, 2), (2, 4, 20, 0, 3), (3, 41, 7, 1, 6), (6, 25, 11, 5, 9), (9, 4, 68719476724, 0, 10), (10, 42, 0, 0, 11)]), (11, [(11, 4, 68719476724, 0, 12), (12, 1, 2, 146, 13), (13, 4, 4, 0, 14), (14, 1, 3, 146, 15), (15, 4, 4, 0, 16), (16, 1, 4, 146, 18)]), (18, [(18, 0, 4, 146, 20), (20, 0, 0, 332, 21), (21, 41, 1, 0, 24), (24, 24, 90, 1, 27), (27, 0, 0, 332, 28), (28, 0, 4, 146, 30), (30, 41, 133, 0, 33), (33, 25, 39, 5, 36), (36, 23, 84, 0, 39)]), (39, [(39, 0, 0, 332, 40), (40, 0, 0, 332, 41), (41, 27, 199, 49, 44), (44, 4, 36, 0, 45), (45, 33, 9, 0, 46), (46, 0, 0, 332, 47), (47, 41, 20, 0, 50), (50, 4, 20, 0, 51), (51, 0, 4, 146, 53), (53, 11, 0, 0, 54), (54, 4, 68719476724, 0, 55), (55, 10, 0, 0, 56), (56, 8, 0, 0, 57), (57, 41, 131, 0, 60), (60, 41, 6, 1, 63), (63, 1, 5, 146, 65), (65, 0, 2, 146, 66), (66, 25, 78, 0, 69), (69, 0, 5, 146, 71), (71, 0, 3, 146, 72), (72, 24, 78, 2, 75), (75, 23, 84, 0, 78)]), (78, [(78, 0, 4, 146, 80), (80, 1, 2, 146, 81), (81, 0, 5, 146, 83), (83, 1, 3, 146, 84)]), (84, [(84, 3, 4, 20, 87), (87, 23, 18, 0, 90)]), (90, [(90, 0, 2, 146, 91), (91, 25, 98, 1, 94), (94, 4, 68719476724, 0, 95), (95, 23, 107, 0, 98)]), (98, [(98, 0, 1, 146, 99), (99, 25, 106, 5, 102), (102, 0, 3, 146, 103), (103, 23, 107, 0, 106)]), (106, [(106, 0, 2, 146, 107)]), (107, [(107, 42, 0, 0, 108)])]
def zc_X11_vow : List (Nat × List zx_E) := [(0, [(0, 0, 1, 146, 1), (1, 41, 120, 1, 4), (4, 25, 9, 5, 7), (7, 4, 68719476724, 0, 8), (8, 42, 0, 0, 9)]), (9, [(9, 0, 0, 332, 10), (10, 27, 183, 10, 13), (13, 0, 0, 332, 14), (14, 27, 183, 9, 17), (17, 41, 82, 0, 20), (20, 1, 2, 146, 21), (21, 4, 68719476724, 0, 22), (22, 1, 3, 146, 23), (23, 4, 68719476724, 0, 24), (24, 1, 4, 146, 26), (26, 4, 4, 0, 27), (27, 1, 5, 146, 29)]), (29, [(29, 0, 5, 146, 31), (31, 0, 0, 332, 32), (32, 27, 183, 9, 35), (35, 27, 103, 9, 38), (38, 24, 94, 1, 41), (41, 0, 2, 146, 42), (42, 0, 5, 146, 44), (44, 41, 12, 1, 47), (47, 4, 20, 0, 48), (48, 24, 88, 5, 51), (51, 0, 0, 332, 52), (52, 0, 2, 146, 53), (53, 4, 20, 0, 54), (54, 0, 5, 146, 56), (56, 11, 0, 0, 57), (57, 4, 68719476724, 0, 58), (58, 10, 0, 0, 59), (59, 8, 0, 0, 60), (60, 0, 0, 332, 61), (61, 27, 183, 10, 64), (64, 27, 135, 2, 67), (67, 41, 135, 0, 70), (70, 41, 9, 1, 73), (73, 1, 6, 146, 75), (75, 0, 6, 146, 77), (77, 0, 3, 146, 78), (78, 24, 88, 3, 81), (81, 0, 6, 146, 83), (83, 1, 3, 146, 84), (84, 0, 5, 146, 86), (86, 1, 4, 146, 88)]), (88, [(88, 3, 5, 20, 91), (91, 23, 29, 0, 94)]), (94, [(94, 0, 1, 146, 95), (95, 25, 102, 5, 98), (98, 0, 3, 146, 99), (99, 23, 104, 0, 102)]), (102, [(102, 0, 4, 146, 104)]), (104, [(104, 42, 0, 0, 105)])]
def zc_X12_ask : List (Nat × List zx_E) := [(0, [(0, 0, 0, 332, 1), (1, 0, 1, 146, 2), (2, 41, 32, 0, 5), (5, 25, 10, 5, 8), (8, 4, 68719476724, 0, 9), (9, 42, 0, 0, 10)]), (10, [(10, 0, 0, 332, 11), (11, 0, 0, 332, 12), (12, 27, 199, 49, 15), (15, 4, 36, 0, 16), (16, 33, 9, 0, 17), (17, 41, 23, 0, 20), (20, 0, 0, 332, 21), (21, 27, 199, 50, 24), (24, 0, 1, 146, 25), (25, 33, 9, 0, 26), (26, 0, 0, 332, 27), (27, 27, 199, 49, 30), (30, 4, 4, 0, 31), (31, 33, 9, 0, 32), (32, 8, 0, 0, 33), (33, 42, 0, 0, 34)])]
def zc_X11_ask : List (Nat × List zx_E) := [(0, [(0, 0, 0, 332, 1), (1, 27, 183, 9, 4), (4, 0, 1, 146, 5), (5, 41, 50, 0, 8), (8, 25, 37, 4, 11), (11, 0, 0, 332, 12), (12, 27, 183, 10, 15), (15, 27, 135, 0, 18), (18, 0, 0, 332, 19), (19, 27, 183, 9, 22), (22, 0, 1, 146, 23), (23, 0, 0, 332, 24), (24, 27, 183, 10, 27), (27, 27, 135, 2, 30), (30, 41, 47, 0, 33), (33, 8, 0, 0, 34), (34, 23, 38, 0, 37)]), (37, [(37, 4, 68719476724, 0, 38)]), (38, [(38, 42, 0, 0, 39)])]
def zc_X12_turn : List (Nat × List zx_E) := [(0, [(0, 0, 0, 332, 1), (1, 0, 1, 146, 2), (2, 41, 153, 0, 5), (5, 25, 17, 4, 8), (8, 0, 2, 146, 9), (9, 4, 4, 0, 10), (10, 4, 20, 0, 11), (11, 41, 7, 1, 14), (14, 25, 19, 5, 17)]), (17, [(17, 4, 68719476724, 0, 18), (18, 42, 0, 0, 19)]), (19, [(19, 0, 0, 332, 20), (20, 41, 20, 0, 23), (23, 0, 0, 332, 24), (24, 27, 199, 49, 27), (27, 4, 4, 0, 28), (28, 33, 9, 0, 29), (29, 4, 68719476724, 0, 30), (30, 10, 0, 0, 31), (31, 8, 0, 0, 32), (32, 1, 3, 146, 33), (33, 4, 4, 0, 34), (34, 1, 4, 146, 36)]), (36, [(36, 0, 4, 146, 38), (38, 4, 52, 0, 39), (39, 24, 114, 2, 42), (42, 4, 4, 0, 43), (43, 1, 5, 146, 45)]), (45, [(45, 0, 5, 146, 47), (47, 0, 3, 146, 48), (48, 24, 108, 2, 51), (51, 0, 5, 146, 53), (53, 0, 3, 146, 54), (54, 8, 0, 0, 55), (55, 0, 5, 146, 57), (57, 24, 102, 5, 60), (60, 0, 5, 146, 62), (62, 41, 6, 1, 65), (65, 0, 4, 146, 67), (67, 24, 102, 5, 70), (70, 0, 0, 332, 71), (71, 0, 1, 146, 72), (72, 0, 0, 332, 73), (73, 27, 199, 49, 76), (76, 4, 36, 0, 77), (77, 33, 9, 0, 78), (78, 0, 5, 146, 80), (80, 10, 0, 0, 81), (81, 41, 152, 0, 84), (84, 25, 90, 5, 87), (87, 23, 102, 0, 90)]), (90, [(90, 0, 2, 146, 91), (91, 25, 99, 5, 94), (94, 0, 4, 146, 96), (96, 23, 101, 0, 99)]), (99, [(99, 0, 5, 146, 101)]), (101, [(101, 42, 0, 0, 102)]), (102, [(102, 3, 5, 20, 105), (105, 23, 45, 0, 108)]), (108, [(108, 3, 4, 20, 111), (111, 23, 36, 0, 114)]), (114, [(114, 4, 68719476724, 0, 115), (115, 42, 0, 0, 116)])]
def zc_X12_ordersBy : List (Nat × List zx_E) := [(0, [(0, 0, 0, 332, 1), (1, 0, 2, 146, 2), (2, 41, 23, 0, 5), (5, 0, 0, 332, 6), (6, 41, 22, 0, 9), (9, 0, 0, 332, 10), (10, 0, 1, 146, 11), (11, 0, 0, 332, 12), (12, 27, 199, 49, 15), (15, 4, 4, 0, 16), (16, 33, 9, 0, 17), (17, 0, 0, 332, 18), (18, 41, 20, 0, 21), (21, 41, 16, 0, 24), (24, 42, 0, 0, 25)])]
def zc_X12_isShutSet : List (Nat × List zx_E) := [(0, [(0, 0, 0, 332, 1), (1, 0, 1, 146, 2), (2, 41, 34, 0, 5), (5, 25, 23, 4, 8), (8, 0, 1, 146, 9), (9, 0, 0, 332, 10), (10, 27, 199, 49, 13), (13, 4, 4, 0, 14), (14, 33, 9, 0, 15), (15, 8, 0, 0, 16), (16, 25, 23, 5, 19), (19, 4, 20, 0, 20), (20, 23, 24, 0, 23)]), (23, [(23, 4, 4, 0, 24)]), (24, [(24, 42, 0, 0, 25)])]
def zc_X11_turn : List (Nat × List zx_E) := [(0, [(0, 0, 2, 146, 1), (1, 41, 120, 1, 4), (4, 25, 15, 4, 7), (7, 0, 0, 332, 8), (8, 0, 1, 146, 9), (9, 41, 158, 0, 12), (12, 25, 17, 5, 15)]), (15, [(15, 4, 68719476724, 0, 16), (16, 42, 0, 0, 17)]), (17, [(17, 0, 0, 332, 18), (18, 0, 1, 146, 19), (19, 41, 156, 0, 22), (22, 1, 3, 146, 23), (23, 0, 3, 146, 24), (24, 4, 68719476724, 0, 25), (25, 24, 32, 5, 28), (28, 4, 68719476724, 0, 29), (29, 23, 37, 0, 32)]), (32, [(32, 0, 3, 146, 33), (33, 0, 2, 146, 34), (34, 41, 155, 1, 37)]), (37, [(37, 42, 0, 0, 38)])]
def zc_X11_countOrBits : List (Nat × List zx_E) := [(0, [(0, 0, 1, 146, 1), (1, 25, 11, 5, 4), (4, 0, 0, 146, 5), (5, 41, 9, 1, 8), (8, 23, 12, 0, 11)]), (11, [(11, 0, 0, 146, 12)]), (12, [(12, 42, 0, 0, 13)])]
def zc_X11_fewestTurned : List (Nat × List zx_E) := [(0, [(0, 0, 0, 332, 1), (1, 27, 183, 6, 4), (4, 0, 0, 332, 5), (5, 27, 183, 10, 8), (8, 27, 135, 0, 11), (11, 0, 0, 332, 12), (12, 27, 183, 10, 15), (15, 0, 0, 332, 16), (16, 27, 183, 9, 19), (19, 41, 82, 0, 22), (22, 41, 44, 0, 25), (25, 0, 0, 332, 26), (26, 27, 183, 10, 29), (29, 0, 0, 332, 30), (30, 27, 183, 9, 33), (33, 41, 82, 0, 36), (36, 0, 1, 146, 37), (37, 8, 0, 0, 38), (38, 1, 2, 146, 39), (39, 4, 4, 0, 40), (40, 1, 3, 146, 41)]), (41, [(41, 0, 3, 146, 42), (42, 4, 52, 0, 43), (43, 24, 120, 2, 46), (46, 4, 4, 0, 47), (47, 1, 4, 146, 49)]), (49, [(49, 0, 4, 146, 51), (51, 0, 2, 146, 52), (52, 24, 114, 2, 55), (55, 0, 4, 146, 57), (57, 0, 2, 146, 58), (58, 41, 39, 1, 61), (61, 25, 108, 4, 64), (64, 0, 4, 146, 66), (66, 41, 9, 1, 69), (69, 0, 3, 146, 70), (70, 24, 108, 5, 73), (73, 0, 0, 332, 74), (74, 27, 183, 6, 77), (77, 0, 0, 332, 78), (78, 27, 183, 9, 81), (81, 0, 0, 332, 82), (82, 27, 183, 10, 85), (85, 27, 135, 2, 88), (88, 0, 4, 146, 90), (90, 10, 0, 0, 91), (91, 41, 46, 0, 94), (94, 0, 0, 332, 95), (95, 27, 183, 6, 98), (98, 0, 1, 146, 99), (99, 41, 157, 0, 102), (102, 25, 108, 4, 105), (105, 0, 4, 146, 107), (107, 42, 0, 0, 108)]), (108, [(108, 3, 4, 20, 111), (111, 23, 49, 0, 114)]), (114, [(114, 3, 3, 20, 117), (117, 23, 41, 0, 120)]), (120, [(120, 4, 68719476724, 0, 121), (121, 42, 0, 0, 122)])]
def zc_X4_hasOrder : List (Nat × List zx_E) := [(0, [(0, 0, 1, 146, 1), (1, 0, 0, 332, 2), (2, 27, 71, 6, 5), (5, 41, 39, 5, 8), (8, 25, 13, 5, 11), (11, 4, 4, 0, 12), (12, 42, 0, 0, 13)]), (13, [(13, 0, 1, 146, 14), (14, 1, 2, 146, 15), (15, 0, 1, 146, 16), (16, 41, 9, 1, 19), (19, 1, 3, 146, 20)]), (20, [(20, 0, 3, 146, 21), (21, 25, 54, 3, 24), (24, 0, 0, 332, 25), (25, 0, 2, 146, 26), (26, 41, 139, 0, 29), (29, 1, 4, 146, 31), (31, 0, 4, 146, 33), (33, 4, 68719476724, 0, 34), (34, 24, 39, 5, 37), (37, 4, 4, 0, 38), (38, 42, 0, 0, 39)]), (39, [(39, 0, 2, 146, 40), (40, 4, 20, 0, 41), (41, 0, 4, 146, 43), (43, 11, 0, 0, 44), (44, 4, 68719476724, 0, 45), (45, 10, 0, 0, 46), (46, 8, 0, 0, 47), (47, 1, 2, 146, 48), (48, 3, 3, 68719476724, 51), (51, 23, 20, 0, 54)]), (54, [(54, 4, 20, 0, 55), (55, 42, 0, 0, 56)])]
def zc_X11_isShutSet : List (Nat × List zx_E) := [(0, [(0, 0, 1, 146, 1), (1, 0, 0, 332, 2), (2, 27, 183, 9, 5), (5, 41, 53, 0, 8), (8, 0, 0, 332, 9), (9, 27, 183, 10, 12), (12, 27, 135, 0, 15), (15, 4, 68719476724, 0, 16), (16, 10, 0, 0, 17), (17, 8, 0, 0, 18), (18, 41, 39, 1, 21), (21, 42, 0, 0, 22)])]
def zc_X12_never : List (Nat × List zx_E) := [(0, [(0, 0, 0, 332, 1), (1, 0, 1, 146, 2), (2, 41, 32, 0, 5), (5, 25, 10, 5, 8), (8, 4, 68719476724, 0, 9), (9, 42, 0, 0, 10)]), (10, [(10, 4, 4, 0, 11), (11, 1, 2, 146, 12), (12, 4, 4, 0, 13), (13, 1, 3, 146, 14)]), (14, [(14, 0, 3, 146, 15), (15, 0, 0, 332, 16), (16, 41, 1, 0, 19), (19, 24, 106, 1, 22), (22, 0, 3, 146, 23), (23, 0, 1, 146, 24), (24, 24, 30, 5, 27), (27, 23, 100, 0, 30)]), (30, [(30, 0, 0, 332, 31), (31, 41, 20, 0, 34), (34, 0, 1, 146, 35), (35, 41, 19, 1, 38), (38, 25, 56, 4, 41), (41, 0, 0, 332, 42), (42, 41, 20, 0, 45), (45, 0, 3, 146, 46), (46, 41, 19, 1, 49), (49, 25, 56, 4, 52), (52, 4, 20, 0, 53), (53, 23, 57, 0, 56)]), (56, [(56, 4, 4, 0, 57)]), (57, [(57, 1, 4, 146, 59), (59, 0, 4, 146, 61), (61, 25, 94, 4, 64), (64, 0, 0, 332, 65), (65, 0, 1, 146, 66), (66, 0, 3, 146, 67), (67, 0, 0, 332, 68), (68, 27, 199, 49, 71), (71, 4, 36, 0, 72), (72, 33, 9, 0, 73), (73, 41, 24, 0, 76), (76, 25, 100, 4, 79), (79, 0, 0, 332, 80), (80, 0, 3, 146, 81), (81, 0, 1, 146, 82), (82, 0, 0, 332, 83), (83, 27, 199, 49, 86), (86, 4, 36, 0, 87), (87, 33, 9, 0, 88), (88, 41, 24, 0, 91), (91, 25, 100, 4, 94)]), (94, [(94, 0, 2, 146, 95), (95, 4, 20, 0, 96), (96, 0, 3, 146, 97), (97, 11, 0, 0, 98), (98, 9, 0, 0, 99), (99, 1, 2, 146, 100)]), (100, [(100, 3, 3, 20, 103), (103, 23, 14, 0, 106)]), (106, [(106, 0, 2, 146, 107), (107, 42, 0, 0, 108)])]
def zc_X11_never : List (Nat × List zx_E) := [(0, [(0, 0, 0, 332, 1), (1, 27, 183, 9, 4), (4, 0, 1, 146, 5), (5, 41, 50, 0, 8), (8, 25, 13, 5, 11), (11, 4, 68719476724, 0, 12), (12, 42, 0, 0, 13)]), (13, [(13, 0, 0, 332, 14), (14, 27, 183, 9, 17), (17, 27, 103, 14, 20), (20, 0, 0, 332, 21), (21, 27, 183, 10, 24), (24, 27, 135, 1, 27), (27, 9, 0, 0, 28), (28, 1, 2, 146, 29), (29, 4, 4, 0, 30), (30, 1, 3, 146, 31), (31, 4, 4, 0, 32), (32, 1, 4, 146, 34)]), (34, [(34, 0, 4, 146, 36), (36, 0, 0, 332, 37), (37, 27, 183, 9, 40), (40, 27, 103, 9, 43), (43, 24, 76, 1, 46), (46, 0, 4, 146, 48), (48, 0, 1, 146, 49), (49, 24, 70, 4, 52), (52, 0, 0, 332, 53), (53, 0, 1, 146, 54), (54, 0, 4, 146, 56), (56, 0, 2, 146, 57), (57, 41, 161, 0, 60), (60, 25, 70, 4, 63), (63, 0, 3, 146, 64), (64, 4, 20, 0, 65), (65, 0, 4, 146, 67), (67, 11, 0, 0, 68), (68, 9, 0, 0, 69), (69, 1, 3, 146, 70)]), (70, [(70, 3, 4, 20, 73), (73, 23, 34, 0, 76)]), (76, [(76, 0, 3, 146, 77), (77, 42, 0, 0, 78)])]
def zc_X11_neverBoth : List (Nat × List zx_E) := [(0, [(0, 0, 3, 146, 1), (1, 0, 1, 146, 2), (2, 41, 12, 1, 5), (5, 4, 20, 0, 6), (6, 24, 18, 4, 9), (9, 0, 3, 146, 10), (10, 0, 2, 146, 11), (11, 41, 12, 1, 14), (14, 4, 20, 0, 15), (15, 24, 20, 5, 18)]), (18, [(18, 4, 20, 0, 19), (19, 42, 0, 0, 20)]), (20, [(20, 0, 0, 332, 21), (21, 27, 183, 9, 24), (24, 0, 1, 146, 25), (25, 0, 2, 146, 26), (26, 0, 0, 332, 27), (27, 27, 183, 10, 30), (30, 27, 135, 2, 33), (33, 41, 48, 0, 36), (36, 25, 62, 4, 39), (39, 0, 0, 332, 40), (40, 27, 183, 9, 43), (43, 0, 2, 146, 44), (44, 0, 1, 146, 45), (45, 0, 0, 332, 46), (46, 27, 183, 10, 49), (49, 27, 135, 2, 52), (52, 41, 48, 0, 55), (55, 25, 62, 4, 58), (58, 4, 20, 0, 59), (59, 23, 63, 0, 62)]), (62, [(62, 4, 4, 0, 63)]), (63, [(63, 42, 0, 0, 64)])]
def zc_X12_feast : List (Nat × List zx_E) := [(0, [(0, 0, 1, 146, 1), (1, 4, 4, 0, 2), (2, 4, 164, 0, 4), (4, 41, 7, 1, 7), (7, 25, 19, 4, 10), (10, 0, 2, 146, 11), (11, 4, 4, 0, 12), (12, 4, 20, 0, 13), (13, 41, 7, 1, 16), (16, 25, 21, 5, 19)]), (19, [(19, 4, 68719476724, 0, 20), (20, 42, 0, 0, 21)]), (21, [(21, 0, 0, 332, 22), (22, 0, 0, 332, 23), (23, 27, 199, 49, 26), (26, 4, 4, 0, 27), (27, 33, 9, 0, 28), (28, 0, 0, 332, 29), (29, 27, 199, 49, 32), (32, 4, 36, 0, 33), (33, 33, 9, 0, 34), (34, 0, 0, 332, 35), (35, 41, 20, 0, 38), (38, 41, 132, 0, 41), (41, 4, 68719476724, 0, 42), (42, 1, 3, 146, 43), (43, 4, 4, 0, 44), (44, 1, 4, 146, 46)]), (46, [(46, 0, 4, 146, 48), (48, 4, 20, 0, 49), (49, 0, 0, 332, 50), (50, 41, 1, 0, 53), (53, 11, 0, 0, 54), (54, 24, 119, 1, 57), (57, 0, 4, 146, 59), (59, 0, 0, 332, 60), (60, 27, 199, 49, 63), (63, 4, 4, 0, 64), (64, 33, 9, 0, 65), (65, 4, 68719476724, 0, 66), (66, 10, 0, 0, 67), (67, 8, 0, 0, 68), (68, 1, 5, 146, 70), (70, 0, 0, 332, 71), (71, 27, 199, 58, 74), (74, 0, 4, 146, 76), (76, 33, 54, 0, 77), (77, 25, 113, 4, 80), (80, 0, 5, 146, 82), (82, 41, 6, 1, 85), (85, 0, 1, 146, 86), (86, 24, 92, 4, 89), (89, 23, 113, 0, 92)]), (92, [(92, 0, 3, 146, 93), (93, 25, 110, 0, 96), (96, 0, 0, 332, 97), (97, 0, 5, 146, 99), (99, 41, 163, 0, 102), (102, 0, 0, 332, 103), (103, 0, 3, 146, 104), (104, 41, 163, 0, 107), (107, 24, 113, 1, 110)]), (110, [(110, 0, 5, 146, 112), (112, 1, 3, 146, 113)]), (113, [(113, 3, 4, 20, 116), (116, 23, 46, 0, 119)]), (119, [(119, 0, 3, 146, 120), (120, 25, 127, 1, 123), (123, 4, 68719476724, 0, 124), (124, 23, 140, 0, 127)]), (127, [(127, 0, 2, 146, 128), (128, 25, 139, 5, 131), (131, 0, 0, 332, 132), (132, 0, 3, 146, 133), (133, 41, 163, 0, 136), (136, 23, 140, 0, 139)]), (139, [(139, 0, 3, 146, 140)]), (140, [(140, 42, 0, 0, 141)])]
def zc_X12_oils : List (Nat × List zx_E) := [(0, [(0, 4, 4, 0, 1), (1, 1, 2, 146, 2), (2, 4, 4, 0, 3), (3, 1, 3, 146, 4)]), (4, [(4, 0, 3, 146, 5), (5, 0, 0, 332, 6), (6, 41, 1, 0, 9), (9, 24, 38, 1, 12), (12, 0, 2, 146, 13), (13, 0, 1, 146, 14), (14, 0, 3, 146, 15), (15, 41, 19, 1, 18), (18, 25, 29, 4, 21), (21, 0, 0, 332, 22), (22, 0, 3, 146, 23), (23, 41, 164, 0, 26), (26, 23, 30, 0, 29)]), (29, [(29, 4, 4, 0, 30)]), (30, [(30, 5, 0, 0, 31), (31, 1, 2, 146, 32), (32, 3, 3, 20, 35), (35, 23, 4, 0, 38)]), (38, [(38, 0, 2, 146, 39), (39, 42, 0, 0, 40)])]
def zc_X12_oilOf : List (Nat × List zx_E) := [(0, [(0, 0, 0, 332, 1), (1, 27, 199, 35, 4), (4, 0, 0, 332, 5), (5, 27, 199, 43, 8), (8, 33, 54, 0, 9), (9, 25, 14, 5, 12), (12, 4, 4, 0, 13), (13, 42, 0, 0, 14)]), (14, [(14, 4, 4, 0, 15), (15, 1, 2, 146, 16), (16, 0, 0, 332, 17), (17, 27, 199, 26, 20), (20, 0, 0, 332, 21), (21, 27, 199, 43, 24), (24, 33, 9, 0, 25), (25, 1, 3, 146, 26)]), (26, [(26, 0, 3, 146, 27), (27, 0, 0, 332, 28), (28, 27, 199, 27, 31), (31, 0, 0, 332, 32), (32, 27, 199, 43, 35), (35, 33, 9, 0, 36), (36, 24, 150, 1, 39), (39, 0, 0, 332, 40), (40, 27, 199, 38, 43), (43, 0, 3, 146, 44), (44, 33, 9, 0, 45), (45, 1, 4, 146, 47), (47, 0, 4, 146, 49), (49, 4, 2020, 0, 51), (51, 24, 81, 5, 54), (54, 0, 0, 332, 55), (55, 27, 199, 42, 58), (58, 0, 2, 146, 59), (59, 4, 20, 0, 60), (60, 6, 0, 0, 61), (61, 0, 0, 332, 62), (62, 27, 199, 42, 65), (65, 0, 2, 146, 66), (66, 4, 20, 0, 67), (67, 6, 0, 0, 68), (68, 33, 9, 0, 69), (69, 25, 76, 5, 72), (72, 4, 20, 0, 73), (73, 23, 77, 0, 76)]), (76, [(76, 4, 4, 0, 77)]), (77, [(77, 34, 9, 0, 78), (78, 23, 144, 0, 81)]), (81, [(81, 0, 4, 146, 83), (83, 41, 167, 1, 86), (86, 25, 114, 4, 89), (89, 0, 0, 332, 90), (90, 27, 199, 42, 93), (93, 0, 2, 146, 94), (94, 0, 0, 332, 95), (95, 0, 4, 146, 97), (97, 0, 0, 332, 98), (98, 27, 199, 39, 101), (101, 0, 3, 146, 102), (102, 33, 9, 0, 103), (103, 0, 1, 146, 104), (104, 41, 166, 0, 107), (107, 34, 9, 0, 108), (108, 3, 2, 20, 111), (111, 23, 144, 0, 114)]), (114, [(114, 3, 2, 68719476724, 117), (117, 0, 0, 332, 118), (118, 27, 199, 42, 121), (121, 0, 2, 146, 122), (122, 4, 20, 0, 123), (123, 6, 0, 0, 124), (124, 0, 4, 146, 126), (126, 0, 0, 332, 127), (127, 27, 199, 42, 130), (130, 0, 2, 146, 131), (131, 4, 20, 0, 132), (132, 6, 0, 0, 133), (133, 33, 9, 0, 134), (134, 0, 0, 332, 135), (135, 27, 199, 42, 138), (138, 0, 2, 146, 139), (139, 33, 9, 0, 140), (140, 41, 165, 1, 143), (143, 34, 9, 0, 144)]), (144, [(144, 3, 3, 20, 147), (147, 23, 26, 0, 150)]), (150, [(150, 0, 0, 332, 151), (151, 27, 199, 42, 154), (154, 4, 4, 0, 155), (155, 33, 9, 0, 156), (156, 25, 163, 1, 159), (159, 4, 4, 0, 160), (160, 23, 187, 0, 163)]), (163, [(163, 0, 0, 332, 164), (164, 27, 199, 42, 167), (167, 4, 4, 0, 168), (168, 33, 9, 0, 169), (169, 4, 15988, 0, 172), (172, 24, 181, 3, 175), (175, 4, 15988, 0, 178), (178, 23, 187, 0, 181)]), (181, [(181, 0, 0, 332, 182), (182, 27, 199, 42, 185), (185, 4, 4, 0, 186), (186, 33, 9, 0, 187)]), (187, [(187, 42, 0, 0, 188)])]
def zc_X12_two : List (Nat × List zx_E) := [(0, [(0, 0, 0, 146, 1), (1, 26, 3, 0, 120)]), (120, [(120, 0, 1, 146, 121), (121, 0, 2, 146, 122), (122, 5, 0, 0, 123), (123, 42, 0, 0, 124)]), (124, [(124, 0, 1, 146, 125), (125, 0, 2, 146, 126), (126, 6, 0, 0, 127), (127, 42, 0, 0, 128)]), (128, [(128, 0, 1, 146, 129), (129, 0, 2, 146, 130), (130, 7, 0, 0, 131), (131, 42, 0, 0, 132)]), (132, [(132, 0, 2, 146, 133), (133, 25, 140, 5, 136), (136, 4, 4, 0, 137), (137, 23, 143, 0, 140)]), (140, [(140, 0, 1, 146, 141), (141, 0, 2, 146, 142), (142, 14, 0, 0, 143)]), (143, [(143, 42, 0, 0, 144)]), (144, [(144, 0, 2, 146, 145), (145, 25, 152, 5, 148), (148, 4, 4, 0, 149), (149, 23, 155, 0, 152)]), (152, [(152, 0, 1, 146, 153), (153, 0, 2, 146, 154), (154, 15, 0, 0, 155)]), (155, [(155, 42, 0, 0, 156)]), (156, [(156, 0, 1, 146, 157), (157, 0, 2, 146, 158), (158, 24, 165, 1, 161), (161, 4, 20, 0, 162), (162, 23, 166, 0, 165)]), (165, [(165, 4, 4, 0, 166)]), (166, [(166, 42, 0, 0, 167)]), (167, [(167, 0, 1, 146, 168), (168, 0, 2, 146, 169), (169, 24, 176, 3, 172), (172, 4, 20, 0, 173), (173, 23, 177, 0, 176)]), (176, [(176, 4, 4, 0, 177)]), (177, [(177, 42, 0, 0, 178)]), (178, [(178, 0, 1, 146, 179), (179, 0, 2, 146, 180), (180, 24, 187, 5, 183), (183, 4, 20, 0, 184), (184, 23, 188, 0, 187)]), (187, [(187, 4, 4, 0, 188)]), (188, [(188, 42, 0, 0, 189)]), (189, [(189, 0, 1, 146, 190), (190, 25, 201, 4, 193), (193, 0, 2, 146, 194), (194, 25, 201, 4, 197), (197, 4, 20, 0, 198), (198, 23, 202, 0, 201)]), (201, [(201, 4, 4, 0, 202)]), (202, [(202, 42, 0, 0, 203)]), (203, [(203, 0, 1, 146, 204), (204, 25, 211, 5, 207), (207, 0, 2, 146, 208), (208, 25, 215, 4, 211)]), (211, [(211, 4, 20, 0, 212), (212, 23, 216, 0, 215)]), (215, [(215, 4, 4, 0, 216)]), (216, [(216, 42, 0, 0, 217)])]
def zc_X12_asked : List (Nat × List zx_E) := [(0, [(0, 0, 1, 146, 1), (1, 26, 4, 0, 44)]), (44, [(44, 0, 0, 332, 45), (45, 0, 3, 146, 46), (46, 41, 28, 0, 49), (49, 42, 0, 0, 50)]), (50, [(50, 0, 0, 332, 51), (51, 27, 199, 49, 54), (54, 4, 52, 0, 55), (55, 0, 3, 146, 56), (56, 5, 0, 0, 57), (57, 33, 9, 0, 58), (58, 42, 0, 0, 59)]), (59, [(59, 0, 0, 332, 60), (60, 27, 199, 49, 63), (63, 4, 228, 0, 65), (65, 33, 9, 0, 66), (66, 42, 0, 0, 67)]), (67, [(67, 0, 0, 332, 68), (68, 27, 199, 20, 71), (71, 4, 164, 0, 73), (73, 0, 0, 332, 74), (74, 27, 199, 43, 77), (77, 7, 0, 0, 78), (78, 0, 3, 146, 79), (79, 5, 0, 0, 80), (80, 33, 9, 0, 81), (81, 42, 0, 0, 82)]), (82, [(82, 0, 2, 146, 83), (83, 42, 0, 0, 84)])]
def zc_X12_isLetter : List (Nat × List zx_E) := [(0, [(0, 0, 0, 146, 1), (1, 4, 1556, 0, 3), (3, 24, 16, 0, 6), (6, 0, 0, 146, 7), (7, 4, 1956, 0, 9), (9, 24, 16, 2, 12), (12, 4, 20, 0, 13), (13, 23, 17, 0, 16)]), (16, [(16, 4, 4, 0, 17)]), (17, [(17, 42, 0, 0, 18)])]
def zc_X11_feast : List (Nat × List zx_E) := [(0, [(0, 0, 1, 146, 1), (1, 25, 17, 0, 4), (4, 0, 1, 146, 5), (5, 4, 164, 0, 7), (7, 24, 17, 2, 10), (10, 0, 2, 146, 11), (11, 41, 120, 1, 14), (14, 25, 19, 5, 17)]), (17, [(17, 4, 68719476724, 0, 18), (18, 42, 0, 0, 19)]), (19, [(19, 0, 0, 332, 20), (20, 27, 183, 6, 23), (23, 0, 0, 332, 24), (24, 27, 183, 9, 27), (27, 0, 0, 332, 28), (28, 27, 183, 10, 31), (31, 27, 135, 2, 34), (34, 41, 46, 0, 37), (37, 0, 0, 332, 38), (38, 27, 183, 6, 41), (41, 0, 0, 332, 42), (42, 27, 183, 10, 45), (45, 27, 135, 0, 48), (48, 0, 0, 332, 49), (49, 27, 183, 10, 52), (52, 0, 0, 332, 53), (53, 27, 183, 9, 56), (56, 41, 82, 0, 59), (59, 41, 44, 0, 62), (62, 4, 4, 0, 63), (63, 1, 3, 146, 64)]), (64, [(64, 0, 3, 146, 65), (65, 0, 0, 332, 66), (66, 27, 183, 9, 69), (69, 27, 103, 9, 72), (72, 24, 101, 1, 75), (75, 0, 0, 332, 76), (76, 27, 183, 6, 79), (79, 0, 3, 146, 80), (80, 0, 0, 332, 81), (81, 27, 183, 10, 84), (84, 0, 0, 332, 85), (85, 27, 183, 9, 88), (88, 0, 3, 146, 89), (89, 41, 172, 0, 92), (92, 41, 171, 0, 95), (95, 3, 3, 20, 98), (98, 23, 64, 0, 101)]), (101, [(101, 0, 0, 332, 102), (102, 27, 183, 6, 105), (105, 0, 1, 146, 106), (106, 41, 170, 0, 109), (109, 1, 3, 146, 110), (110, 0, 3, 146, 111), (111, 4, 68719476724, 0, 112), (112, 24, 117, 5, 115), (115, 4, 68719476724, 0, 116), (116, 42, 0, 0, 117)]), (117, [(117, 0, 2, 146, 118), (118, 25, 132, 5, 121), (121, 0, 0, 332, 122), (122, 27, 183, 6, 125), (125, 0, 3, 146, 126), (126, 41, 169, 0, 129), (129, 23, 133, 0, 132)]), (132, [(132, 0, 3, 146, 133)]), (133, [(133, 42, 0, 0, 134)])]
def zc_X4_priceOf : List (Nat × List zx_E) := [(0, [(0, 4, 4, 0, 1), (1, 1, 2, 146, 2), (2, 4, 4, 0, 3), (3, 1, 3, 146, 4)]), (4, [(4, 0, 3, 146, 5), (5, 4, 164, 0, 7), (7, 24, 31, 1, 10), (10, 0, 2, 146, 11), (11, 0, 1, 146, 12), (12, 0, 3, 146, 13), (13, 41, 12, 5, 16), (16, 0, 0, 332, 17), (17, 27, 71, 2, 20), (20, 0, 3, 146, 21), (21, 33, 9, 0, 22), (22, 7, 0, 0, 23), (23, 5, 0, 0, 24), (24, 1, 2, 146, 25), (25, 3, 3, 20, 28), (28, 23, 4, 0, 31)]), (31, [(31, 0, 2, 146, 32), (32, 42, 0, 0, 33)])]
def zc_X4_cheapest : List (Nat × List zx_E) := [(0, [(0, 0, 0, 332, 1), (1, 41, 138, 0, 4), (4, 4, 68719476724, 0, 5), (5, 1, 2, 146, 6), (6, 4, 4, 0, 7), (7, 1, 3, 146, 8)]), (8, [(8, 0, 3, 146, 9), (9, 0, 0, 332, 10), (10, 27, 71, 6, 13), (13, 24, 58, 2, 16), (16, 0, 3, 146, 17), (17, 41, 9, 1, 20), (20, 0, 1, 146, 21), (21, 24, 52, 5, 24), (24, 0, 0, 332, 25), (25, 0, 3, 146, 26), (26, 41, 137, 0, 29), (29, 25, 52, 4, 32), (32, 0, 2, 146, 33), (33, 4, 68719476724, 0, 34), (34, 24, 50, 4, 37), (37, 0, 0, 332, 38), (38, 0, 3, 146, 39), (39, 41, 169, 0, 42), (42, 0, 0, 332, 43), (43, 0, 2, 146, 44), (44, 41, 169, 0, 47), (47, 24, 52, 1, 50)]), (50, [(50, 0, 3, 146, 51), (51, 1, 2, 146, 52)]), (52, [(52, 3, 3, 20, 55), (55, 23, 8, 0, 58)]), (58, [(58, 0, 2, 146, 59), (59, 42, 0, 0, 60)])]
def zc_X4_setPrice : List (Nat × List zx_E) := [(0, [(0, 0, 1, 146, 1), (1, 25, 20, 0, 4), (4, 0, 1, 146, 5), (5, 0, 0, 332, 6), (6, 27, 71, 2, 9), (9, 32, 0, 0, 10), (10, 24, 20, 1, 13), (13, 0, 0, 332, 14), (14, 27, 71, 2, 17), (17, 0, 1, 146, 18), (18, 0, 2, 146, 19), (19, 34, 9, 0, 20)]), (20, [(20, 43, 0, 0, 21)])]
def zc_X8_oilOf : List (Nat × List zx_E) := [(0, [(0, 0, 1, 332, 1), (1, 0, 2, 146, 2), (2, 41, 50, 0, 5), (5, 25, 10, 5, 8), (8, 4, 4, 0, 9), (9, 42, 0, 0, 10)]), (10, [(10, 0, 1, 332, 11), (11, 27, 103, 7, 14), (14, 0, 1, 332, 15), (15, 27, 103, 4, 18), (18, 0, 2, 146, 19), (19, 33, 9, 0, 20), (20, 0, 0, 332, 21), (21, 27, 135, 6, 24), (24, 0, 2, 146, 25), (25, 33, 9, 0, 26), (26, 0, 0, 332, 27), (27, 27, 135, 4, 30), (30, 0, 1, 332, 31), (31, 27, 103, 3, 34), (34, 0, 2, 146, 35), (35, 33, 9, 0, 36), (36, 41, 173, 0, 39), (39, 1, 3, 146, 40), (40, 4, 4, 0, 41), (41, 4, 15988, 0, 44), (44, 0, 3, 146, 45), (45, 41, 342, 1, 48), (48, 41, 341, 1, 51), (51, 42, 0, 0, 52)])]
def zc_X0_value : List (Nat × List zx_E) := [(0, [(0, 0, 0, 332, 1), (1, 4, 4, 0, 2), (2, 28, 153092103, 3, 5), (5, 4, 4, 0, 6), (6, 1, 5, 146, 8)]), (8, [(8, 0, 5, 146, 10), (10, 0, 0, 332, 11), (11, 27, 7, 2, 14), (14, 24, 147, 1, 17), (17, 0, 0, 332, 18), (18, 27, 7, 0, 21), (21, 0, 5, 146, 23), (23, 33, 9, 0, 24), (24, 1, 6, 146, 26), (26, 0, 6, 146, 28), (28, 45, 0, 0, 29), (29, 26, 5, 0, 80)]), (80, [(80, 0, 0, 332, 81), (81, 0, 1, 146, 82), (82, 41, 176, 0, 85), (85, 23, 141, 0, 88)]), (88, [(88, 0, 0, 332, 89), (89, 0, 2, 146, 90), (90, 41, 176, 0, 93), (93, 23, 141, 0, 96)]), (96, [(96, 0, 0, 332, 97), (97, 0, 3, 146, 98), (98, 41, 176, 0, 101), (101, 23, 141, 0, 104)]), (104, [(104, 0, 0, 332, 105), (105, 0, 4, 146, 107), (107, 41, 176, 0, 110), (110, 23, 141, 0, 113)]), (113, [(113, 0, 0, 332, 114), (114, 0, 0, 332, 115), (115, 41, 174, 0, 118), (118, 25, 125, 5, 121), (121, 4, 20, 0, 122), (122, 23, 126, 0, 125)]), (125, [(125, 4, 4, 0, 126)]), (126, [(126, 41, 178, 1, 129), (129, 41, 176, 0, 132), (132, 23, 141, 0, 135)]), (135, [(135, 0, 0, 332, 136), (136, 0, 6, 146, 138), (138, 41, 175, 0, 141)]), (141, [(141, 3, 5, 20, 144), (144, 23, 8, 0, 147)]), (147, [(147, 0, 0, 332, 148), (148, 41, 174, 0, 151), (151, 42, 0, 0, 152)])]
def zc_X0_take : List (Nat × List zx_E) := [(0, [(0, 0, 0, 332, 1), (1, 27, 7, 3, 4), (4, 25, 9, 2, 7), (7, 4, 4, 0, 8), (8, 42, 0, 0, 9)]), (9, [(9, 0, 0, 332, 10), (10, 20, 0, 0, 11), (11, 27, 7, 3, 14), (14, 4, 20, 0, 15), (15, 6, 0, 0, 16), (16, 28, 153092103, 3, 19), (19, 0, 0, 332, 20), (20, 27, 7, 1, 23), (23, 0, 0, 332, 24), (24, 27, 7, 3, 27), (27, 33, 9, 0, 28), (28, 42, 0, 0, 29)])]
def zc_X0_putOther : List (Nat × List zx_E) := [(0, [(0, 0, 1, 146, 1), (1, 25, 10, 0, 4), (4, 0, 0, 332, 5), (5, 0, 1, 146, 6), (6, 41, 176, 0, 9), (9, 43, 0, 0, 10)]), (10, [(10, 0, 0, 332, 11), (11, 41, 174, 0, 14), (14, 1, 2, 146, 15), (15, 0, 0, 332, 16), (16, 41, 174, 0, 19), (19, 1, 3, 146, 20), (20, 0, 0, 332, 21), (21, 0, 1, 146, 22), (22, 45, 0, 0, 23), (23, 0, 3, 146, 24), (24, 0, 2, 146, 25), (25, 41, 177, 1, 28), (28, 41, 176, 0, 31), (31, 43, 0, 0, 32)])]
def zc_X0_put : List (Nat × List zx_E) := [(0, [(0, 0, 0, 332, 1), (1, 27, 7, 3, 4), (4, 0, 0, 332, 5), (5, 27, 7, 1, 8), (8, 32, 0, 0, 9), (9, 24, 32, 1, 12), (12, 0, 0, 332, 13), (13, 27, 7, 1, 16), (16, 0, 0, 332, 17), (17, 27, 7, 3, 20), (20, 0, 1, 146, 21), (21, 34, 9, 0, 22), (22, 0, 0, 332, 23), (23, 20, 0, 0, 24), (24, 27, 7, 3, 27), (27, 4, 20, 0, 28), (28, 5, 0, 0, 29), (29, 28, 153092103, 3, 32)]), (32, [(32, 43, 0, 0, 33)])]
def zc_X0_joined : List (Nat × List zx_E) := [(0, [(0, 0, 0, 146, 1), (1, 26, 6, 0, 92)]), (92, [(92, 0, 1, 146, 93), (93, 25, 100, 5, 96), (96, 0, 2, 146, 97), (97, 25, 104, 4, 100)]), (100, [(100, 4, 20, 0, 101), (101, 23, 105, 0, 104)]), (104, [(104, 4, 4, 0, 105)]), (105, [(105, 41, 178, 1, 108), (108, 42, 0, 0, 109)]), (109, [(109, 0, 1, 146, 110), (110, 25, 121, 4, 113), (113, 0, 2, 146, 114), (114, 25, 121, 4, 117), (117, 4, 20, 0, 118), (118, 23, 122, 0, 121)]), (121, [(121, 4, 4, 0, 122)]), (122, [(122, 41, 178, 1, 125), (125, 42, 0, 0, 126)]), (126, [(126, 0, 1, 146, 127), (127, 0, 2, 146, 128), (128, 24, 135, 1, 131), (131, 4, 20, 0, 132), (132, 23, 136, 0, 135)]), (135, [(135, 4, 4, 0, 136)]), (136, [(136, 41, 178, 1, 139), (139, 42, 0, 0, 140)]), (140, [(140, 0, 1, 146, 141), (141, 0, 2, 146, 142), (142, 24, 149, 3, 145), (145, 4, 20, 0, 146), (146, 23, 150, 0, 149)]), (149, [(149, 4, 4, 0, 150)]), (150, [(150, 41, 178, 1, 153), (153, 42, 0, 0, 154)]), (154, [(154, 0, 1, 146, 155), (155, 0, 2, 146, 156), (156, 24, 163, 5, 159), (159, 4, 20, 0, 160), (160, 23, 164, 0, 163)]), (163, [(163, 4, 4, 0, 164)]), (164, [(164, 41, 178, 1, 167), (167, 42, 0, 0, 168)]), (168, [(168, 0, 1, 146, 169), (169, 0, 2, 146, 170), (170, 5, 0, 0, 171), (171, 42, 0, 0, 172)]), (172, [(172, 0, 1, 146, 173), (173, 0, 2, 146, 174), (174, 6, 0, 0, 175), (175, 42, 0, 0, 176)]), (176, [(176, 0, 1, 146, 177), (177, 0, 2, 146, 178), (178, 7, 0, 0, 179), (179, 42, 0, 0, 180)]), (180, [(180, 0, 2, 146, 181), (181, 25, 188, 5, 184), (184, 4, 4, 0, 185), (185, 23, 191, 0, 188)]), (188, [(188, 0, 1, 146, 189), (189, 0, 2, 146, 190), (190, 14, 0, 0, 191)]), (191, [(191, 42, 0, 0, 192)]), (192, [(192, 0, 2, 146, 193), (193, 25, 200, 5, 196), (196, 4, 4, 0, 197), (197, 23, 203, 0, 200)]), (200, [(200, 0, 1, 146, 201), (201, 0, 2, 146, 202), (202, 15, 0, 0, 203)]), (203, [(203, 42, 0, 0, 204)]), (204, [(204, 4, 4, 0, 205), (205, 42, 0, 0, 206)])]
def zc_X0_truth : List (Nat × List zx_E) := [(0, [(0, 0, 0, 146, 1), (1, 25, 8, 4, 4), (4, 4, 20, 0, 5), (5, 23, 9, 0, 8)]), (8, [(8, 4, 4, 0, 9)]), (9, [(9, 42, 0, 0, 10)])]
def zc_X12_stuck : List (Nat × List zx_E) := [(0, [(0, 0, 1, 146, 1), (1, 4, 4, 0, 2), (2, 4, 20, 0, 3), (3, 41, 7, 1, 6), (6, 25, 11, 5, 9), (9, 4, 68719476724, 0, 10), (10, 42, 0, 0, 11)]), (11, [(11, 0, 0, 332, 12), (12, 0, 0, 332, 13), (13, 27, 199, 49, 16), (16, 4, 4, 0, 17), (17, 33, 9, 0, 18), (18, 0, 0, 332, 19), (19, 27, 199, 49, 22), (22, 4, 36, 0, 23), (23, 33, 9, 0, 24), (24, 0, 0, 332, 25), (25, 41, 20, 0, 28), (28, 41, 132, 0, 31), (31, 4, 68719476724, 0, 32), (32, 1, 2, 146, 33), (33, 4, 4, 0, 34), (34, 1, 3, 146, 35)]), (35, [(35, 0, 3, 146, 36), (36, 4, 20, 0, 37), (37, 0, 0, 332, 38), (38, 41, 1, 0, 41), (41, 11, 0, 0, 42), (42, 24, 85, 1, 45), (45, 0, 0, 332, 46), (46, 27, 199, 58, 49), (49, 0, 3, 146, 50), (50, 33, 54, 0, 51), (51, 25, 79, 4, 54), (54, 0, 0, 332, 55), (55, 0, 3, 146, 56), (56, 41, 180, 0, 59), (59, 25, 79, 4, 62), (62, 0, 2, 146, 63), (63, 25, 77, 0, 66), (66, 0, 3, 146, 67), (67, 41, 6, 1, 70), (70, 0, 2, 146, 71), (71, 41, 6, 1, 74), (74, 24, 79, 1, 77)]), (77, [(77, 0, 3, 146, 78), (78, 1, 2, 146, 79)]), (79, [(79, 3, 3, 20, 82), (82, 23, 35, 0, 85)]), (85, [(85, 0, 1, 146, 86), (86, 25, 96, 5, 89), (89, 0, 2, 146, 90), (90, 41, 6, 1, 93), (93, 23, 97, 0, 96)]), (96, [(96, 0, 2, 146, 97)]), (97, [(97, 42, 0, 0, 98)])]
def zc_X12_isStuck : List (Nat × List zx_E) := [(0, [(0, 4, 4, 0, 1), (1, 1, 2, 146, 2)]), (2, [(2, 0, 2, 146, 3), (3, 0, 0, 332, 4), (4, 41, 1, 0, 7), (7, 24, 31, 1, 10), (10, 0, 0, 332, 11), (11, 0, 2, 146, 12), (12, 0, 1, 146, 13), (13, 0, 0, 332, 14), (14, 41, 20, 0, 17), (17, 41, 18, 0, 20), (20, 25, 25, 4, 23), (23, 4, 4, 0, 24), (24, 42, 0, 0, 25)]), (25, [(25, 3, 2, 20, 28), (28, 23, 2, 0, 31)]), (31, [(31, 4, 20, 0, 32), (32, 42, 0, 0, 33)])]
def zc_X11_stuck : List (Nat × List zx_E) := [(0, [(0, 0, 1, 146, 1), (1, 41, 120, 1, 4), (4, 25, 9, 5, 7), (7, 4, 68719476724, 0, 8), (8, 42, 0, 0, 9)]), (9, [(9, 0, 0, 332, 10), (10, 27, 183, 6, 13), (13, 0, 0, 332, 14), (14, 27, 183, 9, 17), (17, 0, 0, 332, 18), (18, 27, 183, 10, 21), (21, 27, 135, 2, 24), (24, 41, 46, 0, 27), (27, 0, 0, 332, 28), (28, 27, 183, 6, 31), (31, 0, 0, 332, 32), (32, 27, 183, 10, 35), (35, 27, 135, 0, 38), (38, 0, 0, 332, 39), (39, 27, 183, 10, 42), (42, 0, 0, 332, 43), (43, 27, 183, 9, 46), (46, 41, 82, 0, 49), (49, 41, 44, 0, 52), (52, 0, 0, 332, 53), (53, 27, 183, 6, 56), (56, 41, 182, 0, 59), (59, 0, 1, 146, 60), (60, 41, 155, 1, 63), (63, 42, 0, 0, 64)])]
def zc_X4_fewestStuck : List (Nat × List zx_E) := [(0, [(0, 0, 0, 332, 1), (1, 41, 138, 0, 4), (4, 4, 68719476724, 0, 5), (5, 1, 1, 146, 6), (6, 4, 4, 0, 7), (7, 1, 2, 146, 8)]), (8, [(8, 0, 2, 146, 9), (9, 0, 0, 332, 10), (10, 27, 71, 6, 13), (13, 24, 56, 2, 16), (16, 0, 0, 332, 17), (17, 0, 2, 146, 18), (18, 41, 137, 0, 21), (21, 25, 50, 4, 24), (24, 0, 0, 332, 25), (25, 0, 2, 146, 26), (26, 41, 183, 0, 29), (29, 25, 50, 4, 32), (32, 0, 1, 146, 33), (33, 4, 68719476724, 0, 34), (34, 24, 48, 4, 37), (37, 0, 2, 146, 38), (38, 41, 9, 1, 41), (41, 0, 1, 146, 42), (42, 41, 9, 1, 45), (45, 24, 50, 1, 48)]), (48, [(48, 0, 2, 146, 49), (49, 1, 1, 146, 50)]), (50, [(50, 3, 2, 20, 53), (53, 23, 8, 0, 56)]), (56, [(56, 0, 1, 146, 57), (57, 4, 68719476724, 0, 58), (58, 24, 68, 5, 61), (61, 0, 0, 332, 62), (62, 27, 71, 5, 65), (65, 23, 74, 0, 68)]), (68, [(68, 0, 0, 332, 69), (69, 27, 71, 5, 72), (72, 0, 1, 146, 73), (73, 9, 0, 0, 74)]), (74, [(74, 42, 0, 0, 75)])]
def zc_X4_isStuck : List (Nat × List zx_E) := [(0, [(0, 4, 4, 0, 1), (1, 1, 2, 146, 2)]), (2, [(2, 0, 2, 146, 3), (3, 4, 164, 0, 5), (5, 24, 25, 1, 8), (8, 0, 0, 332, 9), (9, 0, 2, 146, 10), (10, 0, 1, 146, 11), (11, 41, 40, 0, 14), (14, 25, 19, 4, 17), (17, 4, 4, 0, 18), (18, 42, 0, 0, 19)]), (19, [(19, 3, 2, 20, 22), (22, 23, 2, 0, 25)]), (25, [(25, 4, 20, 0, 26), (26, 42, 0, 0, 27)])]
def zc_X12_most : List (Nat × List zx_E) := [(0, [(0, 0, 1, 146, 1), (1, 4, 4, 0, 2), (2, 4, 20, 0, 3), (3, 41, 7, 1, 6), (6, 25, 11, 5, 9), (9, 4, 68719476724, 0, 10), (10, 42, 0, 0, 11)]), (11, [(11, 0, 0, 332, 12), (12, 0, 0, 332, 13), (13, 27, 199, 49, 16), (16, 4, 36, 0, 17), (17, 33, 9, 0, 18), (18, 0, 0, 332, 19), (19, 41, 20, 0, 22), (22, 41, 131, 0, 25), (25, 1, 2, 146, 26), (26, 0, 1, 146, 27), (27, 25, 37, 5, 30), (30, 0, 2, 146, 31), (31, 41, 6, 1, 34), (34, 23, 38, 0, 37)]), (37, [(37, 0, 2, 146, 38)]), (38, [(38, 42, 0, 0, 39)])]
def zc_X11_most : List (Nat × List zx_E) := [(0, [(0, 0, 1, 146, 1), (1, 41, 120, 1, 4), (4, 25, 9, 5, 7), (7, 4, 68719476724, 0, 8), (8, 42, 0, 0, 9)]), (9, [(9, 0, 0, 332, 10), (10, 0, 0, 332, 11), (11, 27, 183, 10, 14), (14, 0, 0, 332, 15), (15, 27, 183, 9, 18), (18, 41, 82, 0, 21), (21, 0, 0, 332, 22), (22, 27, 183, 10, 25), (25, 27, 135, 2, 28), (28, 41, 135, 0, 31), (31, 0, 1, 146, 32), (32, 41, 155, 1, 35), (35, 42, 0, 0, 36)])]
def zc_X12_orders : List (Nat × List zx_E) := [(0, [(0, 0, 0, 332, 1), (1, 4, 4, 0, 2), (2, 28, 153092295, 57, 5), (5, 0, 0, 332, 6), (6, 0, 1, 146, 7), (7, 41, 153, 0, 10), (10, 25, 15, 5, 13), (13, 4, 68719476724, 0, 14), (14, 42, 0, 0, 15)]), (15, [(15, 0, 0, 332, 16), (16, 0, 1, 146, 17), (17, 0, 0, 332, 18), (18, 27, 199, 49, 21), (21, 4, 36, 0, 22), (22, 33, 9, 0, 23), (23, 41, 152, 0, 26), (26, 1, 2, 146, 27), (27, 0, 2, 146, 28), (28, 25, 46, 3, 31), (31, 0, 0, 332, 32), (32, 0, 1, 146, 33), (33, 0, 0, 332, 34), (34, 27, 199, 49, 37), (37, 4, 4, 0, 38), (38, 33, 9, 0, 39), (39, 0, 0, 332, 40), (40, 41, 20, 0, 43), (43, 41, 59, 0, 46)]), (46, [(46, 0, 2, 146, 47), (47, 42, 0, 0, 48)])]
def zc_X11_orders : List (Nat × List zx_E) := [(0, [(0, 0, 0, 332, 1), (1, 27, 183, 8, 4), (4, 41, 65, 0, 7), (7, 0, 0, 332, 8), (8, 0, 1, 146, 9), (9, 41, 158, 0, 12), (12, 25, 17, 5, 15), (15, 4, 68719476724, 0, 16), (16, 42, 0, 0, 17)]), (17, [(17, 0, 0, 332, 18), (18, 27, 183, 6, 21), (21, 0, 0, 332, 22), (22, 27, 183, 9, 25), (25, 0, 0, 332, 26), (26, 27, 183, 10, 29), (29, 27, 135, 2, 32), (32, 41, 46, 0, 35), (35, 0, 0, 332, 36), (36, 27, 183, 6, 39), (39, 0, 0, 332, 40), (40, 27, 183, 10, 43), (43, 27, 135, 0, 46), (46, 0, 0, 332, 47), (47, 27, 183, 10, 50), (50, 0, 0, 332, 51), (51, 27, 183, 9, 54), (54, 41, 82, 0, 57), (57, 41, 44, 0, 60), (60, 0, 0, 332, 61), (61, 27, 183, 6, 64), (64, 0, 1, 146, 65), (65, 41, 36, 0, 68), (68, 1, 2, 146, 69), (69, 0, 0, 332, 70), (70, 27, 183, 6, 73), (73, 0, 1, 146, 74), (74, 0, 0, 332, 75), (75, 27, 183, 8, 78), (78, 41, 61, 0, 81), (81, 0, 2, 146, 82), (82, 42, 0, 0, 83)])]
def zc_X12_redo : List (Nat × List zx_E) := [(0, [(0, 0, 0, 332, 1), (1, 27, 199, 53, 4), (4, 25, 9, 5, 7), (7, 4, 4, 0, 8), (8, 42, 0, 0, 9)]), (9, [(9, 0, 0, 332, 10), (10, 41, 189, 0, 13), (13, 0, 0, 332, 14), (14, 20, 0, 0, 15), (15, 27, 199, 52, 18), (18, 4, 20, 0, 19), (19, 5, 0, 0, 20), (20, 28, 153092295, 52, 23), (23, 0, 0, 332, 24), (24, 20, 0, 0, 25), (25, 27, 199, 53, 28), (28, 4, 20, 0, 29), (29, 6, 0, 0, 30), (30, 28, 153092295, 53, 33), (33, 4, 20, 0, 34), (34, 42, 0, 0, 35)])]
def zc_X12_exchange : List (Nat × List zx_E) := [(0, [(0, 4, 4, 0, 1), (1, 1, 1, 146, 2)]), (2, [(2, 0, 1, 146, 3), (3, 4, 260, 0, 5), (5, 24, 56, 1, 8), (8, 0, 0, 332, 9), (9, 27, 199, 51, 12), (12, 4, 260, 0, 14), (14, 0, 0, 332, 15), (15, 27, 199, 52, 18), (18, 7, 0, 0, 19), (19, 0, 1, 146, 20), (20, 5, 0, 0, 21), (21, 33, 9, 0, 22), (22, 1, 2, 146, 23), (23, 0, 0, 332, 24), (24, 27, 199, 51, 27), (27, 4, 260, 0, 29), (29, 0, 0, 332, 30), (30, 27, 199, 52, 33), (33, 7, 0, 0, 34), (34, 0, 1, 146, 35), (35, 5, 0, 0, 36), (36, 0, 0, 332, 37), (37, 27, 199, 49, 40), (40, 0, 1, 146, 41), (41, 33, 9, 0, 42), (42, 34, 9, 0, 43), (43, 0, 0, 332, 44), (44, 27, 199, 49, 47), (47, 0, 1, 146, 48), (48, 0, 2, 146, 49), (49, 34, 9, 0, 50), (50, 3, 1, 20, 53), (53, 23, 2, 0, 56)]), (56, [(56, 43, 0, 0, 57)])]
def zc_X11_redo : List (Nat × List zx_E) := [(0, [(0, 0, 0, 332, 1), (1, 27, 183, 2, 4), (4, 41, 3, 0, 7), (7, 25, 12, 5, 10), (10, 4, 4, 0, 11), (11, 42, 0, 0, 12)]), (12, [(12, 0, 0, 332, 13), (13, 0, 0, 332, 14), (14, 27, 183, 2, 17), (17, 0, 0, 332, 18), (18, 27, 183, 10, 21), (21, 41, 191, 0, 24), (24, 28, 348127415, 10, 27), (27, 4, 20, 0, 28), (28, 42, 0, 0, 29)])]
def zc_X2_stepOn : List (Nat × List zx_E) := [(0, [(0, 0, 0, 332, 1), (1, 27, 39, 2, 4), (4, 0, 0, 332, 5), (5, 27, 39, 3, 8), (8, 24, 13, 5, 11), (11, 0, 1, 332, 12), (12, 42, 2, 0, 13)]), (13, [(13, 0, 0, 332, 14), (14, 0, 1, 332, 15), (15, 41, 192, 0, 18), (18, 1, 2, 332, 19), (19, 0, 0, 332, 20), (20, 20, 0, 0, 21), (21, 27, 39, 2, 24), (24, 4, 20, 0, 25), (25, 5, 0, 0, 26), (26, 28, 153092135, 2, 29), (29, 0, 2, 332, 30), (30, 42, 2, 0, 31)])]
def zc_X2_swap : List (Nat × List zx_E) := [(0, [(0, 0, 0, 332, 1), (1, 27, 39, 0, 4), (4, 0, 0, 332, 5), (5, 0, 0, 332, 6), (6, 27, 39, 2, 9), (9, 41, 193, 0, 12), (12, 37, 0, 0, 13), (13, 1, 2, 332, 14), (14, 0, 0, 332, 15), (15, 27, 39, 0, 18), (18, 0, 0, 332, 19), (19, 0, 0, 332, 20), (20, 27, 39, 2, 23), (23, 41, 193, 0, 26), (26, 0, 1, 332, 27), (27, 38, 0, 0, 28), (28, 0, 2, 332, 29), (29, 42, 2, 0, 30)])]
def zc_X2_at : List (Nat × List zx_E) := [(0, [(0, 0, 0, 332, 1), (1, 27, 39, 1, 4), (4, 0, 1, 146, 5), (5, 5, 0, 0, 6), (6, 4, 644, 0, 8), (8, 41, 194, 1, 11), (11, 42, 0, 0, 12)])]
def zc_J9_floorMod_7cf53 : List (Nat × List zx_E) := [(0, [(0, 0, 0, 146, 1), (1, 0, 1, 146, 2), (2, 15, 0, 0, 3), (3, 1, 2, 146, 4), (4, 0, 0, 146, 5), (5, 0, 1, 146, 6), (6, 10, 0, 0, 7), (7, 25, 18, 1, 10), (10, 0, 2, 146, 11), (11, 25, 18, 4, 14), (14, 0, 2, 146, 15), (15, 0, 1, 146, 16), (16, 5, 0, 0, 17), (17, 42, 0, 0, 18)]), (18, [(18, 0, 2, 146, 19), (19, 42, 0, 0, 20)])]
def zc_X12_undo : List (Nat × List zx_E) := [(0, [(0, 0, 0, 332, 1), (1, 27, 199, 52, 4), (4, 25, 9, 5, 7), (7, 4, 4, 0, 8), (8, 42, 0, 0, 9)]), (9, [(9, 0, 0, 332, 10), (10, 20, 0, 0, 11), (11, 27, 199, 52, 14), (14, 4, 20, 0, 15), (15, 6, 0, 0, 16), (16, 28, 153092295, 52, 19), (19, 0, 0, 332, 20), (20, 20, 0, 0, 21), (21, 27, 199, 53, 24), (24, 4, 20, 0, 25), (25, 5, 0, 0, 26), (26, 28, 153092295, 53, 29), (29, 0, 0, 332, 30), (30, 41, 189, 0, 33), (33, 4, 20, 0, 34), (34, 42, 0, 0, 35)])]
def zc_X11_undo : List (Nat × List zx_E) := [(0, [(0, 0, 0, 332, 1), (1, 27, 183, 2, 4), (4, 41, 4, 0, 7), (7, 25, 12, 5, 10), (10, 4, 4, 0, 11), (11, 42, 0, 0, 12)]), (12, [(12, 0, 0, 332, 13), (13, 0, 0, 332, 14), (14, 27, 183, 2, 17), (17, 0, 0, 332, 18), (18, 27, 183, 10, 21), (21, 41, 197, 0, 24), (24, 28, 348127415, 10, 27), (27, 4, 20, 0, 28), (28, 42, 0, 0, 29)])]
def zc_X2_stepBack : List (Nat × List zx_E) := [(0, [(0, 0, 0, 332, 1), (1, 27, 39, 2, 4), (4, 25, 9, 5, 7), (7, 0, 1, 332, 8), (8, 42, 2, 0, 9)]), (9, [(9, 0, 0, 332, 10), (10, 20, 0, 0, 11), (11, 27, 39, 2, 14), (14, 4, 20, 0, 15), (15, 6, 0, 0, 16), (16, 28, 153092135, 2, 19), (19, 0, 0, 332, 20), (20, 0, 1, 332, 21), (21, 41, 192, 0, 24), (24, 42, 2, 0, 25)])]
def zc_X12_wind : List (Nat × List zx_E) := [(0, [(0, 0, 0, 332, 1), (1, 41, 200, 0, 4), (4, 0, 0, 332, 5), (5, 0, 0, 332, 6), (6, 27, 199, 49, 9), (9, 4, 36, 0, 10), (10, 33, 9, 0, 11), (11, 41, 23, 0, 14), (14, 0, 0, 332, 15), (15, 27, 199, 49, 18), (18, 4, 244, 0, 20), (20, 0, 0, 332, 21), (21, 0, 0, 332, 22), (22, 27, 199, 49, 25), (25, 4, 244, 0, 27), (27, 33, 9, 0, 28), (28, 41, 112, 0, 31), (31, 34, 9, 0, 32), (32, 0, 0, 332, 33), (33, 0, 0, 332, 34), (34, 27, 199, 49, 37), (37, 4, 4, 0, 38), (38, 33, 9, 0, 39), (39, 0, 0, 332, 40), (40, 27, 199, 49, 43), (43, 4, 244, 0, 45), (45, 33, 9, 0, 46), (46, 41, 111, 0, 49), (49, 1, 1, 146, 50), (50, 0, 0, 332, 51), (51, 27, 199, 49, 54), (54, 4, 4, 0, 55), (55, 22, 0, 0, 56), (56, 33, 9, 0, 57), (57, 0, 1, 146, 58), (58, 9, 0, 0, 59), (59, 34, 9, 0, 60), (60, 4, 4, 0, 61), (61, 1, 2, 146, 62)]), (62, [(62, 0, 2, 146, 63), (63, 0, 0, 332, 64), (64, 41, 1, 0, 67), (67, 24, 92, 1, 70), (70, 0, 0, 332, 71), (71, 27, 199, 49, 74), (74, 4, 52, 0, 75), (75, 0, 2, 146, 76), (76, 5, 0, 0, 77), (77, 22, 0, 0, 78), (78, 33, 9, 0, 79), (79, 0, 1, 146, 80), (80, 0, 2, 146, 81), (81, 41, 199, 1, 84), (84, 5, 0, 0, 85), (85, 34, 9, 0, 86), (86, 3, 2, 20, 89), (89, 23, 62, 0, 92)]), (92, [(92, 0, 1, 146, 93), (93, 42, 0, 0, 94)])]
def zc_X12_one : List (Nat × List zx_E) := [(0, [(0, 0, 0, 146, 1), (1, 0, 1, 146, 2), (2, 12, 0, 0, 3), (3, 4, 20, 0, 4), (4, 8, 0, 0, 5), (5, 42, 0, 0, 6)])]
def zc_X12_keepAct : List (Nat × List zx_E) := [(0, [(0, 0, 0, 332, 1), (1, 27, 199, 52, 4), (4, 4, 644, 0, 6), (6, 24, 49, 5, 9), (9, 4, 4, 0, 10), (10, 1, 1, 146, 11)]), (11, [(11, 0, 1, 146, 12), (12, 4, 10244, 0, 15), (15, 24, 39, 1, 18), (18, 0, 0, 332, 19), (19, 27, 199, 51, 22), (22, 0, 1, 146, 23), (23, 0, 0, 332, 24), (24, 27, 199, 51, 27), (27, 0, 1, 146, 28), (28, 4, 260, 0, 30), (30, 5, 0, 0, 31), (31, 33, 9, 0, 32), (32, 34, 9, 0, 33), (33, 3, 1, 20, 36), (36, 23, 11, 0, 39)]), (39, [(39, 0, 0, 332, 40), (40, 20, 0, 0, 41), (41, 27, 199, 52, 44), (44, 4, 20, 0, 45), (45, 6, 0, 0, 46), (46, 28, 153092295, 52, 49)]), (49, [(49, 4, 4, 0, 50), (50, 1, 1, 146, 51)]), (51, [(51, 0, 1, 146, 52), (52, 4, 260, 0, 54), (54, 24, 83, 1, 57), (57, 0, 0, 332, 58), (58, 27, 199, 51, 61), (61, 4, 260, 0, 63), (63, 0, 0, 332, 64), (64, 27, 199, 52, 67), (67, 7, 0, 0, 68), (68, 0, 1, 146, 69), (69, 5, 0, 0, 70), (70, 0, 0, 332, 71), (71, 27, 199, 49, 74), (74, 0, 1, 146, 75), (75, 33, 9, 0, 76), (76, 34, 9, 0, 77), (77, 3, 1, 20, 80), (80, 23, 51, 0, 83)]), (83, [(83, 0, 0, 332, 84), (84, 20, 0, 0, 85), (85, 27, 199, 52, 88), (88, 4, 20, 0, 89), (89, 5, 0, 0, 90), (90, 28, 153092295, 52, 93), (93, 0, 0, 332, 94), (94, 4, 4, 0, 95), (95, 28, 153092295, 53, 98), (98, 43, 0, 0, 99)])]
def zc_X11_wind : List (Nat × List zx_E) := [(0, [(0, 0, 0, 332, 1), (1, 27, 183, 2, 4), (4, 0, 0, 332, 5), (5, 27, 183, 10, 8), (8, 41, 202, 0, 11), (11, 0, 0, 332, 12), (12, 27, 183, 10, 15), (15, 0, 0, 332, 16), (16, 27, 183, 9, 19), (19, 41, 114, 0, 22), (22, 42, 0, 0, 23)])]
def zc_X2_keep : List (Nat × List zx_E) := [(0, [(0, 0, 0, 332, 1), (1, 27, 39, 2, 4), (4, 4, 644, 0, 6), (6, 24, 32, 5, 9), (9, 0, 0, 332, 10), (10, 0, 0, 332, 11), (11, 27, 39, 1, 14), (14, 4, 20, 0, 15), (15, 5, 0, 0, 16), (16, 4, 644, 0, 18), (18, 15, 0, 0, 19), (19, 28, 153092135, 1, 22), (22, 0, 0, 332, 23), (23, 20, 0, 0, 24), (24, 27, 39, 2, 27), (27, 4, 20, 0, 28), (28, 6, 0, 0, 29), (29, 28, 153092135, 2, 32)]), (32, [(32, 0, 0, 332, 33), (33, 27, 39, 0, 36), (36, 0, 0, 332, 37), (37, 0, 0, 332, 38), (38, 27, 39, 2, 41), (41, 41, 193, 0, 44), (44, 37, 0, 0, 45), (45, 0, 1, 332, 46), (46, 41, 11, 0, 49), (49, 0, 0, 332, 50), (50, 20, 0, 0, 51), (51, 27, 39, 2, 54), (54, 4, 20, 0, 55), (55, 5, 0, 0, 56), (56, 28, 153092135, 2, 59), (59, 0, 0, 332, 60), (60, 0, 0, 332, 61), (61, 27, 39, 2, 64), (64, 28, 153092135, 3, 67), (67, 43, 0, 0, 68)])]
def zc_X12_day : List (Nat × List zx_E) := [(0, [(0, 0, 0, 332, 1), (1, 27, 199, 49, 4), (4, 4, 228, 0, 6), (6, 33, 9, 0, 7), (7, 4, 159988, 0, 10), (10, 24, 15, 5, 13), (13, 4, 68719476724, 0, 14), (14, 42, 0, 0, 15)]), (15, [(15, 0, 0, 332, 16), (16, 41, 200, 0, 19), (19, 0, 0, 332, 20), (20, 27, 199, 49, 23), (23, 4, 228, 0, 25), (25, 22, 0, 0, 26), (26, 33, 9, 0, 27), (27, 4, 20, 0, 28), (28, 5, 0, 0, 29), (29, 34, 9, 0, 30), (30, 0, 0, 332, 31), (31, 27, 199, 49, 34), (34, 4, 228, 0, 36), (36, 33, 9, 0, 37), (37, 42, 0, 0, 38)])]
def zc_X11_day : List (Nat × List zx_E) := [(0, [(0, 0, 0, 332, 1), (1, 27, 183, 10, 4), (4, 27, 135, 4, 7), (7, 4, 159988, 0, 10), (10, 24, 15, 0, 13), (13, 4, 68719476724, 0, 14), (14, 42, 0, 0, 15)]), (15, [(15, 0, 0, 332, 16), (16, 27, 183, 2, 19), (19, 0, 0, 332, 20), (20, 27, 183, 10, 23), (23, 41, 202, 0, 26), (26, 0, 0, 332, 27), (27, 27, 183, 10, 30), (30, 20, 0, 0, 31), (31, 27, 135, 4, 34), (34, 4, 20, 0, 35), (35, 5, 0, 0, 36), (36, 28, 153092231, 4, 39), (39, 0, 0, 332, 40), (40, 27, 183, 10, 43), (43, 27, 135, 4, 46), (46, 42, 0, 0, 47)])]
def zc_X12_cart : List (Nat × List zx_E) := [(0, [(0, 0, 0, 332, 1), (1, 0, 1, 146, 2), (2, 0, 2, 146, 3), (3, 0, 3, 146, 4), (4, 0, 4, 146, 6), (6, 41, 143, 0, 9), (9, 1, 5, 146, 11), (11, 0, 5, 146, 13), (13, 25, 18, 1, 16), (16, 4, 68719476724, 0, 17), (17, 42, 0, 0, 18)]), (18, [(18, 0, 0, 332, 19), (19, 41, 200, 0, 22), (22, 0, 0, 332, 23), (23, 27, 199, 49, 26), (26, 4, 4, 0, 27), (27, 22, 0, 0, 28), (28, 33, 9, 0, 29), (29, 0, 5, 146, 31), (31, 4, 68719476724, 0, 32), (32, 10, 0, 0, 33), (33, 8, 0, 0, 34), (34, 34, 9, 0, 35), (35, 0, 5, 146, 37), (37, 42, 0, 0, 38)])]
def zc_X11_cart : List (Nat × List zx_E) := [(0, [(0, 0, 0, 332, 1), (1, 0, 1, 146, 2), (2, 0, 2, 146, 3), (3, 0, 3, 146, 4), (4, 0, 4, 146, 6), (6, 41, 145, 0, 9), (9, 1, 5, 146, 11), (11, 0, 5, 146, 13), (13, 4, 68719476724, 0, 14), (14, 24, 19, 5, 17), (17, 4, 68719476724, 0, 18), (18, 42, 0, 0, 19)]), (19, [(19, 0, 0, 332, 20), (20, 27, 183, 2, 23), (23, 0, 0, 332, 24), (24, 27, 183, 10, 27), (27, 41, 202, 0, 30), (30, 0, 0, 332, 31), (31, 27, 183, 10, 34), (34, 20, 0, 0, 35), (35, 27, 135, 0, 38), (38, 0, 5, 146, 40), (40, 4, 68719476724, 0, 41), (41, 10, 0, 0, 42), (42, 8, 0, 0, 43), (43, 28, 153092231, 0, 46), (46, 0, 5, 146, 48), (48, 42, 0, 0, 49)])]
def zc_X12_off : List (Nat × List zx_E) := [(0, [(0, 0, 0, 332, 1), (1, 0, 1, 146, 2), (2, 41, 32, 0, 5), (5, 25, 16, 4, 8), (8, 0, 0, 332, 9), (9, 0, 1, 146, 10), (10, 41, 133, 0, 13), (13, 25, 18, 5, 16)]), (16, [(16, 4, 4, 0, 17), (17, 42, 0, 0, 18)]), (18, [(18, 0, 0, 332, 19), (19, 41, 200, 0, 22), (22, 0, 0, 332, 23), (23, 27, 199, 49, 26), (26, 4, 20, 0, 27), (27, 22, 0, 0, 28), (28, 33, 9, 0, 29), (29, 4, 20, 0, 30), (30, 0, 1, 146, 31), (31, 11, 0, 0, 32), (32, 9, 0, 0, 33), (33, 34, 9, 0, 34), (34, 4, 20, 0, 35), (35, 42, 0, 0, 36)])]
def zc_X11_off : List (Nat × List zx_E) := [(0, [(0, 0, 0, 332, 1), (1, 27, 183, 9, 4), (4, 0, 1, 146, 5), (5, 41, 50, 0, 8), (8, 25, 29, 4, 11), (11, 0, 0, 332, 12), (12, 27, 183, 10, 15), (15, 0, 0, 332, 16), (16, 27, 183, 9, 19), (19, 41, 82, 0, 22), (22, 0, 1, 146, 23), (23, 41, 12, 1, 26), (26, 25, 31, 5, 29)]), (29, [(29, 4, 4, 0, 30), (30, 42, 0, 0, 31)]), (31, [(31, 0, 0, 332, 32), (32, 27, 183, 2, 35), (35, 0, 0, 332, 36), (36, 27, 183, 10, 39), (39, 41, 202, 0, 42), (42, 0, 0, 332, 43), (43, 27, 183, 10, 46), (46, 20, 0, 0, 47), (47, 27, 135, 1, 50), (50, 4, 20, 0, 51), (51, 0, 1, 146, 52), (52, 11, 0, 0, 53), (53, 9, 0, 0, 54), (54, 28, 153092231, 1, 57), (57, 4, 20, 0, 58), (58, 42, 0, 0, 59)])]
def zc_X12_hinge : List (Nat × List zx_E) := [(0, [(0, 0, 0, 332, 1), (1, 0, 1, 146, 2), (2, 41, 32, 0, 5), (5, 25, 16, 4, 8), (8, 0, 0, 332, 9), (9, 0, 1, 146, 10), (10, 41, 133, 0, 13), (13, 25, 18, 5, 16)]), (16, [(16, 4, 68719476724, 0, 17), (17, 42, 0, 0, 18)]), (18, [(18, 0, 0, 332, 19), (19, 41, 200, 0, 22), (22, 0, 0, 332, 23), (23, 27, 199, 49, 26), (26, 4, 36, 0, 27), (27, 22, 0, 0, 28), (28, 33, 9, 0, 29), (29, 4, 20, 0, 30), (30, 0, 1, 146, 31), (31, 11, 0, 0, 32), (32, 10, 0, 0, 33), (33, 34, 9, 0, 34), (34, 0, 0, 332, 35), (35, 0, 1, 146, 36), (36, 0, 0, 332, 37), (37, 27, 199, 49, 40), (40, 4, 36, 0, 41), (41, 33, 9, 0, 42), (42, 41, 30, 0, 45), (45, 42, 0, 0, 46)])]
def zc_X11_hinge : List (Nat × List zx_E) := [(0, [(0, 0, 0, 332, 1), (1, 27, 183, 9, 4), (4, 0, 1, 146, 5), (5, 41, 50, 0, 8), (8, 25, 29, 4, 11), (11, 0, 0, 332, 12), (12, 27, 183, 10, 15), (15, 0, 0, 332, 16), (16, 27, 183, 9, 19), (19, 41, 82, 0, 22), (22, 0, 1, 146, 23), (23, 41, 12, 1, 26), (26, 25, 31, 5, 29)]), (29, [(29, 4, 68719476724, 0, 30), (30, 42, 0, 0, 31)]), (31, [(31, 0, 0, 332, 32), (32, 27, 183, 2, 35), (35, 0, 0, 332, 36), (36, 27, 183, 10, 39), (39, 41, 202, 0, 42), (42, 0, 0, 332, 43), (43, 27, 183, 10, 46), (46, 20, 0, 0, 47), (47, 27, 135, 2, 50), (50, 4, 20, 0, 51), (51, 0, 1, 146, 52), (52, 11, 0, 0, 53), (53, 10, 0, 0, 54), (54, 28, 153092231, 2, 57), (57, 0, 0, 332, 58), (58, 27, 183, 9, 61), (61, 0, 1, 146, 62), (62, 0, 0, 332, 63), (63, 27, 183, 10, 66), (66, 27, 135, 2, 69), (69, 41, 51, 0, 72), (72, 42, 0, 0, 73)])]
def zc_X12_shut : List (Nat × List zx_E) := [(0, [(0, 0, 0, 332, 1), (1, 0, 1, 146, 2), (2, 41, 32, 0, 5), (5, 25, 37, 4, 8), (8, 0, 0, 332, 9), (9, 27, 199, 49, 12), (12, 4, 4, 0, 13), (13, 33, 9, 0, 14), (14, 0, 1, 146, 15), (15, 41, 19, 1, 18), (18, 25, 37, 4, 21), (21, 0, 0, 332, 22), (22, 27, 199, 32, 25), (25, 0, 0, 332, 26), (26, 27, 199, 43, 29), (29, 33, 9, 0, 30), (30, 0, 1, 146, 31), (31, 41, 19, 1, 34), (34, 25, 39, 4, 37)]), (37, [(37, 4, 4, 0, 38), (38, 42, 0, 0, 39)]), (39, [(39, 0, 0, 332, 40), (40, 41, 200, 0, 43), (43, 0, 0, 332, 44), (44, 27, 199, 49, 47), (47, 4, 4, 0, 48), (48, 22, 0, 0, 49), (49, 33, 9, 0, 50), (50, 4, 20, 0, 51), (51, 0, 1, 146, 52), (52, 11, 0, 0, 53), (53, 6, 0, 0, 54), (54, 34, 9, 0, 55), (55, 4, 20, 0, 56), (56, 42, 0, 0, 57)])]
def zc_X11_shut : List (Nat × List zx_E) := [(0, [(0, 0, 0, 332, 1), (1, 27, 183, 9, 4), (4, 0, 1, 146, 5), (5, 41, 50, 0, 8), (8, 25, 35, 4, 11), (11, 0, 0, 332, 12), (12, 27, 183, 10, 15), (15, 27, 135, 0, 18), (18, 0, 0, 332, 19), (19, 27, 183, 9, 22), (22, 27, 103, 14, 25), (25, 4, 68719476724, 0, 26), (26, 10, 0, 0, 27), (27, 8, 0, 0, 28), (28, 0, 1, 146, 29), (29, 41, 12, 1, 32), (32, 25, 37, 5, 35)]), (35, [(35, 4, 4, 0, 36), (36, 42, 0, 0, 37)]), (37, [(37, 0, 0, 332, 38), (38, 27, 183, 2, 41), (41, 0, 0, 332, 42), (42, 27, 183, 10, 45), (45, 41, 202, 0, 48), (48, 0, 0, 332, 49), (49, 27, 183, 10, 52), (52, 20, 0, 0, 53), (53, 27, 135, 0, 56), (56, 4, 20, 0, 57), (57, 0, 1, 146, 58), (58, 11, 0, 0, 59), (59, 4, 68719476724, 0, 60), (60, 10, 0, 0, 61), (61, 8, 0, 0, 62), (62, 28, 153092231, 0, 65), (65, 4, 20, 0, 66), (66, 42, 0, 0, 67)])]
def zc_X12_open : List (Nat × List zx_E) := [(0, [(0, 0, 0, 332, 1), (1, 0, 1, 146, 2), (2, 41, 32, 0, 5), (5, 25, 31, 4, 8), (8, 0, 0, 332, 9), (9, 0, 1, 146, 10), (10, 41, 214, 0, 13), (13, 25, 31, 4, 16), (16, 0, 0, 332, 17), (17, 0, 1, 146, 18), (18, 41, 164, 0, 21), (21, 0, 0, 332, 22), (22, 27, 199, 49, 25), (25, 4, 212, 0, 27), (27, 33, 9, 0, 28), (28, 24, 33, 3, 31)]), (31, [(31, 4, 68719476724, 0, 32), (32, 42, 0, 0, 33)]), (33, [(33, 0, 0, 332, 34), (34, 41, 200, 0, 37), (37, 0, 0, 332, 38), (38, 27, 199, 49, 41), (41, 4, 212, 0, 43), (43, 22, 0, 0, 44), (44, 33, 9, 0, 45), (45, 0, 0, 332, 46), (46, 0, 1, 146, 47), (47, 41, 164, 0, 50), (50, 6, 0, 0, 51), (51, 34, 9, 0, 52), (52, 0, 0, 332, 53), (53, 27, 199, 49, 56), (56, 4, 4, 0, 57), (57, 22, 0, 0, 58), (58, 33, 9, 0, 59), (59, 4, 20, 0, 60), (60, 0, 1, 146, 61), (61, 11, 0, 0, 62), (62, 9, 0, 0, 63), (63, 34, 9, 0, 64), (64, 0, 0, 332, 65), (65, 27, 199, 49, 68), (68, 4, 52, 0, 69), (69, 0, 1, 146, 70), (70, 5, 0, 0, 71), (71, 22, 0, 0, 72), (72, 33, 9, 0, 73), (73, 4, 20, 0, 74), (74, 5, 0, 0, 75), (75, 34, 9, 0, 76), (76, 0, 0, 332, 77), (77, 27, 199, 49, 80), (80, 4, 212, 0, 82), (82, 33, 9, 0, 83), (83, 42, 0, 0, 84)])]
def zc_X12_can : List (Nat × List zx_E) := [(0, [(0, 0, 0, 332, 1), (1, 0, 1, 146, 2), (2, 41, 32, 0, 5), (5, 25, 10, 5, 8), (8, 4, 68719476724, 0, 9), (9, 42, 0, 0, 10)]), (10, [(10, 0, 0, 332, 11), (11, 0, 0, 332, 12), (12, 27, 199, 49, 15), (15, 4, 36, 0, 16), (16, 33, 9, 0, 17), (17, 41, 23, 0, 20), (20, 0, 0, 332, 21), (21, 0, 1, 146, 22), (22, 0, 0, 332, 23), (23, 27, 199, 49, 26), (26, 4, 4, 0, 27), (27, 33, 9, 0, 28), (28, 0, 0, 332, 29), (29, 41, 20, 0, 32), (32, 41, 18, 0, 35), (35, 25, 42, 4, 38), (38, 4, 20, 0, 39), (39, 23, 43, 0, 42)]), (42, [(42, 4, 4, 0, 43)]), (43, [(43, 42, 0, 0, 44)])]
def zc_X11_open : List (Nat × List zx_E) := [(0, [(0, 0, 0, 332, 1), (1, 27, 183, 9, 4), (4, 0, 1, 146, 5), (5, 41, 50, 0, 8), (8, 25, 29, 4, 11), (11, 0, 0, 332, 12), (12, 27, 183, 10, 15), (15, 0, 0, 332, 16), (16, 27, 183, 9, 19), (19, 41, 116, 0, 22), (22, 0, 1, 146, 23), (23, 41, 12, 1, 26), (26, 25, 31, 5, 29)]), (29, [(29, 4, 68719476724, 0, 30), (30, 42, 0, 0, 31)]), (31, [(31, 0, 0, 332, 32), (32, 27, 183, 10, 35), (35, 0, 0, 332, 36), (36, 27, 183, 9, 39), (39, 0, 1, 146, 40), (40, 41, 172, 0, 43), (43, 1, 2, 146, 44), (44, 0, 2, 146, 45), (45, 0, 0, 332, 46), (46, 27, 183, 10, 49), (49, 27, 135, 3, 52), (52, 24, 57, 3, 55), (55, 4, 68719476724, 0, 56), (56, 42, 0, 0, 57)]), (57, [(57, 0, 0, 332, 58), (58, 27, 183, 2, 61), (61, 0, 0, 332, 62), (62, 27, 183, 10, 65), (65, 41, 202, 0, 68), (68, 0, 0, 332, 69), (69, 27, 183, 10, 72), (72, 20, 0, 0, 73), (73, 27, 135, 3, 76), (76, 0, 2, 146, 77), (77, 6, 0, 0, 78), (78, 28, 153092231, 3, 81), (81, 0, 0, 332, 82), (82, 27, 183, 10, 85), (85, 0, 1, 146, 86), (86, 41, 115, 0, 89), (89, 0, 0, 332, 90), (90, 27, 183, 10, 93), (93, 27, 135, 3, 96), (96, 42, 0, 0, 97)])]
def zc_X12_sum : List (Nat × List zx_E) := [(0, [(0, 0, 1, 146, 1), (1, 4, 4, 0, 2), (2, 4, 36, 0, 3), (3, 41, 7, 1, 6), (6, 25, 11, 5, 9), (9, 4, 68719476724, 0, 10), (10, 42, 0, 0, 11)]), (11, [(11, 4, 4, 0, 12), (12, 1, 2, 146, 13), (13, 4, 4, 0, 14), (14, 1, 3, 146, 15), (15, 4, 4, 0, 16), (16, 1, 4, 146, 18), (18, 4, 4, 0, 19), (19, 1, 5, 146, 21)]), (21, [(21, 0, 5, 146, 23), (23, 0, 0, 332, 24), (24, 41, 1, 0, 27), (27, 24, 74, 1, 30), (30, 0, 2, 146, 31), (31, 0, 0, 332, 32), (32, 27, 199, 49, 35), (35, 4, 52, 0, 36), (36, 0, 5, 146, 38), (38, 5, 0, 0, 39), (39, 33, 9, 0, 40), (40, 5, 0, 0, 41), (41, 1, 2, 146, 42), (42, 0, 0, 332, 43), (43, 0, 5, 146, 45), (45, 41, 214, 0, 48), (48, 25, 54, 5, 51), (51, 23, 68, 0, 54)]), (54, [(54, 3, 3, 20, 57), (57, 0, 4, 146, 59), (59, 0, 0, 332, 60), (60, 0, 5, 146, 62), (62, 41, 164, 0, 65), (65, 5, 0, 0, 66), (66, 1, 4, 146, 68)]), (68, [(68, 3, 5, 20, 71), (71, 23, 21, 0, 74)]), (74, [(74, 0, 1, 146, 75), (75, 25, 82, 5, 78), (78, 0, 2, 146, 79), (79, 23, 93, 0, 82)]), (82, [(82, 0, 1, 146, 83), (83, 4, 20, 0, 84), (84, 24, 91, 5, 87), (87, 0, 3, 146, 88), (88, 23, 93, 0, 91)]), (91, [(91, 0, 4, 146, 93)]), (93, [(93, 42, 0, 0, 94)])]
def zc_X11_sum : List (Nat × List zx_E) := [(0, [(0, 0, 1, 146, 1), (1, 25, 9, 0, 4), (4, 0, 1, 146, 5), (5, 4, 36, 0, 6), (6, 24, 11, 3, 9)]), (9, [(9, 4, 68719476724, 0, 10), (10, 42, 0, 0, 11)]), (11, [(11, 0, 0, 332, 12), (12, 27, 183, 10, 15), (15, 0, 0, 332, 16), (16, 27, 183, 9, 19), (19, 41, 116, 0, 22), (22, 1, 2, 146, 23), (23, 0, 1, 146, 24), (24, 4, 20, 0, 25), (25, 24, 33, 5, 28), (28, 0, 2, 146, 29), (29, 41, 9, 1, 32), (32, 42, 0, 0, 33)]), (33, [(33, 4, 4, 0, 34), (34, 1, 3, 146, 35), (35, 4, 4, 0, 36), (36, 1, 4, 146, 38)]), (38, [(38, 0, 4, 146, 40), (40, 0, 0, 332, 41), (41, 27, 183, 9, 44), (44, 27, 103, 9, 47), (47, 24, 102, 1, 50), (50, 0, 1, 146, 51), (51, 25, 70, 5, 54), (54, 0, 3, 146, 55), (55, 0, 0, 332, 56), (56, 27, 183, 10, 59), (59, 27, 135, 6, 62), (62, 0, 4, 146, 64), (64, 33, 9, 0, 65), (65, 5, 0, 0, 66), (66, 1, 3, 146, 67), (67, 23, 96, 0, 70)]), (70, [(70, 0, 2, 146, 71), (71, 0, 4, 146, 73), (73, 41, 12, 1, 76), (76, 4, 20, 0, 77), (77, 24, 96, 5, 80), (80, 0, 3, 146, 81), (81, 0, 0, 332, 82), (82, 27, 183, 10, 85), (85, 0, 0, 332, 86), (86, 27, 183, 9, 89), (89, 0, 4, 146, 91), (91, 41, 172, 0, 94), (94, 5, 0, 0, 95), (95, 1, 3, 146, 96)]), (96, [(96, 3, 4, 20, 99), (99, 23, 38, 0, 102)]), (102, [(102, 0, 3, 146, 103), (103, 42, 0, 0, 104)])]
def zc_X12_oil : List (Nat × List zx_E) := [(0, [(0, 0, 0, 332, 1), (1, 0, 1, 146, 2), (2, 41, 32, 0, 5), (5, 25, 16, 4, 8), (8, 0, 0, 332, 9), (9, 0, 1, 146, 10), (10, 41, 164, 0, 13), (13, 23, 17, 0, 16)]), (16, [(16, 4, 68719476724, 0, 17)]), (17, [(17, 42, 0, 0, 18)])]
def zc_X11_oil : List (Nat × List zx_E) := [(0, [(0, 0, 0, 332, 1), (1, 27, 183, 9, 4), (4, 0, 1, 146, 5), (5, 41, 50, 0, 8), (8, 25, 26, 4, 11), (11, 0, 0, 332, 12), (12, 27, 183, 10, 15), (15, 0, 0, 332, 16), (16, 27, 183, 9, 19), (19, 0, 1, 146, 20), (20, 41, 172, 0, 23), (23, 23, 27, 0, 26)]), (26, [(26, 4, 68719476724, 0, 27)]), (27, [(27, 42, 0, 0, 28)])]
def zc_X12_pairs : List (Nat × List zx_E) := [(0, [(0, 0, 1, 146, 1), (1, 4, 4, 0, 2), (2, 4, 20, 0, 3), (3, 41, 7, 1, 6), (6, 25, 11, 5, 9), (9, 4, 68719476724, 0, 10), (10, 42, 0, 0, 11)]), (11, [(11, 4, 4, 0, 12), (12, 1, 2, 146, 13), (13, 4, 4, 0, 14), (14, 1, 3, 146, 15)]), (15, [(15, 0, 3, 146, 16), (16, 0, 0, 332, 17), (17, 41, 1, 0, 20), (20, 24, 106, 1, 23), (23, 4, 4, 0, 24), (24, 1, 4, 146, 26)]), (26, [(26, 0, 4, 146, 28), (28, 0, 3, 146, 29), (29, 24, 100, 1, 32), (32, 0, 0, 332, 33), (33, 0, 3, 146, 34), (34, 0, 4, 146, 36), (36, 0, 0, 332, 37), (37, 27, 199, 49, 40), (40, 4, 36, 0, 41), (41, 33, 9, 0, 42), (42, 41, 24, 0, 45), (45, 1, 5, 146, 47), (47, 0, 0, 332, 48), (48, 0, 4, 146, 50), (50, 0, 3, 146, 51), (51, 0, 0, 332, 52), (52, 27, 199, 49, 55), (55, 4, 36, 0, 56), (56, 33, 9, 0, 57), (57, 41, 24, 0, 60), (60, 1, 6, 146, 62), (62, 0, 2, 146, 63), (63, 0, 1, 146, 64), (64, 25, 77, 5, 67), (67, 0, 5, 146, 69), (69, 25, 87, 5, 72), (72, 0, 6, 146, 74), (74, 25, 87, 5, 77)]), (77, [(77, 0, 5, 146, 79), (79, 25, 91, 4, 82), (82, 0, 6, 146, 84), (84, 25, 91, 4, 87)]), (87, [(87, 4, 20, 0, 88), (88, 23, 92, 0, 91)]), (91, [(91, 4, 4, 0, 92)]), (92, [(92, 5, 0, 0, 93), (93, 1, 2, 146, 94), (94, 3, 4, 20, 97), (97, 23, 26, 0, 100)]), (100, [(100, 3, 3, 20, 103), (103, 23, 15, 0, 106)]), (106, [(106, 0, 2, 146, 107), (107, 42, 0, 0, 108)])]
def zc_X11_pairs : List (Nat × List zx_E) := [(0, [(0, 0, 1, 146, 1), (1, 41, 120, 1, 4), (4, 25, 9, 5, 7), (7, 4, 68719476724, 0, 8), (8, 42, 0, 0, 9)]), (9, [(9, 4, 4, 0, 10), (10, 1, 2, 146, 11), (11, 4, 4, 0, 12), (12, 1, 3, 146, 13)]), (13, [(13, 0, 3, 146, 14), (14, 0, 0, 332, 15), (15, 27, 183, 9, 18), (18, 27, 103, 9, 21), (21, 24, 121, 1, 24), (24, 0, 3, 146, 25), (25, 4, 20, 0, 26), (26, 5, 0, 0, 27), (27, 1, 4, 146, 29)]), (29, [(29, 0, 4, 146, 31), (31, 0, 0, 332, 32), (32, 27, 183, 9, 35), (35, 27, 103, 9, 38), (38, 24, 115, 1, 41), (41, 0, 0, 332, 42), (42, 27, 183, 9, 45), (45, 0, 3, 146, 46), (46, 0, 4, 146, 48), (48, 0, 0, 332, 49), (49, 27, 183, 10, 52), (52, 27, 135, 2, 55), (55, 41, 48, 0, 58), (58, 1, 5, 146, 60), (60, 0, 0, 332, 61), (61, 27, 183, 9, 64), (64, 0, 4, 146, 66), (66, 0, 3, 146, 67), (67, 0, 0, 332, 68), (68, 27, 183, 10, 71), (71, 27, 135, 2, 74), (74, 41, 48, 0, 77), (77, 1, 6, 146, 79), (79, 0, 1, 146, 80), (80, 25, 96, 5, 83), (83, 0, 5, 146, 85), (85, 25, 106, 5, 88), (88, 0, 6, 146, 90), (90, 25, 109, 4, 93), (93, 23, 106, 0, 96)]), (96, [(96, 0, 5, 146, 98), (98, 25, 109, 4, 101), (101, 0, 6, 146, 103), (103, 25, 109, 4, 106)]), (106, [(106, 3, 2, 20, 109)]), (109, [(109, 3, 4, 20, 112), (112, 23, 29, 0, 115)]), (115, [(115, 3, 3, 20, 118), (118, 23, 13, 0, 121)]), (121, [(121, 0, 2, 146, 122), (122, 42, 0, 0, 123)])]
def zc_X12_free : List (Nat × List zx_E) := [(0, [(0, 0, 0, 332, 1), (1, 0, 1, 146, 2), (2, 0, 2, 146, 3), (3, 41, 89, 0, 6), (6, 25, 24, 4, 9), (9, 0, 0, 332, 10), (10, 0, 1, 146, 11), (11, 0, 2, 146, 12), (12, 0, 0, 332, 13), (13, 27, 199, 49, 16), (16, 4, 4, 0, 17), (17, 33, 9, 0, 18), (18, 41, 88, 0, 21), (21, 23, 25, 0, 24)]), (24, [(24, 4, 68719476724, 0, 25)]), (25, [(25, 42, 0, 0, 26)])]
def zc_X11_free : List (Nat × List zx_E) := [(0, [(0, 0, 0, 332, 1), (1, 27, 183, 9, 4), (4, 0, 1, 146, 5), (5, 0, 2, 146, 6), (6, 41, 100, 0, 9), (9, 1, 3, 146, 10), (10, 0, 3, 146, 11), (11, 4, 68719476724, 0, 12), (12, 24, 17, 5, 15), (15, 4, 68719476724, 0, 16), (16, 42, 0, 0, 17)]), (17, [(17, 0, 0, 332, 18), (18, 27, 183, 7, 21), (21, 0, 0, 332, 22), (22, 27, 183, 9, 25), (25, 0, 0, 332, 26), (26, 27, 183, 10, 29), (29, 27, 135, 0, 32), (32, 0, 0, 332, 33), (33, 27, 183, 10, 36), (36, 27, 135, 2, 39), (39, 41, 99, 0, 42), (42, 0, 0, 332, 43), (43, 27, 183, 7, 46), (46, 0, 3, 146, 47), (47, 41, 98, 0, 50), (50, 42, 0, 0, 51)])]
def zc_X12_hinders : List (Nat × List zx_E) := [(0, [(0, 0, 0, 332, 1), (1, 0, 1, 146, 2), (2, 41, 32, 0, 5), (5, 25, 16, 4, 8), (8, 0, 0, 332, 9), (9, 0, 2, 146, 10), (10, 41, 32, 0, 13), (13, 25, 20, 5, 16)]), (16, [(16, 4, 68719476724, 0, 17), (17, 23, 40, 0, 20)]), (20, [(20, 0, 0, 332, 21), (21, 0, 1, 146, 22), (22, 0, 2, 146, 23), (23, 0, 0, 332, 24), (24, 27, 199, 49, 27), (27, 4, 36, 0, 28), (28, 33, 9, 0, 29), (29, 41, 24, 0, 32), (32, 25, 39, 4, 35), (35, 4, 20, 0, 36), (36, 23, 40, 0, 39)]), (39, [(39, 4, 4, 0, 40)]), (40, [(40, 42, 0, 0, 41)])]
def zc_X11_hinders : List (Nat × List zx_E) := [(0, [(0, 0, 0, 332, 1), (1, 27, 183, 9, 4), (4, 0, 1, 146, 5), (5, 41, 50, 0, 8), (8, 25, 22, 4, 11), (11, 0, 0, 332, 12), (12, 27, 183, 9, 15), (15, 0, 2, 146, 16), (16, 41, 50, 0, 19), (19, 25, 24, 5, 22)]), (22, [(22, 4, 68719476724, 0, 23), (23, 42, 0, 0, 24)]), (24, [(24, 0, 0, 332, 25), (25, 27, 183, 9, 28), (28, 0, 1, 146, 29), (29, 0, 2, 146, 30), (30, 0, 0, 332, 31), (31, 27, 183, 10, 34), (34, 27, 135, 2, 37), (37, 41, 48, 0, 40), (40, 25, 47, 4, 43), (43, 4, 20, 0, 44), (44, 23, 48, 0, 47)]), (47, [(47, 4, 4, 0, 48)]), (48, [(48, 42, 0, 0, 49)])]
def zc_X11_can : List (Nat × List zx_E) := [(0, [(0, 0, 0, 332, 1), (1, 27, 183, 9, 4), (4, 0, 1, 146, 5), (5, 41, 50, 0, 8), (8, 25, 29, 4, 11), (11, 0, 0, 332, 12), (12, 27, 183, 10, 15), (15, 0, 0, 332, 16), (16, 27, 183, 9, 19), (19, 41, 116, 0, 22), (22, 0, 1, 146, 23), (23, 41, 12, 1, 26), (26, 23, 30, 0, 29)]), (29, [(29, 4, 68719476724, 0, 30)]), (30, [(30, 42, 0, 0, 31)])]
def zc_X12_door : List (Nat × List zx_E) := [(0, [(0, 0, 0, 332, 1), (1, 0, 1, 146, 2), (2, 41, 32, 0, 5), (5, 25, 11, 5, 8), (8, 4, 68719476708, 0, 10), (10, 42, 0, 0, 11)]), (11, [(11, 0, 2, 146, 12), (12, 26, 7, 0, 68)]), (68, [(68, 0, 0, 332, 69), (69, 0, 1, 146, 70), (70, 41, 26, 0, 73), (73, 42, 0, 0, 74)]), (74, [(74, 0, 0, 332, 75), (75, 0, 1, 146, 76), (76, 41, 29, 0, 79), (79, 42, 0, 0, 80)]), (80, [(80, 0, 0, 332, 81), (81, 0, 1, 146, 82), (82, 41, 28, 0, 85), (85, 42, 0, 0, 86)]), (86, [(86, 0, 0, 332, 87), (87, 0, 1, 146, 88), (88, 0, 0, 332, 89), (89, 27, 199, 49, 92), (92, 4, 36, 0, 93), (93, 33, 9, 0, 94), (94, 41, 30, 0, 97), (97, 42, 0, 0, 98)]), (98, [(98, 0, 0, 332, 99), (99, 27, 199, 30, 102), (102, 0, 0, 332, 103), (103, 27, 199, 43, 106), (106, 33, 9, 0, 107), (107, 0, 1, 146, 108), (108, 41, 199, 1, 111), (111, 42, 0, 0, 112)]), (112, [(112, 0, 0, 332, 113), (113, 27, 199, 49, 116), (116, 4, 4, 0, 117), (117, 33, 9, 0, 118), (118, 0, 1, 146, 119), (119, 41, 199, 1, 122), (122, 42, 0, 0, 123)]), (123, [(123, 0, 0, 332, 124), (124, 27, 199, 49, 127), (127, 4, 20, 0, 128), (128, 33, 9, 0, 129), (129, 0, 1, 146, 130), (130, 41, 199, 1, 133), (133, 42, 0, 0, 134)]), (134, [(134, 0, 0, 332, 135), (135, 27, 199, 31, 138), (138, 0, 0, 332, 139), (139, 27, 199, 43, 142), (142, 33, 9, 0, 143), (143, 0, 1, 146, 144), (144, 41, 199, 1, 147), (147, 42, 0, 0, 148)]), (148, [(148, 0, 0, 332, 149), (149, 27, 199, 32, 152), (152, 0, 0, 332, 153), (153, 27, 199, 43, 156), (156, 33, 9, 0, 157), (157, 0, 1, 146, 158), (158, 41, 199, 1, 161), (161, 42, 0, 0, 162)]), (162, [(162, 0, 0, 332, 163), (163, 27, 199, 49, 166), (166, 4, 52, 0, 167), (167, 0, 1, 146, 168), (168, 5, 0, 0, 169), (169, 33, 9, 0, 170), (170, 42, 0, 0, 171)]), (171, [(171, 4, 68719476708, 0, 173), (173, 42, 0, 0, 174)])]
def zc_X11_door : List (Nat × List zx_E) := [(0, [(0, 0, 0, 332, 1), (1, 27, 183, 9, 4), (4, 0, 1, 146, 5), (5, 41, 50, 0, 8), (8, 25, 14, 5, 11), (11, 4, 68719476708, 0, 13), (13, 42, 0, 0, 14)]), (14, [(14, 0, 2, 146, 15), (15, 26, 8, 0, 68)]), (68, [(68, 0, 0, 332, 69), (69, 27, 183, 9, 72), (72, 27, 103, 2, 75), (75, 0, 1, 146, 76), (76, 33, 9, 0, 77), (77, 42, 0, 0, 78)]), (78, [(78, 0, 0, 332, 79), (79, 27, 183, 9, 82), (82, 27, 103, 3, 85), (85, 0, 1, 146, 86), (86, 33, 9, 0, 87), (87, 42, 0, 0, 88)]), (88, [(88, 0, 0, 332, 89), (89, 27, 183, 9, 92), (92, 27, 103, 4, 95), (95, 0, 1, 146, 96), (96, 33, 9, 0, 97), (97, 42, 0, 0, 98)]), (98, [(98, 0, 0, 332, 99), (99, 27, 183, 9, 102), (102, 0, 1, 146, 103), (103, 0, 0, 332, 104), (104, 27, 183, 10, 107), (107, 27, 135, 2, 110), (110, 41, 51, 0, 113), (113, 42, 0, 0, 114)]), (114, [(114, 0, 0, 332, 115), (115, 27, 183, 9, 118), (118, 27, 103, 11, 121), (121, 0, 1, 146, 122), (122, 41, 12, 1, 125), (125, 42, 0, 0, 126)]), (126, [(126, 0, 0, 332, 127), (127, 27, 183, 10, 130), (130, 27, 135, 0, 133), (133, 0, 1, 146, 134), (134, 41, 12, 1, 137), (137, 42, 0, 0, 138)]), (138, [(138, 0, 0, 332, 139), (139, 27, 183, 10, 142), (142, 27, 135, 1, 145), (145, 0, 1, 146, 146), (146, 41, 12, 1, 149), (149, 42, 0, 0, 150)]), (150, [(150, 0, 0, 332, 151), (151, 27, 183, 9, 154), (154, 27, 103, 13, 157), (157, 0, 1, 146, 158), (158, 41, 12, 1, 161), (161, 42, 0, 0, 162)]), (162, [(162, 0, 0, 332, 163), (163, 27, 183, 9, 166), (166, 27, 103, 14, 169), (169, 0, 1, 146, 170), (170, 41, 12, 1, 173), (173, 42, 0, 0, 174)]), (174, [(174, 0, 0, 332, 175), (175, 27, 183, 10, 178), (178, 27, 135, 6, 181), (181, 0, 1, 146, 182), (182, 33, 9, 0, 183), (183, 42, 0, 0, 184)]), (184, [(184, 4, 68719476708, 0, 186), (186, 42, 0, 0, 187)])]
def zc_X12_fault : List (Nat × List zx_E) := [(0, [(0, 0, 1, 146, 1), (1, 25, 11, 5, 4), (4, 0, 0, 332, 5), (5, 27, 199, 4, 8), (8, 23, 24, 0, 11)]), (11, [(11, 0, 1, 146, 12), (12, 4, 20, 0, 13), (13, 24, 23, 5, 16), (16, 0, 0, 332, 17), (17, 27, 199, 5, 20), (20, 23, 24, 0, 23)]), (23, [(23, 4, 68719476724, 0, 24)]), (24, [(24, 42, 0, 0, 25)])]
def zc_X11_fault : List (Nat × List zx_E) := [(0, [(0, 0, 1, 146, 1), (1, 26, 9, 0, 28)]), (28, [(28, 0, 0, 332, 29), (29, 27, 183, 1, 32), (32, 27, 119, 5, 35), (35, 42, 0, 0, 36)]), (36, [(36, 0, 0, 332, 37), (37, 27, 183, 1, 40), (40, 27, 119, 6, 43), (43, 42, 0, 0, 44)]), (44, [(44, 4, 68719476724, 0, 45), (45, 42, 0, 0, 46)])]
def zc_X12_town : List (Nat × List zx_E) := [(0, [(0, 0, 0, 332, 1), (1, 4, 4, 0, 2), (2, 28, 153092295, 4, 5), (5, 0, 0, 332, 6), (6, 4, 68719476724, 0, 7), (7, 28, 153092295, 5, 10), (10, 0, 0, 332, 11), (11, 0, 0, 332, 12), (12, 27, 199, 2, 15), (15, 28, 153092295, 3, 18), (18, 4, 4, 0, 19), (19, 1, 1, 146, 20)]), (20, [(20, 0, 1, 146, 21), (21, 0, 0, 332, 22), (22, 27, 199, 3, 25), (25, 24, 46, 1, 28), (28, 0, 0, 332, 29), (29, 27, 199, 1, 32), (32, 0, 1, 146, 33), (33, 0, 0, 332, 34), (34, 27, 199, 0, 37), (37, 0, 1, 146, 38), (38, 33, 54, 0, 39), (39, 34, 54, 0, 40), (40, 3, 1, 20, 43), (43, 23, 20, 0, 46)]), (46, [(46, 0, 0, 332, 47), (47, 4, 4, 0, 48), (48, 28, 153092295, 2, 51), (51, 0, 0, 332, 52), (52, 4, 4, 0, 53), (53, 28, 153092295, 7, 56), (56, 0, 0, 332, 57), (57, 4, 20, 0, 58), (58, 0, 0, 332, 59), (59, 27, 199, 43, 62), (62, 6, 0, 0, 63), (63, 28, 153092295, 44, 66), (66, 0, 0, 332, 67), (67, 41, 267, 0, 70), (70, 0, 0, 332, 71), (71, 41, 238, 0, 74)]), (74, [(74, 0, 0, 332, 75), (75, 41, 233, 0, 78), (78, 25, 95, 4, 81), (81, 0, 0, 332, 82), (82, 27, 199, 8, 85), (85, 25, 95, 4, 88), (88, 0, 0, 332, 89), (89, 41, 234, 0, 92), (92, 23, 74, 0, 95)]), (95, [(95, 0, 0, 332, 96), (96, 41, 233, 0, 99), (99, 25, 104, 5, 102), (102, 4, 68719476724, 0, 103), (103, 42, 0, 0, 104)]), (104, [(104, 0, 0, 332, 105), (105, 0, 0, 332, 106), (106, 27, 199, 44, 109), (109, 28, 153092295, 43, 112), (112, 0, 0, 332, 113), (113, 41, 232, 0, 116), (116, 0, 0, 332, 117), (117, 27, 199, 12, 120), (120, 0, 0, 332, 121), (121, 27, 199, 43, 124), (124, 33, 9, 0, 125), (125, 42, 0, 0, 126)])]
def zc_X12_startAnew : List (Nat × List zx_E) := [(0, [(0, 4, 4, 0, 1), (1, 1, 1, 146, 2)]), (2, [(2, 0, 1, 146, 3), (3, 4, 260, 0, 5), (5, 24, 21, 1, 8), (8, 0, 0, 332, 9), (9, 27, 199, 49, 12), (12, 0, 1, 146, 13), (13, 4, 4, 0, 14), (14, 34, 9, 0, 15), (15, 3, 1, 20, 18), (18, 23, 2, 0, 21)]), (21, [(21, 0, 0, 332, 22), (22, 27, 199, 49, 25), (25, 4, 4, 0, 26), (26, 0, 0, 332, 27), (27, 27, 199, 28, 30), (30, 0, 0, 332, 31), (31, 27, 199, 43, 34), (34, 33, 9, 0, 35), (35, 34, 9, 0, 36), (36, 0, 0, 332, 37), (37, 27, 199, 49, 40), (40, 4, 36, 0, 41), (41, 0, 0, 332, 42), (42, 27, 199, 29, 45), (45, 0, 0, 332, 46), (46, 27, 199, 43, 49), (49, 33, 9, 0, 50), (50, 34, 9, 0, 51), (51, 0, 0, 332, 52), (52, 27, 199, 49, 55), (55, 4, 212, 0, 57), (57, 0, 0, 332, 58), (58, 27, 199, 15, 61), (61, 0, 0, 332, 62), (62, 27, 199, 43, 65), (65, 33, 9, 0, 66), (66, 34, 9, 0, 67), (67, 0, 0, 332, 68), (68, 27, 199, 49, 71), (71, 4, 244, 0, 73), (73, 0, 0, 332, 74), (74, 27, 199, 16, 77), (77, 0, 0, 332, 78), (78, 27, 199, 43, 81), (81, 33, 9, 0, 82), (82, 34, 9, 0, 83), (83, 0, 0, 332, 84), (84, 4, 4, 0, 85), (85, 28, 153092295, 52, 88), (88, 0, 0, 332, 89), (89, 4, 4, 0, 90), (90, 28, 153092295, 53, 93), (93, 0, 0, 332, 94), (94, 4, 4, 0, 95), (95, 28, 153092295, 68, 98), (98, 0, 0, 332, 99), (99, 4, 4, 0, 100), (100, 28, 153092295, 57, 103), (103, 4, 4, 0, 104), (104, 1, 1, 146, 105)]), (105, [(105, 0, 1, 146, 106), (106, 4, 52, 0, 107), (107, 24, 123, 1, 110), (110, 0, 0, 332, 111), (111, 27, 199, 71, 114), (114, 0, 1, 146, 115), (115, 4, 4, 0, 116), (116, 34, 54, 0, 117), (117, 3, 1, 20, 120), (120, 23, 105, 0, 123)]), (123, [(123, 43, 0, 0, 124)])]
def zc_X12_isGood : List (Nat × List zx_E) := [(0, [(0, 0, 0, 332, 1), (1, 27, 199, 4, 4), (4, 25, 11, 5, 7), (7, 4, 20, 0, 8), (8, 23, 12, 0, 11)]), (11, [(11, 4, 4, 0, 12)]), (12, [(12, 42, 0, 0, 13)])]
def zc_X12_readLine : List (Nat × List zx_E) := [(0, [(0, 0, 0, 332, 1), (1, 27, 199, 10, 4), (4, 2, 1, 0, 5), (5, 0, 0, 332, 6), (6, 27, 199, 8, 9), (9, 4, 52, 0, 10), (10, 24, 20, 5, 13), (13, 0, 0, 332, 14), (14, 41, 266, 0, 17), (17, 25, 24, 4, 20)]), (20, [(20, 0, 0, 332, 21), (21, 41, 236, 0, 24)]), (24, [(24, 0, 0, 332, 25), (25, 41, 233, 0, 28), (28, 25, 32, 5, 31), (31, 43, 0, 0, 32)]), (32, [(32, 0, 0, 332, 33), (33, 41, 238, 0, 36), (36, 0, 1, 32, 37), (37, 4, 5, 0, 40), (40, 44, 0, 0, 41), (41, 25, 48, 5, 44), (44, 0, 0, 332, 45), (45, 41, 265, 0, 48)]), (48, [(48, 0, 1, 32, 49), (49, 4, 5, 3, 52), (52, 44, 0, 0, 53), (53, 25, 60, 5, 56), (56, 0, 0, 332, 57), (57, 41, 259, 0, 60)]), (60, [(60, 0, 1, 32, 61), (61, 4, 5, 14, 64), (64, 44, 0, 0, 65), (65, 25, 72, 5, 68), (68, 0, 0, 332, 69), (69, 41, 255, 0, 72)]), (72, [(72, 0, 1, 32, 73), (73, 4, 5, 16, 76), (76, 44, 0, 0, 77), (77, 25, 84, 5, 80), (80, 0, 0, 332, 81), (81, 41, 245, 0, 84)]), (84, [(84, 0, 1, 32, 85), (85, 4, 5, 17, 88), (88, 44, 0, 0, 89), (89, 25, 119, 5, 92), (92, 0, 0, 332, 93), (93, 27, 199, 33, 96), (96, 0, 0, 332, 97), (97, 27, 199, 44, 100), (100, 4, 20, 0, 101), (101, 34, 54, 0, 102), (102, 0, 0, 332, 103), (103, 27, 199, 15, 106), (106, 0, 0, 332, 107), (107, 27, 199, 44, 110), (110, 0, 0, 332, 111), (111, 4, 4, 0, 112), (112, 4, 15988, 0, 115), (115, 41, 244, 0, 118), (118, 34, 9, 0, 119)]), (119, [(119, 0, 1, 32, 120), (120, 4, 5, 18, 123), (123, 44, 0, 0, 124), (124, 25, 154, 5, 127), (127, 0, 0, 332, 128), (128, 27, 199, 34, 131), (131, 0, 0, 332, 132), (132, 27, 199, 44, 135), (135, 4, 20, 0, 136), (136, 34, 54, 0, 137), (137, 0, 0, 332, 138), (138, 27, 199, 16, 141), (141, 0, 0, 332, 142), (142, 27, 199, 44, 145), (145, 0, 0, 332, 146), (146, 4, 4, 0, 147), (147, 4, 15988, 0, 150), (150, 41, 244, 0, 153), (153, 34, 9, 0, 154)]), (154, [(154, 0, 0, 332, 155), (155, 0, 0, 332, 156), (156, 4, 948, 0, 158), (158, 41, 243, 0, 161), (161, 41, 235, 0, 164), (164, 43, 0, 0, 165)])]
def zc_X12_must : List (Nat × List zx_E) := [(0, [(0, 0, 0, 332, 1), (1, 41, 233, 0, 4), (4, 25, 8, 5, 7), (7, 43, 0, 0, 8)]), (8, [(8, 0, 1, 146, 9), (9, 25, 19, 4, 12), (12, 0, 0, 332, 13), (13, 41, 238, 0, 16), (16, 23, 23, 0, 19)]), (19, [(19, 0, 0, 332, 20), (20, 41, 236, 0, 23)]), (23, [(23, 43, 0, 0, 24)])]
def zc_X12_misplaced : List (Nat × List zx_E) := [(0, [(0, 0, 0, 332, 1), (1, 0, 0, 332, 2), (2, 27, 199, 8, 5), (5, 4, 20, 0, 6), (6, 24, 13, 5, 9), (9, 4, 20, 0, 10), (10, 23, 14, 0, 13)]), (13, [(13, 4, 36, 0, 14)]), (14, [(14, 0, 0, 332, 15), (15, 27, 199, 6, 18), (18, 41, 237, 0, 21), (21, 43, 0, 0, 22)])]
def zc_X12_fails : List (Nat × List zx_E) := [(0, [(0, 0, 0, 332, 1), (1, 27, 199, 4, 4), (4, 25, 8, 3, 7), (7, 43, 0, 0, 8)]), (8, [(8, 0, 0, 332, 9), (9, 0, 1, 146, 10), (10, 28, 153092295, 4, 13), (13, 0, 0, 332, 14), (14, 0, 2, 146, 15), (15, 28, 153092295, 5, 18), (18, 43, 0, 0, 19)])]
def zc_X12_goOn_0 : List (Nat × List zx_E) := [(0, [(0, 0, 0, 332, 1), (1, 0, 0, 332, 2), (2, 27, 199, 7, 5), (5, 28, 153092295, 6, 8)]), (8, [(8, 0, 0, 332, 9), (9, 27, 199, 6, 12), (12, 0, 0, 332, 13), (13, 27, 199, 3, 16), (16, 24, 58, 1, 19), (19, 0, 0, 332, 20), (20, 0, 0, 332, 21), (21, 27, 199, 6, 24), (24, 41, 240, 0, 27), (27, 4, 516, 0, 29), (29, 24, 45, 4, 32), (32, 0, 0, 332, 33), (33, 0, 0, 332, 34), (34, 27, 199, 6, 37), (37, 41, 240, 0, 40), (40, 4, 164, 0, 42), (42, 24, 58, 5, 45)]), (45, [(45, 0, 0, 332, 46), (46, 20, 0, 0, 47), (47, 27, 199, 6, 50), (50, 4, 20, 0, 51), (51, 5, 0, 0, 52), (52, 28, 153092295, 6, 55), (55, 23, 8, 0, 58)]), (58, [(58, 0, 0, 332, 59), (59, 0, 0, 332, 60), (60, 27, 199, 6, 63), (63, 41, 240, 0, 66), (66, 1, 1, 146, 67), (67, 0, 0, 332, 68), (68, 0, 0, 332, 69), (69, 27, 199, 6, 72), (72, 4, 20, 0, 73), (73, 5, 0, 0, 74), (74, 28, 153092295, 7, 77), (77, 0, 0, 332, 78), (78, 27, 199, 6, 81), (81, 0, 0, 332, 82), (82, 27, 199, 3, 85), (85, 24, 112, 0, 88), (88, 0, 0, 332, 89), (89, 4, 4, 0, 90), (90, 28, 153092295, 8, 93), (93, 0, 0, 332, 94), (94, 0, 0, 332, 95), (95, 27, 199, 3, 98), (98, 28, 153092295, 6, 101), (101, 0, 0, 332, 102), (102, 0, 0, 332, 103), (103, 27, 199, 3, 106), (106, 28, 153092295, 7, 109), (109, 23, 377, 0, 112)]), (112, [(112, 0, 1, 146, 113), (113, 41, 167, 1, 116), (116, 25, 239, 4, 119)]), (119, [(119, 0, 0, 332, 120), (120, 0, 0, 332, 121), (121, 27, 199, 7, 124), (124, 41, 240, 0, 127), (127, 41, 167, 1, 130), (130, 25, 146, 4, 133), (133, 0, 0, 332, 134), (134, 20, 0, 0, 135), (135, 27, 199, 7, 138), (138, 4, 20, 0, 139), (139, 5, 0, 0, 140), (140, 28, 153092295, 7, 143), (143, 23, 119, 0, 146)]), (146, [(146, 0, 0, 332, 147), (147, 4, 5, 25, 148), (148, 28, 33554631, 10, 151), (151, 0, 0, 332, 152), (152, 27, 199, 6, 155), (155, 1, 2, 146, 156)]), (156, [(156, 0, 2, 146, 157), (157, 0, 0, 332, 158), (158, 27, 199, 7, 161), (161, 24, 199, 1, 164), (164, 0, 2, 146, 165), (165, 0, 0, 332, 166), (166, 27, 199, 6, 169), (169, 4, 132, 0, 171), (171, 5, 0, 0, 172), (172, 24, 199, 1, 175), (175, 0, 0, 332, 176), (176, 0, 0, 332, 177), (177, 27, 199, 10, 180), (180, 4, 132, 0, 182), (182, 46, 0, 0, 183), (183, 0, 0, 332, 184), (184, 0, 2, 146, 185), (185, 41, 240, 0, 188), (188, 18, 0, 0, 189), (189, 47, 0, 0, 190), (190, 28, 33554631, 10, 193), (193, 3, 2, 20, 196), (196, 23, 156, 0, 199)])]
def zc_X12_goOn_1 : List (Nat × List zx_E) := [(199, [(199, 0, 0, 332, 200), (200, 0, 0, 332, 201), (201, 27, 199, 7, 204), (204, 0, 0, 332, 205), (205, 27, 199, 6, 208), (208, 6, 0, 0, 209), (209, 4, 132, 0, 211), (211, 24, 218, 3, 214), (214, 4, 20, 0, 215), (215, 23, 233, 0, 218)]), (218, [(218, 0, 0, 332, 219), (219, 27, 199, 10, 222), (222, 41, 242, 1, 225), (225, 25, 232, 4, 228), (228, 4, 52, 0, 229), (229, 23, 233, 0, 232)]), (232, [(232, 4, 36, 0, 233)]), (233, [(233, 28, 153092295, 8, 236), (236, 23, 377, 0, 239)]), (239, [(239, 0, 1, 146, 240), (240, 41, 241, 1, 243), (243, 25, 361, 4, 246), (246, 0, 0, 332, 247), (247, 4, 4, 0, 248), (248, 28, 153092295, 9, 251), (251, 0, 0, 332, 252), (252, 0, 0, 332, 253), (253, 27, 199, 6, 256), (256, 28, 153092295, 7, 259)]), (259, [(259, 0, 0, 332, 260), (260, 0, 0, 332, 261), (261, 27, 199, 7, 264), (264, 41, 240, 0, 267), (267, 41, 241, 1, 270), (270, 25, 322, 4, 273), (273, 0, 0, 332, 274), (274, 27, 199, 7, 277), (277, 0, 0, 332, 278), (278, 27, 199, 6, 281), (281, 6, 0, 0, 282), (282, 4, 68, 0, 283), (283, 24, 309, 1, 286), (286, 0, 0, 332, 287), (287, 4, 164, 0, 289), (289, 0, 0, 332, 290), (290, 27, 199, 9, 293), (293, 7, 0, 0, 294), (294, 0, 0, 332, 295), (295, 0, 0, 332, 296), (296, 27, 199, 7, 299), (299, 41, 240, 0, 302), (302, 5, 0, 0, 303), (303, 4, 772, 0, 305), (305, 6, 0, 0, 306), (306, 28, 153092295, 9, 309)]), (309, [(309, 0, 0, 332, 310), (310, 20, 0, 0, 311), (311, 27, 199, 7, 314), (314, 4, 20, 0, 315), (315, 5, 0, 0, 316), (316, 28, 153092295, 7, 319), (319, 23, 259, 0, 322)]), (322, [(322, 0, 0, 332, 323), (323, 0, 0, 332, 324), (324, 27, 199, 7, 327), (327, 0, 0, 332, 328), (328, 27, 199, 6, 331), (331, 6, 0, 0, 332), (332, 4, 68, 0, 333), (333, 24, 350, 2, 336), (336, 0, 0, 332, 337), (337, 0, 0, 332, 338), (338, 27, 199, 7, 341), (341, 41, 240, 0, 344), (344, 41, 167, 1, 347), (347, 25, 354, 4, 350)]), (350, [(350, 4, 20, 0, 351), (351, 23, 355, 0, 354)]), (354, [(354, 4, 68, 0, 355)]), (355, [(355, 28, 153092295, 8, 358), (358, 23, 377, 0, 361)]), (361, [(361, 0, 0, 332, 362), (362, 0, 1, 146, 363), (363, 41, 239, 1, 366), (366, 25, 373, 4, 369), (369, 4, 84, 0, 370), (370, 23, 374, 0, 373)]), (373, [(373, 4, 20, 0, 374)]), (374, [(374, 28, 153092295, 8, 377)]), (377, [(377, 43, 0, 0, 378)])]
def zc_X12_goOn : List (Nat × List zx_E) := zc_X12_goOn_0 ++ (zc_X12_goOn_1)
def zc_X12_isSign : List (Nat × List zx_E) := [(0, [(0, 0, 0, 146, 1), (1, 4, 948, 0, 3), (3, 24, 66, 4, 6), (6, 0, 0, 146, 7), (7, 4, 644, 0, 9), (9, 24, 66, 4, 12), (12, 0, 0, 146, 13), (13, 4, 660, 0, 15), (15, 24, 66, 4, 18), (18, 0, 0, 146, 19), (19, 4, 964, 0, 21), (21, 24, 66, 4, 24), (24, 0, 0, 146, 25), (25, 4, 996, 0, 27), (27, 24, 66, 4, 30), (30, 0, 0, 146, 31), (31, 4, 980, 0, 33), (33, 24, 66, 4, 36), (36, 0, 0, 146, 37), (37, 4, 692, 0, 39), (39, 24, 66, 4, 42), (42, 0, 0, 146, 43), (43, 4, 724, 0, 45), (45, 24, 66, 4, 48), (48, 0, 0, 146, 49), (49, 4, 676, 0, 51), (51, 24, 66, 4, 54), (54, 0, 0, 146, 55), (55, 4, 756, 0, 57), (57, 24, 66, 4, 60), (60, 0, 0, 146, 61), (61, 4, 596, 0, 63), (63, 24, 70, 5, 66)]), (66, [(66, 4, 20, 0, 67), (67, 23, 71, 0, 70)]), (70, [(70, 4, 4, 0, 71)]), (71, [(71, 42, 0, 0, 72)])]
def zc_X12_sign : List (Nat × List zx_E) := [(0, [(0, 0, 1, 146, 1), (1, 0, 0, 332, 2), (2, 27, 199, 3, 5), (5, 24, 21, 1, 8), (8, 0, 0, 332, 9), (9, 27, 199, 1, 12), (12, 0, 1, 146, 13), (13, 33, 54, 0, 14), (14, 4, 4084, 0, 17), (17, 8, 0, 0, 18), (18, 23, 22, 0, 21)]), (21, [(21, 4, 4, 0, 22)]), (22, [(22, 42, 0, 0, 23)])]
def zc_X12_isDigit : List (Nat × List zx_E) := [(0, [(0, 0, 0, 146, 1), (1, 4, 772, 0, 3), (3, 24, 16, 0, 6), (6, 0, 0, 146, 7), (7, 4, 916, 0, 9), (9, 24, 16, 2, 12), (12, 4, 20, 0, 13), (13, 23, 17, 0, 16)]), (16, [(16, 4, 4, 0, 17)]), (17, [(17, 42, 0, 0, 18)])]
def zc_X12_isKept : List (Nat × List zx_E) := [(0, [(0, 0, 0, 32, 1), (1, 4, 5, 0, 4), (4, 44, 0, 0, 5), (5, 25, 104, 4, 8), (8, 0, 0, 32, 9), (9, 4, 5, 1, 12), (12, 44, 0, 0, 13), (13, 25, 104, 4, 16), (16, 0, 0, 32, 17), (17, 4, 5, 2, 20), (20, 44, 0, 0, 21), (21, 25, 104, 4, 24), (24, 0, 0, 32, 25), (25, 4, 5, 3, 28), (28, 44, 0, 0, 29), (29, 25, 104, 4, 32), (32, 0, 0, 32, 33), (33, 4, 5, 4, 36), (36, 44, 0, 0, 37), (37, 25, 104, 4, 40), (40, 0, 0, 32, 41), (41, 4, 5, 5, 44), (44, 44, 0, 0, 45), (45, 25, 104, 4, 48), (48, 0, 0, 32, 49), (49, 4, 5, 6, 52), (52, 44, 0, 0, 53), (53, 25, 104, 4, 56), (56, 0, 0, 32, 57), (57, 4, 5, 7, 60), (60, 44, 0, 0, 61), (61, 25, 104, 4, 64), (64, 0, 0, 32, 65), (65, 4, 5, 8, 68), (68, 44, 0, 0, 69), (69, 25, 104, 4, 72), (72, 0, 0, 32, 73), (73, 4, 5, 9, 76), (76, 44, 0, 0, 77), (77, 25, 104, 4, 80), (80, 0, 0, 32, 81), (81, 4, 5, 10, 84), (84, 44, 0, 0, 85), (85, 25, 104, 4, 88), (88, 0, 0, 32, 89), (89, 4, 5, 11, 92), (92, 44, 0, 0, 93), (93, 25, 104, 4, 96), (96, 0, 0, 32, 97), (97, 4, 5, 12, 100), (100, 44, 0, 0, 101), (101, 25, 108, 5, 104)]), (104, [(104, 4, 20, 0, 105), (105, 23, 109, 0, 108)]), (108, [(108, 4, 4, 0, 109)]), (109, [(109, 1, 2, 146, 110), (110, 0, 2, 146, 111), (111, 25, 210, 5, 114), (114, 0, 0, 32, 115), (115, 4, 5, 13, 118), (118, 44, 0, 0, 119), (119, 25, 210, 4, 122), (122, 0, 0, 32, 123), (123, 4, 5, 14, 126), (126, 44, 0, 0, 127), (127, 25, 210, 4, 130), (130, 0, 0, 32, 131), (131, 4, 5, 15, 134), (134, 44, 0, 0, 135), (135, 25, 210, 4, 138), (138, 0, 0, 32, 139), (139, 4, 5, 16, 142), (142, 44, 0, 0, 143), (143, 25, 210, 4, 146), (146, 0, 0, 32, 147), (147, 4, 5, 17, 150), (150, 44, 0, 0, 151), (151, 25, 210, 4, 154), (154, 0, 0, 32, 155), (155, 4, 5, 18, 158), (158, 44, 0, 0, 159), (159, 25, 210, 4, 162), (162, 0, 0, 32, 163), (163, 4, 5, 19, 166), (166, 44, 0, 0, 167), (167, 25, 210, 4, 170), (170, 0, 0, 32, 171), (171, 4, 5, 20, 174), (174, 44, 0, 0, 175), (175, 25, 210, 4, 178), (178, 0, 0, 32, 179), (179, 4, 5, 21, 182), (182, 44, 0, 0, 183), (183, 25, 210, 4, 186), (186, 0, 0, 32, 187), (187, 4, 5, 22, 190), (190, 44, 0, 0, 191), (191, 25, 210, 4, 194), (194, 0, 0, 32, 195), (195, 4, 5, 23, 198), (198, 44, 0, 0, 199), (199, 25, 210, 4, 202), (202, 0, 0, 32, 203), (203, 4, 5, 24, 206), (206, 44, 0, 0, 207), (207, 25, 214, 5, 210)]), (210, [(210, 4, 20, 0, 211), (211, 23, 215, 0, 214)]), (214, [(214, 4, 4, 0, 215)]), (215, [(215, 42, 0, 0, 216)])]
def zc_X12_isSignHere : List (Nat × List zx_E) := [(0, [(0, 0, 0, 332, 1), (1, 27, 199, 8, 4), (4, 4, 84, 0, 5), (5, 24, 24, 5, 8), (8, 0, 0, 332, 9), (9, 0, 0, 332, 10), (10, 27, 199, 6, 13), (13, 41, 240, 0, 16), (16, 0, 1, 146, 17), (17, 24, 24, 5, 20), (20, 4, 20, 0, 21), (21, 23, 25, 0, 24)]), (24, [(24, 4, 4, 0, 25)]), (25, [(25, 42, 0, 0, 26)])]
def zc_X12_numeral : List (Nat × List zx_E) := [(0, [(0, 0, 0, 332, 1), (1, 41, 233, 0, 4), (4, 25, 9, 5, 7), (7, 0, 1, 146, 8), (8, 42, 0, 0, 9)]), (9, [(9, 0, 0, 332, 10), (10, 27, 199, 8, 13), (13, 4, 68, 0, 14), (14, 24, 21, 4, 17), (17, 0, 0, 332, 18), (18, 41, 236, 0, 21)]), (21, [(21, 0, 0, 332, 22), (22, 41, 233, 0, 25), (25, 25, 53, 4, 28), (28, 0, 0, 332, 29), (29, 27, 199, 9, 32), (32, 0, 1, 146, 33), (33, 24, 44, 0, 36), (36, 0, 0, 332, 37), (37, 27, 199, 9, 40), (40, 0, 2, 146, 41), (41, 24, 53, 3, 44)]), (44, [(44, 0, 0, 332, 45), (45, 4, 68, 0, 46), (46, 0, 0, 332, 47), (47, 27, 199, 6, 50), (50, 41, 237, 0, 53)]), (53, [(53, 0, 0, 332, 54), (54, 27, 199, 9, 57), (57, 1, 3, 146, 58), (58, 0, 0, 332, 59), (59, 41, 233, 0, 62), (62, 25, 69, 4, 65), (65, 0, 0, 332, 66), (66, 41, 238, 0, 69)]), (69, [(69, 0, 0, 332, 70), (70, 41, 233, 0, 73), (73, 25, 80, 4, 76), (76, 0, 3, 146, 77), (77, 23, 81, 0, 80)]), (80, [(80, 0, 1, 146, 81)]), (81, [(81, 42, 0, 0, 82)])]
def zc_X12_readRule : List (Nat × List zx_E) := [(0, [(0, 0, 0, 332, 1), (1, 4, 4, 0, 2), (2, 28, 153092295, 48, 5), (5, 0, 0, 332, 6), (6, 27, 199, 35, 9), (9, 0, 0, 332, 10), (10, 27, 199, 44, 13), (13, 4, 20, 0, 14), (14, 34, 54, 0, 15), (15, 0, 0, 332, 16), (16, 27, 199, 26, 19), (19, 0, 0, 332, 20), (20, 27, 199, 44, 23), (23, 0, 0, 332, 24), (24, 27, 199, 45, 27), (27, 34, 9, 0, 28), (28, 0, 0, 332, 29), (29, 41, 246, 0, 32), (32, 0, 0, 332, 33), (33, 27, 199, 27, 36), (36, 0, 0, 332, 37), (37, 27, 199, 44, 40), (40, 0, 0, 332, 41), (41, 27, 199, 45, 44), (44, 34, 9, 0, 45), (45, 43, 0, 0, 46)])]
def zc_X12_e : List (Nat × List zx_E) := [(0, [(0, 0, 0, 332, 1), (1, 4, 4, 0, 2), (2, 28, 153092295, 47, 5), (5, 0, 0, 332, 6), (6, 4, 4, 0, 7), (7, 28, 153092295, 46, 10), (10, 0, 0, 332, 11), (11, 4, 132, 0, 13), (13, 4, 4, 0, 14), (14, 41, 248, 0, 17), (17, 4, 20, 0, 18), (18, 1, 1, 146, 19)]), (19, [(19, 0, 0, 332, 20), (20, 41, 233, 0, 23), (23, 25, 52, 4, 26), (26, 0, 0, 332, 27), (27, 27, 199, 47, 30), (30, 25, 52, 3, 33), (33, 0, 1, 146, 34), (34, 25, 44, 4, 37), (37, 0, 0, 332, 38), (38, 41, 253, 0, 41), (41, 23, 48, 0, 44)]), (44, [(44, 0, 0, 332, 45), (45, 41, 247, 0, 48)]), (48, [(48, 1, 1, 146, 49), (49, 23, 19, 0, 52)]), (52, [(52, 43, 0, 0, 53)])]
def zc_X12_behindUnit : List (Nat × List zx_E) := [(0, [(0, 0, 0, 332, 1), (1, 41, 251, 0, 4), (4, 1, 1, 146, 5), (5, 0, 1, 146, 6), (6, 4, 68, 0, 7), (7, 24, 23, 5, 10), (10, 0, 0, 332, 11), (11, 41, 250, 0, 14), (14, 25, 23, 4, 17), (17, 0, 0, 332, 18), (18, 41, 236, 0, 21), (21, 4, 20, 0, 22), (22, 42, 0, 0, 23)]), (23, [(23, 0, 0, 332, 24), (24, 27, 199, 40, 27), (27, 0, 0, 332, 28), (28, 27, 199, 47, 31), (31, 4, 20, 0, 32), (32, 6, 0, 0, 33), (33, 33, 9, 0, 34), (34, 4, 100, 0, 36), (36, 24, 104, 2, 39), (39, 0, 0, 332, 40), (40, 27, 199, 40, 43), (43, 0, 0, 332, 44), (44, 27, 199, 47, 47), (47, 4, 20, 0, 48), (48, 6, 0, 0, 49), (49, 33, 9, 0, 50), (50, 0, 1, 146, 51), (51, 24, 104, 0, 54), (54, 0, 0, 332, 55), (55, 20, 0, 0, 56), (56, 27, 199, 47, 59), (59, 4, 20, 0, 60), (60, 6, 0, 0, 61), (61, 28, 153092295, 47, 64), (64, 0, 0, 332, 65), (65, 27, 199, 40, 68), (68, 0, 0, 332, 69), (69, 27, 199, 47, 72), (72, 33, 9, 0, 73), (73, 4, 52, 0, 74), (74, 24, 87, 5, 77), (77, 0, 0, 332, 78), (78, 20, 0, 0, 79), (79, 27, 199, 46, 82), (82, 4, 20, 0, 83), (83, 6, 0, 0, 84), (84, 28, 153092295, 46, 87)]), (87, [(87, 0, 0, 332, 88), (88, 0, 0, 332, 89), (89, 27, 199, 41, 92), (92, 0, 0, 332, 93), (93, 27, 199, 47, 96), (96, 33, 9, 0, 97), (97, 4, 4, 0, 98), (98, 41, 249, 0, 101), (101, 23, 23, 0, 104)]), (104, [(104, 0, 1, 146, 105), (105, 25, 147, 3, 108), (108, 0, 0, 332, 109), (109, 0, 1, 146, 110), (110, 0, 1, 146, 111), (111, 4, 36, 0, 112), (112, 24, 120, 5, 115), (115, 4, 612, 0, 117), (117, 23, 138, 0, 120)]), (120, [(120, 0, 1, 146, 121), (121, 4, 20, 0, 122), (122, 24, 130, 5, 125), (125, 4, 1988, 0, 127), (127, 23, 138, 0, 130)]), (130, [(130, 0, 0, 332, 131), (131, 0, 0, 332, 132), (132, 27, 199, 6, 135), (135, 41, 240, 0, 138)]), (138, [(138, 41, 248, 0, 141), (141, 0, 0, 332, 142), (142, 41, 238, 0, 145), (145, 4, 20, 0, 146), (146, 42, 0, 0, 147)]), (147, [(147, 0, 0, 332, 148), (148, 20, 0, 0, 149), (149, 27, 199, 47, 152), (152, 4, 20, 0, 153), (153, 6, 0, 0, 154), (154, 28, 153092295, 47, 157), (157, 0, 0, 332, 158), (158, 27, 199, 40, 161), (161, 0, 0, 332, 162), (162, 27, 199, 47, 165), (165, 33, 9, 0, 166), (166, 4, 116, 0, 168), (168, 24, 191, 5, 171), (171, 0, 0, 332, 172), (172, 20, 0, 0, 173), (173, 27, 199, 46, 176), (176, 4, 20, 0, 177), (177, 6, 0, 0, 178), (178, 28, 153092295, 46, 181), (181, 0, 0, 332, 182), (182, 0, 0, 332, 183), (183, 4, 660, 0, 185), (185, 41, 243, 0, 188), (188, 41, 235, 0, 191)]), (191, [(191, 4, 4, 0, 192), (192, 42, 0, 0, 193)])]
def zc_X12_pushE : List (Nat × List zx_E) := [(0, [(0, 0, 0, 332, 1), (1, 27, 199, 40, 4), (4, 0, 0, 332, 5), (5, 27, 199, 47, 8), (8, 0, 1, 146, 9), (9, 34, 9, 0, 10), (10, 0, 0, 332, 11), (11, 27, 199, 41, 14), (14, 0, 0, 332, 15), (15, 27, 199, 47, 18), (18, 0, 2, 146, 19), (19, 34, 9, 0, 20), (20, 0, 0, 332, 21), (21, 20, 0, 0, 22), (22, 27, 199, 47, 25), (25, 4, 20, 0, 26), (26, 5, 0, 0, 27), (27, 28, 153092295, 47, 30), (30, 43, 0, 0, 31)])]
def zc_X12_emit : List (Nat × List zx_E) := [(0, [(0, 0, 0, 332, 1), (1, 27, 199, 38, 4), (4, 0, 0, 332, 5), (5, 27, 199, 45, 8), (8, 0, 1, 146, 9), (9, 34, 9, 0, 10), (10, 0, 0, 332, 11), (11, 27, 199, 39, 14), (14, 0, 0, 332, 15), (15, 27, 199, 45, 18), (18, 0, 2, 146, 19), (19, 34, 9, 0, 20), (20, 0, 0, 332, 21), (21, 20, 0, 0, 22), (22, 27, 199, 45, 25), (25, 4, 20, 0, 26), (26, 5, 0, 0, 27), (27, 28, 153092295, 45, 30), (30, 43, 0, 0, 31)])]
def zc_X12_isCompared : List (Nat × List zx_E) := [(0, [(0, 0, 0, 332, 1), (1, 27, 199, 47, 4), (4, 4, 20, 0, 5), (5, 6, 0, 0, 6), (6, 1, 1, 146, 7)]), (7, [(7, 0, 0, 332, 8), (8, 27, 199, 40, 11), (11, 0, 1, 146, 12), (12, 33, 9, 0, 13), (13, 4, 84, 0, 14), (14, 24, 28, 4, 17), (17, 0, 0, 332, 18), (18, 27, 199, 40, 21), (21, 0, 1, 146, 22), (22, 33, 9, 0, 23), (23, 4, 100, 0, 25), (25, 24, 34, 5, 28)]), (28, [(28, 3, 1, 68719476724, 31), (31, 23, 7, 0, 34)]), (34, [(34, 0, 0, 332, 35), (35, 27, 199, 40, 38), (38, 0, 1, 146, 39), (39, 33, 9, 0, 40), (40, 4, 68, 0, 41), (41, 24, 48, 5, 44), (44, 4, 20, 0, 45), (45, 23, 49, 0, 48)]), (48, [(48, 4, 4, 0, 49)]), (49, [(49, 42, 0, 0, 50)])]
def zc_X12_rankHere : List (Nat × List zx_E) := [(0, [(0, 0, 0, 332, 1), (1, 4, 5, 23, 4), (4, 41, 252, 0, 7), (7, 25, 12, 4, 10), (10, 4, 36, 0, 11), (11, 42, 0, 0, 12)]), (12, [(12, 0, 0, 332, 13), (13, 4, 5, 22, 16), (16, 41, 252, 0, 19), (19, 25, 24, 4, 22), (22, 4, 20, 0, 23), (23, 42, 0, 0, 24)]), (24, [(24, 0, 0, 332, 25), (25, 4, 964, 0, 27), (27, 41, 243, 0, 30), (30, 25, 51, 5, 33), (33, 0, 0, 332, 34), (34, 4, 996, 0, 36), (36, 41, 243, 0, 39), (39, 25, 51, 5, 42), (42, 0, 0, 332, 43), (43, 4, 980, 0, 45), (45, 41, 243, 0, 48), (48, 25, 53, 4, 51)]), (51, [(51, 4, 68, 0, 52), (52, 42, 0, 0, 53)]), (53, [(53, 0, 0, 332, 54), (54, 4, 692, 0, 56), (56, 41, 243, 0, 59), (59, 25, 71, 5, 62), (62, 0, 0, 332, 63), (63, 4, 724, 0, 65), (65, 41, 243, 0, 68), (68, 25, 73, 4, 71)]), (71, [(71, 4, 84, 0, 72), (72, 42, 0, 0, 73)]), (73, [(73, 0, 0, 332, 74), (74, 4, 676, 0, 76), (76, 41, 243, 0, 79), (79, 25, 100, 5, 82), (82, 0, 0, 332, 83), (83, 4, 756, 0, 85), (85, 41, 243, 0, 88), (88, 25, 100, 5, 91), (91, 0, 0, 332, 92), (92, 4, 596, 0, 94), (94, 41, 243, 0, 97), (97, 25, 105, 4, 100)]), (100, [(100, 4, 100, 0, 102), (102, 23, 106, 0, 105)]), (105, [(105, 4, 4, 0, 106)]), (106, [(106, 42, 0, 0, 107)])]
def zc_X12_isWord : List (Nat × List zx_E) := [(0, [(0, 0, 0, 332, 1), (1, 27, 199, 8, 4), (4, 4, 52, 0, 5), (5, 24, 21, 5, 8), (8, 0, 0, 332, 9), (9, 27, 199, 10, 12), (12, 0, 1, 32, 13), (13, 44, 0, 0, 14), (14, 25, 21, 5, 17), (17, 4, 20, 0, 18), (18, 23, 22, 0, 21)]), (21, [(21, 4, 4, 0, 22)]), (22, [(22, 42, 0, 0, 23)])]
def zc_X12_unit_0 : List (Nat × List zx_E) := [(0, [(0, 0, 0, 332, 1), (1, 27, 199, 40, 4), (4, 0, 0, 332, 5), (5, 27, 199, 47, 8), (8, 4, 20, 0, 9), (9, 6, 0, 0, 10), (10, 33, 9, 0, 11), (11, 4, 52, 0, 12), (12, 24, 31, 3, 15), (15, 0, 0, 332, 16), (16, 27, 199, 40, 19), (19, 0, 0, 332, 20), (20, 27, 199, 47, 23), (23, 4, 20, 0, 24), (24, 6, 0, 0, 25), (25, 33, 9, 0, 26), (26, 4, 116, 0, 28), (28, 24, 35, 0, 31)]), (31, [(31, 4, 20, 0, 32), (32, 23, 36, 0, 35)]), (35, [(35, 4, 4, 0, 36)]), (36, [(36, 1, 1, 146, 37), (37, 0, 1, 146, 38), (38, 25, 55, 4, 41), (41, 0, 0, 332, 42), (42, 4, 5, 24, 45), (45, 41, 252, 0, 48), (48, 25, 55, 4, 51), (51, 4, 20, 0, 52), (52, 23, 56, 0, 55)]), (55, [(55, 4, 4, 0, 56)]), (56, [(56, 1, 2, 146, 57), (57, 0, 0, 332, 58), (58, 4, 644, 0, 60), (60, 41, 243, 0, 63), (63, 1, 3, 146, 64), (64, 0, 0, 332, 65), (65, 41, 254, 0, 68), (68, 1, 4, 146, 70), (70, 0, 0, 332, 71), (71, 27, 199, 14, 74), (74, 0, 0, 332, 75), (75, 27, 199, 44, 78), (78, 33, 9, 0, 79), (79, 4, 964, 0, 81), (81, 24, 93, 4, 84), (84, 0, 0, 332, 85), (85, 27, 199, 48, 88), (88, 4, 484, 0, 90), (90, 24, 97, 5, 93)]), (93, [(93, 4, 20, 0, 94), (94, 23, 98, 0, 97)]), (97, [(97, 4, 4, 0, 98)]), (98, [(98, 1, 5, 146, 100), (100, 0, 2, 146, 101), (101, 25, 126, 5, 104), (104, 0, 4, 146, 106), (106, 25, 121, 5, 109), (109, 0, 0, 332, 110), (110, 27, 199, 8, 113), (113, 4, 68, 0, 114), (114, 24, 121, 4, 117), (117, 0, 3, 146, 118), (118, 25, 143, 4, 121)]), (121, [(121, 0, 5, 146, 123), (123, 25, 143, 5, 126)]), (126, [(126, 0, 2, 146, 127), (127, 25, 134, 5, 130), (130, 0, 3, 146, 131), (131, 25, 147, 4, 134)]), (134, [(134, 0, 0, 332, 135), (135, 27, 199, 46, 138), (138, 4, 116, 0, 140), (140, 24, 147, 5, 143)]), (143, [(143, 0, 0, 332, 144), (144, 41, 236, 0, 147)]), (147, [(147, 0, 0, 332, 148), (148, 41, 233, 0, 151), (151, 25, 156, 5, 154), (154, 4, 20, 0, 155), (155, 42, 0, 0, 156)]), (156, [(156, 0, 0, 332, 157), (157, 27, 199, 14, 160), (160, 0, 0, 332, 161), (161, 27, 199, 44, 164), (164, 22, 0, 0, 165), (165, 33, 9, 0, 166), (166, 0, 2, 146, 167), (167, 25, 174, 4, 170), (170, 4, 4, 0, 171), (171, 23, 175, 0, 174)]), (174, [(174, 4, 20, 0, 175)]), (175, [(175, 5, 0, 0, 176), (176, 34, 9, 0, 177), (177, 0, 0, 332, 178), (178, 20, 0, 0, 179), (179, 27, 199, 48, 182), (182, 0, 2, 146, 183), (183, 25, 190, 4, 186), (186, 4, 4, 0, 187), (187, 23, 191, 0, 190)])]
def zc_X12_unit_1 : List (Nat × List zx_E) := [(190, [(190, 4, 20, 0, 191)]), (191, [(191, 5, 0, 0, 192), (192, 28, 153092295, 48, 195), (195, 0, 4, 146, 197), (197, 25, 207, 5, 200), (200, 0, 0, 332, 201), (201, 27, 199, 9, 204), (204, 23, 208, 0, 207)]), (207, [(207, 4, 4, 0, 208)]), (208, [(208, 1, 6, 146, 210), (210, 0, 0, 332, 211), (211, 41, 238, 0, 214), (214, 0, 2, 146, 215), (215, 25, 222, 5, 218), (218, 0, 3, 146, 219), (219, 25, 250, 4, 222)]), (222, [(222, 0, 0, 332, 223), (223, 0, 2, 146, 224), (224, 25, 231, 4, 227), (227, 4, 52, 0, 228), (228, 23, 233, 0, 231)]), (231, [(231, 4, 116, 0, 233)]), (233, [(233, 4, 2020, 0, 235), (235, 41, 248, 0, 238), (238, 0, 0, 332, 239), (239, 20, 0, 0, 240), (240, 27, 199, 46, 243), (243, 4, 20, 0, 244), (244, 5, 0, 0, 245), (245, 28, 153092295, 46, 248), (248, 4, 20, 0, 249), (249, 42, 0, 0, 250)]), (250, [(250, 0, 0, 332, 251), (251, 0, 4, 146, 253), (253, 25, 261, 5, 256), (256, 4, 1764, 0, 258), (258, 23, 263, 0, 261)]), (261, [(261, 0, 4, 146, 263)]), (263, [(263, 0, 6, 146, 265), (265, 41, 249, 0, 268), (268, 4, 4, 0, 269), (269, 42, 0, 0, 270)])]
def zc_X12_unit : List (Nat × List zx_E) := zc_X12_unit_0 ++ (zc_X12_unit_1)
def zc_X12_wordHere : List (Nat × List zx_E) := [(0, [(0, 0, 0, 332, 1), (1, 4, 5, 6, 4), (4, 41, 252, 0, 7), (7, 25, 13, 4, 10), (10, 4, 1572, 0, 12), (12, 42, 0, 0, 13)]), (13, [(13, 0, 0, 332, 14), (14, 4, 5, 19, 17), (17, 41, 252, 0, 20), (20, 25, 26, 4, 23), (23, 4, 1860, 0, 25), (25, 42, 0, 0, 26)]), (26, [(26, 0, 0, 332, 27), (27, 4, 5, 20, 30), (30, 41, 252, 0, 33), (33, 25, 39, 4, 36), (36, 4, 1604, 0, 38), (38, 42, 0, 0, 39)]), (39, [(39, 0, 0, 332, 40), (40, 4, 5, 21, 43), (43, 41, 252, 0, 46), (46, 25, 54, 4, 49), (49, 4, 1796, 0, 51), (51, 23, 55, 0, 54)]), (54, [(54, 4, 4, 0, 55)]), (55, [(55, 42, 0, 0, 56)])]
def zc_X12_readCorner : List (Nat × List zx_E) := [(0, [(0, 4, 100, 0, 2), (2, 0, 0, 332, 3), (3, 27, 199, 44, 6), (6, 7, 0, 0, 7), (7, 0, 0, 332, 8), (8, 27, 199, 13, 11), (11, 0, 0, 332, 12), (12, 27, 199, 44, 15), (15, 33, 9, 0, 16), (16, 5, 0, 0, 17), (17, 1, 1, 146, 18), (18, 0, 0, 332, 19), (19, 27, 199, 22, 22), (22, 0, 1, 146, 23), (23, 0, 0, 332, 24), (24, 0, 0, 332, 25), (25, 41, 257, 0, 28), (28, 41, 256, 0, 31), (31, 34, 9, 0, 32), (32, 0, 0, 332, 33), (33, 27, 199, 23, 36), (36, 0, 1, 146, 37), (37, 0, 0, 332, 38), (38, 4, 4, 0, 39), (39, 0, 0, 332, 40), (40, 27, 199, 17, 43), (43, 4, 68, 0, 44), (44, 0, 0, 332, 45), (45, 27, 199, 44, 48), (48, 7, 0, 0, 49), (49, 0, 0, 332, 50), (50, 27, 199, 22, 53), (53, 0, 1, 146, 54), (54, 33, 9, 0, 55), (55, 5, 0, 0, 56), (56, 33, 9, 0, 57), (57, 4, 20, 0, 58), (58, 6, 0, 0, 59), (59, 41, 244, 0, 62), (62, 34, 9, 0, 63), (63, 0, 0, 332, 64), (64, 0, 0, 332, 65), (65, 4, 5, 15, 68), (68, 41, 252, 0, 71), (71, 41, 235, 0, 74), (74, 0, 0, 332, 75), (75, 41, 257, 0, 78), (78, 1, 2, 146, 79), (79, 0, 0, 332, 80), (80, 41, 233, 0, 83), (83, 25, 113, 4, 86), (86, 0, 0, 332, 87), (87, 27, 199, 8, 90), (90, 4, 36, 0, 91), (91, 24, 113, 5, 94), (94, 0, 2, 146, 95), (95, 0, 0, 332, 96), (96, 27, 199, 22, 99), (99, 0, 1, 146, 100), (100, 33, 9, 0, 101), (101, 24, 113, 5, 104), (104, 0, 0, 332, 105), (105, 4, 52, 0, 106), (106, 0, 0, 332, 107), (107, 27, 199, 6, 110), (110, 41, 237, 0, 113)]), (113, [(113, 0, 0, 332, 114), (114, 27, 199, 24, 117), (117, 0, 1, 146, 118), (118, 0, 0, 332, 119), (119, 0, 2, 146, 120), (120, 41, 256, 0, 123), (123, 34, 9, 0, 124), (124, 0, 0, 332, 125), (125, 27, 199, 25, 128), (128, 0, 1, 146, 129), (129, 0, 0, 332, 130), (130, 4, 4, 0, 131), (131, 0, 0, 332, 132), (132, 27, 199, 17, 135), (135, 4, 68, 0, 136), (136, 0, 0, 332, 137), (137, 27, 199, 44, 140), (140, 7, 0, 0, 141), (141, 0, 0, 332, 142), (142, 27, 199, 24, 145), (145, 0, 1, 146, 146), (146, 33, 9, 0, 147), (147, 5, 0, 0, 148), (148, 33, 9, 0, 149), (149, 4, 20, 0, 150), (150, 6, 0, 0, 151), (151, 41, 244, 0, 154), (154, 34, 9, 0, 155), (155, 0, 0, 332, 156), (156, 27, 199, 13, 159), (159, 0, 0, 332, 160), (160, 27, 199, 44, 163), (163, 22, 0, 0, 164), (164, 33, 9, 0, 165), (165, 4, 20, 0, 166), (166, 5, 0, 0, 167), (167, 34, 9, 0, 168), (168, 43, 0, 0, 169)])]
def zc_X12_known : List (Nat × List zx_E) := [(0, [(0, 0, 0, 332, 1), (1, 41, 233, 0, 4), (4, 25, 9, 5, 7), (7, 4, 4, 0, 8), (8, 42, 0, 0, 9)]), (9, [(9, 0, 0, 332, 10), (10, 27, 199, 8, 13), (13, 4, 36, 0, 14), (14, 24, 24, 4, 17), (17, 0, 0, 332, 18), (18, 41, 236, 0, 21), (21, 23, 44, 0, 24)]), (24, [(24, 0, 1, 146, 25), (25, 25, 40, 1, 28), (28, 0, 0, 332, 29), (29, 4, 84, 0, 30), (30, 0, 0, 332, 31), (31, 27, 199, 6, 34), (34, 41, 237, 0, 37), (37, 23, 44, 0, 40)]), (40, [(40, 0, 0, 332, 41), (41, 41, 238, 0, 44)]), (44, [(44, 0, 1, 146, 45), (45, 25, 52, 1, 48), (48, 4, 4, 0, 49), (49, 23, 53, 0, 52)]), (52, [(52, 0, 1, 146, 53)]), (53, [(53, 42, 0, 0, 54)])]
def zc_X12_laneHere : List (Nat × List zx_E) := [(0, [(0, 0, 0, 332, 1), (1, 0, 0, 332, 2), (2, 27, 199, 36, 5), (5, 4, 68, 0, 6), (6, 0, 0, 332, 7), (7, 27, 199, 44, 10), (10, 7, 0, 0, 11), (11, 0, 0, 332, 12), (12, 27, 199, 11, 15), (15, 0, 0, 332, 16), (16, 27, 199, 44, 19), (19, 33, 9, 0, 20), (20, 41, 258, 0, 23), (23, 42, 0, 0, 24)])]
def zc_X12_here : List (Nat × List zx_E) := [(0, [(0, 4, 4, 0, 1), (1, 1, 4, 146, 3)]), (3, [(3, 0, 4, 146, 5), (5, 0, 3, 146, 6), (6, 24, 40, 1, 9), (9, 0, 0, 332, 10), (10, 27, 199, 8, 13), (13, 4, 36, 0, 14), (14, 24, 34, 5, 17), (17, 0, 1, 332, 18), (18, 0, 2, 146, 19), (19, 0, 4, 146, 21), (21, 5, 0, 0, 22), (22, 35, 0, 0, 23), (23, 0, 0, 332, 24), (24, 27, 199, 10, 27), (27, 44, 0, 0, 28), (28, 25, 34, 5, 31), (31, 0, 4, 146, 33), (33, 42, 0, 0, 34)]), (34, [(34, 3, 4, 20, 37), (37, 23, 3, 0, 40)]), (40, [(40, 4, 68719476724, 0, 41), (41, 42, 0, 0, 42)])]
def zc_X12_readDoor_0 : List (Nat × List zx_E) := [(0, [(0, 0, 0, 332, 1), (1, 27, 199, 12, 4), (4, 0, 0, 332, 5), (5, 27, 199, 44, 8), (8, 33, 9, 0, 9), (9, 1, 1, 146, 10), (10, 4, 164, 0, 12), (12, 0, 0, 332, 13), (13, 27, 199, 44, 16), (16, 7, 0, 0, 17), (17, 0, 1, 146, 18), (18, 5, 0, 0, 19), (19, 1, 2, 146, 20), (20, 0, 0, 332, 21), (21, 27, 199, 37, 24), (24, 0, 2, 146, 25), (25, 0, 0, 332, 26), (26, 0, 0, 332, 27), (27, 0, 0, 332, 28), (28, 27, 199, 37, 31), (31, 4, 164, 0, 33), (33, 0, 0, 332, 34), (34, 27, 199, 44, 37), (37, 7, 0, 0, 38), (38, 0, 1, 146, 39), (39, 41, 258, 0, 42), (42, 41, 264, 0, 45), (45, 36, 0, 0, 46), (46, 0, 0, 332, 47), (47, 0, 0, 332, 48), (48, 4, 5, 4, 51), (51, 41, 252, 0, 54), (54, 41, 235, 0, 57), (57, 0, 0, 332, 58), (58, 27, 199, 19, 61), (61, 0, 2, 146, 62), (62, 0, 0, 332, 63), (63, 0, 0, 332, 64), (64, 41, 257, 0, 67), (67, 41, 256, 0, 70), (70, 34, 9, 0, 71), (71, 0, 0, 332, 72), (72, 27, 199, 17, 75), (75, 4, 68, 0, 76), (76, 0, 0, 332, 77), (77, 27, 199, 44, 80), (80, 7, 0, 0, 81), (81, 0, 0, 332, 82), (82, 27, 199, 19, 85), (85, 0, 2, 146, 86), (86, 33, 9, 0, 87), (87, 5, 0, 0, 88), (88, 33, 9, 0, 89), (89, 1, 3, 146, 90), (90, 0, 0, 332, 91), (91, 27, 199, 20, 94), (94, 0, 2, 146, 95), (95, 0, 0, 332, 96), (96, 4, 5, 5, 99), (99, 4, 4, 0, 100), (100, 0, 3, 146, 101), (101, 4, 20, 0, 102), (102, 6, 0, 0, 103), (103, 41, 263, 0, 106), (106, 34, 9, 0, 107), (107, 0, 0, 332, 108), (108, 0, 0, 332, 109), (109, 4, 5, 6, 112), (112, 41, 252, 0, 115), (115, 41, 235, 0, 118), (118, 0, 0, 332, 119), (119, 27, 199, 21, 122), (122, 0, 2, 146, 123), (123, 0, 0, 332, 124), (124, 4, 20, 0, 125), (125, 0, 3, 146, 126), (126, 0, 0, 332, 127), (127, 27, 199, 20, 130), (130, 0, 2, 146, 131), (131, 33, 9, 0, 132), (132, 6, 0, 0, 133), (133, 4, 68, 0, 134), (134, 24, 148, 1, 137), (137, 0, 3, 146, 138), (138, 0, 0, 332, 139), (139, 27, 199, 20, 142), (142, 0, 2, 146, 143), (143, 33, 9, 0, 144), (144, 6, 0, 0, 145), (145, 23, 149, 0, 148)]), (148, [(148, 4, 68, 0, 149)]), (149, [(149, 41, 244, 0, 152), (152, 34, 9, 0, 153), (153, 4, 20, 0, 154), (154, 0, 1, 146, 155), (155, 11, 0, 0, 156), (156, 1, 4, 146, 158), (158, 0, 0, 332, 159), (159, 4, 5, 7, 162), (162, 4, 5, 8, 165), (165, 41, 261, 0, 168), (168, 25, 185, 4, 171), (171, 0, 0, 332, 172), (172, 27, 199, 29, 175), (175, 0, 0, 332, 176), (176, 27, 199, 44, 179), (179, 22, 0, 0, 180), (180, 33, 9, 0, 181), (181, 0, 4, 146, 183), (183, 9, 0, 0, 184), (184, 34, 9, 0, 185)])]
def zc_X12_readDoor_1 : List (Nat × List zx_E) := [(185, [(185, 0, 0, 332, 186), (186, 41, 233, 0, 189), (189, 25, 193, 5, 192), (192, 43, 0, 0, 193)]), (193, [(193, 0, 0, 332, 194), (194, 4, 5, 10, 197), (197, 41, 252, 0, 200), (200, 1, 5, 146, 202), (202, 0, 5, 146, 204), (204, 25, 217, 5, 207), (207, 0, 0, 332, 208), (208, 4, 5, 9, 211), (211, 41, 252, 0, 214), (214, 25, 236, 4, 217)]), (217, [(217, 0, 0, 332, 218), (218, 0, 2, 146, 219), (219, 0, 5, 146, 221), (221, 41, 262, 0, 224), (224, 25, 236, 4, 227), (227, 0, 0, 332, 228), (228, 4, 52, 0, 229), (229, 0, 0, 332, 230), (230, 27, 199, 6, 233), (233, 41, 237, 0, 236)]), (236, [(236, 0, 0, 332, 237), (237, 4, 5, 9, 240), (240, 4, 5, 10, 243), (243, 41, 261, 0, 246), (246, 25, 263, 4, 249), (249, 0, 0, 332, 250), (250, 27, 199, 30, 253), (253, 0, 0, 332, 254), (254, 27, 199, 44, 257), (257, 22, 0, 0, 258), (258, 33, 9, 0, 259), (259, 0, 4, 146, 261), (261, 9, 0, 0, 262), (262, 34, 9, 0, 263)]), (263, [(263, 0, 0, 332, 264), (264, 4, 5, 11, 267), (267, 41, 260, 0, 270), (270, 25, 287, 4, 273), (273, 0, 0, 332, 274), (274, 27, 199, 31, 277), (277, 0, 0, 332, 278), (278, 27, 199, 44, 281), (281, 22, 0, 0, 282), (282, 33, 9, 0, 283), (283, 0, 4, 146, 285), (285, 9, 0, 0, 286), (286, 34, 9, 0, 287)]), (287, [(287, 0, 0, 332, 288), (288, 4, 5, 12, 291), (291, 41, 260, 0, 294), (294, 25, 311, 4, 297), (297, 0, 0, 332, 298), (298, 27, 199, 32, 301), (301, 0, 0, 332, 302), (302, 27, 199, 44, 305), (305, 22, 0, 0, 306), (306, 33, 9, 0, 307), (307, 0, 4, 146, 309), (309, 9, 0, 0, 310), (310, 34, 9, 0, 311)]), (311, [(311, 0, 0, 332, 312), (312, 4, 5, 13, 315), (315, 41, 260, 0, 318), (318, 25, 335, 4, 321), (321, 0, 0, 332, 322), (322, 27, 199, 28, 325), (325, 0, 0, 332, 326), (326, 27, 199, 44, 329), (329, 22, 0, 0, 330), (330, 33, 9, 0, 331), (331, 0, 4, 146, 333), (333, 9, 0, 0, 334), (334, 34, 9, 0, 335)]), (335, [(335, 0, 0, 332, 336), (336, 27, 199, 12, 339), (339, 0, 0, 332, 340), (340, 27, 199, 44, 343), (343, 22, 0, 0, 344), (344, 33, 9, 0, 345), (345, 4, 20, 0, 346), (346, 5, 0, 0, 347), (347, 34, 9, 0, 348), (348, 43, 0, 0, 349)])]
def zc_X12_readDoor : List (Nat × List zx_E) := zc_X12_readDoor_0 ++ (zc_X12_readDoor_1)
def zc_X12_perhaps : List (Nat × List zx_E) := [(0, [(0, 0, 0, 332, 1), (1, 41, 233, 0, 4), (4, 25, 19, 4, 7), (7, 0, 0, 332, 8), (8, 0, 1, 32, 9), (9, 41, 252, 0, 12), (12, 25, 19, 4, 15), (15, 4, 20, 0, 16), (16, 23, 20, 0, 19)]), (19, [(19, 4, 4, 0, 20)]), (20, [(20, 1, 3, 146, 21), (21, 0, 3, 146, 22), (22, 25, 29, 4, 25), (25, 0, 0, 332, 26), (26, 41, 238, 0, 29)]), (29, [(29, 0, 3, 146, 30), (30, 42, 0, 0, 31)])]
def zc_X12_either : List (Nat × List zx_E) := [(0, [(0, 0, 0, 332, 1), (1, 41, 233, 0, 4), (4, 25, 19, 4, 7), (7, 0, 0, 332, 8), (8, 0, 3, 32, 9), (9, 41, 252, 0, 12), (12, 25, 19, 4, 15), (15, 4, 20, 0, 16), (16, 23, 20, 0, 19)]), (19, [(19, 4, 4, 0, 20)]), (20, [(20, 1, 5, 146, 22), (22, 0, 0, 332, 23), (23, 0, 5, 146, 25), (25, 25, 36, 5, 28), (28, 0, 0, 332, 29), (29, 0, 1, 32, 30), (30, 41, 252, 0, 33), (33, 25, 40, 4, 36)]), (36, [(36, 4, 20, 0, 37), (37, 23, 41, 0, 40)]), (40, [(40, 4, 4, 0, 41)]), (41, [(41, 41, 235, 0, 44), (44, 0, 5, 146, 46), (46, 42, 0, 0, 47)])]
def zc_X12_isTaken : List (Nat × List zx_E) := [(0, [(0, 4, 4, 0, 1), (1, 1, 3, 146, 2)]), (2, [(2, 0, 3, 146, 3), (3, 0, 0, 332, 4), (4, 27, 199, 12, 7), (7, 0, 0, 332, 8), (8, 27, 199, 44, 11), (11, 33, 9, 0, 12), (12, 24, 126, 1, 15), (15, 4, 164, 0, 17), (17, 0, 0, 332, 18), (18, 27, 199, 44, 21), (21, 7, 0, 0, 22), (22, 0, 3, 146, 23), (23, 5, 0, 0, 24), (24, 1, 4, 146, 26), (26, 0, 0, 332, 27), (27, 27, 199, 19, 30), (30, 0, 4, 146, 32), (32, 33, 9, 0, 33), (33, 0, 0, 332, 34), (34, 27, 199, 19, 37), (37, 0, 1, 146, 38), (38, 33, 9, 0, 39), (39, 24, 120, 5, 42), (42, 0, 0, 332, 43), (43, 27, 199, 30, 46), (46, 0, 0, 332, 47), (47, 27, 199, 44, 50), (50, 33, 9, 0, 51), (51, 0, 3, 146, 52), (52, 12, 0, 0, 53), (53, 4, 20, 0, 54), (54, 8, 0, 0, 55), (55, 4, 20, 0, 56), (56, 24, 63, 5, 59), (59, 4, 20, 0, 60), (60, 23, 64, 0, 63)]), (63, [(63, 4, 4, 0, 64)]), (64, [(64, 0, 2, 146, 65), (65, 24, 71, 4, 68), (68, 23, 120, 0, 71)]), (71, [(71, 0, 0, 332, 72), (72, 27, 199, 20, 75), (75, 0, 4, 146, 77), (77, 33, 9, 0, 78), (78, 0, 0, 332, 79), (79, 27, 199, 20, 82), (82, 0, 1, 146, 83), (83, 33, 9, 0, 84), (84, 0, 0, 332, 85), (85, 27, 199, 21, 88), (88, 0, 1, 146, 89), (89, 33, 9, 0, 90), (90, 5, 0, 0, 91), (91, 24, 120, 1, 94), (94, 0, 0, 332, 95), (95, 27, 199, 20, 98), (98, 0, 1, 146, 99), (99, 33, 9, 0, 100), (100, 0, 0, 332, 101), (101, 27, 199, 20, 104), (104, 0, 4, 146, 106), (106, 33, 9, 0, 107), (107, 0, 0, 332, 108), (108, 27, 199, 21, 111), (111, 0, 4, 146, 113), (113, 33, 9, 0, 114), (114, 5, 0, 0, 115), (115, 24, 120, 1, 118), (118, 4, 20, 0, 119), (119, 42, 0, 0, 120)]), (120, [(120, 3, 3, 20, 123), (123, 23, 2, 0, 126)]), (126, [(126, 4, 4, 0, 127), (127, 42, 0, 0, 128)])]
def zc_X12_after : List (Nat × List zx_E) := [(0, [(0, 0, 0, 332, 1), (1, 0, 0, 332, 2), (2, 0, 1, 32, 3), (3, 41, 252, 0, 6), (6, 41, 235, 0, 9), (9, 0, 0, 332, 10), (10, 0, 3, 146, 11), (11, 0, 4, 146, 13), (13, 41, 244, 0, 16), (16, 42, 0, 0, 17)])]
def zc_X12_fresh : List (Nat × List zx_E) := [(0, [(0, 0, 0, 332, 1), (1, 41, 233, 0, 4), (4, 25, 9, 5, 7), (7, 4, 5, 25, 8), (8, 42, 1, 0, 9)]), (9, [(9, 0, 0, 332, 10), (10, 27, 199, 8, 13), (13, 4, 36, 0, 14), (14, 24, 24, 4, 17), (17, 0, 0, 332, 18), (18, 41, 236, 0, 21), (21, 23, 37, 0, 24)]), (24, [(24, 0, 1, 146, 25), (25, 25, 37, 0, 28), (28, 0, 0, 332, 29), (29, 4, 52, 0, 30), (30, 0, 0, 332, 31), (31, 27, 199, 6, 34), (34, 41, 237, 0, 37)]), (37, [(37, 0, 0, 332, 38), (38, 27, 199, 10, 41), (41, 2, 2, 0, 42), (42, 0, 0, 332, 43), (43, 41, 233, 0, 46), (46, 25, 53, 4, 49), (49, 0, 0, 332, 50), (50, 41, 238, 0, 53)]), (53, [(53, 0, 2, 32, 54), (54, 42, 1, 0, 55)])]
def zc_X12_readLane : List (Nat × List zx_E) := [(0, [(0, 4, 68, 0, 1), (1, 0, 0, 332, 2), (2, 27, 199, 44, 5), (5, 7, 0, 0, 6), (6, 0, 0, 332, 7), (7, 27, 199, 11, 10), (10, 0, 0, 332, 11), (11, 27, 199, 44, 14), (14, 33, 9, 0, 15), (15, 5, 0, 0, 16), (16, 1, 1, 146, 17), (17, 0, 0, 332, 18), (18, 27, 199, 36, 21), (21, 0, 1, 146, 22), (22, 0, 0, 332, 23), (23, 0, 0, 332, 24), (24, 41, 257, 0, 27), (27, 41, 264, 0, 30), (30, 36, 0, 0, 31), (31, 0, 0, 332, 32), (32, 27, 199, 17, 35), (35, 0, 1, 146, 36), (36, 0, 0, 332, 37), (37, 4, 5, 1, 40), (40, 4, 20, 0, 41), (41, 4, 260, 0, 43), (43, 41, 263, 0, 46), (46, 34, 9, 0, 47), (47, 0, 0, 332, 48), (48, 27, 199, 18, 51), (51, 0, 1, 146, 52), (52, 0, 0, 332, 53), (53, 4, 5, 2, 56), (56, 4, 20, 0, 57), (57, 4, 132, 0, 59), (59, 41, 263, 0, 62), (62, 34, 9, 0, 63), (63, 0, 0, 332, 64), (64, 27, 199, 11, 67), (67, 0, 0, 332, 68), (68, 27, 199, 44, 71), (71, 22, 0, 0, 72), (72, 33, 9, 0, 73), (73, 4, 20, 0, 74), (74, 5, 0, 0, 75), (75, 34, 9, 0, 76), (76, 43, 0, 0, 77)])]
def zc_X12_isFull : List (Nat × List zx_E) := [(0, [(0, 0, 0, 332, 1), (1, 4, 5, 0, 4), (4, 41, 252, 0, 7), (7, 25, 29, 4, 10), (10, 0, 0, 332, 11), (11, 27, 199, 11, 14), (14, 0, 0, 332, 15), (15, 27, 199, 44, 18), (18, 33, 9, 0, 19), (19, 4, 68, 0, 20), (20, 24, 27, 5, 23), (23, 4, 20, 0, 24), (24, 23, 28, 0, 27)]), (27, [(27, 4, 4, 0, 28)]), (28, [(28, 42, 0, 0, 29)]), (29, [(29, 0, 0, 332, 30), (30, 4, 5, 3, 33), (33, 41, 252, 0, 36), (36, 25, 59, 4, 39), (39, 0, 0, 332, 40), (40, 27, 199, 12, 43), (43, 0, 0, 332, 44), (44, 27, 199, 44, 47), (47, 33, 9, 0, 48), (48, 4, 164, 0, 50), (50, 24, 57, 5, 53), (53, 4, 20, 0, 54), (54, 23, 58, 0, 57)]), (57, [(57, 4, 4, 0, 58)]), (58, [(58, 42, 0, 0, 59)]), (59, [(59, 0, 0, 332, 60), (60, 4, 5, 14, 63), (63, 41, 252, 0, 66), (66, 25, 89, 4, 69), (69, 0, 0, 332, 70), (70, 27, 199, 13, 73), (73, 0, 0, 332, 74), (74, 27, 199, 44, 77), (77, 33, 9, 0, 78), (78, 4, 100, 0, 80), (80, 24, 87, 5, 83), (83, 4, 20, 0, 84), (84, 23, 88, 0, 87)]), (87, [(87, 4, 4, 0, 88)]), (88, [(88, 42, 0, 0, 89)]), (89, [(89, 0, 0, 332, 90), (90, 4, 5, 16, 93), (93, 41, 252, 0, 96), (96, 25, 109, 4, 99), (99, 0, 0, 332, 100), (100, 27, 199, 35, 103), (103, 0, 0, 332, 104), (104, 27, 199, 44, 107), (107, 33, 54, 0, 108), (108, 42, 0, 0, 109)]), (109, [(109, 0, 0, 332, 110), (110, 4, 5, 17, 113), (113, 41, 252, 0, 116), (116, 25, 129, 4, 119), (119, 0, 0, 332, 120), (120, 27, 199, 33, 123), (123, 0, 0, 332, 124), (124, 27, 199, 44, 127), (127, 33, 54, 0, 128), (128, 42, 0, 0, 129)]), (129, [(129, 0, 0, 332, 130), (130, 4, 5, 18, 133), (133, 41, 252, 0, 136), (136, 25, 151, 4, 139), (139, 0, 0, 332, 140), (140, 27, 199, 34, 143), (143, 0, 0, 332, 144), (144, 27, 199, 44, 147), (147, 33, 54, 0, 148), (148, 25, 155, 4, 151)]), (151, [(151, 4, 20, 0, 152), (152, 23, 156, 0, 155)]), (155, [(155, 4, 4, 0, 156)]), (156, [(156, 42, 0, 0, 157)])]
def zc_X12_clearBank : List (Nat × List zx_E) := [(0, [(0, 0, 0, 332, 1), (1, 27, 199, 11, 4), (4, 0, 0, 332, 5), (5, 27, 199, 44, 8), (8, 4, 4, 0, 9), (9, 34, 9, 0, 10), (10, 0, 0, 332, 11), (11, 27, 199, 12, 14), (14, 0, 0, 332, 15), (15, 27, 199, 44, 18), (18, 4, 4, 0, 19), (19, 34, 9, 0, 20), (20, 0, 0, 332, 21), (21, 27, 199, 13, 24), (24, 0, 0, 332, 25), (25, 27, 199, 44, 28), (28, 4, 4, 0, 29), (29, 34, 9, 0, 30), (30, 0, 0, 332, 31), (31, 27, 199, 14, 34), (34, 0, 0, 332, 35), (35, 27, 199, 44, 38), (38, 4, 4, 0, 39), (39, 34, 9, 0, 40), (40, 0, 0, 332, 41), (41, 27, 199, 15, 44), (44, 0, 0, 332, 45), (45, 27, 199, 44, 48), (48, 4, 4, 0, 49), (49, 34, 9, 0, 50), (50, 0, 0, 332, 51), (51, 27, 199, 16, 54), (54, 0, 0, 332, 55), (55, 27, 199, 44, 58), (58, 4, 4, 0, 59), (59, 34, 9, 0, 60), (60, 0, 0, 332, 61), (61, 27, 199, 28, 64), (64, 0, 0, 332, 65), (65, 27, 199, 44, 68), (68, 4, 4, 0, 69), (69, 34, 9, 0, 70), (70, 0, 0, 332, 71), (71, 27, 199, 29, 74), (74, 0, 0, 332, 75), (75, 27, 199, 44, 78), (78, 4, 4, 0, 79), (79, 34, 9, 0, 80), (80, 0, 0, 332, 81), (81, 27, 199, 30, 84), (84, 0, 0, 332, 85), (85, 27, 199, 44, 88), (88, 4, 4, 0, 89), (89, 34, 9, 0, 90), (90, 0, 0, 332, 91), (91, 27, 199, 31, 94), (94, 0, 0, 332, 95), (95, 27, 199, 44, 98), (98, 4, 4, 0, 99), (99, 34, 9, 0, 100), (100, 0, 0, 332, 101), (101, 27, 199, 32, 104), (104, 0, 0, 332, 105), (105, 27, 199, 44, 108), (108, 4, 4, 0, 109), (109, 34, 9, 0, 110), (110, 0, 0, 332, 111), (111, 27, 199, 33, 114), (114, 0, 0, 332, 115), (115, 27, 199, 44, 118), (118, 4, 4, 0, 119), (119, 34, 54, 0, 120), (120, 0, 0, 332, 121), (121, 27, 199, 34, 124), (124, 0, 0, 332, 125), (125, 27, 199, 44, 128), (128, 4, 4, 0, 129), (129, 34, 54, 0, 130), (130, 0, 0, 332, 131), (131, 27, 199, 35, 134), (134, 0, 0, 332, 135), (135, 27, 199, 44, 138), (138, 4, 4, 0, 139), (139, 34, 54, 0, 140), (140, 0, 0, 332, 141), (141, 4, 8964, 0, 144), (144, 0, 0, 332, 145), (145, 27, 199, 44, 148), (148, 7, 0, 0, 149), (149, 28, 153092295, 45, 152), (152, 43, 0, 0, 153)])]
def zc_X11_town : List (Nat × List zx_E) := [(0, [(0, 0, 0, 332, 1), (1, 27, 183, 1, 4), (4, 41, 272, 0, 7), (7, 25, 12, 5, 10), (10, 4, 68719476724, 0, 11), (11, 42, 0, 0, 12)]), (12, [(12, 0, 0, 332, 13), (13, 0, 0, 332, 14), (14, 27, 183, 1, 17), (17, 0, 0, 332, 18), (18, 27, 183, 9, 21), (21, 41, 271, 0, 24), (24, 28, 348127415, 9, 27), (27, 0, 0, 332, 28), (28, 27, 183, 0, 31), (31, 4, 4, 0, 32), (32, 28, 153092263, 1, 35), (35, 0, 0, 332, 36), (36, 27, 183, 10, 39), (39, 0, 0, 332, 40), (40, 27, 183, 9, 43), (43, 41, 270, 0, 46), (46, 0, 0, 332, 47), (47, 27, 183, 2, 50), (50, 41, 10, 0, 53), (53, 0, 0, 332, 54), (54, 27, 183, 5, 57), (57, 41, 269, 0, 60), (60, 0, 0, 332, 61), (61, 27, 183, 8, 64), (64, 41, 65, 0, 67), (67, 0, 0, 332, 68), (68, 4, 4, 0, 69), (69, 28, 153092279, 11, 72), (72, 0, 0, 332, 73), (73, 27, 183, 9, 76), (76, 27, 103, 9, 79), (79, 42, 0, 0, 80)])]
def zc_X1_forget : List (Nat × List zx_E) := [(0, [(0, 0, 0, 332, 1), (1, 4, 4, 0, 2), (2, 28, 153092119, 4, 5), (5, 43, 0, 0, 6)])]
def zc_X8_begin : List (Nat × List zx_E) := [(0, [(0, 0, 0, 332, 1), (1, 0, 1, 332, 2), (2, 27, 103, 15, 5), (5, 28, 153092231, 0, 8), (8, 0, 0, 332, 9), (9, 4, 4, 0, 10), (10, 28, 153092231, 1, 13), (13, 0, 0, 332, 14), (14, 0, 1, 332, 15), (15, 27, 103, 12, 18), (18, 28, 153092231, 2, 21), (21, 0, 0, 332, 22), (22, 0, 1, 332, 23), (23, 27, 103, 16, 26), (26, 28, 153092231, 3, 29), (29, 0, 0, 332, 30), (30, 4, 4, 0, 31), (31, 28, 153092231, 4, 34), (34, 0, 0, 332, 35), (35, 0, 1, 332, 36), (36, 27, 103, 17, 39), (39, 28, 153092231, 5, 42), (42, 0, 0, 332, 43), (43, 27, 135, 6, 46), (46, 4, 4, 0, 47), (47, 41, 45, 1, 50), (50, 43, 0, 0, 51)])]
def zc_X7_exchange : List (Nat × List zx_E) := [(0, [(0, 0, 0, 332, 1), (1, 27, 119, 3, 4), (4, 1, 2, 332, 5), (5, 0, 0, 332, 6), (6, 0, 1, 332, 7), (7, 28, 348127351, 3, 10), (10, 0, 2, 332, 11), (11, 42, 2, 0, 12)])]
def zc_X7_readTown : List (Nat × List zx_E) := [(0, [(0, 0, 0, 332, 1), (1, 27, 119, 3, 4), (4, 41, 317, 0, 7), (7, 0, 0, 332, 8), (8, 4, 4, 0, 9), (9, 28, 153092215, 4, 12), (12, 0, 0, 332, 13), (13, 4, 4, 0, 14), (14, 28, 153092215, 5, 17), (17, 0, 0, 332, 18), (18, 4, 68719476724, 0, 19), (19, 28, 153092215, 6, 22), (22, 0, 0, 332, 23), (23, 27, 119, 0, 26), (26, 41, 316, 0, 29), (29, 4, 4, 0, 30), (30, 1, 1, 146, 31)]), (31, [(31, 0, 1, 146, 32), (32, 4, 25604, 0, 35), (35, 24, 65, 1, 38), (38, 0, 0, 332, 39), (39, 27, 119, 0, 42), (42, 27, 55, 3, 45), (45, 4, 1444, 0, 47), (47, 24, 65, 4, 50), (50, 0, 0, 332, 51), (51, 41, 273, 0, 54), (54, 25, 59, 5, 57), (57, 4, 4, 0, 58), (58, 42, 0, 0, 59)]), (59, [(59, 3, 1, 20, 62), (62, 23, 31, 0, 65)]), (65, [(65, 4, 20, 0, 66), (66, 42, 0, 0, 67)])]
def zc_X7_readLine : List (Nat × List zx_E) := [(0, [(0, 0, 0, 332, 1), (1, 27, 119, 0, 4), (4, 27, 55, 3, 7), (7, 26, 10, 0, 96)]), (96, [(96, 0, 0, 332, 97), (97, 27, 119, 3, 100), (100, 27, 103, 8, 103), (103, 4, 68, 0, 104), (104, 24, 114, 1, 107), (107, 0, 0, 332, 108), (108, 41, 314, 0, 111), (111, 23, 119, 0, 114)]), (114, [(114, 0, 0, 332, 115), (115, 4, 36, 0, 116), (116, 41, 274, 0, 119)]), (119, [(119, 42, 0, 0, 120)]), (120, [(120, 0, 0, 332, 121), (121, 27, 119, 3, 124), (124, 27, 103, 9, 127), (127, 4, 164, 0, 129), (129, 24, 139, 1, 132), (132, 0, 0, 332, 133), (133, 41, 307, 0, 136), (136, 23, 144, 0, 139)]), (139, [(139, 0, 0, 332, 140), (140, 4, 36, 0, 141), (141, 41, 274, 0, 144)]), (144, [(144, 42, 0, 0, 145)]), (145, [(145, 0, 0, 332, 146), (146, 27, 119, 3, 149), (149, 27, 103, 10, 152), (152, 4, 100, 0, 154), (154, 24, 164, 1, 157), (157, 0, 0, 332, 158), (158, 41, 303, 0, 161), (161, 23, 169, 0, 164)]), (164, [(164, 0, 0, 332, 165), (165, 4, 36, 0, 166), (166, 41, 274, 0, 169)]), (169, [(169, 42, 0, 0, 170)]), (170, [(170, 0, 0, 332, 171), (171, 4, 20, 0, 172), (172, 41, 294, 0, 175), (175, 25, 200, 4, 178), (178, 0, 0, 332, 179), (179, 4, 4, 0, 180), (180, 4, 4, 0, 181), (181, 41, 296, 0, 184), (184, 25, 200, 4, 187), (187, 0, 0, 332, 188), (188, 4, 948, 0, 190), (190, 41, 276, 0, 193), (193, 25, 200, 4, 196), (196, 4, 20, 0, 197), (197, 23, 201, 0, 200)]), (200, [(200, 4, 4, 0, 201)]), (201, [(201, 42, 0, 0, 202)]), (202, [(202, 0, 0, 332, 203), (203, 41, 295, 0, 206), (206, 42, 0, 0, 207)]), (207, [(207, 0, 0, 332, 208), (208, 41, 275, 0, 211), (211, 42, 0, 0, 212)]), (212, [(212, 0, 0, 332, 213), (213, 4, 36, 0, 214), (214, 41, 274, 0, 217), (217, 42, 0, 0, 218)])]
def zc_X7_refuse : List (Nat × List zx_E) := [(0, [(0, 0, 0, 332, 1), (1, 0, 0, 332, 2), (2, 27, 119, 0, 5), (5, 27, 55, 3, 8), (8, 4, 1460, 0, 10), (10, 24, 17, 5, 13), (13, 4, 20, 0, 14), (14, 23, 18, 0, 17)]), (17, [(17, 0, 1, 146, 18)]), (18, [(18, 28, 153092215, 5, 21), (21, 0, 0, 332, 22), (22, 0, 0, 332, 23), (23, 27, 119, 0, 26), (26, 27, 55, 4, 29), (29, 28, 153092215, 6, 32), (32, 4, 4, 0, 33), (33, 42, 0, 0, 34)])]
def zc_X7_readDraw : List (Nat × List zx_E) := [(0, [(0, 0, 0, 332, 1), (1, 4, 68, 0, 2), (2, 41, 294, 0, 5), (5, 25, 10, 5, 8), (8, 4, 4, 0, 9), (9, 42, 0, 0, 10)]), (10, [(10, 0, 0, 332, 11), (11, 27, 119, 3, 14), (14, 0, 0, 332, 15), (15, 4, 4, 0, 16), (16, 4, 15988, 0, 19), (19, 41, 293, 0, 22), (22, 28, 153092199, 17, 25), (25, 0, 0, 332, 26), (26, 27, 119, 3, 29), (29, 27, 103, 17, 32), (32, 4, 68719476724, 0, 33), (33, 24, 49, 4, 36), (36, 0, 0, 332, 37), (37, 4, 948, 0, 39), (39, 41, 276, 0, 42), (42, 25, 49, 4, 45), (45, 4, 20, 0, 46), (46, 23, 50, 0, 49)]), (49, [(49, 4, 4, 0, 50)]), (50, [(50, 42, 0, 0, 51)])]
def zc_X7_expect : List (Nat × List zx_E) := [(0, [(0, 0, 0, 332, 1), (1, 27, 119, 0, 4), (4, 27, 55, 3, 7), (7, 0, 1, 146, 8), (8, 24, 17, 4, 11), (11, 0, 0, 332, 12), (12, 4, 36, 0, 13), (13, 41, 274, 0, 16), (16, 42, 0, 0, 17)]), (17, [(17, 0, 0, 332, 18), (18, 27, 119, 0, 21), (21, 41, 277, 0, 24), (24, 4, 20, 0, 25), (25, 42, 0, 0, 26)])]
def zc_X3_advance : List (Nat × List zx_E) := [(0, [(0, 0, 0, 332, 1), (1, 27, 55, 2, 4), (4, 0, 0, 332, 5), (5, 27, 55, 0, 8), (8, 27, 167, 1, 11), (11, 24, 59, 1, 14), (14, 0, 0, 332, 15), (15, 27, 55, 0, 18), (18, 0, 0, 332, 19), (19, 27, 55, 2, 22), (22, 41, 288, 0, 25), (25, 4, 516, 0, 27), (27, 24, 46, 4, 30), (30, 0, 0, 332, 31), (31, 27, 55, 0, 34), (34, 0, 0, 332, 35), (35, 27, 55, 2, 38), (38, 41, 288, 0, 41), (41, 4, 164, 0, 43), (43, 24, 59, 5, 46)]), (46, [(46, 0, 0, 332, 47), (47, 20, 0, 0, 48), (48, 27, 55, 2, 51), (51, 4, 20, 0, 52), (52, 5, 0, 0, 53), (53, 28, 153092151, 2, 56), (56, 23, 0, 0, 59)]), (59, [(59, 0, 0, 332, 60), (60, 0, 0, 332, 61), (61, 27, 55, 2, 64), (64, 28, 153092151, 4, 67), (67, 0, 0, 332, 68), (68, 27, 55, 0, 71), (71, 0, 0, 332, 72), (72, 27, 55, 4, 75), (75, 41, 288, 0, 78), (78, 1, 1, 146, 79), (79, 0, 0, 332, 80), (80, 27, 55, 4, 83), (83, 0, 0, 332, 84), (84, 27, 55, 0, 87), (87, 27, 167, 1, 90), (90, 24, 102, 0, 93), (93, 0, 0, 332, 94), (94, 4, 1444, 0, 96), (96, 28, 153092151, 3, 99), (99, 23, 164, 0, 102)]), (102, [(102, 0, 1, 146, 103), (103, 41, 287, 1, 106), (106, 25, 116, 4, 109), (109, 0, 0, 332, 110), (110, 41, 290, 0, 113), (113, 23, 164, 0, 116)]), (116, [(116, 0, 1, 146, 117), (117, 41, 289, 1, 120), (120, 25, 130, 4, 123), (123, 0, 0, 332, 124), (124, 41, 286, 0, 127), (127, 23, 164, 0, 130)]), (130, [(130, 4, 54, 0, 132), (132, 0, 1, 146, 133), (133, 17, 0, 0, 134), (134, 41, 278, 0, 137), (137, 25, 158, 0, 140), (140, 0, 0, 332, 141), (141, 0, 1, 146, 142), (142, 28, 153092151, 3, 145), (145, 0, 0, 332, 146), (146, 0, 0, 332, 147), (147, 27, 55, 4, 150), (150, 4, 20, 0, 151), (151, 5, 0, 0, 152), (152, 28, 153092151, 2, 155), (155, 23, 164, 0, 158)]), (158, [(158, 0, 0, 332, 159), (159, 4, 1460, 0, 161), (161, 28, 153092151, 3, 164)]), (164, [(164, 43, 0, 0, 165)])]
def zc_J0_indexOf_0f7a4 : List (Nat × List zx_E) := [(0, [(0, 0, 0, 332, 1), (1, 0, 1, 146, 2), (2, 4, 4, 0, 3), (3, 41, 279, 0, 6), (6, 42, 0, 0, 7)])]
def zc_J0_indexOf_7cf53 : List (Nat × List zx_E) := [(0, [(0, 0, 0, 332, 1), (1, 41, 285, 0, 4), (4, 25, 23, 4, 7), (7, 0, 0, 332, 8), (8, 29, 0, 0, 11), (11, 0, 1, 146, 12), (12, 0, 2, 146, 13), (13, 0, 0, 332, 14), (14, 41, 280, 0, 17), (17, 41, 282, 1, 20), (20, 23, 36, 0, 23)]), (23, [(23, 0, 0, 332, 24), (24, 29, 0, 0, 27), (27, 0, 1, 146, 28), (28, 0, 2, 146, 29), (29, 0, 0, 332, 30), (30, 41, 280, 0, 33)]), (36, [(36, 42, 0, 0, 37)])]
def zc_J0_length_8abf5 : List (Nat × List zx_E) := [(0, [(0, 0, 0, 332, 1), (1, 29, 0, 0, 4), (4, 32, 0, 0, 5), (5, 0, 0, 332, 6), (6, 41, 281, 0, 9), (9, 12, 0, 0, 10), (10, 42, 0, 0, 11)])]
def zc_J0_coder_7d493 : List (Nat × List zx_E) := [(0, [(0, 4, 20, 0, 3), (3, 25, 13, 4, 6), (6, 0, 0, 332, 7), (7, 29, 1, 0, 10), (10, 23, 14, 0, 13)]), (13, [(13, 4, 20, 0, 14)]), (14, [(14, 42, 0, 0, 15)])]
def zc_J1_indexOf_4cfef : List (Nat × List zx_E) := [(0, [(0, 0, 1, 146, 1), (1, 41, 284, 1, 4), (4, 25, 9, 5, 7), (7, 4, 68719476724, 0, 8), (8, 42, 0, 0, 9)]), (9, [(9, 0, 2, 146, 10), (10, 4, 4, 0, 11), (11, 41, 341, 1, 14), (14, 1, 2, 146, 15), (15, 0, 3, 146, 16), (16, 0, 0, 332, 17), (17, 32, 0, 0, 18), (18, 41, 342, 1, 21), (21, 1, 3, 146, 22), (22, 0, 2, 146, 23), (23, 0, 3, 146, 24), (24, 24, 29, 0, 27), (27, 4, 68719476724, 0, 28), (28, 42, 0, 0, 29)]), (29, [(29, 0, 0, 332, 30), (30, 0, 1, 146, 31), (31, 0, 2, 146, 32), (32, 0, 3, 146, 33), (33, 41, 283, 1, 36), (36, 42, 0, 0, 37)])]
def zc_J1_indexOfChar_4cfef : List (Nat × List zx_E) := [(0, [(0, 0, 1, 146, 1), (1, 16, 0, 0, 2), (2, 1, 4, 146, 4), (4, 0, 2, 146, 5), (5, 1, 5, 146, 7)]), (7, [(7, 0, 5, 146, 9), (9, 0, 3, 146, 10), (10, 24, 31, 1, 13), (13, 0, 0, 332, 14), (14, 0, 5, 146, 16), (16, 33, 54, 0, 17), (17, 0, 4, 146, 19), (19, 24, 25, 5, 22), (22, 0, 5, 146, 24), (24, 42, 0, 0, 25)]), (25, [(25, 3, 5, 20, 28), (28, 23, 7, 0, 31)]), (31, [(31, 4, 68719476724, 0, 32), (32, 42, 0, 0, 33)])]
def zc_J1_canEncode_9a6ad : List (Nat × List zx_E) := [(0, [(0, 0, 0, 146, 1), (1, 25, 15, 0, 4), (4, 0, 0, 146, 5), (5, 4, 4084, 0, 8), (8, 24, 15, 2, 11), (11, 4, 20, 0, 12), (12, 23, 16, 0, 15)]), (15, [(15, 4, 4, 0, 16)]), (16, [(16, 42, 0, 0, 17)])]
def zc_J0_isLatin1_aae02 : List (Nat × List zx_E) := [(0, [(0, 4, 20, 0, 3), (3, 25, 17, 4, 6), (6, 0, 0, 332, 7), (7, 29, 1, 0, 10), (10, 25, 17, 5, 13), (13, 4, 20, 0, 14), (14, 23, 18, 0, 17)]), (17, [(17, 4, 4, 0, 18)]), (18, [(18, 42, 0, 0, 19)])]
def zc_X3_takeNumber : List (Nat × List zx_E) := [(0, [(0, 0, 0, 332, 1), (1, 27, 55, 4, 4), (4, 1, 1, 146, 5), (5, 0, 0, 332, 6), (6, 4, 4, 0, 7), (7, 28, 153092151, 5, 10)]), (10, [(10, 0, 1, 146, 11), (11, 0, 0, 332, 12), (12, 27, 55, 0, 15), (15, 27, 167, 1, 18), (18, 24, 64, 1, 21), (21, 0, 0, 332, 22), (22, 27, 55, 0, 25), (25, 0, 1, 146, 26), (26, 41, 288, 0, 29), (29, 41, 289, 1, 32), (32, 25, 64, 4, 35), (35, 0, 0, 332, 36), (36, 4, 164, 0, 38), (38, 0, 0, 332, 39), (39, 27, 55, 5, 42), (42, 7, 0, 0, 43), (43, 0, 0, 332, 44), (44, 27, 55, 0, 47), (47, 0, 1, 146, 48), (48, 41, 288, 0, 51), (51, 5, 0, 0, 52), (52, 4, 772, 0, 54), (54, 6, 0, 0, 55), (55, 28, 153092151, 5, 58), (58, 3, 1, 20, 61), (61, 23, 10, 0, 64)]), (64, [(64, 0, 1, 146, 65), (65, 0, 0, 332, 66), (66, 27, 55, 4, 69), (69, 6, 0, 0, 70), (70, 4, 68, 0, 71), (71, 24, 92, 2, 74), (74, 0, 0, 332, 75), (75, 27, 55, 0, 78), (78, 0, 1, 146, 79), (79, 41, 288, 0, 82), (82, 41, 287, 1, 85), (85, 25, 92, 5, 88), (88, 4, 20, 0, 89), (89, 23, 93, 0, 92)]), (92, [(92, 4, 4, 0, 93)]), (93, [(93, 1, 2, 146, 94), (94, 0, 0, 332, 95), (95, 0, 2, 146, 96), (96, 25, 104, 4, 99), (99, 4, 1476, 0, 101), (101, 23, 106, 0, 104)]), (104, [(104, 4, 1460, 0, 106)]), (106, [(106, 28, 153092151, 3, 109), (109, 0, 0, 332, 110), (110, 0, 1, 146, 111), (111, 28, 153092151, 2, 114), (114, 43, 0, 0, 115)])]
def zc_X3_isLetter : List (Nat × List zx_E) := [(0, [(0, 0, 0, 146, 1), (1, 4, 1556, 0, 3), (3, 24, 16, 0, 6), (6, 0, 0, 146, 7), (7, 4, 1956, 0, 9), (9, 24, 16, 2, 12), (12, 4, 20, 0, 13), (13, 23, 17, 0, 16)]), (16, [(16, 4, 4, 0, 17)]), (17, [(17, 42, 0, 0, 18)])]
def zc_X10_at : List (Nat × List zx_E) := [(0, [(0, 0, 1, 146, 1), (1, 25, 34, 0, 4), (4, 0, 1, 146, 5), (5, 0, 0, 332, 6), (6, 27, 167, 1, 9), (9, 24, 34, 1, 12), (12, 0, 1, 146, 13), (13, 0, 0, 332, 14), (14, 27, 167, 0, 17), (17, 32, 0, 0, 18), (18, 24, 34, 1, 21), (21, 0, 0, 332, 22), (22, 27, 167, 0, 25), (25, 0, 1, 146, 26), (26, 33, 54, 0, 27), (27, 4, 4084, 0, 30), (30, 8, 0, 0, 31), (31, 23, 35, 0, 34)]), (34, [(34, 4, 4, 0, 35)]), (35, [(35, 42, 0, 0, 36)])]
def zc_X3_isDigit : List (Nat × List zx_E) := [(0, [(0, 0, 0, 146, 1), (1, 4, 772, 0, 3), (3, 24, 16, 0, 6), (6, 0, 0, 146, 7), (7, 4, 916, 0, 9), (9, 24, 16, 2, 12), (12, 4, 20, 0, 13), (13, 23, 17, 0, 16)]), (16, [(16, 4, 4, 0, 17)]), (17, [(17, 42, 0, 0, 18)])]
def zc_X3_takeWord : List (Nat × List zx_E) := [(0, [(0, 0, 0, 332, 1), (1, 27, 55, 4, 4), (4, 1, 1, 146, 5), (5, 0, 0, 332, 6), (6, 4, 5, 25, 7), (7, 28, 33554487, 6, 10)]), (10, [(10, 0, 1, 146, 11), (11, 0, 0, 332, 12), (12, 27, 55, 0, 15), (15, 27, 167, 1, 18), (18, 24, 60, 1, 21), (21, 0, 0, 332, 22), (22, 27, 55, 0, 25), (25, 0, 1, 146, 26), (26, 41, 288, 0, 29), (29, 41, 287, 1, 32), (32, 25, 60, 4, 35), (35, 0, 0, 332, 36), (36, 0, 0, 332, 37), (37, 27, 55, 6, 40), (40, 0, 0, 332, 41), (41, 27, 55, 0, 44), (44, 0, 1, 146, 45), (45, 41, 288, 0, 48), (48, 41, 292, 1, 51), (51, 28, 33554487, 6, 54), (54, 3, 1, 20, 57), (57, 23, 10, 0, 60)]), (60, [(60, 0, 0, 332, 61), (61, 0, 1, 146, 62), (62, 0, 0, 332, 63), (63, 27, 55, 4, 66), (66, 6, 0, 0, 67), (67, 4, 132, 0, 69), (69, 24, 77, 3, 72), (72, 4, 1460, 0, 74), (74, 23, 81, 0, 77)]), (77, [(77, 0, 0, 332, 78), (78, 41, 291, 0, 81)]), (81, [(81, 28, 153092151, 3, 84), (84, 0, 0, 332, 85), (85, 0, 1, 146, 86), (86, 28, 153092151, 2, 89), (89, 43, 0, 0, 90)])]
def zc_X3_wordKind : List (Nat × List zx_E) := [(0, [(0, 4, 4, 0, 1), (1, 1, 1, 146, 2)]), (2, [(2, 0, 1, 146, 3), (3, 4, 404, 0, 5), (5, 24, 33, 1, 8), (8, 0, 0, 332, 9), (9, 27, 55, 1, 12), (12, 0, 1, 146, 13), (13, 35, 0, 0, 14), (14, 0, 0, 332, 15), (15, 27, 55, 6, 18), (18, 44, 0, 0, 19), (19, 25, 27, 5, 22), (22, 4, 1604, 0, 24), (24, 0, 1, 146, 25), (25, 5, 0, 0, 26), (26, 42, 0, 0, 27)]), (27, [(27, 3, 1, 20, 30), (30, 23, 2, 0, 33)]), (33, [(33, 4, 1492, 0, 35), (35, 42, 0, 0, 36)])]
def zc_X3_withLetter : List (Nat × List zx_E) := [(0, [(0, 4, 5, 25, 3), (3, 0, 0, 32, 4), (4, 19, 0, 0, 5), (5, 0, 2, 146, 6), (6, 18, 0, 0, 7), (7, 19, 0, 0, 8), (8, 4, 5, 25, 11), (11, 19, 0, 0, 12), (12, 4, 5, 25, 13), (13, 19, 0, 0, 14), (14, 42, 1, 0, 15)])]
def zc_X7_readNumber : List (Nat × List zx_E) := [(0, [(0, 0, 0, 332, 1), (1, 27, 119, 0, 4), (4, 27, 55, 3, 7), (7, 4, 1476, 0, 9), (9, 24, 20, 4, 12), (12, 0, 0, 332, 13), (13, 4, 36, 0, 14), (14, 41, 274, 0, 17), (17, 21, 0, 0, 18), (18, 4, 68719476724, 0, 19), (19, 42, 0, 0, 20)]), (20, [(20, 0, 0, 332, 21), (21, 27, 119, 0, 24), (24, 27, 55, 5, 27), (27, 0, 1, 146, 28), (28, 24, 42, 0, 31), (31, 0, 0, 332, 32), (32, 27, 119, 0, 35), (35, 27, 55, 5, 38), (38, 0, 2, 146, 39), (39, 24, 50, 3, 42)]), (42, [(42, 0, 0, 332, 43), (43, 4, 68, 0, 44), (44, 41, 274, 0, 47), (47, 21, 0, 0, 48), (48, 4, 68719476724, 0, 49), (49, 42, 0, 0, 50)]), (50, [(50, 0, 0, 332, 51), (51, 27, 119, 0, 54), (54, 27, 55, 5, 57), (57, 1, 3, 146, 58), (58, 0, 0, 332, 59), (59, 27, 119, 0, 62), (62, 41, 277, 0, 65), (65, 0, 3, 146, 66), (66, 42, 0, 0, 67)])]
def zc_X7_beginOnce : List (Nat × List zx_E) := [(0, [(0, 0, 0, 332, 1), (1, 27, 119, 4, 4), (4, 0, 1, 146, 5), (5, 8, 0, 0, 6), (6, 25, 15, 4, 9), (9, 0, 0, 332, 10), (10, 4, 36, 0, 11), (11, 41, 274, 0, 14), (14, 42, 0, 0, 15)]), (15, [(15, 0, 0, 332, 16), (16, 20, 0, 0, 17), (17, 27, 119, 4, 20), (20, 0, 1, 146, 21), (21, 9, 0, 0, 22), (22, 28, 153092215, 4, 25), (25, 0, 0, 332, 26), (26, 27, 119, 0, 29), (29, 41, 277, 0, 32), (32, 4, 20, 0, 33), (33, 42, 0, 0, 34)])]
def zc_X7_readStock : List (Nat × List zx_E) := [(0, [(0, 0, 0, 332, 1), (1, 4, 36, 0, 2), (2, 41, 294, 0, 5), (5, 25, 10, 5, 8), (8, 4, 4, 0, 9), (9, 42, 0, 0, 10)]), (10, [(10, 0, 0, 332, 11), (11, 27, 119, 3, 14), (14, 0, 0, 332, 15), (15, 4, 4, 0, 16), (16, 4, 15988, 0, 19), (19, 41, 293, 0, 22), (22, 28, 153092199, 16, 25), (25, 0, 0, 332, 26), (26, 27, 119, 3, 29), (29, 27, 103, 16, 32), (32, 4, 68719476724, 0, 33), (33, 24, 49, 4, 36), (36, 0, 0, 332, 37), (37, 4, 948, 0, 39), (39, 41, 276, 0, 42), (42, 25, 49, 4, 45), (45, 4, 20, 0, 46), (46, 23, 50, 0, 49)]), (49, [(49, 4, 4, 0, 50)]), (50, [(50, 42, 0, 0, 51)])]
def zc_X7_readChain : List (Nat × List zx_E) := [(0, [(0, 0, 0, 332, 1), (1, 0, 1, 146, 2), (2, 0, 2, 146, 3), (3, 41, 298, 0, 6), (6, 25, 11, 5, 9), (9, 4, 4, 0, 10), (10, 42, 0, 0, 11)]), (11, [(11, 4, 20, 0, 12), (12, 1, 3, 146, 13)]), (13, [(13, 0, 3, 146, 14), (14, 4, 25604, 0, 17), (17, 24, 80, 1, 20), (20, 0, 1, 146, 21), (21, 0, 0, 332, 22), (22, 27, 119, 0, 25), (25, 27, 55, 3, 28), (28, 41, 302, 1, 31), (31, 25, 80, 4, 34), (34, 0, 0, 332, 35), (35, 27, 119, 0, 38), (38, 27, 55, 3, 41), (41, 1, 4, 146, 43), (43, 0, 0, 332, 44), (44, 27, 119, 0, 47), (47, 41, 277, 0, 50), (50, 0, 0, 332, 51), (51, 0, 1, 146, 52), (52, 0, 2, 146, 53), (53, 41, 298, 0, 56), (56, 25, 61, 5, 59), (59, 4, 4, 0, 60), (60, 42, 0, 0, 61)]), (61, [(61, 0, 0, 332, 62), (62, 27, 119, 3, 65), (65, 27, 103, 7, 68), (68, 0, 4, 146, 70), (70, 45, 0, 0, 71), (71, 41, 297, 0, 74), (74, 3, 3, 20, 77), (77, 23, 13, 0, 80)]), (80, [(80, 4, 20, 0, 81), (81, 42, 0, 0, 82)])]
def zc_X0_add : List (Nat × List zx_E) := [(0, [(0, 0, 0, 332, 1), (1, 27, 7, 2, 4), (4, 0, 0, 332, 5), (5, 27, 7, 0, 8), (8, 32, 0, 0, 9), (9, 24, 32, 1, 12), (12, 0, 0, 332, 13), (13, 27, 7, 0, 16), (16, 0, 0, 332, 17), (17, 27, 7, 2, 20), (20, 0, 1, 146, 21), (21, 34, 9, 0, 22), (22, 0, 0, 332, 23), (23, 20, 0, 0, 24), (24, 27, 7, 2, 27), (27, 4, 20, 0, 28), (28, 5, 0, 0, 29), (29, 28, 153092103, 2, 32)]), (32, [(32, 43, 0, 0, 33)])]
def zc_X7_readPart : List (Nat × List zx_E) := [(0, [(0, 0, 1, 146, 1), (1, 26, 11, 0, 28)]), (28, [(28, 0, 0, 332, 29), (29, 4, 20, 0, 30), (30, 0, 2, 146, 31), (31, 41, 296, 0, 34), (34, 42, 0, 0, 35)]), (35, [(35, 0, 0, 332, 36), (36, 0, 2, 146, 37), (37, 41, 301, 0, 40), (40, 42, 0, 0, 41)]), (41, [(41, 0, 0, 332, 42), (42, 4, 52, 0, 43), (43, 0, 2, 146, 44), (44, 41, 296, 0, 47), (47, 42, 0, 0, 48)]), (48, [(48, 0, 0, 332, 49), (49, 0, 2, 146, 50), (50, 41, 299, 0, 53), (53, 42, 0, 0, 54)])]
def zc_X7_readUnit : List (Nat × List zx_E) := [(0, [(0, 0, 0, 332, 1), (1, 27, 119, 0, 4), (4, 27, 55, 3, 7), (7, 1, 2, 146, 8), (8, 0, 2, 146, 9), (9, 41, 300, 1, 12), (12, 25, 30, 4, 15), (15, 0, 0, 332, 16), (16, 27, 119, 3, 19), (19, 27, 103, 7, 22), (22, 27, 7, 4, 25), (25, 4, 484, 0, 27), (27, 24, 36, 0, 30)]), (30, [(30, 0, 0, 332, 31), (31, 4, 36, 0, 32), (32, 41, 274, 0, 35), (35, 42, 0, 0, 36)]), (36, [(36, 0, 0, 332, 37), (37, 27, 119, 3, 40), (40, 27, 103, 7, 43), (43, 20, 0, 0, 44), (44, 27, 7, 4, 47), (47, 4, 20, 0, 48), (48, 5, 0, 0, 49), (49, 28, 153092103, 4, 52), (52, 0, 2, 146, 53), (53, 4, 644, 0, 55), (55, 24, 95, 4, 58), (58, 0, 0, 332, 59), (59, 27, 119, 3, 62), (62, 27, 103, 7, 65), (65, 0, 2, 146, 66), (66, 4, 1476, 0, 68), (68, 24, 81, 5, 71), (71, 0, 0, 332, 72), (72, 27, 119, 0, 75), (75, 27, 55, 5, 78), (78, 23, 83, 0, 81)]), (81, [(81, 0, 2, 146, 82), (82, 45, 0, 0, 83)]), (83, [(83, 41, 297, 0, 86), (86, 0, 0, 332, 87), (87, 27, 119, 0, 90), (90, 41, 277, 0, 93), (93, 4, 20, 0, 94), (94, 42, 0, 0, 95)]), (95, [(95, 0, 1, 146, 96), (96, 4, 116, 0, 98), (98, 24, 107, 0, 101), (101, 0, 0, 332, 102), (102, 4, 36, 0, 103), (103, 41, 274, 0, 106), (106, 42, 0, 0, 107)]), (107, [(107, 0, 0, 332, 108), (108, 27, 119, 0, 111), (111, 41, 277, 0, 114), (114, 0, 0, 332, 115), (115, 4, 4, 0, 116), (116, 0, 1, 146, 117), (117, 4, 20, 0, 118), (118, 5, 0, 0, 119), (119, 41, 296, 0, 122), (122, 25, 138, 4, 125), (125, 0, 0, 332, 126), (126, 4, 660, 0, 128), (128, 41, 276, 0, 131), (131, 25, 138, 4, 134), (134, 4, 20, 0, 135), (135, 23, 139, 0, 138)]), (138, [(138, 4, 4, 0, 139)]), (139, [(139, 42, 0, 0, 140)])]
def zc_X7_beginsUnit : List (Nat × List zx_E) := [(0, [(0, 0, 0, 146, 1), (1, 4, 1476, 0, 3), (3, 24, 36, 4, 6), (6, 0, 0, 146, 7), (7, 4, 644, 0, 9), (9, 24, 36, 4, 12), (12, 0, 0, 146, 13), (13, 4, 1700, 0, 15), (15, 24, 36, 4, 18), (18, 0, 0, 146, 19), (19, 4, 1956, 0, 21), (21, 24, 36, 4, 24), (24, 0, 0, 146, 25), (25, 4, 1972, 0, 27), (27, 24, 36, 4, 30), (30, 0, 0, 146, 31), (31, 4, 1988, 0, 33), (33, 24, 40, 5, 36)]), (36, [(36, 4, 20, 0, 37), (37, 23, 41, 0, 40)]), (40, [(40, 4, 4, 0, 41)]), (41, [(41, 42, 0, 0, 42)])]
def zc_X7_readOne : List (Nat × List zx_E) := [(0, [(0, 0, 0, 332, 1), (1, 27, 119, 0, 4), (4, 27, 55, 3, 7), (7, 4, 1940, 0, 9), (9, 24, 57, 5, 12), (12, 0, 1, 146, 13), (13, 4, 116, 0, 15), (15, 24, 24, 0, 18), (18, 0, 0, 332, 19), (19, 4, 36, 0, 20), (20, 41, 274, 0, 23), (23, 42, 0, 0, 24)]), (24, [(24, 0, 0, 332, 25), (25, 27, 119, 0, 28), (28, 41, 277, 0, 31), (31, 0, 0, 332, 32), (32, 0, 1, 146, 33), (33, 4, 20, 0, 34), (34, 5, 0, 0, 35), (35, 41, 301, 0, 38), (38, 25, 43, 5, 41), (41, 4, 4, 0, 42), (42, 42, 0, 0, 43)]), (43, [(43, 0, 0, 332, 44), (44, 27, 119, 3, 47), (47, 27, 103, 7, 50), (50, 4, 68719474804, 0, 52), (52, 41, 297, 0, 55), (55, 4, 20, 0, 56), (56, 42, 0, 0, 57)]), (57, [(57, 0, 0, 332, 58), (58, 4, 36, 0, 59), (59, 0, 1, 146, 60), (60, 41, 296, 0, 63), (63, 25, 68, 5, 66), (66, 4, 4, 0, 67), (67, 42, 0, 0, 68)]), (68, [(68, 0, 0, 332, 69), (69, 27, 119, 0, 72), (72, 27, 55, 3, 75), (75, 1, 2, 146, 76), (76, 0, 2, 146, 77), (77, 4, 964, 0, 79), (79, 24, 96, 4, 82), (82, 0, 2, 146, 83), (83, 4, 996, 0, 85), (85, 24, 96, 4, 88), (88, 0, 2, 146, 89), (89, 4, 980, 0, 91), (91, 24, 96, 4, 94), (94, 4, 20, 0, 95), (95, 42, 0, 0, 96)]), (96, [(96, 0, 0, 332, 97), (97, 27, 119, 0, 100), (100, 41, 277, 0, 103), (103, 0, 0, 332, 104), (104, 4, 36, 0, 105), (105, 0, 1, 146, 106), (106, 41, 296, 0, 109), (109, 25, 114, 5, 112), (112, 4, 4, 0, 113), (113, 42, 0, 0, 114)]), (114, [(114, 0, 0, 332, 115), (115, 27, 119, 3, 118), (118, 27, 103, 7, 121), (121, 0, 2, 146, 122), (122, 45, 0, 0, 123), (123, 41, 297, 0, 126), (126, 4, 20, 0, 127), (127, 42, 0, 0, 128)])]
def zc_X7_joins : List (Nat × List zx_E) := [(0, [(0, 0, 0, 146, 1), (1, 26, 12, 0, 28)]), (28, [(28, 0, 1, 146, 29), (29, 4, 1908, 0, 31), (31, 24, 38, 5, 34), (34, 4, 20, 0, 35), (35, 23, 39, 0, 38)]), (38, [(38, 4, 4, 0, 39)]), (39, [(39, 42, 0, 0, 40)]), (40, [(40, 0, 1, 146, 41), (41, 4, 1924, 0, 43), (43, 24, 50, 5, 46), (46, 4, 20, 0, 47), (47, 23, 51, 0, 50)]), (50, [(50, 4, 4, 0, 51)]), (51, [(51, 42, 0, 0, 52)]), (52, [(52, 0, 1, 146, 53), (53, 4, 692, 0, 55), (55, 24, 64, 4, 58), (58, 0, 1, 146, 59), (59, 4, 724, 0, 61), (61, 24, 68, 5, 64)]), (64, [(64, 4, 20, 0, 65), (65, 23, 69, 0, 68)]), (68, [(68, 4, 4, 0, 69)]), (69, [(69, 42, 0, 0, 70)]), (70, [(70, 0, 1, 146, 71), (71, 4, 676, 0, 73), (73, 24, 88, 4, 76), (76, 0, 1, 146, 77), (77, 4, 756, 0, 79), (79, 24, 88, 4, 82), (82, 0, 1, 146, 83), (83, 4, 596, 0, 85), (85, 24, 92, 5, 88)]), (88, [(88, 4, 20, 0, 89), (89, 23, 93, 0, 92)]), (92, [(92, 4, 4, 0, 93)]), (93, [(93, 42, 0, 0, 94)])]
def zc_X7_readCorner : List (Nat × List zx_E) := [(0, [(0, 0, 0, 332, 1), (1, 27, 119, 0, 4), (4, 41, 277, 0, 7), (7, 0, 0, 332, 8), (8, 41, 305, 0, 11), (11, 1, 1, 146, 12), (12, 0, 0, 332, 13), (13, 27, 119, 3, 16), (16, 0, 1, 146, 17), (17, 41, 101, 0, 20), (20, 25, 25, 5, 23), (23, 4, 4, 0, 24), (24, 42, 0, 0, 25)]), (25, [(25, 0, 0, 332, 26), (26, 4, 4, 0, 27), (27, 0, 0, 332, 28), (28, 27, 119, 3, 31), (31, 27, 103, 0, 34), (34, 0, 1, 146, 35), (35, 33, 9, 0, 36), (36, 4, 20, 0, 37), (37, 6, 0, 0, 38), (38, 41, 293, 0, 41), (41, 1, 2, 146, 42), (42, 0, 2, 146, 43), (43, 4, 68719476724, 0, 44), (44, 24, 56, 4, 47), (47, 0, 0, 332, 48), (48, 4, 1844, 0, 50), (50, 41, 276, 0, 53), (53, 25, 58, 5, 56)]), (56, [(56, 4, 4, 0, 57), (57, 42, 0, 0, 58)]), (58, [(58, 0, 0, 332, 59), (59, 27, 119, 0, 62), (62, 27, 55, 3, 65), (65, 4, 1492, 0, 67), (67, 24, 84, 5, 70), (70, 0, 0, 332, 71), (71, 41, 306, 0, 74), (74, 0, 1, 146, 75), (75, 24, 84, 5, 78), (78, 0, 0, 332, 79), (79, 4, 52, 0, 80), (80, 41, 274, 0, 83), (83, 42, 0, 0, 84)]), (84, [(84, 0, 0, 332, 85), (85, 41, 305, 0, 88), (88, 1, 3, 146, 89), (89, 0, 0, 332, 90), (90, 27, 119, 3, 93), (93, 0, 3, 146, 94), (94, 41, 101, 0, 97), (97, 25, 102, 5, 100), (100, 4, 4, 0, 101), (101, 42, 0, 0, 102)]), (102, [(102, 0, 0, 332, 103), (103, 4, 4, 0, 104), (104, 0, 0, 332, 105), (105, 27, 119, 3, 108), (108, 27, 103, 0, 111), (111, 0, 3, 146, 112), (112, 33, 9, 0, 113), (113, 4, 20, 0, 114), (114, 6, 0, 0, 115), (115, 41, 293, 0, 118), (118, 1, 4, 146, 120), (120, 0, 4, 146, 122), (122, 4, 68719476724, 0, 123), (123, 24, 135, 4, 126), (126, 0, 0, 332, 127), (127, 4, 948, 0, 129), (129, 41, 276, 0, 132), (132, 25, 137, 5, 135)]), (135, [(135, 4, 4, 0, 136), (136, 42, 0, 0, 137)]), (137, [(137, 0, 0, 332, 138), (138, 27, 119, 3, 141), (141, 0, 0, 332, 142), (142, 27, 119, 3, 145), (145, 0, 1, 146, 146), (146, 0, 2, 146, 147), (147, 41, 100, 0, 150), (150, 0, 0, 332, 151), (151, 27, 119, 3, 154), (154, 0, 3, 146, 155), (155, 0, 4, 146, 157), (157, 41, 100, 0, 160), (160, 41, 304, 0, 163), (163, 4, 20, 0, 164), (164, 42, 0, 0, 165)])]
def zc_X6_addCorner : List (Nat × List zx_E) := [(0, [(0, 0, 0, 332, 1), (1, 27, 103, 10, 4), (4, 4, 100, 0, 6), (6, 24, 39, 1, 9), (9, 0, 0, 332, 10), (10, 27, 103, 5, 13), (13, 0, 0, 332, 14), (14, 27, 103, 10, 17), (17, 0, 1, 146, 18), (18, 34, 9, 0, 19), (19, 0, 0, 332, 20), (20, 27, 103, 6, 23), (23, 0, 0, 332, 24), (24, 27, 103, 10, 27), (27, 0, 2, 146, 28), (28, 34, 9, 0, 29), (29, 0, 0, 332, 30), (30, 20, 0, 0, 31), (31, 27, 103, 10, 34), (34, 4, 20, 0, 35), (35, 5, 0, 0, 36), (36, 28, 153092199, 10, 39)]), (39, [(39, 43, 0, 0, 40)])]
def zc_X7_readLaneName : List (Nat × List zx_E) := [(0, [(0, 0, 0, 332, 1), (1, 27, 119, 0, 4), (4, 27, 55, 3, 7), (7, 4, 1492, 0, 9), (9, 24, 20, 4, 12), (12, 0, 0, 332, 13), (13, 4, 36, 0, 14), (14, 41, 274, 0, 17), (17, 21, 0, 0, 18), (18, 4, 68719476724, 0, 19), (19, 42, 0, 0, 20)]), (20, [(20, 0, 0, 332, 21), (21, 41, 306, 0, 24), (24, 1, 1, 146, 25), (25, 0, 1, 146, 26), (26, 4, 68719476724, 0, 27), (27, 24, 38, 5, 30), (30, 0, 0, 332, 31), (31, 4, 84, 0, 32), (32, 41, 274, 0, 35), (35, 21, 0, 0, 36), (36, 4, 68719476724, 0, 37), (37, 42, 0, 0, 38)]), (38, [(38, 0, 0, 332, 39), (39, 27, 119, 0, 42), (42, 41, 277, 0, 45), (45, 0, 1, 146, 46), (46, 42, 0, 0, 47)])]
def zc_X7_laneOfName : List (Nat × List zx_E) := [(0, [(0, 4, 4, 0, 1), (1, 1, 1, 146, 2)]), (2, [(2, 0, 1, 146, 3), (3, 0, 0, 332, 4), (4, 27, 119, 3, 7), (7, 27, 103, 8, 10), (10, 24, 38, 1, 13), (13, 0, 0, 332, 14), (14, 27, 119, 1, 17), (17, 0, 1, 146, 18), (18, 35, 0, 0, 19), (19, 0, 0, 332, 20), (20, 27, 119, 0, 23), (23, 27, 55, 6, 26), (26, 44, 0, 0, 27), (27, 25, 32, 5, 30), (30, 0, 1, 146, 31), (31, 42, 0, 0, 32)]), (32, [(32, 3, 1, 20, 35), (35, 23, 2, 0, 38)]), (38, [(38, 4, 68719476724, 0, 39), (39, 42, 0, 0, 40)])]
def zc_X7_readDoor : List (Nat × List zx_E) := [(0, [(0, 0, 0, 332, 1), (1, 27, 119, 0, 4), (4, 41, 277, 0, 7), (7, 0, 0, 332, 8), (8, 0, 0, 332, 9), (9, 27, 119, 2, 12), (12, 0, 0, 332, 13), (13, 27, 119, 3, 16), (16, 27, 103, 9, 19), (19, 41, 313, 0, 22), (22, 25, 34, 4, 25), (25, 0, 0, 332, 26), (26, 4, 1668, 0, 28), (28, 41, 276, 0, 31), (31, 25, 36, 5, 34)]), (34, [(34, 4, 4, 0, 35), (35, 42, 0, 0, 36)]), (36, [(36, 0, 0, 332, 37), (37, 41, 305, 0, 40), (40, 1, 1, 146, 41), (41, 0, 0, 332, 42), (42, 27, 119, 3, 45), (45, 0, 1, 146, 46), (46, 41, 101, 0, 49), (49, 25, 61, 4, 52), (52, 0, 0, 332, 53), (53, 4, 1684, 0, 55), (55, 41, 276, 0, 58), (58, 25, 63, 5, 61)]), (61, [(61, 4, 4, 0, 62), (62, 42, 0, 0, 63)]), (63, [(63, 0, 0, 332, 64), (64, 27, 119, 3, 67), (67, 27, 103, 0, 70), (70, 0, 1, 146, 71), (71, 33, 9, 0, 72), (72, 1, 2, 146, 73), (73, 0, 0, 332, 74), (74, 4, 4, 0, 75), (75, 0, 2, 146, 76), (76, 4, 20, 0, 77), (77, 6, 0, 0, 78), (78, 41, 293, 0, 81), (81, 1, 3, 146, 82), (82, 0, 3, 146, 83), (83, 4, 68719476724, 0, 84), (84, 24, 96, 4, 87), (87, 0, 0, 332, 88), (88, 4, 1700, 0, 90), (90, 41, 276, 0, 93), (93, 25, 98, 5, 96)]), (96, [(96, 4, 4, 0, 97), (97, 42, 0, 0, 98)]), (98, [(98, 0, 0, 332, 99), (99, 4, 20, 0, 100), (100, 4, 68, 0, 101), (101, 0, 2, 146, 102), (102, 0, 3, 146, 103), (103, 6, 0, 0, 104), (104, 41, 342, 1, 107), (107, 41, 293, 0, 110), (110, 1, 4, 146, 112), (112, 0, 4, 146, 114), (114, 4, 68719476724, 0, 115), (115, 24, 120, 5, 118), (118, 4, 4, 0, 119), (119, 42, 0, 0, 120)]), (120, [(120, 0, 0, 332, 121), (121, 27, 119, 3, 124), (124, 0, 1, 146, 125), (125, 0, 3, 146, 126), (126, 0, 4, 146, 128), (128, 41, 312, 0, 131), (131, 0, 0, 332, 132), (132, 41, 311, 0, 135), (135, 25, 145, 4, 138), (138, 0, 0, 332, 139), (139, 41, 309, 0, 142), (142, 25, 147, 5, 145)]), (145, [(145, 4, 4, 0, 146), (146, 42, 0, 0, 147)]), (147, [(147, 0, 0, 332, 148), (148, 41, 308, 0, 151), (151, 0, 0, 332, 152), (152, 4, 948, 0, 154), (154, 41, 276, 0, 157), (157, 25, 162, 5, 160), (160, 4, 4, 0, 161), (161, 42, 0, 0, 162)]), (162, [(162, 0, 0, 332, 163), (163, 27, 119, 3, 166), (166, 20, 0, 0, 167), (167, 27, 103, 9, 170), (170, 4, 20, 0, 171), (171, 5, 0, 0, 172), (172, 28, 153092199, 9, 175), (175, 4, 20, 0, 176), (176, 42, 0, 0, 177)])]
def zc_X7_readDoorWords : List (Nat × List zx_E) := [(0, [(0, 4, 20, 0, 1), (1, 0, 0, 332, 2), (2, 27, 119, 3, 5), (5, 27, 103, 9, 8), (8, 11, 0, 0, 9), (9, 1, 1, 146, 10), (10, 0, 0, 332, 11), (11, 27, 119, 0, 14), (14, 27, 55, 3, 17), (17, 4, 1780, 0, 19), (19, 24, 42, 5, 22), (22, 0, 0, 332, 23), (23, 27, 119, 3, 26), (26, 20, 0, 0, 27), (27, 27, 103, 13, 30), (30, 0, 1, 146, 31), (31, 9, 0, 0, 32), (32, 28, 153092199, 13, 35), (35, 0, 0, 332, 36), (36, 27, 119, 0, 39), (39, 41, 277, 0, 42)]), (42, [(42, 0, 0, 332, 43), (43, 27, 119, 0, 46), (46, 27, 55, 3, 49), (49, 4, 1796, 0, 51), (51, 24, 74, 5, 54), (54, 0, 0, 332, 55), (55, 27, 119, 3, 58), (58, 20, 0, 0, 59), (59, 27, 103, 14, 62), (62, 0, 1, 146, 63), (63, 9, 0, 0, 64), (64, 28, 153092199, 14, 67), (67, 0, 0, 332, 68), (68, 27, 119, 0, 71), (71, 41, 277, 0, 74)]), (74, [(74, 0, 0, 332, 75), (75, 27, 119, 0, 78), (78, 27, 55, 3, 81), (81, 4, 1812, 0, 83), (83, 24, 106, 5, 86), (86, 0, 0, 332, 87), (87, 27, 119, 3, 90), (90, 20, 0, 0, 91), (91, 27, 103, 15, 94), (94, 0, 1, 146, 95), (95, 9, 0, 0, 96), (96, 28, 153092199, 15, 99), (99, 0, 0, 332, 100), (100, 27, 119, 0, 103), (103, 41, 277, 0, 106)]), (106, [(106, 43, 0, 0, 107)])]
def zc_X7_readSide : List (Nat × List zx_E) := [(0, [(0, 0, 0, 332, 1), (1, 27, 119, 0, 4), (4, 27, 55, 3, 7), (7, 4, 1748, 0, 9), (9, 24, 30, 4, 12), (12, 0, 0, 332, 13), (13, 27, 119, 0, 16), (16, 27, 55, 3, 19), (19, 4, 1764, 0, 21), (21, 24, 30, 4, 24), (24, 0, 0, 332, 25), (25, 4, 36, 0, 26), (26, 41, 274, 0, 29), (29, 42, 0, 0, 30)]), (30, [(30, 0, 0, 332, 31), (31, 27, 119, 0, 34), (34, 27, 55, 3, 37), (37, 4, 1764, 0, 39), (39, 24, 63, 5, 42), (42, 0, 0, 332, 43), (43, 27, 119, 3, 46), (46, 20, 0, 0, 47), (47, 27, 103, 11, 50), (50, 4, 20, 0, 51), (51, 0, 0, 332, 52), (52, 27, 119, 3, 55), (55, 27, 103, 9, 58), (58, 11, 0, 0, 59), (59, 9, 0, 0, 60), (60, 28, 153092199, 11, 63)]), (63, [(63, 0, 0, 332, 64), (64, 27, 119, 3, 67), (67, 41, 310, 0, 70), (70, 25, 79, 4, 73), (73, 0, 0, 332, 74), (74, 4, 52, 0, 75), (75, 41, 274, 0, 78), (78, 42, 0, 0, 79)]), (79, [(79, 0, 0, 332, 80), (80, 27, 119, 0, 83), (83, 41, 277, 0, 86), (86, 4, 20, 0, 87), (87, 42, 0, 0, 88)])]
def zc_X6_draftOverlaps : List (Nat × List zx_E) := [(0, [(0, 0, 0, 332, 1), (1, 27, 103, 9, 4), (4, 4, 164, 0, 6), (6, 24, 11, 0, 9), (9, 4, 4, 0, 10), (10, 42, 0, 0, 11)]), (11, [(11, 4, 4, 0, 12), (12, 1, 1, 146, 13)]), (13, [(13, 0, 1, 146, 14), (14, 0, 0, 332, 15), (15, 27, 103, 9, 18), (18, 24, 122, 1, 21), (21, 0, 0, 332, 22), (22, 27, 103, 2, 25), (25, 0, 1, 146, 26), (26, 33, 9, 0, 27), (27, 0, 0, 332, 28), (28, 27, 103, 2, 31), (31, 0, 0, 332, 32), (32, 27, 103, 9, 35), (35, 33, 9, 0, 36), (36, 24, 116, 5, 39), (39, 0, 0, 332, 40), (40, 27, 103, 11, 43), (43, 0, 1, 146, 44), (44, 41, 12, 5, 47), (47, 0, 0, 332, 48), (48, 27, 103, 11, 51), (51, 0, 0, 332, 52), (52, 27, 103, 9, 55), (55, 41, 12, 5, 58), (58, 24, 116, 5, 61), (61, 0, 0, 332, 62), (62, 27, 103, 3, 65), (65, 0, 1, 146, 66), (66, 33, 9, 0, 67), (67, 0, 0, 332, 68), (68, 27, 103, 3, 71), (71, 0, 0, 332, 72), (72, 27, 103, 9, 75), (75, 33, 9, 0, 76), (76, 0, 0, 332, 77), (77, 27, 103, 4, 80), (80, 0, 0, 332, 81), (81, 27, 103, 9, 84), (84, 33, 9, 0, 85), (85, 5, 0, 0, 86), (86, 24, 116, 1, 89), (89, 0, 0, 332, 90), (90, 27, 103, 3, 93), (93, 0, 0, 332, 94), (94, 27, 103, 9, 97), (97, 33, 9, 0, 98), (98, 0, 0, 332, 99), (99, 27, 103, 3, 102), (102, 0, 1, 146, 103), (103, 33, 9, 0, 104), (104, 0, 0, 332, 105), (105, 27, 103, 4, 108), (108, 0, 1, 146, 109), (109, 33, 9, 0, 110), (110, 5, 0, 0, 111), (111, 24, 116, 1, 114), (114, 4, 20, 0, 115), (115, 42, 0, 0, 116)]), (116, [(116, 3, 1, 20, 119), (119, 23, 13, 0, 122)]), (122, [(122, 4, 4, 0, 123), (123, 42, 0, 0, 124)])]
def zc_X7_readHinge : List (Nat × List zx_E) := [(0, [(0, 0, 0, 332, 1), (1, 27, 119, 0, 4), (4, 27, 55, 3, 7), (7, 4, 1716, 0, 9), (9, 24, 30, 4, 12), (12, 0, 0, 332, 13), (13, 27, 119, 0, 16), (16, 27, 55, 3, 19), (19, 4, 1732, 0, 21), (21, 24, 30, 4, 24), (24, 0, 0, 332, 25), (25, 4, 36, 0, 26), (26, 41, 274, 0, 29), (29, 42, 0, 0, 30)]), (30, [(30, 0, 0, 332, 31), (31, 27, 119, 0, 34), (34, 27, 55, 3, 37), (37, 4, 1732, 0, 39), (39, 24, 63, 5, 42), (42, 0, 0, 332, 43), (43, 27, 119, 3, 46), (46, 20, 0, 0, 47), (47, 27, 103, 12, 50), (50, 4, 20, 0, 51), (51, 0, 0, 332, 52), (52, 27, 119, 3, 55), (55, 27, 103, 9, 58), (58, 11, 0, 0, 59), (59, 9, 0, 0, 60), (60, 28, 153092199, 12, 63)]), (63, [(63, 0, 0, 332, 64), (64, 27, 119, 0, 67), (67, 41, 277, 0, 70), (70, 4, 20, 0, 71), (71, 42, 0, 0, 72)])]
def zc_X6_draftDoor : List (Nat × List zx_E) := [(0, [(0, 0, 0, 332, 1), (1, 27, 103, 9, 4), (4, 4, 164, 0, 6), (6, 24, 39, 1, 9), (9, 0, 0, 332, 10), (10, 27, 103, 2, 13), (13, 0, 0, 332, 14), (14, 27, 103, 9, 17), (17, 0, 1, 146, 18), (18, 34, 9, 0, 19), (19, 0, 0, 332, 20), (20, 27, 103, 3, 23), (23, 0, 0, 332, 24), (24, 27, 103, 9, 27), (27, 0, 2, 146, 28), (28, 34, 9, 0, 29), (29, 0, 0, 332, 30), (30, 27, 103, 4, 33), (33, 0, 0, 332, 34), (34, 27, 103, 9, 37), (37, 0, 3, 146, 38), (38, 34, 9, 0, 39)]), (39, [(39, 43, 0, 0, 40)])]
def zc_X7_readNewName : List (Nat × List zx_E) := [(0, [(0, 0, 0, 332, 1), (1, 27, 119, 0, 4), (4, 27, 55, 3, 7), (7, 4, 1492, 0, 9), (9, 24, 18, 5, 12), (12, 0, 2, 146, 13), (13, 0, 1, 332, 14), (14, 32, 0, 0, 15), (15, 24, 24, 0, 18)]), (18, [(18, 0, 0, 332, 19), (19, 4, 36, 0, 20), (20, 41, 274, 0, 23), (23, 42, 0, 0, 24)]), (24, [(24, 4, 4, 0, 25), (25, 1, 3, 146, 26)]), (26, [(26, 0, 3, 146, 27), (27, 0, 2, 146, 28), (28, 24, 57, 1, 31), (31, 0, 1, 332, 32), (32, 0, 3, 146, 33), (33, 35, 0, 0, 34), (34, 0, 0, 332, 35), (35, 27, 119, 0, 38), (38, 27, 55, 6, 41), (41, 44, 0, 0, 42), (42, 25, 51, 5, 45), (45, 0, 0, 332, 46), (46, 4, 52, 0, 47), (47, 41, 274, 0, 50), (50, 42, 0, 0, 51)]), (51, [(51, 3, 3, 20, 54), (54, 23, 26, 0, 57)]), (57, [(57, 0, 1, 332, 58), (58, 0, 2, 146, 59), (59, 0, 0, 332, 60), (60, 27, 119, 0, 63), (63, 27, 55, 6, 66), (66, 36, 0, 0, 67), (67, 0, 0, 332, 68), (68, 27, 119, 0, 71), (71, 41, 277, 0, 74), (74, 4, 20, 0, 75), (75, 42, 0, 0, 76)])]
def zc_X7_readLane : List (Nat × List zx_E) := [(0, [(0, 0, 0, 332, 1), (1, 27, 119, 0, 4), (4, 41, 277, 0, 7), (7, 0, 0, 332, 8), (8, 0, 0, 332, 9), (9, 27, 119, 1, 12), (12, 0, 0, 332, 13), (13, 27, 119, 3, 16), (16, 27, 103, 8, 19), (19, 41, 313, 0, 22), (22, 25, 34, 4, 25), (25, 0, 0, 332, 26), (26, 4, 1620, 0, 28), (28, 41, 276, 0, 31), (31, 25, 36, 5, 34)]), (34, [(34, 4, 4, 0, 35), (35, 42, 0, 0, 36)]), (36, [(36, 0, 0, 332, 37), (37, 4, 20, 0, 38), (38, 4, 260, 0, 40), (40, 41, 293, 0, 43), (43, 1, 1, 146, 44), (44, 0, 1, 146, 45), (45, 4, 68719476724, 0, 46), (46, 24, 58, 4, 49), (49, 0, 0, 332, 50), (50, 4, 1636, 0, 52), (52, 41, 276, 0, 55), (55, 25, 60, 5, 58)]), (58, [(58, 4, 4, 0, 59), (59, 42, 0, 0, 60)]), (60, [(60, 0, 0, 332, 61), (61, 4, 20, 0, 62), (62, 4, 132, 0, 64), (64, 41, 293, 0, 67), (67, 1, 2, 146, 68), (68, 0, 2, 146, 69), (69, 4, 68719476724, 0, 70), (70, 24, 82, 4, 73), (73, 0, 0, 332, 74), (74, 4, 948, 0, 76), (76, 41, 276, 0, 79), (79, 25, 84, 5, 82)]), (82, [(82, 4, 4, 0, 83), (83, 42, 0, 0, 84)]), (84, [(84, 0, 0, 332, 85), (85, 27, 119, 3, 88), (88, 0, 1, 146, 89), (89, 0, 2, 146, 90), (90, 41, 315, 0, 93), (93, 4, 20, 0, 94), (94, 42, 0, 0, 95)])]
def zc_X6_addLane : List (Nat × List zx_E) := [(0, [(0, 0, 0, 332, 1), (1, 27, 103, 8, 4), (4, 4, 68, 0, 5), (5, 24, 38, 1, 8), (8, 0, 0, 332, 9), (9, 27, 103, 0, 12), (12, 0, 0, 332, 13), (13, 27, 103, 8, 16), (16, 0, 1, 146, 17), (17, 34, 9, 0, 18), (18, 0, 0, 332, 19), (19, 27, 103, 1, 22), (22, 0, 0, 332, 23), (23, 27, 103, 8, 26), (26, 0, 2, 146, 27), (27, 34, 9, 0, 28), (28, 0, 0, 332, 29), (29, 20, 0, 0, 30), (30, 27, 103, 8, 33), (33, 4, 20, 0, 34), (34, 5, 0, 0, 35), (35, 28, 153092199, 8, 38)]), (38, [(38, 43, 0, 0, 39)])]
def zc_X3_restart : List (Nat × List zx_E) := [(0, [(0, 0, 0, 332, 1), (1, 4, 4, 0, 2), (2, 28, 153092151, 2, 5), (5, 0, 0, 332, 6), (6, 41, 277, 0, 9), (9, 43, 0, 0, 10)])]
def zc_X6_clear : List (Nat × List zx_E) := [(0, [(0, 0, 0, 332, 1), (1, 4, 4, 0, 2), (2, 28, 153092199, 8, 5), (5, 0, 0, 332, 6), (6, 4, 4, 0, 7), (7, 28, 153092199, 9, 10), (10, 0, 0, 332, 11), (11, 4, 4, 0, 12), (12, 28, 153092199, 10, 15), (15, 0, 0, 332, 16), (16, 4, 4, 0, 17), (17, 28, 153092199, 11, 20), (20, 0, 0, 332, 21), (21, 4, 4, 0, 22), (22, 28, 153092199, 12, 25), (25, 0, 0, 332, 26), (26, 4, 4, 0, 27), (27, 28, 153092199, 13, 30), (30, 0, 0, 332, 31), (31, 4, 4, 0, 32), (32, 28, 153092199, 14, 35), (35, 0, 0, 332, 36), (36, 4, 4, 0, 37), (37, 28, 153092199, 15, 40), (40, 0, 0, 332, 41), (41, 4, 4, 0, 42), (42, 28, 153092199, 16, 45), (45, 0, 0, 332, 46), (46, 4, 4, 0, 47), (47, 28, 153092199, 17, 50), (50, 0, 0, 332, 51), (51, 27, 103, 7, 54), (54, 41, 318, 0, 57), (57, 43, 0, 0, 58)])]
def zc_X0_clear : List (Nat × List zx_E) := [(0, [(0, 0, 0, 332, 1), (1, 4, 4, 0, 2), (2, 28, 153092103, 2, 5), (5, 0, 0, 332, 6), (6, 4, 4, 0, 7), (7, 28, 153092103, 4, 10), (10, 43, 0, 0, 11)])]
def zc_X12_end : List (Nat × List zx_E) := [(0, [(0, 0, 1, 146, 1), (1, 25, 12, 0, 4), (4, 0, 1, 146, 5), (5, 0, 0, 332, 6), (6, 27, 199, 2, 9), (9, 24, 14, 3, 12)]), (12, [(12, 4, 68719476724, 0, 13), (13, 42, 0, 0, 14)]), (14, [(14, 0, 0, 332, 15), (15, 0, 1, 146, 16), (16, 28, 153092295, 2, 19), (19, 0, 1, 146, 20), (20, 42, 0, 0, 21)])]
def zc_X11_end : List (Nat × List zx_E) := [(0, [(0, 0, 1, 146, 1), (1, 25, 15, 0, 4), (4, 0, 1, 146, 5), (5, 0, 0, 332, 6), (6, 27, 183, 0, 9), (9, 27, 167, 1, 12), (12, 24, 17, 3, 15)]), (15, [(15, 4, 68719476724, 0, 16), (16, 42, 0, 0, 17)]), (17, [(17, 0, 0, 332, 18), (18, 27, 183, 0, 21), (21, 0, 1, 146, 22), (22, 28, 153092263, 1, 25), (25, 0, 1, 146, 26), (26, 42, 0, 0, 27)])]
def zc_X12_feed : List (Nat × List zx_E) := [(0, [(0, 0, 0, 332, 1), (1, 27, 199, 2, 4), (4, 4, 324, 0, 6), (6, 5, 0, 0, 7), (7, 4, 25604, 0, 10), (10, 24, 15, 3, 13), (13, 4, 68719476724, 0, 14), (14, 42, 0, 0, 15)]), (15, [(15, 4, 4, 0, 16), (16, 1, 6, 146, 18)]), (18, [(18, 0, 6, 146, 20), (20, 4, 324, 0, 22), (22, 24, 105, 1, 25), (25, 0, 6, 146, 27), (27, 4, 68, 0, 28), (28, 24, 35, 1, 31), (31, 0, 1, 146, 32), (32, 23, 71, 0, 35)]), (35, [(35, 0, 6, 146, 37), (37, 4, 132, 0, 39), (39, 24, 46, 1, 42), (42, 0, 2, 146, 43), (43, 23, 71, 0, 46)]), (46, [(46, 0, 6, 146, 48), (48, 4, 196, 0, 50), (50, 24, 57, 1, 53), (53, 0, 3, 146, 54), (54, 23, 71, 0, 57)]), (57, [(57, 0, 6, 146, 59), (59, 4, 260, 0, 61), (61, 24, 69, 1, 64), (64, 0, 4, 146, 66), (66, 23, 71, 0, 69)]), (69, [(69, 0, 5, 146, 71)]), (71, [(71, 1, 7, 146, 73), (73, 0, 0, 332, 74), (74, 27, 199, 0, 77), (77, 0, 0, 332, 78), (78, 27, 199, 2, 81), (81, 0, 6, 146, 83), (83, 5, 0, 0, 84), (84, 0, 7, 146, 86), (86, 4, 388, 0, 88), (88, 4, 132, 0, 90), (90, 0, 6, 146, 92), (92, 4, 52, 0, 93), (93, 8, 0, 0, 94), (94, 7, 0, 0, 95), (95, 6, 0, 0, 96), (96, 12, 0, 0, 97), (97, 16, 0, 0, 98), (98, 34, 54, 0, 99), (99, 3, 6, 20, 102), (102, 23, 18, 0, 105)]), (105, [(105, 0, 0, 332, 106), (106, 20, 0, 0, 107), (107, 27, 199, 2, 110), (110, 4, 324, 0, 112), (112, 5, 0, 0, 113), (113, 28, 153092295, 2, 116), (116, 0, 0, 332, 117), (117, 27, 199, 2, 120), (120, 42, 0, 0, 121)])]
def zc_X11_feed : List (Nat × List zx_E) := [(0, [(0, 0, 0, 332, 1), (1, 27, 183, 0, 4), (4, 27, 167, 1, 7), (7, 4, 25284, 0, 10), (10, 24, 15, 3, 13), (13, 4, 68719476724, 0, 14), (14, 42, 0, 0, 15)]), (15, [(15, 0, 0, 332, 16), (16, 27, 183, 0, 19), (19, 0, 1, 146, 20), (20, 41, 323, 0, 23), (23, 0, 0, 332, 24), (24, 27, 183, 0, 27), (27, 0, 2, 146, 28), (28, 41, 323, 0, 31), (31, 0, 0, 332, 32), (32, 27, 183, 0, 35), (35, 0, 3, 146, 36), (36, 41, 323, 0, 39), (39, 0, 0, 332, 40), (40, 27, 183, 0, 43), (43, 0, 4, 146, 45), (45, 41, 323, 0, 48), (48, 0, 0, 332, 49), (49, 27, 183, 0, 52), (52, 0, 5, 146, 54), (54, 41, 323, 0, 57), (57, 0, 0, 332, 58), (58, 27, 183, 0, 61), (61, 27, 167, 1, 64), (64, 42, 0, 0, 65)])]
def zc_X10_append : List (Nat × List zx_E) := [(0, [(0, 4, 388, 0, 2), (2, 1, 2, 146, 3)]), (3, [(3, 0, 2, 146, 4), (4, 25, 48, 0, 7), (7, 0, 0, 332, 8), (8, 27, 167, 1, 11), (11, 0, 0, 332, 12), (12, 27, 167, 0, 15), (15, 32, 0, 0, 16), (16, 24, 42, 1, 19), (19, 0, 0, 332, 20), (20, 27, 167, 0, 23), (23, 0, 0, 332, 24), (24, 27, 167, 1, 27), (27, 0, 1, 146, 28), (28, 0, 2, 146, 29), (29, 12, 0, 0, 30), (30, 16, 0, 0, 31), (31, 34, 54, 0, 32), (32, 0, 0, 332, 33), (33, 20, 0, 0, 34), (34, 27, 167, 1, 37), (37, 4, 20, 0, 38), (38, 5, 0, 0, 39), (39, 28, 153092263, 1, 42)]), (42, [(42, 3, 2, 68719476612, 45), (45, 23, 3, 0, 48)]), (48, [(48, 43, 0, 0, 49)])]
def zc_X12_init_0 : List (Nat × List zx_E) := [(0, [(0, 0, 0, 332, 1), (1, 39, 0, 0, 4), (4, 0, 0, 332, 5), (5, 4, 25924, 0, 8), (8, 31, 1, 0, 10), (10, 28, 348127431, 0, 13), (13, 0, 0, 332, 14), (14, 4, 25604, 0, 17), (17, 31, 1, 0, 19), (19, 28, 348127431, 1, 22), (22, 0, 0, 332, 23), (23, 4, 68719476724, 0, 24), (24, 28, 153092295, 5, 27), (27, 0, 0, 332, 28), (28, 4, 36, 0, 29), (29, 31, 0, 0, 31), (31, 28, 348127431, 11, 34), (34, 0, 0, 332, 35), (35, 4, 36, 0, 36), (36, 31, 0, 0, 38), (38, 28, 348127431, 12, 41), (41, 0, 0, 332, 42), (42, 4, 36, 0, 43), (43, 31, 0, 0, 45), (45, 28, 348127431, 13, 48), (48, 0, 0, 332, 49), (49, 4, 36, 0, 50), (50, 31, 0, 0, 52), (52, 28, 348127431, 14, 55), (55, 0, 0, 332, 56), (56, 4, 36, 0, 57), (57, 31, 0, 0, 59), (59, 28, 348127431, 15, 62), (62, 0, 0, 332, 63), (63, 4, 36, 0, 64), (64, 31, 0, 0, 66), (66, 28, 348127431, 16, 69), (69, 0, 0, 332, 70), (70, 4, 132, 0, 72), (72, 31, 0, 0, 74), (74, 28, 348127431, 17, 77), (77, 0, 0, 332, 78), (78, 4, 132, 0, 80), (80, 31, 0, 0, 82), (82, 28, 348127431, 18, 85), (85, 0, 0, 332, 86), (86, 4, 324, 0, 88), (88, 31, 0, 0, 90), (90, 28, 348127431, 19, 93), (93, 0, 0, 332, 94), (94, 4, 324, 0, 96), (96, 31, 0, 0, 98), (98, 28, 348127431, 20, 101), (101, 0, 0, 332, 102), (102, 4, 324, 0, 104), (104, 31, 0, 0, 106), (106, 28, 348127431, 21, 109), (109, 0, 0, 332, 110), (110, 4, 196, 0, 112), (112, 31, 0, 0, 114), (114, 28, 348127431, 22, 117), (117, 0, 0, 332, 118), (118, 4, 196, 0, 120), (120, 31, 0, 0, 122), (122, 28, 348127431, 23, 125), (125, 0, 0, 332, 126), (126, 4, 196, 0, 128), (128, 31, 0, 0, 130), (130, 28, 348127431, 24, 133), (133, 0, 0, 332, 134), (134, 4, 196, 0, 136), (136, 31, 0, 0, 138), (138, 28, 348127431, 25, 141), (141, 0, 0, 332, 142), (142, 4, 36, 0, 143), (143, 31, 0, 0, 145), (145, 28, 348127431, 26, 148), (148, 0, 0, 332, 149), (149, 4, 36, 0, 150), (150, 31, 0, 0, 152), (152, 28, 348127431, 27, 155), (155, 0, 0, 332, 156), (156, 4, 36, 0, 157), (157, 31, 0, 0, 159), (159, 28, 348127431, 28, 162), (162, 0, 0, 332, 163), (163, 4, 36, 0, 164), (164, 31, 0, 0, 166), (166, 28, 348127431, 29, 169), (169, 0, 0, 332, 170), (170, 4, 36, 0, 171), (171, 31, 0, 0, 173), (173, 28, 348127431, 30, 176), (176, 0, 0, 332, 177), (177, 4, 36, 0, 178), (178, 31, 0, 0, 180), (180, 28, 348127431, 31, 183), (183, 0, 0, 332, 184), (184, 4, 36, 0, 185), (185, 31, 0, 0, 187), (187, 28, 348127431, 32, 190), (190, 0, 0, 332, 191), (191, 4, 36, 0, 192), (192, 31, 2, 0, 194), (194, 28, 348127431, 33, 197), (197, 0, 0, 332, 198), (198, 4, 36, 0, 199), (199, 31, 2, 0, 201), (201, 28, 348127431, 34, 204), (204, 0, 0, 332, 205), (205, 4, 36, 0, 206), (206, 31, 2, 0, 208), (208, 28, 348127431, 35, 211), (211, 0, 0, 332, 212), (212, 4, 132, 0, 214), (214, 31, 6, 0, 216), (216, 28, 348127431, 36, 219), (219, 0, 0, 332, 220), (220, 4, 324, 0, 222), (222, 31, 6, 0, 224), (224, 28, 348127431, 37, 227), (227, 0, 0, 332, 228), (228, 4, 17924, 0, 231), (231, 31, 0, 0, 233), (233, 28, 348127431, 38, 236), (236, 0, 0, 332, 237), (237, 4, 17924, 0, 240), (240, 31, 0, 0, 242), (242, 28, 348127431, 39, 245), (245, 0, 0, 332, 246), (246, 4, 1444, 0, 248), (248, 31, 0, 0, 250), (250, 28, 348127431, 40, 253), (253, 0, 0, 332, 254), (254, 4, 1444, 0, 256), (256, 31, 0, 0, 258), (258, 28, 348127431, 41, 261), (261, 0, 0, 332, 262), (262, 4, 964, 0, 264), (264, 31, 0, 0, 266), (266, 28, 348127431, 42, 269), (269, 0, 0, 332, 270), (270, 4, 260, 0, 272), (272, 31, 0, 0, 274), (274, 28, 348127431, 49, 277), (277, 0, 0, 332, 278), (278, 4, 164, 0, 280), (280, 31, 0, 0, 282), (282, 28, 348127431, 50, 285), (285, 0, 0, 332, 286), (286, 4, 10500, 0, 289), (289, 31, 0, 0, 291), (291, 28, 348127431, 51, 294), (294, 0, 0, 332, 295), (295, 4, 16388, 0, 298), (298, 31, 0, 0, 300), (300, 28, 348127431, 54, 303), (303, 0, 0, 332, 304), (304, 4, 164, 0, 306), (306, 31, 0, 0, 308), (308, 28, 348127431, 55, 311), (311, 0, 0, 332, 312), (312, 4, 1028, 0, 314), (314, 31, 0, 0, 316), (316, 28, 348127431, 56, 319), (319, 0, 0, 332, 320), (320, 4, 16388, 0, 323), (323, 31, 2, 0, 325), (325, 28, 348127431, 58, 328), (328, 0, 0, 332, 329), (329, 4, 1028, 0, 331), (331, 31, 0, 0, 333), (333, 28, 348127431, 59, 336), (336, 0, 0, 332, 337), (337, 4, 1028, 0, 339), (339, 31, 0, 0, 341), (341, 28, 348127431, 60, 344), (344, 0, 0, 332, 345), (345, 4, 1028, 0, 347), (347, 31, 2, 0, 349), (349, 28, 348127431, 62, 352), (352, 0, 0, 332, 353), (353, 4, 16388, 0, 356), (356, 31, 2, 0, 358), (358, 28, 348127431, 63, 361), (361, 0, 0, 332, 362), (362, 4, 484, 0, 364), (364, 31, 0, 0, 366), (366, 28, 348127431, 64, 369), (369, 0, 0, 332, 370), (370, 4, 484, 0, 372), (372, 31, 0, 0, 374), (374, 28, 348127431, 65, 377), (377, 0, 0, 332, 378), (378, 4, 484, 0, 380), (380, 31, 0, 0, 382), (382, 28, 348127431, 66, 385), (385, 0, 0, 332, 386), (386, 4, 484, 0, 388), (388, 31, 0, 0, 390), (390, 28, 348127431, 67, 393), (393, 0, 0, 332, 394), (394, 4, 772, 0, 396), (396, 31, 0, 0, 398), (398, 28, 348127431, 70, 401), (401, 0, 0, 332, 402), (402, 4, 52, 0, 403), (403, 31, 2, 0, 405), (405, 28, 348127431, 71, 408), (408, 0, 0, 332, 409), (409, 41, 267, 0, 412), (412, 0, 0, 332, 413), (413, 41, 232, 0, 416), (416, 43, 0, 0, 417)])]
def zc_X12_init : List (Nat × List zx_E) := zc_X12_init_0
def zc_X11_init : List (Nat × List zx_E) := [(0, [(0, 0, 0, 332, 1), (1, 39, 0, 0, 4), (4, 0, 0, 332, 5), (5, 30, 19807040628566084398389133479, 2, 8), (8, 20, 0, 0, 9), (9, 41, 340, 6, 12), (12, 28, 348127415, 0, 15), (15, 0, 0, 332, 16), (16, 30, 46517678354918840995166574206381388818436118929938231527980395021598199556773638144727862223510352255007202110642636981970511239324893303, 7, 19), (19, 20, 0, 0, 20), (20, 0, 0, 332, 21), (21, 27, 183, 0, 24), (24, 41, 334, 2, 27), (27, 28, 348127415, 1, 30), (30, 0, 0, 332, 31), (31, 30, 441711766194596082395917911290518806743636029855239210209743928395038759, 4, 34), (34, 20, 0, 0, 35), (35, 41, 333, 2, 38), (38, 28, 348127415, 2, 41), (41, 0, 0, 332, 42), (42, 30, 34888258766189130746377393280173316268777857158941142563476551834818398888507920392107784889912764907720910772406187937586393595366080647, 7, 45), (45, 20, 0, 0, 46), (46, 41, 326, 6, 49), (49, 28, 348127415, 3, 52), (52, 0, 0, 332, 53), (53, 4, 52, 0, 54), (54, 31, 8, 0, 57), (57, 28, 348127415, 4, 60), (60, 0, 0, 332, 61), (61, 30, 9850501549098619803071845949875669965022274037285117516171051851634977829484059118400727841601594224296735093555223, 6, 64), (64, 20, 0, 0, 65), (65, 41, 332, 6, 68), (68, 28, 348127415, 5, 71), (71, 0, 0, 332, 72), (72, 30, 46517678354918840995166574206381388818436118408457021586351956936876103323972828915551953445030672092155247075921024242556314456375164999, 7, 75), (75, 20, 0, 0, 76), (76, 41, 331, 6, 79), (79, 28, 348127415, 6, 82), (82, 0, 0, 332, 83), (83, 30, 2085924839766513752339330096697397832999099529641183042163704764904832606550196695465676767383, 5, 86), (86, 20, 0, 0, 87), (87, 41, 330, 6, 90), (90, 28, 348127415, 7, 93), (93, 0, 0, 332, 94), (94, 30, 19807040628566084398389133399, 2, 97), (97, 20, 0, 0, 98), (98, 41, 329, 6, 101), (101, 28, 348127415, 8, 104), (104, 0, 0, 332, 105), (105, 30, 1211642775994771984630199648991052866295722236195534977645434660765182248012404030479313682960836031484542015790981976575967565132979494068966220970335382931434395092761305287370291077882418314423773891771567833176654872587749920389288976374139073524535529818737747423788512084621899158927319203122225783001458386590857511540184518513542392306788595895839548755027054054867047, 18, 108), (108, 20, 0, 0, 109), (109, 41, 327, 6, 112), (112, 28, 348127415, 9, 115), (115, 0, 0, 332, 116), (116, 30, 34888258766189130746377393280173316268777857158941142563476551834818398888507920392107784889912764907720910772406187937586393595366080647, 7, 119), (119, 20, 0, 0, 120), (120, 41, 326, 6, 123), (123, 28, 348127415, 10, 126), (126, 0, 0, 332, 127), (127, 4, 4, 0, 128), (128, 28, 153092279, 11, 131), (131, 4, 4, 0, 132), (132, 1, 1, 146, 133)]), (133, [(133, 0, 1, 146, 134), (134, 0, 0, 332, 135), (135, 27, 183, 4, 138), (138, 32, 0, 0, 139), (139, 24, 161, 1, 142), (142, 0, 0, 332, 143), (143, 27, 183, 4, 146), (146, 0, 1, 146, 147), (147, 30, 34888258766189130746377393280173316268777857158941142563476551834818398888507920392107784889912764907720910772406187937586393595366080647, 7, 150), (150, 20, 0, 0, 151), (151, 41, 326, 6, 154), (154, 38, 0, 0, 155), (155, 3, 1, 20, 158), (158, 23, 133, 0, 161)]), (161, [(161, 43, 0, 0, 162)])]
def zc_X8_init : List (Nat × List zx_E) := [(0, [(0, 0, 0, 332, 1), (1, 39, 0, 0, 4), (4, 0, 0, 332, 5), (5, 4, 4, 0, 6), (6, 28, 153092231, 0, 9), (9, 0, 0, 332, 10), (10, 4, 4, 0, 11), (11, 28, 153092231, 1, 14), (14, 0, 0, 332, 15), (15, 4, 4, 0, 16), (16, 28, 153092231, 2, 19), (19, 0, 0, 332, 20), (20, 4, 4, 0, 21), (21, 28, 153092231, 3, 24), (24, 0, 0, 332, 25), (25, 4, 4, 0, 26), (26, 28, 153092231, 4, 29), (29, 0, 0, 332, 30), (30, 4, 4, 0, 31), (31, 28, 153092231, 5, 34), (34, 0, 0, 332, 35), (35, 4, 164, 0, 37), (37, 31, 0, 0, 39), (39, 28, 348127367, 6, 42), (42, 43, 0, 0, 43)])]
def zc_X6_init : List (Nat × List zx_E) := [(0, [(0, 0, 0, 332, 1), (1, 39, 0, 0, 4), (4, 0, 0, 332, 5), (5, 4, 68, 0, 6), (6, 31, 0, 0, 8), (8, 28, 348127335, 0, 11), (11, 0, 0, 332, 12), (12, 4, 68, 0, 13), (13, 31, 0, 0, 15), (15, 28, 348127335, 1, 18), (18, 0, 0, 332, 19), (19, 4, 164, 0, 21), (21, 31, 0, 0, 23), (23, 28, 348127335, 2, 26), (26, 0, 0, 332, 27), (27, 4, 164, 0, 29), (29, 31, 0, 0, 31), (31, 28, 348127335, 3, 34), (34, 0, 0, 332, 35), (35, 4, 164, 0, 37), (37, 31, 0, 0, 39), (39, 28, 348127335, 4, 42), (42, 0, 0, 332, 43), (43, 4, 100, 0, 45), (45, 31, 0, 0, 47), (47, 28, 348127335, 5, 50), (50, 0, 0, 332, 51), (51, 4, 100, 0, 53), (53, 31, 0, 0, 55), (55, 28, 348127335, 6, 58), (58, 0, 0, 332, 59), (59, 30, 2085924839766513752339330096697397832999099553025209239458151456163789930010725009960597454855, 5, 62), (62, 20, 0, 0, 63), (63, 41, 328, 6, 66), (66, 28, 348127335, 7, 69), (69, 0, 0, 332, 70), (70, 4, 4, 0, 71), (71, 28, 153092199, 8, 74), (74, 0, 0, 332, 75), (75, 4, 4, 0, 76), (76, 28, 153092199, 9, 79), (79, 0, 0, 332, 80), (80, 4, 4, 0, 81), (81, 28, 153092199, 10, 84), (84, 0, 0, 332, 85), (85, 4, 4, 0, 86), (86, 28, 153092199, 11, 89), (89, 0, 0, 332, 90), (90, 4, 4, 0, 91), (91, 28, 153092199, 12, 94), (94, 0, 0, 332, 95), (95, 4, 4, 0, 96), (96, 28, 153092199, 13, 99), (99, 0, 0, 332, 100), (100, 4, 4, 0, 101), (101, 28, 153092199, 14, 104), (104, 0, 0, 332, 105), (105, 4, 4, 0, 106), (106, 28, 153092199, 15, 109), (109, 0, 0, 332, 110), (110, 4, 4, 0, 111), (111, 28, 153092199, 16, 114), (114, 0, 0, 332, 115), (115, 4, 4, 0, 116), (116, 28, 153092199, 17, 119), (119, 43, 0, 0, 120)])]
def zc_X0_init : List (Nat × List zx_E) := [(0, [(0, 0, 0, 332, 1), (1, 39, 0, 0, 4), (4, 0, 0, 332, 5), (5, 4, 4804, 0, 8), (8, 31, 0, 0, 10), (10, 28, 348127239, 0, 13), (13, 0, 0, 332, 14), (14, 4, 484, 0, 16), (16, 31, 0, 0, 18), (18, 28, 348127239, 1, 21), (21, 0, 0, 332, 22), (22, 4, 4, 0, 23), (23, 28, 153092103, 2, 26), (26, 0, 0, 332, 27), (27, 4, 4, 0, 28), (28, 28, 153092103, 3, 31), (31, 0, 0, 332, 32), (32, 4, 4, 0, 33), (33, 28, 153092103, 4, 36), (36, 43, 0, 0, 37)])]
def zc_X5_init : List (Nat × List zx_E) := [(0, [(0, 0, 0, 332, 1), (1, 39, 0, 0, 4), (4, 0, 0, 332, 5), (5, 4, 1028, 0, 7), (7, 31, 0, 0, 9), (9, 28, 348127319, 0, 12), (12, 0, 0, 332, 13), (13, 4, 4, 0, 14), (14, 28, 153092183, 1, 17), (17, 43, 0, 0, 18)])]
def zc_X9_init : List (Nat × List zx_E) := [(0, [(0, 0, 0, 332, 1), (1, 39, 0, 0, 4), (4, 0, 0, 332, 5), (5, 4, 1028, 0, 7), (7, 31, 0, 0, 9), (9, 28, 348127383, 0, 12), (12, 0, 0, 332, 13), (13, 4, 1028, 0, 15), (15, 31, 0, 0, 17), (17, 28, 348127383, 1, 20), (20, 0, 0, 332, 21), (21, 4, 1028, 0, 23), (23, 31, 0, 0, 25), (25, 28, 348127383, 2, 28), (28, 0, 0, 332, 29), (29, 4, 4, 0, 30), (30, 28, 153092247, 3, 33), (33, 0, 0, 332, 34), (34, 4, 4, 0, 35), (35, 28, 153092247, 4, 38), (38, 43, 0, 0, 39)])]
def zc_X4_init : List (Nat × List zx_E) := [(0, [(0, 0, 0, 332, 1), (1, 39, 0, 0, 4), (4, 0, 0, 332, 5), (5, 4, 164, 0, 7), (7, 31, 0, 0, 9), (9, 28, 348127303, 0, 12), (12, 0, 0, 332, 13), (13, 4, 164, 0, 15), (15, 31, 0, 0, 17), (17, 28, 348127303, 1, 20), (20, 0, 0, 332, 21), (21, 4, 164, 0, 23), (23, 31, 0, 0, 25), (25, 28, 348127303, 2, 28), (28, 0, 0, 332, 29), (29, 4, 16388, 0, 32), (32, 31, 0, 0, 34), (34, 28, 348127303, 3, 37), (37, 0, 0, 332, 38), (38, 4, 16388, 0, 41), (41, 31, 2, 0, 43), (43, 28, 348127303, 4, 46), (46, 0, 0, 332, 47), (47, 4, 4, 0, 48), (48, 28, 153092167, 5, 51), (51, 0, 0, 332, 52), (52, 4, 4, 0, 53), (53, 28, 153092167, 6, 56), (56, 43, 0, 0, 57)])]
def zc_X1_init : List (Nat × List zx_E) := [(0, [(0, 0, 0, 332, 1), (1, 39, 0, 0, 4), (4, 0, 0, 332, 5), (5, 4, 484, 0, 7), (7, 31, 0, 0, 9), (9, 28, 348127255, 0, 12), (12, 0, 0, 332, 13), (13, 4, 484, 0, 15), (15, 31, 0, 0, 17), (17, 28, 348127255, 1, 20), (20, 0, 0, 332, 21), (21, 4, 484, 0, 23), (23, 31, 0, 0, 25), (25, 28, 348127255, 2, 28), (28, 0, 0, 332, 29), (29, 4, 484, 0, 31), (31, 31, 0, 0, 33), (33, 28, 348127255, 3, 36), (36, 0, 0, 332, 37), (37, 4, 4, 0, 38), (38, 28, 153092119, 4, 41), (41, 0, 0, 332, 42), (42, 4, 4, 0, 43), (43, 28, 153092119, 5, 46), (46, 43, 0, 0, 47)])]
def zc_X2_init : List (Nat × List zx_E) := [(0, [(0, 0, 0, 332, 1), (1, 39, 0, 0, 4), (4, 0, 0, 332, 5), (5, 4, 644, 0, 7), (7, 31, 8, 0, 10), (10, 28, 348127271, 0, 13), (13, 0, 0, 332, 14), (14, 4, 4, 0, 15), (15, 28, 153092135, 1, 18), (18, 0, 0, 332, 19), (19, 4, 4, 0, 20), (20, 28, 153092135, 2, 23), (23, 0, 0, 332, 24), (24, 4, 4, 0, 25), (25, 28, 153092135, 3, 28), (28, 4, 4, 0, 29), (29, 1, 1, 146, 30)]), (30, [(30, 0, 1, 146, 31), (31, 0, 0, 332, 32), (32, 27, 39, 0, 35), (35, 32, 0, 0, 36), (36, 24, 58, 1, 39), (39, 0, 0, 332, 40), (40, 27, 39, 0, 43), (43, 0, 1, 146, 44), (44, 30, 34888258766189130746377393280173316268777857158941142563476551834818398888507920392107784889912764907720910772406187937586393595366080647, 7, 47), (47, 20, 0, 0, 48), (48, 41, 326, 6, 51), (51, 38, 0, 0, 52), (52, 3, 1, 20, 55), (55, 23, 30, 0, 58)]), (58, [(58, 43, 0, 0, 59)])]
def zc_X7_init : List (Nat × List zx_E) := [(0, [(0, 0, 0, 332, 1), (1, 39, 0, 0, 4), (4, 0, 0, 332, 5), (5, 4, 68, 0, 6), (6, 31, 6, 0, 8), (8, 28, 348127351, 1, 11), (11, 0, 0, 332, 12), (12, 4, 164, 0, 14), (14, 31, 6, 0, 16), (16, 28, 348127351, 2, 19), (19, 0, 0, 332, 20), (20, 30, 1211642775994771984630199648991052866295722236195534977645434660765182248012404030479313682960836031484542015790981976575967565132979494068966220970335382931434395092761305287370291077882418314423773891771567833176654872587749920389288976374139073524535529818737747423788512084621899158927319203122225783001458386590857511540184518513542392306788595895839548755027054054867047, 18, 23), (23, 20, 0, 0, 24), (24, 41, 327, 6, 27), (27, 28, 348127351, 3, 30), (30, 0, 0, 332, 31), (31, 4, 4, 0, 32), (32, 28, 153092215, 4, 35), (35, 0, 0, 332, 36), (36, 4, 4, 0, 37), (37, 28, 153092215, 5, 40), (40, 0, 0, 332, 41), (41, 4, 68719476724, 0, 42), (42, 28, 153092215, 6, 45), (45, 0, 0, 332, 46), (46, 30, 58147097943648551243955755132589461368094380700935320492484238208598856108136653938545898512753199005665311458854945474317979747884204087, 7, 49), (49, 20, 0, 0, 50), (50, 0, 1, 332, 51), (51, 41, 335, 2, 54), (54, 28, 348127351, 0, 57), (57, 43, 0, 0, 58)])]
def zc_X3_init : List (Nat × List zx_E) := [(0, [(0, 0, 0, 332, 1), (1, 39, 0, 0, 4), (4, 0, 0, 332, 5), (5, 4, 404, 0, 7), (7, 31, 6, 0, 9), (9, 28, 348127287, 1, 12), (12, 0, 0, 332, 13), (13, 4, 4, 0, 14), (14, 28, 153092151, 2, 17), (17, 0, 0, 332, 18), (18, 4, 1444, 0, 20), (20, 28, 153092151, 3, 23), (23, 0, 0, 332, 24), (24, 4, 4, 0, 25), (25, 28, 153092151, 4, 28), (28, 0, 0, 332, 29), (29, 4, 4, 0, 30), (30, 28, 153092151, 5, 33), (33, 0, 0, 332, 34), (34, 4, 5, 25, 35), (35, 28, 33554487, 6, 38), (38, 0, 0, 332, 39), (39, 0, 1, 332, 40), (40, 28, 348127287, 0, 43), (43, 4, 4, 0, 44), (44, 1, 2, 146, 45), (45, 4, 4, 0, 46), (46, 1, 3, 146, 47)]), (47, [(47, 0, 3, 146, 48), (48, 4, 22, 0, 50), (50, 41, 280, 0, 53), (53, 24, 106, 1, 56), (56, 0, 2, 146, 57), (57, 4, 404, 0, 59), (59, 24, 106, 1, 62), (62, 4, 22, 0, 64), (64, 0, 3, 146, 65), (65, 41, 336, 0, 68), (68, 4, 516, 0, 70), (70, 24, 79, 5, 73), (73, 3, 2, 20, 76), (76, 23, 100, 0, 79)]), (79, [(79, 0, 0, 332, 80), (80, 27, 55, 1, 83), (83, 0, 2, 146, 84), (84, 0, 0, 332, 85), (85, 27, 55, 1, 88), (88, 0, 2, 146, 89), (89, 35, 0, 0, 90), (90, 4, 22, 0, 92), (92, 0, 3, 146, 93), (93, 41, 336, 0, 96), (96, 41, 292, 1, 99), (99, 36, 0, 0, 100)]), (100, [(100, 3, 3, 20, 103), (103, 23, 47, 0, 106)]), (106, [(106, 43, 0, 0, 107)])]
def zc_J0_charAt_5068e : List (Nat × List zx_E) := [(0, [(0, 0, 0, 332, 1), (1, 41, 285, 0, 4), (4, 25, 16, 4, 7), (7, 0, 0, 332, 8), (8, 29, 0, 0, 11), (11, 0, 1, 146, 12), (12, 41, 339, 1, 15), (15, 42, 0, 0, 16)]), (16, [(16, 0, 0, 332, 17), (17, 29, 0, 0, 20), (20, 0, 1, 146, 21), (24, 42, 0, 0, 25)])]
def zc_J0_checkIndex_df160 : List (Nat × List zx_E) := [(0, [(0, 0, 0, 146, 1), (1, 0, 1, 146, 2), (2, 4, 8, 0, 5), (5, 41, 338, 1, 8), (8, 21, 0, 0, 9), (9, 43, 0, 0, 10)])]
def zc_J3_checkIndex_8e157 : List (Nat × List zx_E) := [(0, [(0, 0, 0, 146, 1), (1, 25, 9, 0, 4), (4, 0, 0, 146, 5), (5, 0, 1, 146, 6), (6, 24, 16, 0, 9)]), (9, [(9, 0, 2, 332, 10), (10, 0, 0, 146, 11), (11, 0, 1, 146, 12)]), (16, [(16, 0, 0, 146, 17), (17, 42, 0, 0, 18)])]
def zc_J1_charAt_3b067 : List (Nat × List zx_E) := [(0, [(0, 0, 1, 146, 1), (1, 0, 0, 332, 2), (2, 32, 0, 0, 3), (3, 41, 337, 1, 6), (6, 0, 0, 332, 7), (7, 0, 1, 146, 8), (8, 33, 54, 0, 9), (9, 4, 4084, 0, 12), (12, 8, 0, 0, 13), (13, 17, 0, 0, 14), (14, 42, 0, 0, 15)])]
def zc_X10_init : List (Nat × List zx_E) := [(0, [(0, 0, 0, 332, 1), (1, 39, 0, 0, 4), (4, 0, 0, 332, 5), (5, 4, 25604, 0, 8), (8, 31, 1, 0, 10), (10, 28, 348127399, 0, 13), (13, 0, 0, 332, 14), (14, 4, 4, 0, 15), (15, 28, 153092263, 1, 18), (18, 43, 0, 0, 19)])]
def zc_J9_max_7cf53 : List (Nat × List zx_E) := [(0, [(0, 0, 0, 146, 1), (1, 0, 1, 146, 2), (2, 24, 9, 0, 5), (5, 0, 0, 146, 6), (6, 23, 10, 0, 9)]), (9, [(9, 0, 1, 146, 10)]), (10, [(10, 42, 0, 0, 11)])]
def zc_J9_min_7cf53 : List (Nat × List zx_E) := [(0, [(0, 0, 0, 146, 1), (1, 0, 1, 146, 2), (2, 24, 9, 2, 5), (5, 0, 0, 146, 6), (6, 23, 10, 0, 9)]), (9, [(9, 0, 1, 146, 10)]), (10, [(10, 42, 0, 0, 11)])]
def zm_0 : zx_M := ((⟨"LaneDoorsModel", "about", "(I)I"⟩, prog_14_method_135_code, 2, (some .int)), (12, 0, 2, 0, 0, 1), zc_X12_about)
def zm_1 : zx_M := ((⟨"LaneDoorsModel", "many", "()I"⟩, prog_14_method_46_code, 1, (some .int)), (12, 0, 1, 0, 0, 1), zc_X12_many)
def zm_2 : zx_M := ((⟨"LaneDoors", "about", "(I)I"⟩, prog_1_method_52_code, 2, (some .int)), (11, 0, 2, 0, 0, 1), zc_X11_about)
def zm_3 : zx_M := ((⟨"LaneDoors$History", "undone", "()I"⟩, prog_4_method_4_code, 1, (some .int)), (2, 0, 1, 0, 0, 1), zc_X2_undone)
def zm_4 : zx_M := ((⟨"LaneDoors$History", "done", "()I"⟩, prog_4_method_3_code, 1, (some .int)), (2, 0, 1, 0, 0, 1), zc_X2_done)
def zm_5 : zx_M := ((⟨"LaneDoorsModel", "back", "(I)I"⟩, prog_14_method_134_code, 3, (some .int)), (12, 0, 2, 0, 0, 1), zc_X12_back)
def zm_6 : zx_M := ((⟨"LaneDoorsModel", "bitsOf", "(I)I"⟩, prog_14_method_44_code, 3, (some .int)), (12, 1, 1, 0, 0, 1), zc_X12_bitsOf)
def zm_7 : zx_M := ((⟨"LaneDoorsModel", "isIn", "(III)Z"⟩, prog_14_method_43_code, 3, (some .boolean)), (12, 1, 3, 0, 0, 2), zc_X12_isIn)
def zm_8 : zx_M := ((⟨"LaneDoors", "back", "(I)I"⟩, prog_1_method_51_code, 2, (some .int)), (11, 0, 2, 0, 0, 1), zc_X11_back)
def zm_9 : zx_M := ((⟨"java/lang/Integer", "bitCount", "(I)I"⟩, prog_16_method_49_code, 1, (some .int)), (15, 1, 1, 0, 0, 1), zc_J6_bitCount_0f7a4)
def zm_10 : zx_M := ((⟨"LaneDoors$History", "forget", "()V"⟩, prog_4_method_2_code, 1, none), (2, 0, 1, 0, 0, 0), zc_X2_forget)
def zm_11 : zx_M := ((⟨"LaneDoors$State", "copy", "(LLaneDoors$State;)V"⟩, prog_10_method_3_code, 2, none), (8, 0, 2, 0, 0, 0), zc_X8_copy)
def zm_12 : zx_M := ((⟨"LaneDoors", "bit", "(II)I"⟩, prog_1_method_53_code, 2, (some .int)), (11, 1, 2, 0, 0, 1), zc_X11_bit)
def zm_13 : zx_M := ((⟨"LaneDoorsModel", "image", "(I)I"⟩, prog_14_method_133_code, 3, (some .int)), (12, 0, 2, 0, 0, 1), zc_X12_image)
def zm_14 : zx_M := ((⟨"LaneDoors", "image", "(I)I"⟩, prog_1_method_50_code, 2, (some .int)), (11, 0, 2, 0, 0, 1), zc_X11_image)
def zm_15 : zx_M := ((⟨"LaneDoorsModel", "ahead", "(IIII)I"⟩, prog_14_method_132_code, 5, (some .int)), (12, 0, 5, 0, 0, 1), zc_X12_ahead)
def zm_16 : zx_M := ((⟨"LaneDoorsModel", "layWays", "(III)I"⟩, prog_14_method_92_code, 6, (some .int)), (12, 0, 4, 0, 0, 1), zc_X12_layWays)
def zm_17 : zx_M := ((⟨"LaneDoorsModel", "comesNext", "(IIIII)Z"⟩, prog_14_method_91_code, 6, (some .boolean)), (12, 0, 6, 0, 0, 2), zc_X12_comesNext)
def zm_18 : zx_M := ((⟨"LaneDoorsModel", "canOpen", "(III)Z"⟩, prog_14_method_60_code, 4, (some .boolean)), (12, 0, 4, 0, 0, 2), zc_X12_canOpen)
def zm_19 : zx_M := ((⟨"LaneDoorsModel", "has", "(II)Z"⟩, prog_14_method_45_code, 2, (some .boolean)), (12, 1, 2, 0, 0, 2), zc_X12_has)
def zm_20 : zx_M := ((⟨"LaneDoorsModel", "moving", "()I"⟩, prog_14_method_59_code, 1, (some .int)), (12, 0, 1, 0, 0, 1), zc_X12_moving)
def zm_21 : zx_M := ((⟨"LaneDoorsModel", "layHeard", "(I)V"⟩, prog_14_method_129_code, 3, none), (12, 0, 2, 0, 0, 0), zc_X12_layHeard)
def zm_22 : zx_M := ((⟨"LaneDoorsModel", "clearAhead", "()V"⟩, prog_14_method_93_code, 2, none), (12, 0, 1, 0, 0, 0), zc_X12_clearAhead)
def zm_23 : zx_M := ((⟨"LaneDoorsModel", "layHinderers", "(I)V"⟩, prog_14_method_58_code, 4, none), (12, 0, 2, 0, 0, 0), zc_X12_layHinderers)
def zm_24 : zx_M := ((⟨"LaneDoorsModel", "doesHinder", "(III)Z"⟩, prog_14_method_57_code, 4, (some .boolean)), (12, 0, 4, 0, 0, 2), zc_X12_doesHinder)
def zm_25 : zx_M := ((⟨"LaneDoorsModel", "wide", "(I)I"⟩, prog_14_method_53_code, 2, (some .int)), (12, 0, 2, 0, 0, 1), zc_X12_wide)
def zm_26 : zx_M := ((⟨"LaneDoorsModel", "lane", "(I)I"⟩, prog_14_method_50_code, 2, (some .int)), (12, 0, 2, 0, 0, 1), zc_X12_lane)
def zm_27 : zx_M := ((⟨"LaneDoorsModel", "reach", "(I)I"⟩, prog_14_method_54_code, 2, (some .int)), (12, 0, 2, 0, 0, 1), zc_X12_reach)
def zm_28 : zx_M := ((⟨"LaneDoorsModel", "broad", "(I)I"⟩, prog_14_method_51_code, 2, (some .int)), (12, 0, 2, 0, 0, 1), zc_X12_broad)
def zm_29 : zx_M := ((⟨"LaneDoorsModel", "first", "(I)I"⟩, prog_14_method_52_code, 2, (some .int)), (12, 0, 2, 0, 0, 1), zc_X12_first)
def zm_30 : zx_M := ((⟨"LaneDoorsModel", "hingeOf", "(II)I"⟩, prog_14_method_55_code, 3, (some .int)), (12, 0, 3, 0, 0, 1), zc_X12_hingeOf)
def zm_31 : zx_M := ((⟨"LaneDoorsModel", "isSouth", "(I)Z"⟩, prog_14_method_56_code, 2, (some .boolean)), (12, 0, 2, 0, 0, 2), zc_X12_isSouth)
def zm_32 : zx_M := ((⟨"LaneDoorsModel", "isDoor", "(I)Z"⟩, prog_14_method_47_code, 2, (some .boolean)), (12, 0, 2, 0, 0, 2), zc_X12_isDoor)
def zm_33 : zx_M := ((⟨"LaneDoorsModel", "isTale", "(I)Z"⟩, prog_14_method_128_code, 2, (some .boolean)), (12, 0, 2, 0, 0, 2), zc_X12_isTale)
def zm_34 : zx_M := ((⟨"LaneDoorsModel", "isSet", "(I)Z"⟩, prog_14_method_49_code, 2, (some .boolean)), (12, 0, 2, 0, 0, 2), zc_X12_isSet)
def zm_35 : zx_M := ((⟨"LaneDoors", "ahead", "(IIII)I"⟩, prog_1_method_49_code, 5, (some .int)), (11, 0, 5, 0, 0, 1), zc_X11_ahead)
def zm_36 : zx_M := ((⟨"LaneDoors$Opener", "countOrders", "(I)I"⟩, prog_6_method_7_code, 3, (some .int)), (4, 0, 2, 0, 0, 1), zc_X4_countOrders)
def zm_37 : zx_M := ((⟨"LaneDoors$Opener", "countOnward", "(II)I"⟩, prog_6_method_8_code, 5, (some .int)), (4, 0, 3, 0, 0, 1), zc_X4_countOnward)
def zm_38 : zx_M := ((⟨"LaneDoors$Opener", "comesNext", "(III)Z"⟩, prog_6_method_9_code, 4, (some .boolean)), (4, 0, 4, 0, 0, 2), zc_X4_comesNext)
def zm_39 : zx_M := ((⟨"LaneDoors", "isPart", "(II)Z"⟩, prog_1_method_54_code, 2, (some .boolean)), (11, 1, 2, 0, 0, 2), zc_X11_isPart)
def zm_40 : zx_M := ((⟨"LaneDoors$Opener", "yieldsBehind", "(II)Z"⟩, prog_6_method_10_code, 3, (some .boolean)), (4, 0, 3, 0, 0, 2), zc_X4_yieldsBehind)
def zm_41 : zx_M := ((⟨"LaneDoors$Opener", "putAhead", "(II)V"⟩, prog_6_method_4_code, 3, none), (4, 0, 3, 0, 0, 0), zc_X4_putAhead)
def zm_42 : zx_M := ((⟨"LaneDoors", "startTales", "(II)V"⟩, prog_1_method_65_code, 4, none), (11, 0, 3, 0, 0, 0), zc_X11_startTales)
def zm_43 : zx_M := ((⟨"LaneDoors$Hearsay", "counts", "(II)Z"⟩, prog_3_method_5_code, 3, (some .boolean)), (1, 0, 3, 0, 0, 2), zc_X1_counts)
def zm_44 : zx_M := ((⟨"LaneDoors$Opener", "startFrom", "(II)V"⟩, prog_6_method_3_code, 3, none), (4, 0, 3, 0, 0, 0), zc_X4_startFrom)
def zm_45 : zx_M := ((⟨"java/util/Arrays", "fill", "([II)V"⟩, prog_22_method_103_code, 4, none), (16, 1, 2, 0, 0, 0), zc_J7_fill_53178)
def zm_46 : zx_M := ((⟨"LaneDoors$Opener", "look", "(LLaneDoors$Plan;I)V"⟩, prog_6_method_2_code, 4, none), (4, 0, 3, 0, 0, 0), zc_X4_look)
def zm_47 : zx_M := ((⟨"LaneDoors$Plan", "hinderers", "(II)I"⟩, prog_8_method_15_code, 5, (some .int)), (6, 0, 3, 0, 0, 1), zc_X6_hinderers)
def zm_48 : zx_M := ((⟨"LaneDoors$Plan", "standsAgainst", "(III)Z"⟩, prog_8_method_14_code, 5, (some .boolean)), (6, 0, 4, 0, 0, 2), zc_X6_standsAgainst)
def zm_49 : zx_M := ((⟨"LaneDoors$Plan", "reach", "(I)I"⟩, prog_8_method_12_code, 2, (some .int)), (6, 0, 2, 0, 0, 1), zc_X6_reach)
def zm_50 : zx_M := ((⟨"LaneDoors$Plan", "isDoor", "(I)Z"⟩, prog_8_method_8_code, 2, (some .boolean)), (6, 0, 2, 0, 0, 2), zc_X6_isDoor)
def zm_51 : zx_M := ((⟨"LaneDoors$Plan", "hingePlace", "(II)I"⟩, prog_8_method_13_code, 3, (some .int)), (6, 0, 3, 0, 0, 1), zc_X6_hingePlace)
def zm_52 : zx_M := ((⟨"LaneDoors", "isTaleSet", "(I)Z"⟩, prog_1_method_60_code, 2, (some .boolean)), (11, 0, 2, 0, 0, 2), zc_X11_isTaleSet)
def zm_53 : zx_M := ((⟨"LaneDoors$Plan", "allDoors", "()I"⟩, prog_8_method_9_code, 1, (some .int)), (6, 0, 1, 0, 0, 1), zc_X6_allDoors)
def zm_54 : zx_M := ((⟨"LaneDoorsModel", "firsts", "(II)I"⟩, prog_14_method_131_code, 5, (some .int)), (12, 0, 3, 0, 0, 1), zc_X12_firsts)
def zm_55 : zx_M := ((⟨"LaneDoors", "firsts", "(II)I"⟩, prog_1_method_48_code, 3, (some .int)), (11, 0, 3, 0, 0, 1), zc_X11_firsts)
def zm_56 : zx_M := ((⟨"LaneDoors$Opener", "firstDoors", "(I)I"⟩, prog_6_method_12_code, 2, (some .int)), (4, 0, 2, 0, 0, 1), zc_X4_firstDoors)
def zm_57 : zx_M := ((⟨"LaneDoors$Opener", "doorsOnward", "(II)I"⟩, prog_6_method_13_code, 5, (some .int)), (4, 0, 3, 0, 0, 1), zc_X4_doorsOnward)
def zm_58 : zx_M := ((⟨"LaneDoorsModel", "tales", "(II)I"⟩, prog_14_method_130_code, 4, (some .int)), (12, 0, 3, 0, 0, 1), zc_X12_tales)
def zm_59 : zx_M := ((⟨"LaneDoorsModel", "layFirst", "(III)V"⟩, prog_14_method_94_code, 6, none), (12, 0, 4, 0, 0, 0), zc_X12_layFirst)
def zm_60 : zx_M := ((⟨"LaneDoors", "tales", "(II)I"⟩, prog_1_method_47_code, 4, (some .int)), (11, 0, 3, 0, 0, 1), zc_X11_tales)
def zm_61 : zx_M := ((⟨"LaneDoors$Opener", "pileFirstOrder", "(ILLaneDoors$Pile;)V"⟩, prog_6_method_11_code, 6, none), (4, 0, 3, 0, 0, 0), zc_X4_pileFirstOrder)
def zm_62 : zx_M := ((⟨"LaneDoors$Pile", "put", "(I)V"⟩, prog_7_method_3_code, 2, none), (5, 0, 2, 0, 0, 0), zc_X5_put)
def zm_63 : zx_M := ((⟨"LaneDoors$Opener", "firstOf", "(I)I"⟩, prog_6_method_14_code, 1, (some .int)), (4, 1, 1, 0, 0, 1), zc_X4_firstOf)
def zm_64 : zx_M := ((⟨"java/lang/Integer", "numberOfTrailingZeros", "(I)I"⟩, prog_16_method_48_code, 2, (some .int)), (15, 1, 1, 0, 0, 1), zc_J6_numberOfTrailingZeros_0f7a4)
def zm_65 : zx_M := ((⟨"LaneDoors$Pile", "clear", "()V"⟩, prog_7_method_2_code, 1, none), (5, 0, 1, 0, 0, 0), zc_X5_clear)
def zm_66 : zx_M := ((⟨"LaneDoorsModel", "later", "(I)I"⟩, prog_14_method_127_code, 2, (some .int)), (12, 0, 2, 0, 0, 1), zc_X12_later)
def zm_67 : zx_M := ((⟨"LaneDoors", "later", "(I)I"⟩, prog_1_method_46_code, 2, (some .int)), (11, 0, 2, 0, 0, 1), zc_X11_later)
def zm_68 : zx_M := ((⟨"LaneDoorsModel", "untell", "(I)Z"⟩, prog_14_method_126_code, 2, (some .boolean)), (12, 0, 2, 0, 0, 2), zc_X12_untell)
def zm_69 : zx_M := ((⟨"LaneDoors", "untell", "(I)Z"⟩, prog_1_method_45_code, 2, (some .boolean)), (11, 0, 2, 0, 0, 2), zc_X11_untell)
def zm_70 : zx_M := ((⟨"LaneDoors$Hearsay", "takeBack", "(I)Z"⟩, prog_3_method_4_code, 2, (some .boolean)), (1, 0, 2, 0, 0, 2), zc_X1_takeBack)
def zm_71 : zx_M := ((⟨"LaneDoorsModel", "heard", "(II)I"⟩, prog_14_method_125_code, 3, (some .int)), (12, 0, 3, 0, 0, 1), zc_X12_heard)
def zm_72 : zx_M := ((⟨"LaneDoors", "heard", "(II)I"⟩, prog_1_method_44_code, 3, (some .int)), (11, 0, 3, 0, 0, 1), zc_X11_heard)
def zm_73 : zx_M := ((⟨"LaneDoors$Hearsay", "tell", "(II)I"⟩, prog_3_method_3_code, 3, (some .int)), (1, 0, 3, 0, 0, 1), zc_X1_tell)
def zm_74 : zx_M := ((⟨"LaneDoorsModel", "lies", "(I)I"⟩, prog_14_method_90_code, 2, (some .int)), (12, 0, 2, 0, 0, 1), zc_X12_lies)
def zm_75 : zx_M := ((⟨"LaneDoors", "lies", "(I)I"⟩, prog_1_method_43_code, 2, (some .int)), (11, 0, 2, 0, 0, 1), zc_X11_lies)
def zm_76 : zx_M := ((⟨"LaneDoors$Pile", "at", "(I)I"⟩, prog_7_method_4_code, 2, (some .int)), (5, 0, 2, 0, 0, 1), zc_X5_at)
def zm_77 : zx_M := ((⟨"LaneDoorsModel", "race", "(II)I"⟩, prog_14_method_124_code, 6, (some .int)), (12, 0, 3, 0, 0, 1), zc_X12_race)
def zm_78 : zx_M := ((⟨"LaneDoorsModel", "winsBy", "(II)I"⟩, prog_14_method_123_code, 4, (some .int)), (12, 0, 3, 0, 0, 1), zc_X12_winsBy)
def zm_79 : zx_M := ((⟨"LaneDoors", "race", "(II)I"⟩, prog_1_method_42_code, 4, (some .int)), (11, 0, 3, 0, 0, 1), zc_X11_race)
def zm_80 : zx_M := ((⟨"LaneDoors$Opener", "winningDoor", "(II)I"⟩, prog_6_method_23_code, 6, (some .int)), (4, 0, 3, 0, 0, 1), zc_X4_winningDoor)
def zm_81 : zx_M := ((⟨"LaneDoors$Opener", "winningMove", "(II)I"⟩, prog_6_method_24_code, 4, (some .int)), (4, 0, 3, 0, 0, 1), zc_X4_winningMove)
def zm_82 : zx_M := ((⟨"LaneDoors$State", "ready", "(LLaneDoors$Plan;)I"⟩, prog_10_method_4_code, 2, (some .int)), (8, 0, 2, 0, 0, 1), zc_X8_ready)
def zm_83 : zx_M := ((⟨"LaneDoorsModel", "make", "(IIIII)I"⟩, prog_14_method_122_code, 9, (some .int)), (12, 0, 6, 0, 0, 1), zc_X12_make)
def zm_84 : zx_M := ((⟨"LaneDoorsModel", "wayBy", "(IIIIIII)I"⟩, prog_14_method_115_code, 8, (some .int)), (12, 0, 8, 0, 0, 1), zc_X12_wayBy)
def zm_85 : zx_M := ((⟨"LaneDoorsModel", "laySteps", "(IIII)V"⟩, prog_14_method_113_code, 10, none), (12, 0, 5, 0, 0, 0), zc_X12_laySteps)
def zm_86 : zx_M := ((⟨"LaneDoorsModel", "comeTo", "(IIIII)V"⟩, prog_14_method_112_code, 6, none), (12, 0, 6, 0, 0, 0), zc_X12_comeTo)
def zm_87 : zx_M := ((⟨"LaneDoorsModel", "isFreeFor", "(IIII)Z"⟩, prog_14_method_111_code, 5, (some .boolean)), (12, 0, 5, 0, 0, 2), zc_X12_isFreeFor)
def zm_88 : zx_M := ((⟨"LaneDoorsModel", "freeAt", "(III)I"⟩, prog_14_method_67_code, 6, (some .int)), (12, 0, 4, 0, 0, 1), zc_X12_freeAt)
def zm_89 : zx_M := ((⟨"LaneDoorsModel", "isPlace", "(II)Z"⟩, prog_14_method_66_code, 3, (some .boolean)), (12, 0, 3, 0, 0, 2), zc_X12_isPlace)
def zm_90 : zx_M := ((⟨"LaneDoorsModel", "isLane", "(I)Z"⟩, prog_14_method_48_code, 2, (some .boolean)), (12, 0, 2, 0, 0, 2), zc_X12_isLane)
def zm_91 : zx_M := ((⟨"LaneDoorsModel", "areFit", "(IIIII)Z"⟩, prog_14_method_114_code, 6, (some .boolean)), (12, 0, 6, 0, 0, 2), zc_X12_areFit)
def zm_92 : zx_M := ((⟨"LaneDoors", "make", "(IIIII)I"⟩, prog_1_method_41_code, 11, (some .int)), (11, 0, 6, 0, 0, 1), zc_X11_make)
def zm_93 : zx_M := ((⟨"LaneDoors$Streets", "stepsBetween", "(LLaneDoors$Plan;III)I"⟩, prog_11_method_5_code, 5, (some .int)), (9, 0, 5, 0, 0, 1), zc_X9_stepsBetween)
def zm_94 : zx_M := ((⟨"LaneDoors$Streets", "stepsTo", "(I)I"⟩, prog_11_method_4_code, 2, (some .int)), (9, 0, 2, 0, 0, 1), zc_X9_stepsTo)
def zm_95 : zx_M := ((⟨"LaneDoors$Streets", "walkFrom", "(LLaneDoors$Plan;III)I"⟩, prog_11_method_7_code, 5, (some .int)), (9, 0, 5, 0, 0, 1), zc_X9_walkFrom)
def zm_96 : zx_M := ((⟨"LaneDoors$Streets", "walkOn", "(LLaneDoors$Plan;III)I"⟩, prog_11_method_8_code, 10, (some .int)), (9, 0, 5, 0, 0, 1), zc_X9_walkOn)
def zm_97 : zx_M := ((⟨"LaneDoors$Streets", "stepTo", "(IIII)V"⟩, prog_11_method_9_code, 5, none), (9, 0, 5, 0, 0, 0), zc_X9_stepTo)
def zm_98 : zx_M := ((⟨"LaneDoors$Streets", "freeAt", "(I)I"⟩, prog_11_method_3_code, 2, (some .int)), (9, 0, 2, 0, 0, 1), zc_X9_freeAt)
def zm_99 : zx_M := ((⟨"LaneDoors$Streets", "measure", "(LLaneDoors$Plan;II)V"⟩, prog_11_method_2_code, 6, none), (9, 0, 4, 0, 0, 0), zc_X9_measure)
def zm_100 : zx_M := ((⟨"LaneDoors$Plan", "spot", "(II)I"⟩, prog_8_method_10_code, 3, (some .int)), (6, 0, 3, 0, 0, 1), zc_X6_spot)
def zm_101 : zx_M := ((⟨"LaneDoors$Plan", "isLane", "(I)Z"⟩, prog_8_method_7_code, 2, (some .boolean)), (6, 0, 2, 0, 0, 2), zc_X6_isLane)
def zm_102 : zx_M := ((⟨"LaneDoors$Plan", "isSpot", "(I)Z"⟩, prog_8_method_11_code, 2, (some .boolean)), (6, 0, 2, 0, 0, 2), zc_X6_isSpot)
def zm_103 : zx_M := ((⟨"LaneDoors", "isCart", "(I)Z"⟩, prog_1_method_56_code, 1, (some .boolean)), (11, 1, 1, 0, 0, 2), zc_X11_isCart)
def zm_104 : zx_M := ((⟨"LaneDoorsModel", "way", "(IIIII)I"⟩, prog_14_method_116_code, 6, (some .int)), (12, 0, 6, 0, 0, 1), zc_X12_way)
def zm_105 : zx_M := ((⟨"LaneDoors", "way", "(IIIII)I"⟩, prog_1_method_40_code, 8, (some .int)), (11, 0, 6, 0, 0, 1), zc_X11_way)
def zm_106 : zx_M := ((⟨"LaneDoorsModel", "needs", "(IIIII)I"⟩, prog_14_method_121_code, 7, (some .int)), (12, 0, 6, 0, 0, 1), zc_X12_needs)
def zm_107 : zx_M := ((⟨"LaneDoors", "needs", "(IIIII)I"⟩, prog_1_method_39_code, 9, (some .int)), (11, 0, 6, 0, 0, 1), zc_X11_needs)
def zm_108 : zx_M := ((⟨"LaneDoors", "spotNumber", "(I)I"⟩, prog_1_method_58_code, 1, (some .int)), (11, 1, 1, 0, 0, 1), zc_X11_spotNumber)
def zm_109 : zx_M := ((⟨"LaneDoors$Streets", "isNeeded", "(LLaneDoors$Plan;IIII)Z"⟩, prog_11_method_6_code, 6, (some .boolean)), (9, 0, 6, 0, 0, 2), zc_X9_isNeeded)
def zm_110 : zx_M := ((⟨"LaneDoorsModel", "calm", "()I"⟩, prog_14_method_85_code, 4, (some .int)), (12, 0, 1, 0, 0, 1), zc_X12_calm)
def zm_111 : zx_M := ((⟨"LaneDoorsModel", "blownBy", "(II)I"⟩, prog_14_method_82_code, 7, (some .int)), (12, 0, 3, 0, 0, 1), zc_X12_blownBy)
def zm_112 : zx_M := ((⟨"LaneDoorsModel", "blows", "(I)I"⟩, prog_14_method_81_code, 2, (some .int)), (12, 0, 2, 0, 0, 1), zc_X12_blows)
def zm_113 : zx_M := ((⟨"LaneDoors", "calm", "()I"⟩, prog_1_method_38_code, 2, (some .int)), (11, 0, 1, 0, 0, 1), zc_X11_calm)
def zm_114 : zx_M := ((⟨"LaneDoors$State", "blow", "(LLaneDoors$Plan;)I"⟩, prog_10_method_8_code, 5, (some .int)), (8, 0, 2, 0, 0, 1), zc_X8_blow)
def zm_115 : zx_M := ((⟨"LaneDoors$State", "setOpen", "(I)V"⟩, prog_10_method_7_code, 2, none), (8, 0, 2, 0, 0, 0), zc_X8_setOpen)
def zm_116 : zx_M := ((⟨"LaneDoors$State", "openable", "(LLaneDoors$Plan;)I"⟩, prog_10_method_5_code, 4, (some .int)), (8, 0, 2, 0, 0, 1), zc_X8_openable)
def zm_117 : zx_M := ((⟨"LaneDoorsModel", "parts", "(II)I"⟩, prog_14_method_120_code, 7, (some .int)), (12, 0, 3, 0, 0, 1), zc_X12_parts)
def zm_118 : zx_M := ((⟨"LaneDoors", "parts", "(II)I"⟩, prog_1_method_37_code, 4, (some .int)), (11, 0, 3, 0, 0, 1), zc_X11_parts)
def zm_119 : zx_M := ((⟨"LaneDoors$Streets", "splitIntoParts", "(LLaneDoors$Plan;I)I"⟩, prog_11_method_11_code, 5, (some .int)), (9, 0, 3, 0, 0, 1), zc_X9_splitIntoParts)
def zm_120 : zx_M := ((⟨"LaneDoors", "isZeroOrOne", "(I)Z"⟩, prog_1_method_55_code, 1, (some .boolean)), (11, 1, 1, 0, 0, 2), zc_X11_isZeroOrOne)
def zm_121 : zx_M := ((⟨"LaneDoorsModel", "far", "(III)I"⟩, prog_14_method_119_code, 6, (some .int)), (12, 0, 4, 0, 0, 1), zc_X12_far)
def zm_122 : zx_M := ((⟨"LaneDoors", "far", "(III)I"⟩, prog_1_method_36_code, 6, (some .int)), (11, 0, 4, 0, 0, 1), zc_X11_far)
def zm_123 : zx_M := ((⟨"LaneDoors$Streets", "farthest", "()I"⟩, prog_11_method_10_code, 3, (some .int)), (9, 0, 1, 0, 0, 1), zc_X9_farthest)
def zm_124 : zx_M := ((⟨"LaneDoorsModel", "spread", "(III)I"⟩, prog_14_method_118_code, 4, (some .int)), (12, 0, 4, 0, 0, 1), zc_X12_spread)
def zm_125 : zx_M := ((⟨"LaneDoors", "spread", "(III)I"⟩, prog_1_method_35_code, 5, (some .int)), (11, 0, 4, 0, 0, 1), zc_X11_spread)
def zm_126 : zx_M := ((⟨"LaneDoorsModel", "widest", "(IIII)I"⟩, prog_14_method_117_code, 6, (some .int)), (12, 0, 5, 0, 0, 1), zc_X12_widest)
def zm_127 : zx_M := ((⟨"LaneDoors", "widest", "(IIII)I"⟩, prog_1_method_34_code, 8, (some .int)), (11, 0, 5, 0, 0, 1), zc_X11_widest)
def zm_128 : zx_M := ((⟨"LaneDoorsModel", "narrow", "(II)I"⟩, prog_14_method_110_code, 5, (some .int)), (12, 0, 3, 0, 0, 1), zc_X12_narrow)
def zm_129 : zx_M := ((⟨"LaneDoors", "narrow", "(II)I"⟩, prog_1_method_33_code, 5, (some .int)), (11, 0, 3, 0, 0, 1), zc_X11_narrow)
def zm_130 : zx_M := ((⟨"LaneDoorsModel", "good", "(I)I"⟩, prog_14_method_109_code, 6, (some .int)), (12, 0, 2, 0, 0, 1), zc_X12_good)
def zm_131 : zx_M := ((⟨"LaneDoorsModel", "mostBy", "(II)I"⟩, prog_14_method_99_code, 5, (some .int)), (12, 0, 3, 0, 0, 1), zc_X12_mostBy)
def zm_132 : zx_M := ((⟨"LaneDoorsModel", "layComes", "(III)V"⟩, prog_14_method_98_code, 6, none), (12, 0, 4, 0, 0, 0), zc_X12_layComes)
def zm_133 : zx_M := ((⟨"LaneDoorsModel", "isIdle", "(I)Z"⟩, prog_14_method_74_code, 2, (some .boolean)), (12, 0, 2, 0, 0, 2), zc_X12_isIdle)
def zm_134 : zx_M := ((⟨"LaneDoors", "good", "(I)I"⟩, prog_1_method_32_code, 7, (some .int)), (11, 0, 2, 0, 0, 1), zc_X11_good)
def zm_135 : zx_M := ((⟨"LaneDoors", "mostOpen", "(II)I"⟩, prog_1_method_61_code, 3, (some .int)), (11, 0, 3, 0, 0, 1), zc_X11_mostOpen)
def zm_136 : zx_M := ((⟨"LaneDoors$Opener", "mostOpen", "()I"⟩, prog_6_method_19_code, 3, (some .int)), (4, 0, 1, 0, 0, 1), zc_X4_mostOpen)
def zm_137 : zx_M := ((⟨"LaneDoors$Opener", "isReached", "(I)Z"⟩, prog_6_method_18_code, 2, (some .boolean)), (4, 0, 2, 0, 0, 2), zc_X4_isReached)
def zm_138 : zx_M := ((⟨"LaneDoors$Opener", "markReached", "()V"⟩, prog_6_method_17_code, 3, none), (4, 0, 1, 0, 0, 0), zc_X4_markReached)
def zm_139 : zx_M := ((⟨"LaneDoors$Opener", "lastOf", "(I)I"⟩, prog_6_method_16_code, 3, (some .int)), (4, 0, 2, 0, 0, 1), zc_X4_lastOf)
def zm_140 : zx_M := ((⟨"LaneDoorsModel", "gusts", "(I)I"⟩, prog_14_method_84_code, 5, (some .int)), (12, 0, 2, 0, 0, 1), zc_X12_gusts)
def zm_141 : zx_M := ((⟨"LaneDoors", "gusts", "(I)I"⟩, prog_1_method_31_code, 3, (some .int)), (11, 0, 2, 0, 0, 1), zc_X11_gusts)
def zm_142 : zx_M := ((⟨"LaneDoorsModel", "push", "(IIII)I"⟩, prog_14_method_78_code, 5, (some .int)), (12, 0, 5, 0, 0, 1), zc_X12_push)
def zm_143 : zx_M := ((⟨"LaneDoorsModel", "pushedBy", "(IIII)I"⟩, prog_14_method_77_code, 10, (some .int)), (12, 0, 5, 0, 0, 1), zc_X12_pushedBy)
def zm_144 : zx_M := ((⟨"LaneDoors", "push", "(IIII)I"⟩, prog_1_method_30_code, 5, (some .int)), (11, 0, 5, 0, 0, 1), zc_X11_push)
def zm_145 : zx_M := ((⟨"LaneDoors", "pushedShut", "(IIII)I"⟩, prog_1_method_64_code, 7, (some .int)), (11, 0, 5, 0, 0, 1), zc_X11_pushedShut)
def zm_146 : zx_M := ((⟨"LaneDoors$State", "pushedBy", "(LLaneDoors$Plan;III)I"⟩, prog_10_method_9_code, 11, (some .int)), (8, 0, 5, 0, 0, 1), zc_X8_pushedBy)
def zm_147 : zx_M := ((⟨"LaneDoorsModel", "vow", "(I)I"⟩, prog_14_method_108_code, 6, (some .int)), (12, 0, 2, 0, 0, 1), zc_X12_vow)
def zm_148 : zx_M := ((⟨"LaneDoors", "vow", "(I)I"⟩, prog_1_method_29_code, 7, (some .int)), (11, 0, 2, 0, 0, 1), zc_X11_vow)
def zm_149 : zx_M := ((⟨"LaneDoorsModel", "ask", "(I)I"⟩, prog_14_method_107_code, 2, (some .int)), (12, 0, 2, 0, 0, 1), zc_X12_ask)
def zm_150 : zx_M := ((⟨"LaneDoors", "ask", "(I)I"⟩, prog_1_method_28_code, 2, (some .int)), (11, 0, 2, 0, 0, 1), zc_X11_ask)
def zm_151 : zx_M := ((⟨"LaneDoorsModel", "turn", "(II)I"⟩, prog_14_method_106_code, 6, (some .int)), (12, 0, 3, 0, 0, 1), zc_X12_turn)
def zm_152 : zx_M := ((⟨"LaneDoorsModel", "ordersBy", "(II)I"⟩, prog_14_method_95_code, 3, (some .int)), (12, 0, 3, 0, 0, 1), zc_X12_ordersBy)
def zm_153 : zx_M := ((⟨"LaneDoorsModel", "isShutSet", "(I)Z"⟩, prog_14_method_96_code, 2, (some .boolean)), (12, 0, 2, 0, 0, 2), zc_X12_isShutSet)
def zm_154 : zx_M := ((⟨"LaneDoors", "turn", "(II)I"⟩, prog_1_method_27_code, 4, (some .int)), (11, 0, 3, 0, 0, 1), zc_X11_turn)
def zm_155 : zx_M := ((⟨"LaneDoors", "countOrBits", "(II)I"⟩, prog_1_method_57_code, 2, (some .int)), (11, 1, 2, 0, 0, 1), zc_X11_countOrBits)
def zm_156 : zx_M := ((⟨"LaneDoors", "fewestTurned", "(I)I"⟩, prog_1_method_63_code, 5, (some .int)), (11, 0, 2, 0, 0, 1), zc_X11_fewestTurned)
def zm_157 : zx_M := ((⟨"LaneDoors$Opener", "hasOrder", "(I)Z"⟩, prog_6_method_15_code, 5, (some .boolean)), (4, 0, 2, 0, 0, 2), zc_X4_hasOrder)
def zm_158 : zx_M := ((⟨"LaneDoors", "isShutSet", "(I)Z"⟩, prog_1_method_59_code, 2, (some .boolean)), (11, 0, 2, 0, 0, 2), zc_X11_isShutSet)
def zm_159 : zx_M := ((⟨"LaneDoorsModel", "never", "(I)I"⟩, prog_14_method_105_code, 5, (some .int)), (12, 0, 2, 0, 0, 1), zc_X12_never)
def zm_160 : zx_M := ((⟨"LaneDoors", "never", "(I)I"⟩, prog_1_method_26_code, 5, (some .int)), (11, 0, 2, 0, 0, 1), zc_X11_never)
def zm_161 : zx_M := ((⟨"LaneDoors", "neverBoth", "(III)Z"⟩, prog_1_method_62_code, 4, (some .boolean)), (11, 0, 4, 0, 0, 2), zc_X11_neverBoth)
def zm_162 : zx_M := ((⟨"LaneDoorsModel", "feast", "(II)I"⟩, prog_14_method_104_code, 6, (some .int)), (12, 0, 3, 0, 0, 1), zc_X12_feast)
def zm_163 : zx_M := ((⟨"LaneDoorsModel", "oils", "(I)I"⟩, prog_14_method_103_code, 4, (some .int)), (12, 0, 2, 0, 0, 1), zc_X12_oils)
def zm_164 : zx_M := ((⟨"LaneDoorsModel", "oilOf", "(I)I"⟩, prog_14_method_41_code, 5, (some .int)), (12, 0, 2, 0, 0, 1), zc_X12_oilOf)
def zm_165 : zx_M := ((⟨"LaneDoorsModel", "two", "(III)I"⟩, prog_14_method_39_code, 3, (some .int)), (12, 1, 3, 0, 0, 1), zc_X12_two)
def zm_166 : zx_M := ((⟨"LaneDoorsModel", "asked", "(III)I"⟩, prog_14_method_40_code, 4, (some .int)), (12, 0, 4, 0, 0, 1), zc_X12_asked)
def zm_167 : zx_M := ((⟨"LaneDoorsModel", "isLetter", "(I)Z"⟩, prog_14_method_3_code, 1, (some .boolean)), (12, 1, 1, 0, 0, 2), zc_X12_isLetter)
def zm_168 : zx_M := ((⟨"LaneDoors", "feast", "(II)I"⟩, prog_1_method_25_code, 4, (some .int)), (11, 0, 3, 0, 0, 1), zc_X11_feast)
def zm_169 : zx_M := ((⟨"LaneDoors$Opener", "priceOf", "(I)I"⟩, prog_6_method_6_code, 4, (some .int)), (4, 0, 2, 0, 0, 1), zc_X4_priceOf)
def zm_170 : zx_M := ((⟨"LaneDoors$Opener", "cheapest", "(I)I"⟩, prog_6_method_22_code, 4, (some .int)), (4, 0, 2, 0, 0, 1), zc_X4_cheapest)
def zm_171 : zx_M := ((⟨"LaneDoors$Opener", "setPrice", "(II)V"⟩, prog_6_method_5_code, 3, none), (4, 0, 3, 0, 0, 0), zc_X4_setPrice)
def zm_172 : zx_M := ((⟨"LaneDoors$State", "oilOf", "(LLaneDoors$Plan;I)I"⟩, prog_10_method_6_code, 4, (some .int)), (8, 0, 3, 0, 0, 1), zc_X8_oilOf)
def zm_173 : zx_M := ((⟨"LaneDoors$Formula", "value", "(IIII)I"⟩, prog_2_method_4_code, 7, (some .int)), (0, 0, 5, 0, 0, 1), zc_X0_value)
def zm_174 : zx_M := ((⟨"LaneDoors$Formula", "take", "()I"⟩, prog_2_method_9_code, 1, (some .int)), (0, 0, 1, 0, 0, 1), zc_X0_take)
def zm_175 : zx_M := ((⟨"LaneDoors$Formula", "putOther", "(I)V"⟩, prog_2_method_5_code, 4, none), (0, 0, 2, 0, 0, 0), zc_X0_putOther)
def zm_176 : zx_M := ((⟨"LaneDoors$Formula", "put", "(I)V"⟩, prog_2_method_8_code, 2, none), (0, 0, 2, 0, 0, 0), zc_X0_put)
def zm_177 : zx_M := ((⟨"LaneDoors$Formula", "joined", "(III)I"⟩, prog_2_method_6_code, 3, (some .int)), (0, 1, 3, 0, 0, 1), zc_X0_joined)
def zm_178 : zx_M := ((⟨"LaneDoors$Formula", "truth", "(Z)I"⟩, prog_2_method_7_code, 1, (some .int)), (0, 1, 1, 0, 0, 1), zc_X0_truth)
def zm_179 : zx_M := ((⟨"LaneDoorsModel", "stuck", "(I)I"⟩, prog_14_method_102_code, 4, (some .int)), (12, 0, 2, 0, 0, 1), zc_X12_stuck)
def zm_180 : zx_M := ((⟨"LaneDoorsModel", "isStuck", "(I)Z"⟩, prog_14_method_101_code, 3, (some .boolean)), (12, 0, 2, 0, 0, 2), zc_X12_isStuck)
def zm_181 : zx_M := ((⟨"LaneDoors", "stuck", "(I)I"⟩, prog_1_method_24_code, 2, (some .int)), (11, 0, 2, 0, 0, 1), zc_X11_stuck)
def zm_182 : zx_M := ((⟨"LaneDoors$Opener", "fewestStuck", "()I"⟩, prog_6_method_20_code, 3, (some .int)), (4, 0, 1, 0, 0, 1), zc_X4_fewestStuck)
def zm_183 : zx_M := ((⟨"LaneDoors$Opener", "isStuck", "(I)Z"⟩, prog_6_method_21_code, 3, (some .boolean)), (4, 0, 2, 0, 0, 2), zc_X4_isStuck)
def zm_184 : zx_M := ((⟨"LaneDoorsModel", "most", "(I)I"⟩, prog_14_method_100_code, 3, (some .int)), (12, 0, 2, 0, 0, 1), zc_X12_most)
def zm_185 : zx_M := ((⟨"LaneDoors", "most", "(I)I"⟩, prog_1_method_23_code, 2, (some .int)), (11, 0, 2, 0, 0, 1), zc_X11_most)
def zm_186 : zx_M := ((⟨"LaneDoorsModel", "orders", "(I)I"⟩, prog_14_method_97_code, 3, (some .int)), (12, 0, 2, 0, 0, 1), zc_X12_orders)
def zm_187 : zx_M := ((⟨"LaneDoors", "orders", "(I)I"⟩, prog_1_method_22_code, 3, (some .int)), (11, 0, 2, 0, 0, 1), zc_X11_orders)
def zm_188 : zx_M := ((⟨"LaneDoorsModel", "redo", "()Z"⟩, prog_14_method_89_code, 1, (some .boolean)), (12, 0, 1, 0, 0, 2), zc_X12_redo)
def zm_189 : zx_M := ((⟨"LaneDoorsModel", "exchange", "()V"⟩, prog_14_method_71_code, 3, none), (12, 0, 1, 0, 0, 0), zc_X12_exchange)
def zm_190 : zx_M := ((⟨"LaneDoors", "redo", "()Z"⟩, prog_1_method_21_code, 1, (some .boolean)), (11, 0, 1, 0, 0, 2), zc_X11_redo)
def zm_191 : zx_M := ((⟨"LaneDoors$History", "stepOn", "(LLaneDoors$State;)LLaneDoors$State;"⟩, prog_4_method_7_code, 3, (some (.object "LaneDoors$State"))), (2, 0, 2, 0, 0, 6), zc_X2_stepOn)
def zm_192 : zx_M := ((⟨"LaneDoors$History", "swap", "(LLaneDoors$State;)LLaneDoors$State;"⟩, prog_4_method_8_code, 3, (some (.object "LaneDoors$State"))), (2, 0, 2, 0, 0, 6), zc_X2_swap)
def zm_193 : zx_M := ((⟨"LaneDoors$History", "at", "(I)I"⟩, prog_4_method_9_code, 2, (some .int)), (2, 0, 2, 0, 0, 1), zc_X2_at)
def zm_194 : zx_M := ((⟨"java/lang/Math", "floorMod", "(II)I"⟩, prog_17_method_50_code, 3, (some .int)), (17, 1, 2, 0, 0, 1), zc_J9_floorMod_7cf53)
def zm_195 : zx_M := ((⟨"LaneDoorsModel", "undo", "()Z"⟩, prog_14_method_88_code, 1, (some .boolean)), (12, 0, 1, 0, 0, 2), zc_X12_undo)
def zm_196 : zx_M := ((⟨"LaneDoors", "undo", "()Z"⟩, prog_1_method_20_code, 1, (some .boolean)), (11, 0, 1, 0, 0, 2), zc_X11_undo)
def zm_197 : zx_M := ((⟨"LaneDoors$History", "stepBack", "(LLaneDoors$State;)LLaneDoors$State;"⟩, prog_4_method_6_code, 2, (some (.object "LaneDoors$State"))), (2, 0, 2, 0, 0, 6), zc_X2_stepBack)
def zm_198 : zx_M := ((⟨"LaneDoorsModel", "wind", "()I"⟩, prog_14_method_83_code, 3, (some .int)), (12, 0, 1, 0, 0, 1), zc_X12_wind)
def zm_199 : zx_M := ((⟨"LaneDoorsModel", "one", "(II)I"⟩, prog_14_method_62_code, 2, (some .int)), (12, 1, 2, 0, 0, 1), zc_X12_one)
def zm_200 : zx_M := ((⟨"LaneDoorsModel", "keepAct", "()V"⟩, prog_14_method_70_code, 2, none), (12, 0, 1, 0, 0, 0), zc_X12_keepAct)
def zm_201 : zx_M := ((⟨"LaneDoors", "wind", "()I"⟩, prog_1_method_19_code, 1, (some .int)), (11, 0, 1, 0, 0, 1), zc_X11_wind)
def zm_202 : zx_M := ((⟨"LaneDoors$History", "keep", "(LLaneDoors$State;)V"⟩, prog_4_method_5_code, 2, none), (2, 0, 2, 0, 0, 0), zc_X2_keep)
def zm_203 : zx_M := ((⟨"LaneDoorsModel", "day", "()I"⟩, prog_14_method_80_code, 1, (some .int)), (12, 0, 1, 0, 0, 1), zc_X12_day)
def zm_204 : zx_M := ((⟨"LaneDoors", "day", "()I"⟩, prog_1_method_18_code, 1, (some .int)), (11, 0, 1, 0, 0, 1), zc_X11_day)
def zm_205 : zx_M := ((⟨"LaneDoorsModel", "cart", "(IIII)I"⟩, prog_14_method_79_code, 6, (some .int)), (12, 0, 5, 0, 0, 1), zc_X12_cart)
def zm_206 : zx_M := ((⟨"LaneDoors", "cart", "(IIII)I"⟩, prog_1_method_17_code, 6, (some .int)), (11, 0, 5, 0, 0, 1), zc_X11_cart)
def zm_207 : zx_M := ((⟨"LaneDoorsModel", "off", "(I)Z"⟩, prog_14_method_76_code, 2, (some .boolean)), (12, 0, 2, 0, 0, 2), zc_X12_off)
def zm_208 : zx_M := ((⟨"LaneDoors", "off", "(I)Z"⟩, prog_1_method_16_code, 2, (some .boolean)), (11, 0, 2, 0, 0, 2), zc_X11_off)
def zm_209 : zx_M := ((⟨"LaneDoorsModel", "hinge", "(I)I"⟩, prog_14_method_75_code, 2, (some .int)), (12, 0, 2, 0, 0, 1), zc_X12_hinge)
def zm_210 : zx_M := ((⟨"LaneDoors", "hinge", "(I)I"⟩, prog_1_method_15_code, 2, (some .int)), (11, 0, 2, 0, 0, 1), zc_X11_hinge)
def zm_211 : zx_M := ((⟨"LaneDoorsModel", "shut", "(I)Z"⟩, prog_14_method_73_code, 2, (some .boolean)), (12, 0, 2, 0, 0, 2), zc_X12_shut)
def zm_212 : zx_M := ((⟨"LaneDoors", "shut", "(I)Z"⟩, prog_1_method_14_code, 2, (some .boolean)), (11, 0, 2, 0, 0, 2), zc_X11_shut)
def zm_213 : zx_M := ((⟨"LaneDoorsModel", "open", "(I)I"⟩, prog_14_method_72_code, 2, (some .int)), (12, 0, 2, 0, 0, 1), zc_X12_open)
def zm_214 : zx_M := ((⟨"LaneDoorsModel", "can", "(I)I"⟩, prog_14_method_64_code, 2, (some .int)), (12, 0, 2, 0, 0, 1), zc_X12_can)
def zm_215 : zx_M := ((⟨"LaneDoors", "open", "(I)I"⟩, prog_1_method_13_code, 3, (some .int)), (11, 0, 2, 0, 0, 1), zc_X11_open)
def zm_216 : zx_M := ((⟨"LaneDoorsModel", "sum", "(I)I"⟩, prog_14_method_86_code, 6, (some .int)), (12, 0, 2, 0, 0, 1), zc_X12_sum)
def zm_217 : zx_M := ((⟨"LaneDoors", "sum", "(I)I"⟩, prog_1_method_12_code, 5, (some .int)), (11, 0, 2, 0, 0, 1), zc_X11_sum)
def zm_218 : zx_M := ((⟨"LaneDoorsModel", "oil", "(I)I"⟩, prog_14_method_69_code, 2, (some .int)), (12, 0, 2, 0, 0, 1), zc_X12_oil)
def zm_219 : zx_M := ((⟨"LaneDoors", "oil", "(I)I"⟩, prog_1_method_11_code, 2, (some .int)), (11, 0, 2, 0, 0, 1), zc_X11_oil)
def zm_220 : zx_M := ((⟨"LaneDoorsModel", "pairs", "(I)I"⟩, prog_14_method_87_code, 7, (some .int)), (12, 0, 2, 0, 0, 1), zc_X12_pairs)
def zm_221 : zx_M := ((⟨"LaneDoors", "pairs", "(I)I"⟩, prog_1_method_10_code, 7, (some .int)), (11, 0, 2, 0, 0, 1), zc_X11_pairs)
def zm_222 : zx_M := ((⟨"LaneDoorsModel", "free", "(II)I"⟩, prog_14_method_68_code, 3, (some .int)), (12, 0, 3, 0, 0, 1), zc_X12_free)
def zm_223 : zx_M := ((⟨"LaneDoors", "free", "(II)I"⟩, prog_1_method_9_code, 4, (some .int)), (11, 0, 3, 0, 0, 1), zc_X11_free)
def zm_224 : zx_M := ((⟨"LaneDoorsModel", "hinders", "(II)I"⟩, prog_14_method_65_code, 3, (some .int)), (12, 0, 3, 0, 0, 1), zc_X12_hinders)
def zm_225 : zx_M := ((⟨"LaneDoors", "hinders", "(II)I"⟩, prog_1_method_8_code, 3, (some .int)), (11, 0, 3, 0, 0, 1), zc_X11_hinders)
def zm_226 : zx_M := ((⟨"LaneDoors", "can", "(I)I"⟩, prog_1_method_7_code, 2, (some .int)), (11, 0, 2, 0, 0, 1), zc_X11_can)
def zm_227 : zx_M := ((⟨"LaneDoorsModel", "door", "(II)I"⟩, prog_14_method_63_code, 3, (some .int)), (12, 0, 3, 0, 0, 1), zc_X12_door)
def zm_228 : zx_M := ((⟨"LaneDoors", "door", "(II)I"⟩, prog_1_method_6_code, 3, (some .int)), (11, 0, 3, 0, 0, 1), zc_X11_door)
def zm_229 : zx_M := ((⟨"LaneDoorsModel", "fault", "(I)I"⟩, prog_14_method_42_code, 2, (some .int)), (12, 0, 2, 0, 0, 1), zc_X12_fault)
def zm_230 : zx_M := ((⟨"LaneDoors", "fault", "(I)I"⟩, prog_1_method_5_code, 2, (some .int)), (11, 0, 2, 0, 0, 1), zc_X11_fault)
def zm_231 : zx_M := ((⟨"LaneDoorsModel", "town", "()I"⟩, prog_14_method_17_code, 2, (some .int)), (12, 0, 1, 0, 0, 1), zc_X12_town)
def zm_232 : zx_M := ((⟨"LaneDoorsModel", "startAnew", "()V"⟩, prog_14_method_61_code, 2, none), (12, 0, 1, 0, 0, 0), zc_X12_startAnew)
def zm_233 : zx_M := ((⟨"LaneDoorsModel", "isGood", "()Z"⟩, prog_14_method_6_code, 1, (some .boolean)), (12, 0, 1, 0, 0, 2), zc_X12_isGood)
def zm_234 : zx_M := ((⟨"LaneDoorsModel", "readLine", "()V"⟩, prog_14_method_19_code, 3, none), (12, 0, 1, 0, 0, 0), zc_X12_readLine)
def zm_235 : zx_M := ((⟨"LaneDoorsModel", "must", "(Z)V"⟩, prog_14_method_13_code, 2, none), (12, 0, 2, 0, 0, 0), zc_X12_must)
def zm_236 : zx_M := ((⟨"LaneDoorsModel", "misplaced", "()V"⟩, prog_14_method_12_code, 1, none), (12, 0, 1, 0, 0, 0), zc_X12_misplaced)
def zm_237 : zx_M := ((⟨"LaneDoorsModel", "fails", "(II)V"⟩, prog_14_method_5_code, 3, none), (12, 0, 3, 0, 0, 0), zc_X12_fails)
def zm_238 : zx_M := ((⟨"LaneDoorsModel", "goOn", "()V"⟩, prog_14_method_9_code, 3, none), (12, 0, 1, 0, 0, 0), zc_X12_goOn)
def zm_239 : zx_M := ((⟨"LaneDoorsModel", "isSign", "(I)Z"⟩, prog_14_method_8_code, 1, (some .boolean)), (12, 1, 1, 0, 0, 2), zc_X12_isSign)
def zm_240 : zx_M := ((⟨"LaneDoorsModel", "sign", "(I)I"⟩, prog_14_method_2_code, 2, (some .int)), (12, 0, 2, 0, 0, 1), zc_X12_sign)
def zm_241 : zx_M := ((⟨"LaneDoorsModel", "isDigit", "(I)Z"⟩, prog_14_method_4_code, 1, (some .boolean)), (12, 1, 1, 0, 0, 2), zc_X12_isDigit)
def zm_242 : zx_M := ((⟨"LaneDoorsModel", "isKept", "(J)Z"⟩, prog_14_method_7_code, 3, (some .boolean)), (12, 1, 1, 0, 0, 2), zc_X12_isKept)
def zm_243 : zx_M := ((⟨"LaneDoorsModel", "isSignHere", "(I)Z"⟩, prog_14_method_10_code, 2, (some .boolean)), (12, 0, 2, 0, 0, 2), zc_X12_isSignHere)
def zm_244 : zx_M := ((⟨"LaneDoorsModel", "numeral", "(II)I"⟩, prog_14_method_14_code, 4, (some .int)), (12, 0, 3, 0, 0, 1), zc_X12_numeral)
def zm_245 : zx_M := ((⟨"LaneDoorsModel", "readRule", "()V"⟩, prog_14_method_30_code, 1, none), (12, 0, 1, 0, 0, 0), zc_X12_readRule)
def zm_246 : zx_M := ((⟨"LaneDoorsModel", "e", "()V"⟩, prog_14_method_33_code, 2, none), (12, 0, 1, 0, 0, 0), zc_X12_e)
def zm_247 : zx_M := ((⟨"LaneDoorsModel", "behindUnit", "()Z"⟩, prog_14_method_38_code, 2, (some .boolean)), (12, 0, 1, 0, 0, 2), zc_X12_behindUnit)
def zm_248 : zx_M := ((⟨"LaneDoorsModel", "pushE", "(II)V"⟩, prog_14_method_32_code, 3, none), (12, 0, 3, 0, 0, 0), zc_X12_pushE)
def zm_249 : zx_M := ((⟨"LaneDoorsModel", "emit", "(II)V"⟩, prog_14_method_31_code, 3, none), (12, 0, 3, 0, 0, 0), zc_X12_emit)
def zm_250 : zx_M := ((⟨"LaneDoorsModel", "isCompared", "()Z"⟩, prog_14_method_37_code, 2, (some .boolean)), (12, 0, 1, 0, 0, 2), zc_X12_isCompared)
def zm_251 : zx_M := ((⟨"LaneDoorsModel", "rankHere", "()I"⟩, prog_14_method_36_code, 1, (some .int)), (12, 0, 1, 0, 0, 1), zc_X12_rankHere)
def zm_252 : zx_M := ((⟨"LaneDoorsModel", "isWord", "(J)Z"⟩, prog_14_method_11_code, 3, (some .boolean)), (12, 0, 2, 0, 0, 2), zc_X12_isWord)
def zm_253 : zx_M := ((⟨"LaneDoorsModel", "unit", "()Z"⟩, prog_14_method_35_code, 7, (some .boolean)), (12, 0, 1, 0, 0, 2), zc_X12_unit)
def zm_254 : zx_M := ((⟨"LaneDoorsModel", "wordHere", "()I"⟩, prog_14_method_34_code, 1, (some .int)), (12, 0, 1, 0, 0, 1), zc_X12_wordHere)
def zm_255 : zx_M := ((⟨"LaneDoorsModel", "readCorner", "()V"⟩, prog_14_method_29_code, 3, none), (12, 0, 1, 0, 0, 0), zc_X12_readCorner)
def zm_256 : zx_M := ((⟨"LaneDoorsModel", "known", "(I)I"⟩, prog_14_method_23_code, 2, (some .int)), (12, 0, 2, 0, 0, 1), zc_X12_known)
def zm_257 : zx_M := ((⟨"LaneDoorsModel", "laneHere", "()I"⟩, prog_14_method_21_code, 1, (some .int)), (12, 0, 1, 0, 0, 1), zc_X12_laneHere)
def zm_258 : zx_M := ((⟨"LaneDoorsModel", "here", "([JII)I"⟩, prog_14_method_20_code, 5, (some .int)), (12, 0, 4, 0, 0, 1), zc_X12_here)
def zm_259 : zx_M := ((⟨"LaneDoorsModel", "readDoor", "()V"⟩, prog_14_method_28_code, 6, none), (12, 0, 1, 0, 0, 0), zc_X12_readDoor)
def zm_260 : zx_M := ((⟨"LaneDoorsModel", "perhaps", "(J)Z"⟩, prog_14_method_26_code, 4, (some .boolean)), (12, 0, 2, 0, 0, 2), zc_X12_perhaps)
def zm_261 : zx_M := ((⟨"LaneDoorsModel", "either", "(JJ)Z"⟩, prog_14_method_25_code, 6, (some .boolean)), (12, 0, 3, 0, 0, 2), zc_X12_either)
def zm_262 : zx_M := ((⟨"LaneDoorsModel", "isTaken", "(IZ)Z"⟩, prog_14_method_27_code, 5, (some .boolean)), (12, 0, 3, 0, 0, 2), zc_X12_isTaken)
def zm_263 : zx_M := ((⟨"LaneDoorsModel", "after", "(JII)I"⟩, prog_14_method_15_code, 5, (some .int)), (12, 0, 4, 0, 0, 1), zc_X12_after)
def zm_264 : zx_M := ((⟨"LaneDoorsModel", "fresh", "(I)J"⟩, prog_14_method_22_code, 4, (some .long)), (12, 0, 2, 0, 0, 5), zc_X12_fresh)
def zm_265 : zx_M := ((⟨"LaneDoorsModel", "readLane", "()V"⟩, prog_14_method_24_code, 2, none), (12, 0, 1, 0, 0, 0), zc_X12_readLane)
def zm_266 : zx_M := ((⟨"LaneDoorsModel", "isFull", "()Z"⟩, prog_14_method_18_code, 1, (some .boolean)), (12, 0, 1, 0, 0, 2), zc_X12_isFull)
def zm_267 : zx_M := ((⟨"LaneDoorsModel", "clearBank", "()V"⟩, prog_14_method_16_code, 1, none), (12, 0, 1, 0, 0, 0), zc_X12_clearBank)
def zm_268 : zx_M := ((⟨"LaneDoors", "town", "()I"⟩, prog_1_method_4_code, 1, (some .int)), (11, 0, 1, 0, 0, 1), zc_X11_town)
def zm_269 : zx_M := ((⟨"LaneDoors$Hearsay", "forget", "()V"⟩, prog_3_method_2_code, 1, none), (1, 0, 1, 0, 0, 0), zc_X1_forget)
def zm_270 : zx_M := ((⟨"LaneDoors$State", "begin", "(LLaneDoors$Plan;)V"⟩, prog_10_method_2_code, 2, none), (8, 0, 2, 0, 0, 0), zc_X8_begin)
def zm_271 : zx_M := ((⟨"LaneDoors$Reader", "exchange", "(LLaneDoors$Plan;)LLaneDoors$Plan;"⟩, prog_9_method_2_code, 3, (some (.object "LaneDoors$Plan"))), (7, 0, 2, 0, 0, 6), zc_X7_exchange)
def zm_272 : zx_M := ((⟨"LaneDoors$Reader", "readTown", "()Z"⟩, prog_9_method_3_code, 2, (some .boolean)), (7, 0, 1, 0, 0, 2), zc_X7_readTown)
def zm_273 : zx_M := ((⟨"LaneDoors$Reader", "readLine", "()Z"⟩, prog_9_method_4_code, 1, (some .boolean)), (7, 0, 1, 0, 0, 2), zc_X7_readLine)
def zm_274 : zx_M := ((⟨"LaneDoors$Reader", "refuse", "(I)Z"⟩, prog_9_method_25_code, 2, (some .boolean)), (7, 0, 2, 0, 0, 2), zc_X7_refuse)
def zm_275 : zx_M := ((⟨"LaneDoors$Reader", "readDraw", "()Z"⟩, prog_9_method_12_code, 1, (some .boolean)), (7, 0, 1, 0, 0, 2), zc_X7_readDraw)
def zm_276 : zx_M := ((⟨"LaneDoors$Reader", "expect", "(I)Z"⟩, prog_9_method_24_code, 2, (some .boolean)), (7, 0, 2, 0, 0, 2), zc_X7_expect)
def zm_277 : zx_M := ((⟨"LaneDoors$Lexer", "advance", "()V"⟩, prog_5_method_3_code, 2, none), (3, 0, 1, 0, 0, 0), zc_X3_advance)
def zm_278 : zx_M := ((⟨"java/lang/String", "indexOf", "(I)I"⟩, prog_18_method_79_code, 2, (some .int)), (14, 0, 2, 0, 0, 1), zc_J0_indexOf_0f7a4)
def zm_279 : zx_M := ((⟨"java/lang/String", "indexOf", "(II)I"⟩, prog_18_method_80_code, 3, (some .int)), (14, 0, 3, 0, 0, 1), zc_J0_indexOf_7cf53)
def zm_280 : zx_M := ((⟨"java/lang/String", "length", "()I"⟩, prog_18_method_54_code, 1, (some .int)), (14, 0, 1, 0, 0, 1), zc_J0_length_8abf5)
def zm_281 : zx_M := ((⟨"java/lang/String", "coder", "()B"⟩, prog_18_method_152_code, 1, (some .byte)), (14, 0, 1, 0, 0, 4), zc_J0_coder_7d493)
def zm_282 : zx_M := ((⟨"java/lang/StringLatin1", "indexOf", "([BIII)I"⟩, prog_19_method_22_code, 4, (some .int)), (18, 1, 4, 0, 0, 1), zc_J1_indexOf_4cfef)
def zm_283 : zx_M := ((⟨"java/lang/StringLatin1", "indexOfChar", "([BIII)I"⟩, prog_19_method_23_code, 6, (some .int)), (18, 1, 4, 0, 0, 1), zc_J1_indexOfChar_4cfef)
def zm_284 : zx_M := ((⟨"java/lang/StringLatin1", "canEncode", "(I)Z"⟩, prog_19_method_4_code, 1, (some .boolean)), (18, 1, 1, 0, 0, 2), zc_J1_canEncode_9a6ad)
def zm_285 : zx_M := ((⟨"java/lang/String", "isLatin1", "()Z"⟩, prog_18_method_154_code, 1, (some .boolean)), (14, 0, 1, 0, 0, 2), zc_J0_isLatin1_aae02)
def zm_286 : zx_M := ((⟨"LaneDoors$Lexer", "takeNumber", "()V"⟩, prog_5_method_6_code, 3, none), (3, 0, 1, 0, 0, 0), zc_X3_takeNumber)
def zm_287 : zx_M := ((⟨"LaneDoors$Lexer", "isLetter", "(I)Z"⟩, prog_5_method_8_code, 1, (some .boolean)), (3, 1, 1, 0, 0, 2), zc_X3_isLetter)
def zm_288 : zx_M := ((⟨"LaneDoors$Tape", "at", "(I)I"⟩, prog_12_method_3_code, 2, (some .int)), (10, 0, 2, 0, 0, 1), zc_X10_at)
def zm_289 : zx_M := ((⟨"LaneDoors$Lexer", "isDigit", "(I)Z"⟩, prog_5_method_9_code, 1, (some .boolean)), (3, 1, 1, 0, 0, 2), zc_X3_isDigit)
def zm_290 : zx_M := ((⟨"LaneDoors$Lexer", "takeWord", "()V"⟩, prog_5_method_4_code, 2, none), (3, 0, 1, 0, 0, 0), zc_X3_takeWord)
def zm_291 : zx_M := ((⟨"LaneDoors$Lexer", "wordKind", "()I"⟩, prog_5_method_5_code, 2, (some .int)), (3, 0, 1, 0, 0, 1), zc_X3_wordKind)
def zm_292 : zx_M := ((⟨"LaneDoors$Lexer", "withLetter", "(JI)J"⟩, prog_5_method_7_code, 3, (some .long)), (3, 1, 2, 0, 0, 5), zc_X3_withLetter)
def zm_293 : zx_M := ((⟨"LaneDoors$Reader", "readNumber", "(II)I"⟩, prog_9_method_23_code, 4, (some .int)), (7, 0, 3, 0, 0, 1), zc_X7_readNumber)
def zm_294 : zx_M := ((⟨"LaneDoors$Reader", "beginOnce", "(I)Z"⟩, prog_9_method_13_code, 2, (some .boolean)), (7, 0, 2, 0, 0, 2), zc_X7_beginOnce)
def zm_295 : zx_M := ((⟨"LaneDoors$Reader", "readStock", "()Z"⟩, prog_9_method_11_code, 1, (some .boolean)), (7, 0, 1, 0, 0, 2), zc_X7_readStock)
def zm_296 : zx_M := ((⟨"LaneDoors$Reader", "readChain", "(II)Z"⟩, prog_9_method_14_code, 5, (some .boolean)), (7, 0, 3, 0, 0, 2), zc_X7_readChain)
def zm_297 : zx_M := ((⟨"LaneDoors$Formula", "add", "(I)V"⟩, prog_2_method_3_code, 2, none), (0, 0, 2, 0, 0, 0), zc_X0_add)
def zm_298 : zx_M := ((⟨"LaneDoors$Reader", "readPart", "(II)Z"⟩, prog_9_method_15_code, 3, (some .boolean)), (7, 0, 3, 0, 0, 2), zc_X7_readPart)
def zm_299 : zx_M := ((⟨"LaneDoors$Reader", "readUnit", "(I)Z"⟩, prog_9_method_18_code, 3, (some .boolean)), (7, 0, 2, 0, 0, 2), zc_X7_readUnit)
def zm_300 : zx_M := ((⟨"LaneDoors$Reader", "beginsUnit", "(I)Z"⟩, prog_9_method_19_code, 1, (some .boolean)), (7, 1, 1, 0, 0, 2), zc_X7_beginsUnit)
def zm_301 : zx_M := ((⟨"LaneDoors$Reader", "readOne", "(I)Z"⟩, prog_9_method_17_code, 3, (some .boolean)), (7, 0, 2, 0, 0, 2), zc_X7_readOne)
def zm_302 : zx_M := ((⟨"LaneDoors$Reader", "joins", "(II)Z"⟩, prog_9_method_16_code, 2, (some .boolean)), (7, 1, 2, 0, 0, 2), zc_X7_joins)
def zm_303 : zx_M := ((⟨"LaneDoors$Reader", "readCorner", "()Z"⟩, prog_9_method_10_code, 5, (some .boolean)), (7, 0, 1, 0, 0, 2), zc_X7_readCorner)
def zm_304 : zx_M := ((⟨"LaneDoors$Plan", "addCorner", "(II)V"⟩, prog_8_method_6_code, 3, none), (6, 0, 3, 0, 0, 0), zc_X6_addCorner)
def zm_305 : zx_M := ((⟨"LaneDoors$Reader", "readLaneName", "()I"⟩, prog_9_method_21_code, 2, (some .int)), (7, 0, 1, 0, 0, 1), zc_X7_readLaneName)
def zm_306 : zx_M := ((⟨"LaneDoors$Reader", "laneOfName", "()I"⟩, prog_9_method_22_code, 2, (some .int)), (7, 0, 1, 0, 0, 1), zc_X7_laneOfName)
def zm_307 : zx_M := ((⟨"LaneDoors$Reader", "readDoor", "()Z"⟩, prog_9_method_6_code, 5, (some .boolean)), (7, 0, 1, 0, 0, 2), zc_X7_readDoor)
def zm_308 : zx_M := ((⟨"LaneDoors$Reader", "readDoorWords", "()V"⟩, prog_9_method_9_code, 2, none), (7, 0, 1, 0, 0, 0), zc_X7_readDoorWords)
def zm_309 : zx_M := ((⟨"LaneDoors$Reader", "readSide", "()Z"⟩, prog_9_method_8_code, 1, (some .boolean)), (7, 0, 1, 0, 0, 2), zc_X7_readSide)
def zm_310 : zx_M := ((⟨"LaneDoors$Plan", "draftOverlaps", "()Z"⟩, prog_8_method_5_code, 2, (some .boolean)), (6, 0, 1, 0, 0, 2), zc_X6_draftOverlaps)
def zm_311 : zx_M := ((⟨"LaneDoors$Reader", "readHinge", "()Z"⟩, prog_9_method_7_code, 1, (some .boolean)), (7, 0, 1, 0, 0, 2), zc_X7_readHinge)
def zm_312 : zx_M := ((⟨"LaneDoors$Plan", "draftDoor", "(III)V"⟩, prog_8_method_4_code, 4, none), (6, 0, 4, 0, 0, 0), zc_X6_draftDoor)
def zm_313 : zx_M := ((⟨"LaneDoors$Reader", "readNewName", "([JI)Z"⟩, prog_9_method_20_code, 4, (some .boolean)), (7, 0, 3, 0, 0, 2), zc_X7_readNewName)
def zm_314 : zx_M := ((⟨"LaneDoors$Reader", "readLane", "()Z"⟩, prog_9_method_5_code, 3, (some .boolean)), (7, 0, 1, 0, 0, 2), zc_X7_readLane)
def zm_315 : zx_M := ((⟨"LaneDoors$Plan", "addLane", "(II)V"⟩, prog_8_method_3_code, 3, none), (6, 0, 3, 0, 0, 0), zc_X6_addLane)
def zm_316 : zx_M := ((⟨"LaneDoors$Lexer", "restart", "()V"⟩, prog_5_method_2_code, 1, none), (3, 0, 1, 0, 0, 0), zc_X3_restart)
def zm_317 : zx_M := ((⟨"LaneDoors$Plan", "clear", "()V"⟩, prog_8_method_2_code, 1, none), (6, 0, 1, 0, 0, 0), zc_X6_clear)
def zm_318 : zx_M := ((⟨"LaneDoors$Formula", "clear", "()V"⟩, prog_2_method_2_code, 1, none), (0, 0, 1, 0, 0, 0), zc_X0_clear)
def zm_319 : zx_M := ((⟨"LaneDoorsModel", "end", "(I)I"⟩, prog_14_method_137_code, 2, (some .int)), (12, 0, 2, 0, 0, 1), zc_X12_end)
def zm_320 : zx_M := ((⟨"LaneDoors", "end", "(I)I"⟩, prog_1_method_3_code, 2, (some .int)), (11, 0, 2, 0, 0, 1), zc_X11_end)
def zm_321 : zx_M := ((⟨"LaneDoorsModel", "feed", "(IIIII)I"⟩, prog_14_method_136_code, 8, (some .int)), (12, 0, 6, 0, 0, 1), zc_X12_feed)
def zm_322 : zx_M := ((⟨"LaneDoors", "feed", "(IIIII)I"⟩, prog_1_method_2_code, 6, (some .int)), (11, 0, 6, 0, 0, 1), zc_X11_feed)
def zm_323 : zx_M := ((⟨"LaneDoors$Tape", "append", "(I)V"⟩, prog_12_method_2_code, 3, none), (10, 0, 2, 0, 0, 0), zc_X10_append)
def zm_324 : zx_M := ((⟨"LaneDoorsModel", "<init>", "()V"⟩, prog_14_method_1_code, 1, none), (12, 2, 1, 51, 10075, 0), zc_X12_init)
def zm_325 : zx_M := ((⟨"LaneDoors", "<init>", "()V"⟩, prog_1_method_1_code, 2, none), (11, 2, 1, 139, 5747, 0), zc_X11_init)
def zm_326 : zx_M := ((⟨"LaneDoors$State", "<init>", "()V"⟩, prog_10_method_1_code, 1, none), (8, 2, 1, 1, 10, 0), zc_X8_init)
def zm_327 : zx_M := ((⟨"LaneDoors$Plan", "<init>", "()V"⟩, prog_8_method_1_code, 1, none), (6, 2, 1, 10, 385, 0), zc_X6_init)
def zm_328 : zx_M := ((⟨"LaneDoors$Formula", "<init>", "()V"⟩, prog_2_method_1_code, 1, none), (0, 2, 1, 2, 330, 0), zc_X0_init)
def zm_329 : zx_M := ((⟨"LaneDoors$Pile", "<init>", "()V"⟩, prog_7_method_1_code, 1, none), (5, 2, 1, 1, 64, 0), zc_X5_init)
def zm_330 : zx_M := ((⟨"LaneDoors$Streets", "<init>", "()V"⟩, prog_11_method_1_code, 1, none), (9, 2, 1, 3, 192, 0), zc_X9_init)
def zm_331 : zx_M := ((⟨"LaneDoors$Opener", "<init>", "()V"⟩, prog_6_method_1_code, 1, none), (4, 2, 1, 5, 2078, 0), zc_X4_init)
def zm_332 : zx_M := ((⟨"LaneDoors$Hearsay", "<init>", "()V"⟩, prog_3_method_1_code, 1, none), (1, 2, 1, 4, 120, 0), zc_X1_init)
def zm_333 : zx_M := ((⟨"LaneDoors$History", "<init>", "()V"⟩, prog_4_method_1_code, 2, none), (2, 2, 1, 81, 720, 0), zc_X2_init)
def zm_334 : zx_M := ((⟨"LaneDoors$Reader", "<init>", "(LLaneDoors$Tape;)V"⟩, prog_9_method_1_code, 2, none), (7, 2, 2, 15, 449, 0), zc_X7_init)
def zm_335 : zx_M := ((⟨"LaneDoors$Lexer", "<init>", "(LLaneDoors$Tape;)V"⟩, prog_5_method_1_code, 4, none), (3, 2, 2, 1, 25, 0), zc_X3_init)
def zm_336 : zx_M := ((⟨"java/lang/String", "charAt", "(I)C"⟩, prog_18_method_56_code, 2, (some .char)), (14, 0, 2, 0, 0, 3), zc_J0_charAt_5068e)
def zm_337 : zx_M := ((⟨"java/lang/String", "checkIndex", "(II)V"⟩, prog_18_method_155_code, 2, none), (14, 1, 2, 0, 0, 0), zc_J0_checkIndex_df160)
def zm_338 : zx_M := ((⟨"jdk/internal/util/Preconditions", "checkIndex", "(IILjava/util/function/BiFunction;)I"⟩, prog_23_method_11_code, 3, (some .int)), (19, 1, 3, 0, 0, 1), zc_J3_checkIndex_8e157)
def zm_339 : zx_M := ((⟨"java/lang/StringLatin1", "charAt", "([BI)C"⟩, prog_19_method_2_code, 2, (some .char)), (18, 1, 2, 0, 0, 3), zc_J1_charAt_3b067)
def zm_340 : zx_M := ((⟨"LaneDoors$Tape", "<init>", "()V"⟩, prog_12_method_1_code, 1, none), (10, 2, 1, 1, 1600, 0), zc_X10_init)
def zm_341 : zx_M := ((⟨"java/lang/Math", "max", "(II)I"⟩, prog_17_method_65_code, 2, (some .int)), (17, 1, 2, 0, 0, 1), zc_J9_max_7cf53)
def zm_342 : zx_M := ((⟨"java/lang/Math", "min", "(II)I"⟩, prog_17_method_69_code, 2, (some .int)), (17, 1, 2, 0, 0, 1), zc_J9_min_7cf53)
def zx_mt : List (List zx_M) := [[zm_0, zm_1, zm_2, zm_3, zm_4, zm_5, zm_6, zm_7, zm_8, zm_9, zm_10, zm_11, zm_12, zm_13, zm_14, zm_15], [zm_16, zm_17, zm_18, zm_19, zm_20, zm_21, zm_22, zm_23, zm_24, zm_25, zm_26, zm_27, zm_28, zm_29, zm_30, zm_31], [zm_32, zm_33, zm_34, zm_35, zm_36, zm_37, zm_38, zm_39, zm_40, zm_41, zm_42, zm_43, zm_44, zm_45, zm_46, zm_47], [zm_48, zm_49, zm_50, zm_51, zm_52, zm_53, zm_54, zm_55, zm_56, zm_57, zm_58, zm_59, zm_60, zm_61, zm_62, zm_63], [zm_64, zm_65, zm_66, zm_67, zm_68, zm_69, zm_70, zm_71, zm_72, zm_73, zm_74, zm_75, zm_76, zm_77, zm_78, zm_79], [zm_80, zm_81, zm_82, zm_83, zm_84, zm_85, zm_86, zm_87, zm_88, zm_89, zm_90, zm_91, zm_92, zm_93, zm_94, zm_95], [zm_96, zm_97, zm_98, zm_99, zm_100, zm_101, zm_102, zm_103, zm_104, zm_105, zm_106, zm_107, zm_108, zm_109, zm_110, zm_111], [zm_112, zm_113, zm_114, zm_115, zm_116, zm_117, zm_118, zm_119, zm_120, zm_121, zm_122, zm_123, zm_124, zm_125, zm_126, zm_127], [zm_128, zm_129, zm_130, zm_131, zm_132, zm_133, zm_134, zm_135, zm_136, zm_137, zm_138, zm_139, zm_140, zm_141, zm_142, zm_143], [zm_144, zm_145, zm_146, zm_147, zm_148, zm_149, zm_150, zm_151, zm_152, zm_153, zm_154, zm_155, zm_156, zm_157, zm_158, zm_159], [zm_160, zm_161, zm_162, zm_163, zm_164, zm_165, zm_166, zm_167, zm_168, zm_169, zm_170, zm_171, zm_172, zm_173, zm_174, zm_175], [zm_176, zm_177, zm_178, zm_179, zm_180, zm_181, zm_182, zm_183, zm_184, zm_185, zm_186, zm_187, zm_188, zm_189, zm_190, zm_191], [zm_192, zm_193, zm_194, zm_195, zm_196, zm_197, zm_198, zm_199, zm_200, zm_201, zm_202, zm_203, zm_204, zm_205, zm_206, zm_207], [zm_208, zm_209, zm_210, zm_211, zm_212, zm_213, zm_214, zm_215, zm_216, zm_217, zm_218, zm_219, zm_220, zm_221, zm_222, zm_223], [zm_224, zm_225, zm_226, zm_227, zm_228, zm_229, zm_230, zm_231, zm_232, zm_233, zm_234, zm_235, zm_236, zm_237, zm_238, zm_239], [zm_240, zm_241, zm_242, zm_243, zm_244, zm_245, zm_246, zm_247, zm_248, zm_249, zm_250, zm_251, zm_252, zm_253, zm_254, zm_255], [zm_256, zm_257, zm_258, zm_259, zm_260, zm_261, zm_262, zm_263, zm_264, zm_265, zm_266, zm_267, zm_268, zm_269, zm_270, zm_271], [zm_272, zm_273, zm_274, zm_275, zm_276, zm_277, zm_278, zm_279, zm_280, zm_281, zm_282, zm_283, zm_284, zm_285, zm_286, zm_287], [zm_288, zm_289, zm_290, zm_291, zm_292, zm_293, zm_294, zm_295, zm_296, zm_297, zm_298, zm_299, zm_300, zm_301, zm_302, zm_303], [zm_304, zm_305, zm_306, zm_307, zm_308, zm_309, zm_310, zm_311, zm_312, zm_313, zm_314, zm_315, zm_316, zm_317, zm_318, zm_319], [zm_320, zm_321, zm_322, zm_323, zm_324, zm_325, zm_326, zm_327, zm_328, zm_329, zm_330, zm_331, zm_332, zm_333, zm_334, zm_335], [zm_336, zm_337, zm_338, zm_339, zm_340, zm_341, zm_342]]
def zm_law : zx_M := ((x, code, maxLocals, ret), (13, 1, 1, 600000, 7302250, 2), zc_L_law)
def zx_on : List String := ["LaneDoors$Formula", "LaneDoors$Hearsay", "LaneDoors$History", "LaneDoors$Lexer", "LaneDoors$Opener", "LaneDoors$Pile", "LaneDoors$Plan", "LaneDoors$Reader", "LaneDoors$State", "LaneDoors$Streets", "LaneDoors$Tape", "LaneDoors", "LaneDoorsModel", "LaneDoorsLaw", "java/lang/String", "java/lang/Integer", "java/util/Arrays", "java/lang/Math", "java/lang/StringLatin1", "jdk/internal/util/Preconditions"]
end
section
/-! the instructions -/
/-- the texts from outside: their lengths and their bytes (two constants of the class; 0: the script) -/
def zx_xl (i : Nat) : Nat := bif Nat.beq i 2 then 125 else bif Nat.beq i 4 then 11 else 0
def zx_xb (i : Nat) : Nat := bif Nat.beq i 2 then zx_words else zx_signs
section ZH
variable (M : zx_M) (K : zx_K) (call : zx_M → zx_K → zx_N) (nx : zx_N) (a b np : Nat) (cur0 cur : List zx_E) (pc row : Nat) (st : List Nat) (h : zx_H) (e hn ce sl : Nat)
noncomputable def zx_jp : Bool := zx_bk M.2.2 a (fun cur => nx cur a row st h e hn ce sl)
noncomputable def zh_ld : Bool := zx_fn (zx_lg row a) (fun v => bif zx_kc b v then nx cur np row (v :: st) h e hn ce sl else false)
noncomputable def zh_st1 : Bool := zx_p1 st (fun v st => bif zx_kc b v && (Nat.blt a M.1.2.2.1 && !Nat.beq (zx_kd (zx_lg row (Nat.pred a))) 5) then zx_fn (zx_ls row a v) (fun row => nx cur np row st h e hn ce sl) else false)
noncomputable def zh_st2 : Bool := zx_p1 st (fun v st => bif Nat.beq v 5 && (Nat.blt (Nat.succ a) M.1.2.2.1 && !Nat.beq (zx_kd (zx_lg row (Nat.pred a))) 5) then zx_fn (zx_ls (zx_ls row a v) (Nat.succ a) 0) (fun row => nx cur np row st h e hn ce sl) else false)
noncomputable def zh_inc : Bool := bif Nat.blt a M.1.2.2.1 && !Nat.beq (zx_kd (zx_lg row (Nat.pred a))) 5 then zx_fn (zx_lg row a) (fun v => bif zx_ii v then zx_no e v (fun v => zx_ad v b (fun v => zx_fn (zx_ls row a v) (fun row => nx cur np row st h e hn ce sl))) else false) else false
noncomputable def zh_psh : Bool := nx cur np row (a :: st) h e hn ce sl
noncomputable def zh_bin (f : Nat → Nat → (Nat → Bool) → Bool) : Bool := zx_p2 st (fun y x st => bif zx_ii x && zx_ii y then zx_no e y (fun y => zx_no e x (fun x => f x y (fun v => nx cur np row (v :: st) h e hn ce sl))) else false)
noncomputable def zh_un (f : Nat → Nat) : Bool := zx_p1 st (fun x st => bif zx_ii x then zx_no e x (fun x => zx_u1 f x (fun v => nx cur np row (v :: st) h e hn ce sl)) else false)
noncomputable def zh_i2l : Bool := zx_p1 st (fun x st => bif zx_ii x then nx cur np row (5 :: st) h e hn ce sl else false)
noncomputable def zh_lbin : Bool := zx_p2 st (fun y x st => bif Nat.beq x 5 && Nat.beq y 5 then nx cur np row (5 :: st) h e hn ce sl else false)
noncomputable def zh_dup : Bool := zx_p1 st (fun x st => bif Nat.beq (zx_kd x) 5 then false else nx cur np row (x :: x :: st) h e hn ce sl)
noncomputable def zh_pop : Bool := zx_p1 st (fun x st => bif Nat.beq (zx_kd x) 5 then false else nx cur np row st h e hn ce sl)
noncomputable def zh_dup2 : Bool := zx_p2 st (fun y x st => bif Nat.beq (zx_kd x) 5 || Nat.beq (zx_kd y) 5 then false else nx cur np row (y :: x :: y :: x :: st) h e hn ce sl)
noncomputable def zh_icmp : Bool := zx_p2 st (fun y x st => zx_cm b e x y (fun e => zx_jp M nx a row st h e hn ce sl) (fun e => nx cur np row st h e hn ce sl))
noncomputable def zh_if : Bool := zx_p1 st (fun x st => zx_cm b e x 4 (fun e => zx_jp M nx a row st h e hn ce sl) (fun e => nx cur np row st h e hn ce sl))
noncomputable def zx_sw (l : List (Nat × Nat)) (d v : Nat) (st : List Nat) : Nat → Bool := @List.rec (Nat × Nat) (fun _ => Nat → Bool) (fun e => zx_jp M nx d row st h e hn ce sl) (fun q _ ih e => zx_eq e v (zx_c q.1) (fun e => zx_jp M nx q.2 row st h e hn ce sl) ih) l
noncomputable def zh_sw : Bool := zx_p1 st (fun v st => bif zx_ii v then zx_at zx_SW a (fun q => zx_sw M nx row h hn ce sl q.2 q.1 v st e) else false)
noncomputable def zh_get : Bool := zx_p1 st (fun r st => bif Nat.beq (zx_kd r) 2 then zx_hg h (zx_pl r) (fun c => bif Nat.beq (zx_hd c) a then zx_fn (zx_og c b) (fun v => nx cur np row (v :: st) h e hn ce sl) else false) else false)
noncomputable def zh_put : Bool := zx_p2 st (fun v r st => bif Nat.beq (zx_kd r) 2 && zx_kc (Nat.shiftRight a 20) v then zx_no e v (fun v => zx_hg h (zx_pl r) (fun c => bif Nat.beq (zx_hd c) (zx_hd a) then zx_fn (zx_os c b v) (fun c => zx_hs h (zx_pl r) c (fun h => nx cur np row st h e hn ce sl)) else false)) else false)
noncomputable def zh_str : Bool := zx_p1 st (fun r st => bif Nat.beq r 22 || Nat.beq r 54 then (bif Nat.beq a 0 then nx cur np row (Nat.add r 16 :: st) h e hn ce sl else nx cur np row (4 :: st) h e hn ce sl) else false)
noncomputable def zx_mk (c n : Nat) (st : List Nat) : Bool := bif Nat.blt hn 65536 && (Nat.ble (Nat.succ ce) M.2.1.2.2.2.1 && Nat.ble (Nat.add sl n) M.2.1.2.2.2.2.1) then zx_hs h hn c (fun h => zx_fn (Nat.add (Nat.mul hn 16) 2) (fun r => zx_fn (Nat.succ hn) (fun hn => zx_fn (Nat.succ ce) (fun ce => zx_fn (Nat.add sl n) (fun sl => nx cur np row (r :: st) h e hn ce sl))))) else false
noncomputable def zh_new : Bool := zx_mk M nx np cur row h e hn ce sl a b st
noncomputable def zh_arr : Bool := zx_p1 st (fun n st => zx_no e n (fun n => bif Nat.beq (zx_kd n) 4 && Nat.blt (zx_pl n) 65536 then zx_fn (Nat.add a (Nat.mul (zx_pl n) 16)) (fun c => zx_mk M nx np cur row h e hn ce sl c (zx_pl n) st) else false))
noncomputable def zh_len : Bool := zx_p1 st (fun r st => bif Nat.beq (zx_kd r) 2 then zx_hg h (zx_pl r) (fun c => bif Nat.beq (zx_tg c) 7 || Nat.ble 9 (zx_tg c) then false else zx_fn (zx_c (zx_cn c)) (fun v => nx cur np row (v :: st) h e hn ce sl)) else
  bif Nat.beq r 6 && Nat.beq (zx_eg e 63) 9223372043297226753 then nx cur np row (100 :: st) h e hn ce sl else bif Nat.beq r 38 || Nat.beq r 70 then zx_fn (zx_c (zx_xl (zx_pl r))) (fun v => nx cur np row (v :: st) h e hn ce sl) else false)
noncomputable def zh_ald : Bool := zx_p2 st (fun i0 r st' => bif zx_ii i0 then zx_no e i0 (fun i =>
  bif Nat.beq (zx_kd r) 2 then zx_hg h (zx_pl r) (fun c =>
    bif zx_kc a (zx_tg c) then
      (bif Nat.beq (zx_kd i) 4 && (Nat.blt (zx_pl i) (zx_cn c) && Nat.blt (zx_tg c) 3) then zx_fn (zx_c (zx_ig c (zx_pl i))) (fun v => nx cur np row (v :: st') h e hn ce sl) else
      bif Nat.beq (zx_kd i) 1 && Nat.blt (zx_tg c) 3 then zx_sp e i (fun e => nx cur0 pc row st h e hn ce sl) else
      bif zx_in e i (zx_cn c) then nx cur np row (zx_un :: st') h e hn ce sl else false) else false) else
  bif Nat.beq r 6 && Nat.beq (zx_eg e 63) 9223372043297226753 then (bif Nat.beq a 9 && (Nat.beq (zx_kd i) 4 && Nat.blt (zx_pl i) 6) then zx_fn (Nat.add (Nat.mul (zx_pl i) 16) 1) (fun v => nx cur np row (v :: st') h e hn ce sl) else false) else
  bif Nat.beq r 38 || Nat.beq r 70 then (bif Nat.beq a 54 && (Nat.beq (zx_kd i) 4 && Nat.blt (zx_pl i) (zx_xl (zx_pl r))) then zx_fn (zx_c (zx_dg 0 8 256 (zx_xb (zx_pl r)) (zx_pl i))) (fun v => nx cur np row (v :: st') h e hn ce sl) else false) else false) else false)
noncomputable def zh_ast : Bool := zx_p3 st (fun v i r st => bif zx_ii v && (zx_ii i && Nat.beq (zx_kd r) 2) then zx_no e v (fun v => zx_no e i (fun i => zx_hg h (zx_pl r) (fun c =>
    bif zx_kc a (zx_tg c) then
      (bif Nat.beq (zx_kd v) 4 && (Nat.beq (zx_kd i) 4 && (Nat.blt (zx_pl i) (zx_cn c) && Nat.blt (zx_tg c) 3)) then zx_fn (zx_is c (zx_pl i) (zx_nr (zx_tg c) (zx_pl v))) (fun c => zx_hs h (zx_pl r) c (fun h => nx cur np row st h e hn ce sl)) else
      bif zx_in e i (zx_cn c) then zx_fn (zx_uk (Nat.mod (zx_tg c) 3) (zx_cn c)) (fun c => zx_hs h (zx_pl r) c (fun h => nx cur np row st h e hn ce sl)) else false) else false))) else false)
noncomputable def zh_lald : Bool := zx_p2 st (fun i r st => bif zx_ii i && Nat.beq (zx_kd r) 2 then zx_hg h (zx_pl r) (fun c => bif Nat.beq (zx_tg c) 6 && zx_in e i (zx_cn c) then nx cur np row (5 :: st) h e hn ce sl else false) else false)
noncomputable def zh_last : Bool := zx_p3 st (fun v i r st => bif Nat.beq v 5 && (zx_ii i && Nat.beq (zx_kd r) 2) then zx_hg h (zx_pl r) (fun c => bif Nat.beq (zx_tg c) 6 && zx_in e i (zx_cn c) then nx cur np row st h e hn ce sl else false) else false)
noncomputable def zh_rald : Bool := zx_p2 st (fun i0 r st' => bif zx_ii i0 && Nat.beq (zx_kd r) 2 then zx_no e i0 (fun i => zx_hg h (zx_pl r) (fun c => bif Nat.beq (zx_tg c) 8 then
    (bif Nat.beq (zx_kd i) 4 && Nat.blt (zx_pl i) (zx_cn c) then zx_fn (zx_og c (zx_pl i)) (fun v => nx cur np row ((bif Nat.beq v 0 then 3 else v) :: st') h e hn ce sl) else zx_sp e i (fun e => nx cur0 pc row st h e hn ce sl)) else false)) else false)
noncomputable def zh_rast : Bool := zx_p3 st (fun v i r st => bif Nat.beq (zx_kd v) 2 && (zx_ii i && Nat.beq (zx_kd r) 2) then zx_no e i (fun i => zx_hg h (zx_pl r) (fun c => zx_hg h (zx_pl v) (fun cv => bif Nat.beq (zx_tg c) 8 && (Nat.beq (zx_hd cv) 135 && (Nat.beq (zx_kd i) 4 && Nat.blt (zx_pl i) (zx_cn c))) then zx_fn (zx_os c (zx_pl i) v) (fun c => zx_hs h (zx_pl r) c (fun h => nx cur np row st h e hn ce sl)) else false))) else false)
/-- words of a stack -/
noncomputable def zx_wd (st : List Nat) : Nat := @List.rec Nat (fun _ => Nat) 0 (fun v _ ih => Nat.add (bif Nat.beq (zx_kd v) 5 then 2 else 1) ih) st
noncomputable def zh_obj : Bool := zx_p1 st (fun r st => bif Nat.beq (zx_kd r) 2 && Nat.ble (zx_wd st) 8 then nx cur np row st h e hn ce sl else false)
noncomputable def zh_cpy : Bool := zx_p3 st (fun n dp dst st => zx_p2 st (fun sp src st => bif Nat.beq (zx_kd src) 2 && (Nat.beq (zx_kd dst) 2 && (Nat.beq sp 4 && (Nat.beq dp 4 && Nat.ble (zx_wd st) 8))) then
  zx_hg h (zx_pl src) (fun c => zx_hg h (zx_pl dst) (fun c1 => bif Nat.beq (zx_tg c) 0 && (Nat.beq (zx_hd c) (zx_hd c1) && Nat.beq n (zx_c (zx_cn c))) then zx_hs h (zx_pl dst) c (fun h => nx cur np row st h e hn ce sl) else false)) else false))
/-- the arguments of a call: n of them from the stack, the last first -/
noncomputable def zx_tk (n : Nat) (e : Nat) : List Nat → List Nat → (List Nat → List Nat → Bool) → Bool := @Nat.rec (fun _ => List Nat → List Nat → (List Nat → List Nat → Bool) → Bool) (fun acc st k => k acc st) (fun _ ih acc st k => zx_p1 st (fun v st => zx_no e v (fun v => ih (v :: acc) st k))) n
/-- the row of locals with which a method begins -/
noncomputable def zx_rw (l : List Nat) : Nat := @List.rec Nat (fun _ => Nat) 0 (fun v _ ih => Nat.add v (Nat.mul (bif Nat.beq (zx_kd v) 5 then 22300745198530623141535718272648361505980416 else 4722366482869645213696) ih)) l
noncomputable def zx_rc (y : zx_M) (l : List Nat) (h : zx_H) (k : Bool) : Bool := bif Nat.beq y.2.1.2.1 0 then zx_p1 l (fun r _ => bif Nat.beq (zx_kd r) 2 then zx_hg h (zx_pl r) (fun c => bif Nat.beq (zx_hd c) (Nat.add (Nat.mul y.2.1.1 16) 7) then k else false) else bif (Nat.beq r 22 || Nat.beq r 54) && Nat.beq y.2.1.1 14 then k else false) else
  bif Nat.beq y.2.1.2.1 2 then zx_p1 l (fun r _ => bif Nat.beq (zx_kd r) 2 then k else false) else k
noncomputable def zh_inv : Bool := zx_at zx_mt (Nat.div a 16) (fun l => zx_at l (Nat.mod a 16) (fun y => zx_tk y.2.1.2.2.1 e [] st (fun as st =>
  bif Nat.ble (zx_wd st) 8 && (Nat.ble (zx_wd as) y.1.2.2.1 && (Nat.ble (Nat.add ce y.2.1.2.2.2.1) M.2.1.2.2.2.1 && Nat.ble (Nat.add sl y.2.1.2.2.2.2.1) M.2.1.2.2.2.2.1)) then
  zx_rc y as h (zx_fn (zx_rw as) (fun r0 => call y (fun r h e hn => zx_fn (Nat.add ce y.2.1.2.2.2.1) (fun ce => zx_fn (Nat.add sl y.2.1.2.2.2.2.1) (fun sl => nx cur np row (@List.rec Nat (fun _ => List Nat) st (fun v _ _ => v :: st) r) h e hn ce sl))) [] 0 r0 [] h e hn 0 0)) else false)))
/-- what may be given back: 0 nothing, 1 an int, 2 a boolean, 3 a char, 4 a byte, 5 a long, 6 a reference -/
noncomputable def zx_rt (r e v : Nat) : Bool := bif Nat.beq r 1 then zx_ii v else bif Nat.beq r 2 then zx_iv e v (fun l h => Nat.ble 2147483648 l && Nat.ble h 2147483649) else bif Nat.beq r 3 then zx_iv e v (fun l h => Nat.ble 2147483648 l && Nat.ble h 2147549183) else
  bif Nat.beq r 4 then zx_iv e v (fun l h => Nat.ble 2147483520 l && Nat.ble h 2147483775) else bif Nat.beq r 5 then Nat.beq v 5 else bif Nat.beq r 6 then zx_kc 332 v else false
noncomputable def zh_ret : Bool := zx_p1 st (fun v st => @List.rec Nat (fun _ => Bool) (zx_no e v (fun v => bif zx_rt M.2.1.2.2.2.2.2 e v && (Nat.ble ce M.2.1.2.2.2.1 && Nat.ble sl M.2.1.2.2.2.2.1) then K [v] h e hn else false)) (fun _ _ _ => false) st)
noncomputable def zh_rtv : Bool := @List.rec Nat (fun _ => Bool) (bif Nat.beq M.2.1.2.2.2.2.2 0 && (Nat.ble ce M.2.1.2.2.2.1 && Nat.ble sl M.2.1.2.2.2.2.1) then K [] h e hn else false) (fun _ _ _ => false) st
end ZH
end
section
/-! which instruction is done how, and the run -/
noncomputable def zx_o1_3 (M : zx_M) (K : zx_K) (call : zx_M → zx_K → zx_N) (nx : zx_N) (op a b np : Nat) (cur0 cur : List zx_E) (pc row : Nat) (st : List Nat) (h : zx_H) (e hn ce sl : Nat) : Bool := bif Nat.ble op 2 then (bif Nat.ble op 1 then (zh_st1 M nx a b np cur row st h e hn ce sl) else (zh_st2 M nx a np cur row st h e hn ce sl)) else (zh_inc M nx a b np cur row st h e hn ce sl)
noncomputable def zx_o4_6 (M : zx_M) (K : zx_K) (call : zx_M → zx_K → zx_N) (nx : zx_N) (op a b np : Nat) (cur0 cur : List zx_E) (pc row : Nat) (st : List Nat) (h : zx_H) (e hn ce sl : Nat) : Bool := bif Nat.ble op 5 then (bif Nat.ble op 4 then (zh_psh nx a np cur row st h e hn ce sl) else (zh_bin nx np cur row st h e hn ce sl zx_ad)) else (zh_bin nx np cur row st h e hn ce sl (zx_b2 zx_f1))
noncomputable def zx_o1_6 (M : zx_M) (K : zx_K) (call : zx_M → zx_K → zx_N) (nx : zx_N) (op a b np : Nat) (cur0 cur : List zx_E) (pc row : Nat) (st : List Nat) (h : zx_H) (e hn ce sl : Nat) : Bool := bif Nat.ble op 3 then zx_o1_3 M K call nx op a b np cur0 cur pc row st h e hn ce sl else zx_o4_6 M K call nx op a b np cur0 cur pc row st h e hn ce sl
noncomputable def zx_o7_9 (M : zx_M) (K : zx_K) (call : zx_M → zx_K → zx_N) (nx : zx_N) (op a b np : Nat) (cur0 cur : List zx_E) (pc row : Nat) (st : List Nat) (h : zx_H) (e hn ce sl : Nat) : Bool := bif Nat.ble op 8 then (bif Nat.ble op 7 then (zh_bin nx np cur row st h e hn ce sl (zx_b2 zx_f2)) else (zh_bin nx np cur row st h e hn ce sl zx_an)) else (zh_bin nx np cur row st h e hn ce sl (zx_b2 Nat.lor))
noncomputable def zx_o10_11 (M : zx_M) (K : zx_K) (call : zx_M → zx_K → zx_N) (nx : zx_N) (op a b np : Nat) (cur0 cur : List zx_E) (pc row : Nat) (st : List Nat) (h : zx_H) (e hn ce sl : Nat) : Bool := bif Nat.ble op 10 then (zh_bin nx np cur row st h e hn ce sl (zx_b2 Nat.xor)) else (zh_bin nx np cur row st h e hn ce sl (zx_sh zx_g6))
noncomputable def zx_o7_11 (M : zx_M) (K : zx_K) (call : zx_M → zx_K → zx_N) (nx : zx_N) (op a b np : Nat) (cur0 cur : List zx_E) (pc row : Nat) (st : List Nat) (h : zx_H) (e hn ce sl : Nat) : Bool := bif Nat.ble op 9 then zx_o7_9 M K call nx op a b np cur0 cur pc row st h e hn ce sl else zx_o10_11 M K call nx op a b np cur0 cur pc row st h e hn ce sl
noncomputable def zx_o1_11 (M : zx_M) (K : zx_K) (call : zx_M → zx_K → zx_N) (nx : zx_N) (op a b np : Nat) (cur0 cur : List zx_E) (pc row : Nat) (st : List Nat) (h : zx_H) (e hn ce sl : Nat) : Bool := bif Nat.ble op 6 then zx_o1_6 M K call nx op a b np cur0 cur pc row st h e hn ce sl else zx_o7_11 M K call nx op a b np cur0 cur pc row st h e hn ce sl
noncomputable def zx_o12_14 (M : zx_M) (K : zx_K) (call : zx_M → zx_K → zx_N) (nx : zx_N) (op a b np : Nat) (cur0 cur : List zx_E) (pc row : Nat) (st : List Nat) (h : zx_H) (e hn ce sl : Nat) : Bool := bif Nat.ble op 13 then (bif Nat.ble op 12 then (zh_bin nx np cur row st h e hn ce sl zx_sr) else (zh_bin nx np cur row st h e hn ce sl (zx_sh zx_g8))) else (zh_bin nx np cur row st h e hn ce sl (zx_dv Nat.div))
noncomputable def zx_o15_17 (M : zx_M) (K : zx_K) (call : zx_M → zx_K → zx_N) (nx : zx_N) (op a b np : Nat) (cur0 cur : List zx_E) (pc row : Nat) (st : List Nat) (h : zx_H) (e hn ce sl : Nat) : Bool := bif Nat.ble op 16 then (bif Nat.ble op 15 then (zh_bin nx np cur row st h e hn ce sl (zx_dv Nat.mod)) else (zh_un nx np cur row st h e hn ce sl zx_n8)) else (zh_un nx np cur row st h e hn ce sl zx_n16)
noncomputable def zx_o12_17 (M : zx_M) (K : zx_K) (call : zx_M → zx_K → zx_N) (nx : zx_N) (op a b np : Nat) (cur0 cur : List zx_E) (pc row : Nat) (st : List Nat) (h : zx_H) (e hn ce sl : Nat) : Bool := bif Nat.ble op 14 then zx_o12_14 M K call nx op a b np cur0 cur pc row st h e hn ce sl else zx_o15_17 M K call nx op a b np cur0 cur pc row st h e hn ce sl
noncomputable def zx_o18_20 (M : zx_M) (K : zx_K) (call : zx_M → zx_K → zx_N) (nx : zx_N) (op a b np : Nat) (cur0 cur : List zx_E) (pc row : Nat) (st : List Nat) (h : zx_H) (e hn ce sl : Nat) : Bool := bif Nat.ble op 19 then (bif Nat.ble op 18 then (zh_i2l nx np cur row st h e hn ce sl) else (zh_lbin nx np cur row st h e hn ce sl)) else (zh_dup nx np cur row st h e hn ce sl)
noncomputable def zx_o21_22 (M : zx_M) (K : zx_K) (call : zx_M → zx_K → zx_N) (nx : zx_N) (op a b np : Nat) (cur0 cur : List zx_E) (pc row : Nat) (st : List Nat) (h : zx_H) (e hn ce sl : Nat) : Bool := bif Nat.ble op 21 then (zh_pop nx np cur row st h e hn ce sl) else (zh_dup2 nx np cur row st h e hn ce sl)
noncomputable def zx_o18_22 (M : zx_M) (K : zx_K) (call : zx_M → zx_K → zx_N) (nx : zx_N) (op a b np : Nat) (cur0 cur : List zx_E) (pc row : Nat) (st : List Nat) (h : zx_H) (e hn ce sl : Nat) : Bool := bif Nat.ble op 20 then zx_o18_20 M K call nx op a b np cur0 cur pc row st h e hn ce sl else zx_o21_22 M K call nx op a b np cur0 cur pc row st h e hn ce sl
noncomputable def zx_o12_22 (M : zx_M) (K : zx_K) (call : zx_M → zx_K → zx_N) (nx : zx_N) (op a b np : Nat) (cur0 cur : List zx_E) (pc row : Nat) (st : List Nat) (h : zx_H) (e hn ce sl : Nat) : Bool := bif Nat.ble op 17 then zx_o12_17 M K call nx op a b np cur0 cur pc row st h e hn ce sl else zx_o18_22 M K call nx op a b np cur0 cur pc row st h e hn ce sl
noncomputable def zx_o1_22 (M : zx_M) (K : zx_K) (call : zx_M → zx_K → zx_N) (nx : zx_N) (op a b np : Nat) (cur0 cur : List zx_E) (pc row : Nat) (st : List Nat) (h : zx_H) (e hn ce sl : Nat) : Bool := bif Nat.ble op 11 then zx_o1_11 M K call nx op a b np cur0 cur pc row st h e hn ce sl else zx_o12_22 M K call nx op a b np cur0 cur pc row st h e hn ce sl
noncomputable def zx_o23_25 (M : zx_M) (K : zx_K) (call : zx_M → zx_K → zx_N) (nx : zx_N) (op a b np : Nat) (cur0 cur : List zx_E) (pc row : Nat) (st : List Nat) (h : zx_H) (e hn ce sl : Nat) : Bool := bif Nat.ble op 24 then (bif Nat.ble op 23 then (zx_jp M nx a row st h e hn ce sl) else (zh_icmp M nx a b np cur row st h e hn ce sl)) else (zh_if M nx a b np cur row st h e hn ce sl)
noncomputable def zx_o26_28 (M : zx_M) (K : zx_K) (call : zx_M → zx_K → zx_N) (nx : zx_N) (op a b np : Nat) (cur0 cur : List zx_E) (pc row : Nat) (st : List Nat) (h : zx_H) (e hn ce sl : Nat) : Bool := bif Nat.ble op 27 then (bif Nat.ble op 26 then (zh_sw M nx a row st h e hn ce sl) else (zh_get nx a b np cur row st h e hn ce sl)) else (zh_put nx a b np cur row st h e hn ce sl)
noncomputable def zx_o23_28 (M : zx_M) (K : zx_K) (call : zx_M → zx_K → zx_N) (nx : zx_N) (op a b np : Nat) (cur0 cur : List zx_E) (pc row : Nat) (st : List Nat) (h : zx_H) (e hn ce sl : Nat) : Bool := bif Nat.ble op 25 then zx_o23_25 M K call nx op a b np cur0 cur pc row st h e hn ce sl else zx_o26_28 M K call nx op a b np cur0 cur pc row st h e hn ce sl
noncomputable def zx_o29_31 (M : zx_M) (K : zx_K) (call : zx_M → zx_K → zx_N) (nx : zx_N) (op a b np : Nat) (cur0 cur : List zx_E) (pc row : Nat) (st : List Nat) (h : zx_H) (e hn ce sl : Nat) : Bool := bif Nat.ble op 30 then (bif Nat.ble op 29 then (zh_str nx a np cur row st h e hn ce sl) else (zh_new M nx a b np cur row st h e hn ce sl)) else (zh_arr M nx a np cur row st h e hn ce sl)
noncomputable def zx_o32_33 (M : zx_M) (K : zx_K) (call : zx_M → zx_K → zx_N) (nx : zx_N) (op a b np : Nat) (cur0 cur : List zx_E) (pc row : Nat) (st : List Nat) (h : zx_H) (e hn ce sl : Nat) : Bool := bif Nat.ble op 32 then (zh_len nx np cur row st h e hn ce sl) else (zh_ald nx a np cur0 cur pc row st h e hn ce sl)
noncomputable def zx_o29_33 (M : zx_M) (K : zx_K) (call : zx_M → zx_K → zx_N) (nx : zx_N) (op a b np : Nat) (cur0 cur : List zx_E) (pc row : Nat) (st : List Nat) (h : zx_H) (e hn ce sl : Nat) : Bool := bif Nat.ble op 31 then zx_o29_31 M K call nx op a b np cur0 cur pc row st h e hn ce sl else zx_o32_33 M K call nx op a b np cur0 cur pc row st h e hn ce sl
noncomputable def zx_o23_33 (M : zx_M) (K : zx_K) (call : zx_M → zx_K → zx_N) (nx : zx_N) (op a b np : Nat) (cur0 cur : List zx_E) (pc row : Nat) (st : List Nat) (h : zx_H) (e hn ce sl : Nat) : Bool := bif Nat.ble op 28 then zx_o23_28 M K call nx op a b np cur0 cur pc row st h e hn ce sl else zx_o29_33 M K call nx op a b np cur0 cur pc row st h e hn ce sl
noncomputable def zx_o34_36 (M : zx_M) (K : zx_K) (call : zx_M → zx_K → zx_N) (nx : zx_N) (op a b np : Nat) (cur0 cur : List zx_E) (pc row : Nat) (st : List Nat) (h : zx_H) (e hn ce sl : Nat) : Bool := bif Nat.ble op 35 then (bif Nat.ble op 34 then (zh_ast nx a np cur row st h e hn ce sl) else (zh_lald nx np cur row st h e hn ce sl)) else (zh_last nx np cur row st h e hn ce sl)
noncomputable def zx_o37_38 (M : zx_M) (K : zx_K) (call : zx_M → zx_K → zx_N) (nx : zx_N) (op a b np : Nat) (cur0 cur : List zx_E) (pc row : Nat) (st : List Nat) (h : zx_H) (e hn ce sl : Nat) : Bool := bif Nat.ble op 37 then (zh_rald nx np cur0 cur pc row st h e hn ce sl) else (zh_rast nx np cur row st h e hn ce sl)
noncomputable def zx_o34_38 (M : zx_M) (K : zx_K) (call : zx_M → zx_K → zx_N) (nx : zx_N) (op a b np : Nat) (cur0 cur : List zx_E) (pc row : Nat) (st : List Nat) (h : zx_H) (e hn ce sl : Nat) : Bool := bif Nat.ble op 36 then zx_o34_36 M K call nx op a b np cur0 cur pc row st h e hn ce sl else zx_o37_38 M K call nx op a b np cur0 cur pc row st h e hn ce sl
noncomputable def zx_o39_41 (M : zx_M) (K : zx_K) (call : zx_M → zx_K → zx_N) (nx : zx_N) (op a b np : Nat) (cur0 cur : List zx_E) (pc row : Nat) (st : List Nat) (h : zx_H) (e hn ce sl : Nat) : Bool := bif Nat.ble op 40 then (bif Nat.ble op 39 then (zh_obj nx np cur row st h e hn ce sl) else (zh_cpy nx np cur row st h e hn ce sl)) else (zh_inv M call nx a np cur row st h e hn ce sl)
noncomputable def zx_o42_43 (M : zx_M) (K : zx_K) (call : zx_M → zx_K → zx_N) (nx : zx_N) (op a b np : Nat) (cur0 cur : List zx_E) (pc row : Nat) (st : List Nat) (h : zx_H) (e hn ce sl : Nat) : Bool := bif Nat.ble op 42 then (zh_ret M K st h e hn ce sl) else (zh_rtv M K st h e hn ce sl)
noncomputable def zx_o39_43 (M : zx_M) (K : zx_K) (call : zx_M → zx_K → zx_N) (nx : zx_N) (op a b np : Nat) (cur0 cur : List zx_E) (pc row : Nat) (st : List Nat) (h : zx_H) (e hn ce sl : Nat) : Bool := bif Nat.ble op 41 then zx_o39_41 M K call nx op a b np cur0 cur pc row st h e hn ce sl else zx_o42_43 M K call nx op a b np cur0 cur pc row st h e hn ce sl
noncomputable def zx_o34_43 (M : zx_M) (K : zx_K) (call : zx_M → zx_K → zx_N) (nx : zx_N) (op a b np : Nat) (cur0 cur : List zx_E) (pc row : Nat) (st : List Nat) (h : zx_H) (e hn ce sl : Nat) : Bool := bif Nat.ble op 38 then zx_o34_38 M K call nx op a b np cur0 cur pc row st h e hn ce sl else zx_o39_43 M K call nx op a b np cur0 cur pc row st h e hn ce sl
noncomputable def zx_o23_43 (M : zx_M) (K : zx_K) (call : zx_M → zx_K → zx_N) (nx : zx_N) (op a b np : Nat) (cur0 cur : List zx_E) (pc row : Nat) (st : List Nat) (h : zx_H) (e hn ce sl : Nat) : Bool := bif Nat.ble op 33 then zx_o23_33 M K call nx op a b np cur0 cur pc row st h e hn ce sl else zx_o34_43 M K call nx op a b np cur0 cur pc row st h e hn ce sl
noncomputable def zx_o1_43 (M : zx_M) (K : zx_K) (call : zx_M → zx_K → zx_N) (nx : zx_N) (op a b np : Nat) (cur0 cur : List zx_E) (pc row : Nat) (st : List Nat) (h : zx_H) (e hn ce sl : Nat) : Bool := bif Nat.ble op 22 then zx_o1_22 M K call nx op a b np cur0 cur pc row st h e hn ce sl else zx_o23_43 M K call nx op a b np cur0 cur pc row st h e hn ce sl
noncomputable def zx_op (M : zx_M) (K : zx_K) (call : zx_M → zx_K → zx_N) (nx : zx_N) (op a b np : Nat) (cur0 cur : List zx_E) (pc row : Nat) (st : List Nat) (h : zx_H) (e hn ce sl : Nat) : Bool := bif Nat.beq op 0 then zh_ld nx a b np cur row st h e hn ce sl else bif Nat.ble op 43 then zx_o1_43 M K call nx op a b np cur0 cur pc row st h e hn ce sl else false
noncomputable def zx_st (M : zx_M) (K : zx_K) (call : zx_M → zx_K → zx_N) (nx : zx_N) : zx_N := fun cur0 pc row st h e hn ce sl => @List.rec zx_E (fun _ => Bool) (zx_bk M.2.2 pc (fun cur => nx cur pc row st h e hn ce sl)) (fun q cur _ => bif Nat.beq q.1 pc then zx_op M K call nx q.2.1 q.2.2.1 q.2.2.2.1 q.2.2.2.2 cur0 cur pc row st h e hn ce sl else false) cur0
def zx_zf : zx_N := fun _ _ _ _ _ _ _ _ _ => false
/-- n steps at most, d calls deep at most; z goes on where the steps end -/
noncomputable def zx_R (n : Nat) : Nat → zx_M → zx_K → zx_N → zx_N := @Nat.rec (fun _ => Nat → zx_M → zx_K → zx_N → zx_N) (fun _ _ _ z => z) (fun _ ih d M K z => zx_st M K (fun M' K' => @Nat.rec (fun _ => zx_N) zx_zf (fun d' _ => ih d' M' K' zx_zf) d) (ih d M K z)) n
/-- n steps of a method, each call with f steps at most -/
noncomputable def zx_T (f d : Nat) (M : zx_M) (K : zx_K) (n : Nat) : zx_N → zx_N := @Nat.rec (fun _ => zx_N → zx_N) (fun z => z) (fun _ ih z => zx_st M K (fun M' K' => zx_R f d M' K' zx_zf) (ih z)) n
end
section
/-! the walker's numbers are the machine's -/
theorem zx_fn_eq (n : Nat) (k : Nat → Bool) : zx_fn n k = k n := by cases n <;> rfl
theorem zx_and_b {a b : Bool} (h : (a && b) = true) : a = true ∧ b = true := by cases a <;> cases b <;> simp_all
theorem zx_bif {c a b : Bool} (h : (bif c then a else b) = true) : (c = true ∧ a = true) ∨ (c = false ∧ b = true) := by cases c <;> simp_all
theorem zx_bft {c a : Bool} (h : (bif c then a else false) = true) : c = true ∧ a = true := by cases c <;> simp_all
theorem zx_blt_f {a b : Nat} (h : Nat.blt a b = false) : b ≤ a := by
  rcases Nat.lt_or_ge a b with q | q
  · have : Nat.blt a b = true := Nat.ble_eq_true_of_le q
    rw [this] at h; cases h
  · exact q
theorem zx_blt_t {a b : Nat} (h : Nat.blt a b = true) : a < b := Nat.le_of_ble_eq_true h
theorem zx_ble_t {a b : Nat} (h : Nat.ble a b = true) : a ≤ b := Nat.le_of_ble_eq_true h
theorem zx_ble_f {a b : Nat} (h : Nat.ble a b = false) : b < a := by
  rcases Nat.lt_or_ge b a with q | q
  · exact q
  · have : Nat.ble a b = true := Nat.ble_eq_true_of_le q
    rw [this] at h; cases h
theorem zx_beq_t {a b : Nat} (h : Nat.beq a b = true) : a = b := Nat.eq_of_beq_eq_true h
theorem zx_beq_f {a b : Nat} (h : Nat.beq a b = false) : a ≠ b := fun e => by subst e; rw [Nat.beq_refl] at h; cases h
/-- lists -/
theorem zx_at_s {α : Type} {k : α → Bool} : ∀ (l : List α) (i : Nat), zx_at l i k = true → ∃ a, l[i]? = some a ∧ k a = true
  | [], _, h => by cases h
  | a :: l, 0, h => ⟨a, rfl, h⟩
  | _ :: l, i + 1, h => zx_at_s l i h
theorem zx_up_s {α : Type} {x : α} : ∀ (l : List α) (i : Nat) (k : List α → Bool), zx_up l i x k = true → i < l.length ∧ k (l.set i x) = true
  | [], _, _, h => by cases h
  | a :: l, 0, k, h => ⟨Nat.succ_pos _, h⟩
  | a :: l, i + 1, k, h => by
    obtain ⟨h1, h2⟩ := zx_up_s l i (fun t' => k (a :: t')) h
    exact ⟨Nat.succ_lt_succ h1, h2⟩
theorem zx_bk_s {pc : Nat} {k : List zx_E → Bool} : ∀ (t : List (Nat × List zx_E)), zx_bk t pc k = true → ∃ q ∈ t, k q.2 = true
  | [], h => by cases h
  | q :: t, h => by
    have h : (bif Nat.beq q.1 pc then k q.2 else zx_bk t pc k) = true := h
    rcases zx_bif h with ⟨-, h1⟩ | ⟨-, h1⟩
    · exact ⟨q, List.mem_cons_self, h1⟩
    · obtain ⟨q', m, h2⟩ := zx_bk_s t h1
      exact ⟨q', List.mem_cons_of_mem _ m, h2⟩
theorem zx_p1_s {st : List Nat} {k : Nat → List Nat → Bool} (h : zx_p1 st k = true) : ∃ a t, st = a :: t ∧ k a t = true := by
  cases st with
  | nil => cases h
  | cons a t => exact ⟨a, t, rfl, h⟩
theorem zx_p2_s {st : List Nat} {k : Nat → Nat → List Nat → Bool} (h : zx_p2 st k = true) : ∃ y x t, st = y :: x :: t ∧ k y x t = true := by
  obtain ⟨y, t, rfl, h1⟩ := zx_p1_s h
  obtain ⟨x, t, rfl, h2⟩ := zx_p1_s h1
  exact ⟨y, x, t, rfl, h2⟩
theorem zx_p3_s {st : List Nat} {k : Nat → Nat → Nat → List Nat → Bool} (h : zx_p3 st k = true) : ∃ z y x t, st = z :: y :: x :: t ∧ k z y x t = true := by
  obtain ⟨z, t, rfl, h1⟩ := zx_p1_s h
  obtain ⟨y, t, rfl, h2⟩ := zx_p1_s h1
  obtain ⟨x, t, rfl, h3⟩ := zx_p1_s h2
  exact ⟨z, y, x, t, rfl, h3⟩
/-! digits -/
theorem zx_dg_lt {o w B c j : Nat} (hB : B = 2 ^ w) : zx_dg o w B c j < B := Nat.mod_lt _ (by rw [hB]; exact Nat.pow_pos (by decide))
theorem zx_sd_same {o w B : Nat} (hB : B = 2 ^ w) (c j x : Nat) (hx : x < B) : zx_dg o w B (zx_sd o w B c j x) j = x := by
  subst hB
  show ((c ^^^ ((zx_dg o w (2 ^ w) c j ^^^ x) <<< (o + w * j))) >>> (o + w * j)) % 2 ^ w = x
  rw [Nat.shiftRight_xor_distrib, Nat.shiftLeft_shiftRight, Nat.xor_mod_two_pow]
  have h1 : (c >>> (o + w * j)) % 2 ^ w = zx_dg o w (2 ^ w) c j := rfl
  have h2 : (zx_dg o w (2 ^ w) c j ^^^ x) % 2 ^ w = zx_dg o w (2 ^ w) c j ^^^ x := Nat.mod_eq_of_lt (Nat.xor_lt_two_pow (zx_dg_lt rfl) hx)
  rw [h1, h2, ← Nat.xor_assoc, Nat.xor_self, Nat.zero_xor]
theorem zx_shz {d w k i : Nat} (hd : d < 2 ^ w) (h : i + w ≤ k ∨ k + w ≤ i) : (d <<< k) >>> i % 2 ^ w = 0 := by
  rw [Nat.shiftRight_eq_div_pow, Nat.shiftLeft_eq]
  rcases h with h | h
  · have e : k = i + (w + (k - i - w)) := by omega
    rw [e, Nat.pow_add, Nat.pow_add, Nat.mul_left_comm, Nat.mul_div_cancel_left _ (Nat.pow_pos (by decide)), ← Nat.mul_assoc, Nat.mul_comm d, Nat.mul_assoc, Nat.mul_mod_right]
  · have e : i = k + (w + (i - k - w)) := by omega
    have hlt : d * 2 ^ k / 2 ^ i = 0 := by
      apply Nat.div_eq_of_lt
      rw [e, Nat.pow_add, Nat.mul_comm]
      refine Nat.mul_lt_mul_of_pos_left ?_ (Nat.pow_pos (by decide))
      exact Nat.lt_of_lt_of_le hd (Nat.pow_le_pow_right (by decide) (by omega))
    rw [hlt, Nat.zero_mod]
theorem zx_sd_other {o w B : Nat} (hB : B = 2 ^ w) (c j x i : Nat) (hx : x < B) (hij : i ≠ j) : zx_dg o w B (zx_sd o w B c j x) i = zx_dg o w B c i := by
  subst hB
  show ((c ^^^ ((zx_dg o w (2 ^ w) c j ^^^ x) <<< (o + w * j))) >>> (o + w * i)) % 2 ^ w = (c >>> (o + w * i)) % 2 ^ w
  have hd : zx_dg o w (2 ^ w) c j ^^^ x < 2 ^ w := Nat.xor_lt_two_pow (zx_dg_lt rfl) hx
  rw [Nat.shiftRight_xor_distrib, Nat.xor_mod_two_pow, zx_shz hd, Nat.xor_zero]
  rcases Nat.lt_or_gt_of_ne hij with h | h
  · have := Nat.mul_le_mul_left w (show i + 1 ≤ j from h)
    rw [Nat.mul_add] at this
    omega
  · have := Nat.mul_le_mul_left w (show j + 1 ≤ i from h)
    rw [Nat.mul_add] at this
    omega
theorem zx_sd_low {o w B : Nat} (c j x : Nat) : zx_sd o w B c j x % 2 ^ o = c % 2 ^ o := by
  show (c ^^^ ((zx_dg o w B c j ^^^ x) <<< (o + w * j))) % 2 ^ o = c % 2 ^ o
  have h : (zx_dg o w B c j ^^^ x) <<< (o + w * j) % 2 ^ o = 0 := by
    rw [Nat.shiftLeft_eq, Nat.pow_add, Nat.mul_left_comm, Nat.mul_mod_right]
  rw [Nat.xor_mod_two_pow, h, Nat.xor_zero]
theorem zx_os_hd (c j x : Nat) : zx_hd (zx_os c j x) = zx_hd c := zx_sd_low (o := 20) c j x
theorem zx_is_hd (c j x : Nat) : zx_hd (zx_is c j x) = zx_hd c := zx_sd_low (o := 20) c j x
theorem zx_hd_tg {c c' : Nat} (h : zx_hd c = zx_hd c') : zx_tg c = zx_tg c' ∧ zx_cn c = zx_cn c' := by
  have h : c % 1048576 = c' % 1048576 := h
  refine ⟨?_, ?_⟩
  · show c % 16 = c' % 16
    omega
  · show c % 1048576 / 16 = c' % 1048576 / 16
    rw [h]
/-! ints -/
def zx_bz (x : Int32) : Nat := (x.toInt + 2147483648).toNat
theorem zx_rg (x : Int32) : -2147483648 ≤ x.toInt ∧ x.toInt < 2147483648 := ⟨Int32.le_toInt x, Int32.toInt_lt x⟩
theorem zx_bz_int (x : Int32) : (zx_bz x : Int) = x.toInt + 2147483648 := by
  have := zx_rg x
  unfold zx_bz
  omega
theorem zx_bz_lt (x : Int32) : zx_bz x < 4294967296 := by
  have h1 := zx_bz_int x
  have := zx_rg x
  omega
theorem zx_lt' (x y : Int32) : x < y ↔ zx_bz x < zx_bz y := by
  rw [Int32.lt_iff_toInt_lt]
  have h1 := zx_bz_int x
  have h2 := zx_bz_int y
  omega
theorem zx_eq' (x y : Int32) : x = y ↔ zx_bz x = zx_bz y := by
  rw [← Int32.toInt_inj]
  have h1 := zx_bz_int x
  have h2 := zx_bz_int y
  omega
theorem zx_le' (x y : Int32) : x ≤ y ↔ zx_bz x ≤ zx_bz y := by
  rw [Int32.le_iff_toInt_le]
  have h1 := zx_bz_int x
  have h2 := zx_bz_int y
  omega
theorem zx_nI_int (n : Nat) (h : n < 4294967296) : (nI n).toInt = if n < 2147483648 then (n : Int) else (n : Int) - 4294967296 := by
  have h1 : (nI n).toInt = (nI n).toBitVec.toInt := rfl
  rw [h1, BitVec.toInt_eq_toNat_cond, pk_tn (by omega)]
  split <;> split <;> omega
theorem zx_bi_eq (n : Nat) : zx_bi n = (n + 2147483648) % 4294967296 := rfl
theorem zx_bi_lt (n : Nat) : zx_bi n < 4294967296 := Nat.mod_lt _ (by decide)
theorem zx_bz_nI (n : Nat) (h : n < 4294967296) : zx_bz (nI n) = zx_bi n := by
  have h1 := zx_bz_int (nI n)
  rw [zx_nI_int n h] at h1
  rw [zx_bi_eq]
  split at h1 <;> omega
theorem zx_of_bz (x : Int32) : x = nI (zx_bi (zx_bz x)) := by
  have hl := zx_bz_lt x
  rw [zx_eq', zx_bz_nI _ (zx_bi_lt _), zx_bi_eq, zx_bi_eq]
  omega
theorem zx_md (n : Nat) : nI (n % 4294967296) = nI n := by
  have h : ∀ k : Nat, (nI k).toBitVec = BitVec.ofNat 32 k := fun k => rfl
  apply Int32.toBitVec_inj.mp
  rw [h, h]
  apply BitVec.eq_of_toNat_eq
  simp
theorem zx_and' (a b : Nat) : nI a &&& nI b = nI (a &&& b) := by
  apply Int32.toBitVec_inj.1
  show BitVec.ofNat 32 a &&& BitVec.ofNat 32 b = BitVec.ofNat 32 (a &&& b)
  apply BitVec.eq_of_getLsbD_eq
  intro i hi
  simp [hi]
theorem zx_or' (a b : Nat) : nI a ||| nI b = nI (a ||| b) := by
  apply Int32.toBitVec_inj.1
  show BitVec.ofNat 32 a ||| BitVec.ofNat 32 b = BitVec.ofNat 32 (a ||| b)
  apply BitVec.eq_of_getLsbD_eq
  intro i hi
  simp [hi]
theorem zx_xor' (a b : Nat) : nI a ^^^ nI b = nI (a ^^^ b) := by
  apply Int32.toBitVec_inj.1
  show BitVec.ofNat 32 a ^^^ BitVec.ofNat 32 b = BitVec.ofNat 32 (a ^^^ b)
  apply BitVec.eq_of_getLsbD_eq
  intro i hi
  simp [hi]
theorem zx_sl' : ∀ n, n < 32 → ((nI n &&& 31).toBitVec.smod 32).toNat = n := by decide +kernel
theorem zx_su' : ∀ n, n < 32 → (((nI n).toUInt32 &&& Int32.toUInt32 31).toBitVec % 32).toNat = n := by decide +kernel
theorem zx_sub' (x y : Nat) (hy : y < 4294967296) : nI x - nI y = nI (zx_f1 x y) := by
  show _ = nI ((x + (4294967296 - y)) % 4294967296)
  rw [zx_md]
  have h : nI x = nI (x + (4294967296 - y)) + nI y := by
    rw [nI_add, ← zx_md x, ← zx_md (x + (4294967296 - y) + y)]
    congr 1
    omega
  rw [h, Int32.add_sub_cancel]
theorem zx_shl' (x y : Nat) (hx : x < 4294967296) (hy : y < 32) : nI x <<< (nI y &&& 31) = nI (zx_g6 x y) := by
  apply Int32.toBitVec_inj.1
  apply BitVec.eq_of_toNat_eq
  rw [pk_shl (nI x) (nI y &&& 31) y (zx_sl' y hy), pk_tn (by omega)]
  show _ = (nI ((x * 2 ^ y) % 4294967296)).toBitVec.toNat
  rw [pk_tn (Nat.mod_lt _ (by decide))]
theorem zx_g7_lt (x y : Nat) (hx : x < 4294967296) : zx_g7 x y < 4294967296 := by
  have hd : x / 2 ^ y ≤ x := Nat.div_le_self _ _
  show (bif Nat.blt x 2147483648 then x / 2 ^ y else 4294967295 - (4294967295 - x) / 2 ^ y) < 4294967296
  cases Nat.blt x 2147483648
  · exact Nat.lt_of_le_of_lt (Nat.sub_le _ _) (by decide)
  · exact Nat.lt_of_le_of_lt hd hx
theorem zx_shr' (x y : Nat) (hx : x < 4294967296) (hy : y < 32) : nI x >>> (nI y &&& 31) = nI (zx_g7 x y) := by
  apply Int32.toInt_inj.1
  have hl := zx_g7_lt x y hx
  have hd : x / 2 ^ y ≤ x := Nat.div_le_self _ _
  rw [pk_shr (nI x) (nI y &&& 31) y (zx_sl' y hy), zx_nI_int _ hx, zx_nI_int _ hl, Int.shiftRight_eq_div_pow]
  show _ = if (bif Nat.blt x 2147483648 then x / 2 ^ y else 4294967295 - (4294967295 - x) / 2 ^ y) < 2147483648 then ((bif Nat.blt x 2147483648 then x / 2 ^ y else 4294967295 - (4294967295 - x) / 2 ^ y : Nat) : Int) else ((bif Nat.blt x 2147483648 then x / 2 ^ y else 4294967295 - (4294967295 - x) / 2 ^ y : Nat) : Int) - 4294967296
  by_cases h : x < 2147483648
  · rw [if_pos h, show Nat.blt x 2147483648 = true from Nat.ble_eq_true_of_le h, cond_true, if_pos (by omega)]
    simp
  · have hb : Nat.blt x 2147483648 = false := by
      cases hb : Nat.blt x 2147483648 with
      | false => rfl
      | true => exact absurd (Nat.le_of_ble_eq_true hb) h
    rw [if_neg h, hb, cond_false]
    have hm : (4294967295 - x) / 2 ^ y ≤ 4294967295 - x := Nat.div_le_self _ _
    rw [if_neg (by omega)]
    have e1 : (x : Int) - 4294967296 = Int.negSucc (4294967295 - x) := by omega
    have hp : (0 : Int) < ((2 ^ y : Nat) : Int) := by exact_mod_cast Nat.pow_pos (by decide : 0 < 2)
    rw [e1, Int.negSucc_ediv _ hp]
    have e2 : Int.ediv ((4294967295 - x : Nat) : Int) ((2 ^ y : Nat) : Int) = (((4294967295 - x) / 2 ^ y : Nat) : Int) := rfl
    rw [e2]
    omega
theorem zx_ushr' (x y : Nat) (hx : x < 4294967296) (hy : y < 32) : ((nI x).toUInt32 >>> ((nI y).toUInt32 &&& Int32.toUInt32 31)).toInt32 = nI (zx_g8 x y) := pk_ushrN (by omega) (nI y) y (zx_su' y hy)
theorem zx_g8_lt (x y : Nat) (hx : x < 4294967296) : zx_g8 x y < 4294967296 := Nat.lt_of_le_of_lt (Nat.div_le_self x (2 ^ y)) hx
theorem zx_n8_lt (x : Nat) : zx_n8 x < 4294967296 := by
  show (bif Nat.blt (x % 256) 128 then x % 256 else x % 256 + 4294967040) < 4294967296
  cases Nat.blt (x % 256) 128
  · show x % 256 + 4294967040 < 4294967296
    omega
  · show x % 256 < 4294967296
    omega
theorem zx_n8' (x : Nat) (hx : x < 4294967296) : (nI x).toInt8.toInt32 = nI (zx_n8 x) := by
  apply Int32.toInt_inj.1
  rw [zx_nI_int _ (zx_n8_lt x)]
  have h1 : ((nI x).toInt8.toInt32).toInt = (nI x).toInt8.toInt := Int8.toInt_toInt32 _
  have h2 : (nI x).toInt8.toInt = (nI x).toInt.bmod (2 ^ 8) := Int32.toInt_toInt8 _
  rw [h1, h2, zx_nI_int _ hx]
  show _ = if (bif Nat.blt (x % 256) 128 then x % 256 else x % 256 + 4294967040) < 2147483648 then (((bif Nat.blt (x % 256) 128 then x % 256 else x % 256 + 4294967040) : Nat) : Int) else (((bif Nat.blt (x % 256) 128 then x % 256 else x % 256 + 4294967040) : Nat) : Int) - 4294967296
  cases hb : Nat.blt (x % 256) 128 with
  | true =>
    have := zx_blt_t hb
    simp only [cond_true, Int.bmod_def]
    repeat' split
    all_goals omega
  | false =>
    have := zx_blt_f hb
    simp only [cond_false, Int.bmod_def]
    repeat' split
    all_goals omega
theorem zx_n16' (x : Nat) (hx : x < 4294967296) : ((nI x).toUInt32 % 65536).toInt32 = nI (zx_n16 x) := by
  rw [pk_char, pk_tn (by omega)]
  rfl
end
section
/-! what the walker's values stand for -/
def zx_r (ads : List Nat) (ex : Nat → Nat) (nu : Nat → Int32) (v : Nat) (x : Value) : Prop := v < 4722366482869645213696 ∧ match v % 16 with
  | 1 => x = .int (nu (v / 16))
  | 2 => ∃ q, ads[v / 16]? = some q ∧ x = .ref q
  | 3 => x = .null
  | 4 => x = .int (nI (v / 16)) ∧ v / 16 < 4294967296
  | 5 => ∃ y, x = .long y
  | 6 => x = .ref (ex (v / 16))
  | 7 => ∃ y, x = .int y ∧ v / 16 / 4294967296 ≤ zx_bz y ∧ zx_bz y ≤ v / 16 % 4294967296
  | 8 => x = .null ∨ ∃ q, x = .ref q
  | _ => False
def zx_ev (nu : Nat → Int32) (e : Nat) : Prop := ∀ k : Nat, zx_eg e k = 0 ∨ (zx_eg e k / 4294967296 ≤ zx_bz (nu k) ∧ zx_bz (nu k) ≤ zx_eg e k % 4294967296)
theorem zx_c_eq (n : Nat) : zx_c n = n * 16 + 4 := rfl
theorem zx_c_kd (n : Nat) : zx_c n % 16 = 4 := by rw [zx_c_eq]; omega
theorem zx_c_pl (n : Nat) : zx_c n / 16 = n := by rw [zx_c_eq]; omega
theorem zx_kc146 {v : Nat} (h : zx_kc 146 v = true) : v % 16 = 1 ∨ v % 16 = 4 ∨ v % 16 = 7 := by
  have q : ∀ t, t < 16 → Nat.beq (Nat.mod (Nat.shiftRight 146 t) 2) 1 = true → t = 1 ∨ t = 4 ∨ t = 7 := by decide
  exact q _ (Nat.mod_lt _ (by decide)) h
theorem zx_kc332 {v : Nat} (h : zx_kc 332 v = true) : v % 16 = 2 ∨ v % 16 = 3 ∨ v % 16 = 6 ∨ v % 16 = 8 := by
  have q : ∀ t, t < 16 → Nat.beq (Nat.mod (Nat.shiftRight 332 t) 2) 1 = true → t = 2 ∨ t = 3 ∨ t = 6 ∨ t = 8 := by decide
  exact q _ (Nat.mod_lt _ (by decide)) h
theorem zx_kc32 {v : Nat} (h : zx_kc 32 v = true) : v % 16 = 5 := by
  have q : ∀ t, t < 16 → Nat.beq (Nat.mod (Nat.shiftRight 32 t) 2) 1 = true → t = 5 := by decide
  exact q _ (Nat.mod_lt _ (by decide)) h
theorem zx_kc130 {v : Nat} (h : zx_kc 130 v = true) : v % 16 = 1 ∨ v % 16 = 7 := by
  have q : ∀ t, t < 16 → Nat.beq (Nat.mod (Nat.shiftRight 130 t) 2) 1 = true → t = 1 ∨ t = 7 := by decide
  exact q _ (Nat.mod_lt _ (by decide)) h
theorem zx_kc9 {v : Nat} (h : zx_kc 9 v = true) : v % 16 = 0 ∨ v % 16 = 3 := by
  have q : ∀ t, t < 16 → Nat.beq (Nat.mod (Nat.shiftRight 9 t) 2) 1 = true → t = 0 ∨ t = 3 := by decide
  exact q _ (Nat.mod_lt _ (by decide)) h
theorem zx_kc54 {v : Nat} (h : zx_kc 54 v = true) : v % 16 = 1 ∨ v % 16 = 2 ∨ v % 16 = 4 ∨ v % 16 = 5 := by
  have q : ∀ t, t < 16 → Nat.beq (Nat.mod (Nat.shiftRight 54 t) 2) 1 = true → t = 1 ∨ t = 2 ∨ t = 4 ∨ t = 5 := by decide
  exact q _ (Nat.mod_lt _ (by decide)) h
section ZR
variable {ads : List Nat} {ex : Nat → Nat} {nu : Nat → Int32} {e : Nat}
theorem zx_r1 {v : Nat} {x : Value} (h : v % 16 = 1) : zx_r ads ex nu v x ↔ v < 4722366482869645213696 ∧ x = .int (nu (v / 16)) := by unfold zx_r; rw [h]; exact Iff.rfl
theorem zx_r2 {v : Nat} {x : Value} (h : v % 16 = 2) : zx_r ads ex nu v x ↔ v < 4722366482869645213696 ∧ ∃ q, ads[v / 16]? = some q ∧ x = .ref q := by unfold zx_r; rw [h]; exact Iff.rfl
theorem zx_r3 {v : Nat} {x : Value} (h : v % 16 = 3) : zx_r ads ex nu v x ↔ v < 4722366482869645213696 ∧ x = .null := by unfold zx_r; rw [h]; exact Iff.rfl
theorem zx_r4 {v : Nat} {x : Value} (h : v % 16 = 4) : zx_r ads ex nu v x ↔ v < 4722366482869645213696 ∧ (x = .int (nI (v / 16)) ∧ v / 16 < 4294967296) := by unfold zx_r; rw [h]; exact Iff.rfl
theorem zx_r5 {v : Nat} {x : Value} (h : v % 16 = 5) : zx_r ads ex nu v x ↔ v < 4722366482869645213696 ∧ ∃ y, x = .long y := by unfold zx_r; rw [h]; exact Iff.rfl
theorem zx_r6 {v : Nat} {x : Value} (h : v % 16 = 6) : zx_r ads ex nu v x ↔ v < 4722366482869645213696 ∧ x = .ref (ex (v / 16)) := by unfold zx_r; rw [h]; exact Iff.rfl
theorem zx_r7 {v : Nat} {x : Value} (h : v % 16 = 7) : zx_r ads ex nu v x ↔ v < 4722366482869645213696 ∧ ∃ y, x = .int y ∧ v / 16 / 4294967296 ≤ zx_bz y ∧ zx_bz y ≤ v / 16 % 4294967296 := by unfold zx_r; rw [h]; exact Iff.rfl
theorem zx_r8 {v : Nat} {x : Value} (h : v % 16 = 8) : zx_r ads ex nu v x ↔ v < 4722366482869645213696 ∧ (x = .null ∨ ∃ q, x = .ref q) := by unfold zx_r; rw [h]; exact Iff.rfl
theorem zx_r_lt {v : Nat} {x : Value} (h : zx_r ads ex nu v x) : v < 4722366482869645213696 := h.1
theorem zx_r_kd {v : Nat} {x : Value} (h : zx_r ads ex nu v x) : v % 16 = 1 ∨ v % 16 = 2 ∨ v % 16 = 3 ∨ v % 16 = 4 ∨ v % 16 = 5 ∨ v % 16 = 6 ∨ v % 16 = 7 ∨ v % 16 = 8 := by
  obtain ⟨-, h⟩ := h
  have hl : v % 16 < 16 := Nat.mod_lt _ (by decide)
  generalize v % 16 = t at h hl
  match t, h, hl with
  | 0, h, _ => exact h.elim
  | 1, _, _ => omega
  | 2, _, _ => omega
  | 3, _, _ => omega
  | 4, _, _ => omega
  | 5, _, _ => omega
  | 6, _, _ => omega
  | 7, _, _ => omega
  | 8, _, _ => omega
  | (k + 9), h, _ => exact h.elim
theorem zx_r_c {n : Nat} (h : n < 4294967296) : zx_r ads ex nu (zx_c n) (.int (nI n)) := by
  rw [zx_r4 (zx_c_kd n), zx_c_pl]
  exact ⟨by rw [zx_c_eq]; omega, rfl, h⟩
theorem zx_r_un (x : Int32) : zx_r ads ex nu zx_un (.int x) := by
  rw [zx_r7 (by decide)]
  refine ⟨by decide, x, rfl, ?_, ?_⟩
  · exact Nat.zero_le _
  · have := zx_bz_lt x
    show _ ≤ 4294967295
    omega
theorem zx_r_i {v : Nat} {x : Value} (hi : zx_ii v = true) (h : zx_r ads ex nu v x) : ∃ y : Int32, x = .int y := by
  rcases zx_kc146 hi with q | q | q
  · exact ⟨_, ((zx_r1 q).mp h).2⟩
  · exact ⟨_, ((zx_r4 q).mp h).2.1⟩
  · obtain ⟨-, y, hy, -⟩ := (zx_r7 q).mp h
    exact ⟨y, hy⟩
theorem zx_r_r {v : Nat} {x : Value} (hi : zx_kc 332 v = true) (h : zx_r ads ex nu v x) : x = .null ∨ ∃ q, x = .ref q := by
  rcases zx_kc332 hi with q | q | q | q
  · obtain ⟨-, y, -, hy⟩ := (zx_r2 q).mp h
    exact Or.inr ⟨y, hy⟩
  · exact Or.inl ((zx_r3 q).mp h).2
  · exact Or.inr ⟨_, ((zx_r6 q).mp h).2⟩
  · exact ((zx_r8 q).mp h).2
theorem zx_r_j {v : Nat} {x : Value} (hi : v % 16 = 5) (h : zx_r ads ex nu v x) : ∃ y : Int64, x = .long y := ((zx_r5 hi).mp h).2
theorem zx_r_l (y : Int64) : zx_r ads ex nu 5 (.long y) := (zx_r5 (by decide)).mpr ⟨by decide, y, rfl⟩
theorem zx_r_cat {v : Nat} {x : Value} (h : zx_r ads ex nu v x) : x.category = bif Nat.beq (zx_kd v) 5 then 2 else 1 := by
  have e : zx_kd v = v % 16 := rfl
  rw [e]
  rcases zx_r_kd h with q | q | q | q | q | q | q | q <;> rw [q]
  · rw [((zx_r1 q).mp h).2]; rfl
  · obtain ⟨-, y, -, rfl⟩ := (zx_r2 q).mp h; rfl
  · rw [((zx_r3 q).mp h).2]; rfl
  · rw [((zx_r4 q).mp h).2.1]; rfl
  · obtain ⟨-, y, rfl⟩ := (zx_r5 q).mp h; rfl
  · rw [((zx_r6 q).mp h).2]; rfl
  · obtain ⟨-, y, rfl, -⟩ := (zx_r7 q).mp h; rfl
  · rcases ((zx_r8 q).mp h).2 with rfl | ⟨y, rfl⟩ <;> rfl
theorem zx_r_mono {ads' : List Nat} (hp : ∀ (i q : Nat), ads[i]? = some q → ads'[i]? = some q) {v : Nat} {x : Value} (h : zx_r ads ex nu v x) : zx_r ads' ex nu v x := by
  rcases zx_r_kd h with q | q | q | q | q | q | q | q
  · exact (zx_r1 q).mpr ((zx_r1 q).mp h)
  · obtain ⟨h0, y, h1, h2⟩ := (zx_r2 q).mp h
    exact (zx_r2 q).mpr ⟨h0, y, hp _ _ h1, h2⟩
  · exact (zx_r3 q).mpr ((zx_r3 q).mp h)
  · exact (zx_r4 q).mpr ((zx_r4 q).mp h)
  · exact (zx_r5 q).mpr ((zx_r5 q).mp h)
  · exact (zx_r6 q).mpr ((zx_r6 q).mp h)
  · exact (zx_r7 q).mpr ((zx_r7 q).mp h)
  · exact (zx_r8 q).mpr ((zx_r8 q).mp h)
/-- bounds of an int -/
theorem zx_iv_s (he : zx_ev nu e) {v : Nat} {y : Int32} (h : zx_r ads ex nu v (.int y)) {k : Nat → Nat → Bool} (hk : zx_iv e v k = true) :
    ∃ l u, k l u = true ∧ l ≤ zx_bz y ∧ zx_bz y ≤ u ∧ u < 4294967296 ∧ (v % 16 = 1 → y = nu (v / 16)) := by
  unfold zx_iv at hk
  rcases zx_bif hk with ⟨q, hk⟩ | ⟨-, hk⟩
  · have q : v % 16 = 4 := zx_beq_t q
    rw [zx_fn_eq] at hk
    obtain ⟨-, h1, h2⟩ := (zx_r4 q).mp h
    cases h1
    have e1 := zx_bz_nI (v / 16) h2
    have e2 : zx_bi (zx_pl v) = zx_bi (v / 16) := rfl
    exact ⟨_, _, hk, by rw [e1, e2]; exact Nat.le_refl _, by rw [e1, e2]; exact Nat.le_refl _, zx_bi_lt _, fun z => by omega⟩
  rcases zx_bif hk with ⟨q, hk⟩ | ⟨-, hk⟩
  · have q : v % 16 = 1 := zx_beq_t q
    rw [zx_fn_eq] at hk
    rcases zx_bif hk with ⟨-, hk⟩ | ⟨q0, hk⟩
    · cases hk
    rw [zx_fn_eq, zx_fn_eq] at hk
    obtain ⟨-, h1⟩ := (zx_r1 q).mp h
    cases h1
    rcases he (v / 16) with h2 | h2
    · exact absurd h2 (zx_beq_f q0)
    · exact ⟨_, _, hk, h2.1, h2.2, Nat.mod_lt _ (by decide), fun _ => rfl⟩
  rcases zx_bft hk with ⟨q, hk⟩
  have q : v % 16 = 7 := zx_beq_t q
  rw [zx_fn_eq, zx_fn_eq, zx_fn_eq] at hk
  obtain ⟨-, y', h1, h2, h3⟩ := (zx_r7 q).mp h
  cases h1
  exact ⟨_, _, hk, h2, h3, Nat.mod_lt _ (by decide), fun z => by omega⟩
theorem zx_iv_i {v : Nat} {k : Nat → Nat → Bool} (hk : zx_iv e v k = true) : zx_ii v = true := by
  unfold zx_iv at hk
  have q : ∀ t, t = 1 ∨ t = 4 ∨ t = 7 → Nat.beq (Nat.mod (Nat.shiftRight 146 t) 2) 1 = true := by rintro t (rfl | rfl | rfl) <;> decide
  rcases zx_bif hk with ⟨q1, hk⟩ | ⟨-, hk⟩
  · exact q _ (Or.inr (Or.inl (zx_beq_t q1)))
  rcases zx_bif hk with ⟨q1, hk⟩ | ⟨-, hk⟩
  · exact q _ (Or.inl (zx_beq_t q1))
  rcases zx_bft hk with ⟨q1, hk⟩
  exact q _ (Or.inr (Or.inr (zx_beq_t q1)))
theorem zx_bd_eq (l h : Nat) : zx_bd l h = l * 4294967296 + h := rfl
theorem zx_ev_set {i l u : Nat} (he : zx_ev nu e) (h1 : l ≤ zx_bz (nu i)) (h2 : zx_bz (nu i) ≤ u) (hu : u < 4294967296) : zx_ev nu (zx_es e i (zx_bd l u)) := by
  have hb := zx_bz_lt (nu i)
  have hlt : zx_bd l u < 18446744073709551616 := by rw [zx_bd_eq]; omega
  intro k
  by_cases hk : k = i
  · subst hk
    rw [show zx_eg (zx_es e k (zx_bd l u)) k = zx_bd l u from zx_sd_same (by decide) e k _ hlt, zx_bd_eq]
    right
    constructor <;> omega
  · rw [show zx_eg (zx_es e i (zx_bd l u)) k = zx_eg e k from zx_sd_other (by decide) e i _ k hlt hk]
    exact he k
/-- a value as it is known now -/
theorem zx_no_s (he : zx_ev nu e) {v : Nat} {x : Value} (h : zx_r ads ex nu v x) {k : Nat → Bool} (hk : zx_no e v k = true) : ∃ v' : Nat, zx_r ads ex nu v' x ∧ k v' = true := by
  unfold zx_no at hk
  rcases zx_bif hk with ⟨q, hk⟩ | ⟨-, hk⟩
  · have hi := zx_iv_i hk
    obtain ⟨y, rfl⟩ := zx_r_i hi h
    obtain ⟨l, u, hk, h1, h2, h3, -⟩ := zx_iv_s he h hk
    rcases zx_bif hk with ⟨q1, hk2⟩ | ⟨-, hk⟩
    · have q1 := zx_beq_t q1
      rw [zx_fn_eq] at hk2
      have e1 : zx_bz y = l := by omega
      refine ⟨_, ?_, hk2⟩
      have := zx_r_c (ads := ads) (ex := ex) (nu := nu) (zx_bi_lt l)
      rw [← e1, ← zx_of_bz y] at this
      rw [← e1]
      exact this
    · exact ⟨_, h, hk⟩
  · exact ⟨_, h, hk⟩
/-- two numbers that are known -/
theorem zx_b2_s {f : Nat → Nat → Nat} {F : Int32 → Int32 → Int32} (hf : ∀ x y : Nat, x < 4294967296 → y < 4294967296 → F (nI x) (nI y) = nI (f x y) ∧ f x y < 4294967296) {a b : Nat} {x y : Int32} (ha : zx_r ads ex nu a (.int x)) (hb : zx_r ads ex nu b (.int y)) {k : Nat → Bool} (hk : zx_b2 f a b k = true) :
    ∃ c : Nat, zx_r ads ex nu c (.int (F x y)) ∧ k c = true := by
  unfold zx_b2 at hk
  rcases zx_bif hk with ⟨q, hk⟩ | ⟨-, hk⟩
  · obtain ⟨q1, q2⟩ := zx_and_b q
    have q1 : a % 16 = 4 := zx_beq_t q1
    have q2 : b % 16 = 4 := zx_beq_t q2
    rw [zx_fn_eq] at hk
    obtain ⟨-, h1, h2⟩ := (zx_r4 q1).mp ha
    obtain ⟨-, h3, h4⟩ := (zx_r4 q2).mp hb
    cases h1
    cases h3
    obtain ⟨e1, e2⟩ := hf _ _ h2 h4
    refine ⟨_, ?_, hk⟩
    rw [e1]
    exact zx_r_c e2
  · obtain ⟨-, hk⟩ := zx_bft hk
    exact ⟨_, zx_r_un _, hk⟩
theorem zx_c0 {v : Nat} (h : v = 4) {x : Int32} (hr : zx_r ads ex nu v (.int x)) : x = 0 := by
  subst h
  obtain ⟨-, h1, -⟩ := (zx_r4 (by decide)).mp hr
  cases h1
  exact nI_0
theorem zx_ad_s {a b : Nat} {x y : Int32} (ha : zx_r ads ex nu a (.int x)) (hb : zx_r ads ex nu b (.int y)) {k : Nat → Bool} (hk : zx_ad a b k = true) : ∃ c : Nat, zx_r ads ex nu c (.int (x + y)) ∧ k c = true := by
  unfold zx_ad at hk
  rcases zx_bif hk with ⟨q, hk⟩ | ⟨-, hk⟩
  · have e1 := zx_c0 (zx_beq_t (zx_and_b q).1) hb
    exact ⟨_, by rw [e1, Int32.add_zero]; exact ha, hk⟩
  rcases zx_bif hk with ⟨q, hk⟩ | ⟨-, hk⟩
  · have e1 := zx_c0 (zx_beq_t (zx_and_b q).1) ha
    exact ⟨_, by rw [e1, Int32.zero_add]; exact hb, hk⟩
  · exact zx_b2_s (f := zx_f0) (F := fun x y => x + y) (fun x y _ _ => ⟨by show nI x + nI y = nI ((x + y) % 4294967296); rw [nI_add, zx_md], Nat.mod_lt _ (by decide)⟩) ha hb hk
theorem zx_and_le (x : Int32) (c : Nat) (hc : c < 2147483648) : 2147483648 ≤ zx_bz (x &&& nI c) ∧ zx_bz (x &&& nI c) ≤ 2147483648 + c := by
  obtain ⟨n, hn, rfl⟩ : ∃ n, n < 4294967296 ∧ x = nI n := ⟨_, zx_bi_lt _, zx_of_bz x⟩
  have h1 : n &&& c ≤ c := Nat.and_le_right
  rw [zx_and', zx_bz_nI _ (by omega), zx_bi_eq]
  omega
theorem zx_an_s {a b : Nat} {x y : Int32} (ha : zx_r ads ex nu a (.int x)) (hb : zx_r ads ex nu b (.int y)) {k : Nat → Bool} (hk : zx_an a b k = true) : ∃ c : Nat, zx_r ads ex nu c (.int (x &&& y)) ∧ k c = true := by
  unfold zx_an at hk
  rcases zx_bif hk with ⟨q, hk2⟩ | ⟨-, hk⟩
  · have q := zx_beq_t (zx_and_b q).1
    subst q
    obtain ⟨-, h1, -⟩ := (zx_r4 (by decide)).mp hb
    cases h1
    refine ⟨_, ?_, hk2⟩
    rw [show (nI (68719476724 / 16)) = -1 from by decide +kernel, Int32.and_neg_one]
    exact ha
  rcases zx_bif hk with ⟨q, hk⟩ | ⟨-, hk⟩
  · obtain ⟨q1, q2⟩ := zx_and_b q
    obtain ⟨-, q3⟩ := zx_and_b q2
    have q1 : b % 16 = 4 := zx_beq_t q1
    have q3 : b / 16 < 2147483648 := zx_blt_t q3
    rw [zx_fn_eq] at hk
    obtain ⟨-, h1, h2⟩ := (zx_r4 q1).mp hb
    cases h1
    refine ⟨_, ?_, hk⟩
    have e0 : Nat.add (Nat.mul (Nat.add 9223372036854775808 (Nat.add 2147483648 (zx_pl b))) 16) 7 = (9223372036854775808 + (2147483648 + b / 16)) * 16 + 7 := rfl
    rw [e0, zx_r7 (by omega)]
    have e1 : ((9223372036854775808 + (2147483648 + b / 16)) * 16 + 7) / 16 = 9223372036854775808 + (2147483648 + b / 16) := by omega
    have := zx_and_le x (b / 16) q3
    refine ⟨by omega, _, rfl, ?_, ?_⟩
    · rw [e1]; omega
    · rw [e1]; omega
  · exact zx_b2_s (f := Nat.land) (F := fun x y => x &&& y) (fun x y _ hy => ⟨zx_and' x y, Nat.and_lt_two_pow (n := 32) x hy⟩) ha hb hk
theorem zx_sh_s {f : Nat → Nat → Nat} {F : Int32 → Int32 → Int32} (hf : ∀ x y : Nat, x < 4294967296 → y < 32 → F (nI x) (nI y) = nI (f x y) ∧ f x y < 4294967296) {a b : Nat} {x y : Int32} (ha : zx_r ads ex nu a (.int x)) (hb : zx_r ads ex nu b (.int y)) {k : Nat → Bool} (hk : zx_sh f a b k = true) :
    ∃ c : Nat, zx_r ads ex nu c (.int (F x y)) ∧ k c = true := by
  unfold zx_sh at hk
  rcases zx_bif hk with ⟨q, hk⟩ | ⟨-, hk⟩
  · obtain ⟨q1, q2⟩ := zx_and_b q
    obtain ⟨q2, q3⟩ := zx_and_b q2
    have q1 : a % 16 = 4 := zx_beq_t q1
    have q2 : b % 16 = 4 := zx_beq_t q2
    rw [zx_fn_eq] at hk
    obtain ⟨-, h1, h2⟩ := (zx_r4 q1).mp ha
    obtain ⟨-, h3, h4⟩ := (zx_r4 q2).mp hb
    cases h1
    cases h3
    obtain ⟨e1, e2⟩ := hf _ _ h2 (zx_blt_t q3)
    refine ⟨_, ?_, hk⟩
    rw [show b / 16 = zx_pl b from rfl, e1]
    exact zx_r_c e2
  · obtain ⟨-, hk⟩ := zx_bft hk
    exact ⟨_, zx_r_un _, hk⟩
theorem zx_sr_s {a b : Nat} {x y : Int32} (ha : zx_r ads ex nu a (.int x)) (hb : zx_r ads ex nu b (.int y)) {k : Nat → Bool} (hk : zx_sr a b k = true) : ∃ c : Nat, zx_r ads ex nu c (.int (x >>> (y &&& 31))) ∧ k c = true := by
  unfold zx_sr at hk
  rcases zx_bif hk with ⟨q, hk⟩ | ⟨-, hk⟩
  · have q1 := zx_beq_t (zx_and_b q).1
    have e1 := zx_c0 q1 ha
    refine ⟨_, ?_, hk⟩
    rw [e1, Int32.zero_shiftRight, ← e1, ← q1]
    exact ha
  · exact zx_sh_s (f := zx_g7) (F := fun x y => x >>> (y &&& 31)) (fun x y hx hy => ⟨zx_shr' x y hx hy, zx_g7_lt x y hx⟩) ha hb hk
theorem zx_dv_s {f : Nat → Nat → Nat} {F : Int32 → Int32 → Int32} (hf : ∀ x y : Nat, x < 2147483648 → 0 < y → y < 2147483648 → F (nI x) (nI y) = nI (f x y) ∧ f x y < 4294967296) {a b : Nat} {x y : Int32} (ha : zx_r ads ex nu a (.int x)) (hb : zx_r ads ex nu b (.int y)) {k : Nat → Bool} (hk : zx_dv f a b k = true) :
    ¬ y = 0 ∧ ∃ c : Nat, zx_r ads ex nu c (.int (F x y)) ∧ k c = true := by
  unfold zx_dv at hk
  obtain ⟨q, hk⟩ := zx_bft hk
  obtain ⟨q1, q2⟩ := zx_and_b q
  obtain ⟨q2, q3⟩ := zx_and_b q2
  obtain ⟨q3, q4⟩ := zx_and_b q3
  obtain ⟨q4, q5⟩ := zx_and_b q4
  have q1 : a % 16 = 4 := zx_beq_t q1
  have q2 : b % 16 = 4 := zx_beq_t q2
  have q3 : a / 16 < 2147483648 := zx_blt_t q3
  have q4 : 0 < b / 16 := zx_blt_t q4
  have q5 : b / 16 < 2147483648 := zx_blt_t q5
  rw [zx_fn_eq] at hk
  obtain ⟨-, h1, h2⟩ := (zx_r4 q1).mp ha
  obtain ⟨-, h3, h4⟩ := (zx_r4 q2).mp hb
  cases h1
  cases h3
  obtain ⟨e1, e2⟩ := hf _ _ q3 q4 q5
  refine ⟨nI_ne0 q4 q5, _, ?_, hk⟩
  rw [e1]
  exact zx_r_c e2
theorem zx_u1_s {f : Nat → Nat} {F : Int32 → Int32} (hf : ∀ x : Nat, x < 4294967296 → F (nI x) = nI (f x) ∧ f x < 4294967296) {a : Nat} {x : Int32} (ha : zx_r ads ex nu a (.int x)) {k : Nat → Bool} (hk : zx_u1 f a k = true) :
    ∃ c : Nat, zx_r ads ex nu c (.int (F x)) ∧ k c = true := by
  unfold zx_u1 at hk
  rcases zx_bif hk with ⟨q, hk⟩ | ⟨-, hk⟩
  · have q1 : a % 16 = 4 := zx_beq_t q
    rw [zx_fn_eq] at hk
    obtain ⟨-, h1, h2⟩ := (zx_r4 q1).mp ha
    cases h1
    obtain ⟨e1, e2⟩ := hf _ h2
    refine ⟨_, ?_, hk⟩
    rw [e1]
    exact zx_r_c e2
  · obtain ⟨-, hk⟩ := zx_bft hk
    exact ⟨_, zx_r_un _, hk⟩
theorem zx_lt_s (he : zx_ev nu e) {a b : Nat} {x y : Int32} (ha : zx_r ads ex nu a (.int x)) (hb : zx_r ads ex nu b (.int y)) {kt kf : Nat → Bool} (hk : zx_lt e a b kt kf = true) :
    ∃ e' : Nat, zx_ev nu e' ∧ (x < y → kt e' = true) ∧ (¬ x < y → kf e' = true) := by
  unfold zx_lt at hk
  obtain ⟨l1, u1, hk, a1, a2, a3, a4⟩ := zx_iv_s he ha hk
  obtain ⟨l2, u2, hk, b1, b2, b3, b4⟩ := zx_iv_s he hb hk
  rw [zx_lt']
  rcases zx_bif hk with ⟨q, hk⟩ | ⟨q, hk⟩
  · have q := zx_blt_t q
    exact ⟨e, he, fun _ => hk, fun z => absurd (by omega) z⟩
  have q := zx_blt_f q
  rcases zx_bif hk with ⟨q2, hk⟩ | ⟨q2, hk⟩
  · have q2 := zx_ble_t q2
    exact ⟨e, he, fun z => absurd z (by omega), fun _ => hk⟩
  have q2 := zx_ble_f q2
  rcases zx_bif hk with ⟨q3, hk⟩ | ⟨q3, hk⟩
  · obtain ⟨q3, q4⟩ := zx_and_b q3
    have q3 : a % 16 = 1 := zx_beq_t q3
    have q4 := zx_beq_t q4
    have ex1 := a4 q3
    obtain ⟨k1, k2⟩ := zx_and_b hk
    rw [zx_fn_eq] at k1 k2
    have e0 : zx_pl a = a / 16 := rfl
    by_cases hlt : zx_bz x < zx_bz y
    · exact ⟨_, zx_ev_set he (by rw [e0, ← ex1]; exact a1) (by rw [e0, ← ex1]; show _ ≤ l2 - 1; omega) (by show l2 - 1 < _; omega), fun _ => k1, fun z => absurd hlt z⟩
    · exact ⟨_, zx_ev_set he (by rw [e0, ← ex1]; omega) (by rw [e0, ← ex1]; exact a2) a3, fun z => absurd z hlt, fun _ => k2⟩
  rcases zx_bif hk with ⟨q3, hk⟩ | ⟨q3, hk⟩
  · obtain ⟨q3, q4⟩ := zx_and_b q3
    have q3 : b % 16 = 1 := zx_beq_t q3
    have q4 := zx_beq_t q4
    have ex1 := b4 q3
    obtain ⟨k1, k2⟩ := zx_and_b hk
    rw [zx_fn_eq] at k1 k2
    have e0 : zx_pl b = b / 16 := rfl
    by_cases hlt : zx_bz x < zx_bz y
    · exact ⟨_, zx_ev_set he (by rw [e0, ← ex1]; show l1 + 1 ≤ _; omega) (by rw [e0, ← ex1]; exact b2) b3, fun _ => k1, fun z => absurd hlt z⟩
    · exact ⟨_, zx_ev_set he (by rw [e0, ← ex1]; exact b1) (by rw [e0, ← ex1]; omega) (by omega), fun z => absurd z hlt, fun _ => k2⟩
  obtain ⟨k1, k2⟩ := zx_and_b hk
  exact ⟨e, he, fun _ => k1, fun _ => k2⟩
theorem zx_eq_s (he : zx_ev nu e) {a b : Nat} {x y : Int32} (ha : zx_r ads ex nu a (.int x)) (hb : zx_r ads ex nu b (.int y)) {kt kf : Nat → Bool} (hk : zx_eq e a b kt kf = true) :
    ∃ e' : Nat, zx_ev nu e' ∧ (x = y → kt e' = true) ∧ (¬ x = y → kf e' = true) := by
  unfold zx_eq at hk
  obtain ⟨l1, u1, hk, a1, a2, a3, a4⟩ := zx_iv_s he ha hk
  obtain ⟨l2, u2, hk, b1, b2, b3, b4⟩ := zx_iv_s he hb hk
  rw [zx_eq']
  rcases zx_bif hk with ⟨q, hk⟩ | ⟨q, hk⟩
  · refine ⟨e, he, fun z => absurd z ?_, fun _ => hk⟩
    rcases (Bool.or_eq_true _ _).mp q with q | q <;> have q := zx_blt_t q <;> omega
  rcases zx_bif hk with ⟨q2, hk⟩ | ⟨q2, hk⟩
  · obtain ⟨q3, q4⟩ := zx_and_b q2
    have q3 := zx_beq_t q3
    have q4 := zx_beq_t q4
    obtain ⟨q5, q6⟩ := (Bool.or_eq_false_iff).mp q
    have q5 := zx_blt_f q5
    have q6 := zx_blt_f q6
    exact ⟨e, he, fun _ => hk, fun z => absurd (by omega) z⟩
  rcases zx_bif hk with ⟨q3, hk2⟩ | ⟨q3, hk⟩
  · obtain ⟨q3, q4⟩ := zx_and_b q3
    have q3 : a % 16 = 1 := zx_beq_t q3
    have q4 := zx_beq_t q4
    have e1 := a4 q3
    have e2 := b4 (by rw [← q4]; exact q3)
    exact ⟨e, he, fun _ => hk2, fun z => absurd (by rw [e1, e2, q4]) z⟩
  rcases zx_bif hk with ⟨q3, hk⟩ | ⟨q3, hk⟩
  · obtain ⟨q3, q4⟩ := zx_and_b q3
    have q3 : a % 16 = 1 := zx_beq_t q3
    have q4 := zx_beq_t q4
    have ex1 := a4 q3
    obtain ⟨k1, k2⟩ := zx_and_b hk
    obtain ⟨k2, k3⟩ := zx_and_b k2
    rw [zx_fn_eq] at k1
    have e0 : zx_pl a = a / 16 := rfl
    by_cases heq : zx_bz x = zx_bz y
    · exact ⟨_, zx_ev_set he (by rw [e0, ← ex1]; omega) (by rw [e0, ← ex1]; omega) (by omega), fun _ => k1, fun z => absurd heq z⟩
    by_cases hlt : zx_bz x < l2
    · rw [show Nat.blt l1 l2 = true from Nat.ble_eq_true_of_le (show l1 + 1 ≤ l2 by omega), cond_true, zx_fn_eq] at k2
      exact ⟨_, zx_ev_set he (by rw [e0, ← ex1]; exact a1) (by rw [e0, ← ex1]; show _ ≤ l2 - 1; omega) (by show l2 - 1 < _; omega), fun z => absurd z heq, fun _ => k2⟩
    · rw [show Nat.blt l2 u1 = true from Nat.ble_eq_true_of_le (show l2 + 1 ≤ u1 by omega), cond_true, zx_fn_eq] at k3
      exact ⟨_, zx_ev_set he (by rw [e0, ← ex1]; show l2 + 1 ≤ _; omega) (by rw [e0, ← ex1]; exact a2) a3, fun z => absurd z heq, fun _ => k3⟩
  rcases zx_bif hk with ⟨q3, hk⟩ | ⟨q3, hk⟩
  · obtain ⟨q3, q4⟩ := zx_and_b q3
    have q3 : b % 16 = 1 := zx_beq_t q3
    have q4 := zx_beq_t q4
    have ex1 := b4 q3
    obtain ⟨k1, k2⟩ := zx_and_b hk
    obtain ⟨k2, k3⟩ := zx_and_b k2
    rw [zx_fn_eq] at k1
    have e0 : zx_pl b = b / 16 := rfl
    by_cases heq : zx_bz x = zx_bz y
    · exact ⟨_, zx_ev_set he (by rw [e0, ← ex1]; omega) (by rw [e0, ← ex1]; omega) (by omega), fun _ => k1, fun z => absurd heq z⟩
    by_cases hlt : zx_bz y < l1
    · rw [show Nat.blt l2 l1 = true from Nat.ble_eq_true_of_le (show l2 + 1 ≤ l1 by omega), cond_true, zx_fn_eq] at k2
      exact ⟨_, zx_ev_set he (by rw [e0, ← ex1]; exact b1) (by rw [e0, ← ex1]; show _ ≤ l1 - 1; omega) (by show l1 - 1 < _; omega), fun z => absurd z heq, fun _ => k2⟩
    · rw [show Nat.blt l1 u2 = true from Nat.ble_eq_true_of_le (show l1 + 1 ≤ u2 by omega), cond_true, zx_fn_eq] at k3
      exact ⟨_, zx_ev_set he (by rw [e0, ← ex1]; show l1 + 1 ≤ _; omega) (by rw [e0, ← ex1]; exact b2) b3, fun z => absurd z heq, fun _ => k3⟩
  obtain ⟨k1, k2⟩ := zx_and_b hk
  exact ⟨e, he, fun _ => k1, fun _ => k2⟩
/-- what a comparison says of two ints -/
def zx_cv (c : Nat) (x y : Int32) : Prop := match c with
  | 0 => x < y
  | 1 => ¬ x < y
  | 2 => y < x
  | 3 => ¬ y < x
  | 4 => x = y
  | _ => ¬ x = y
theorem zx_cm_s (he : zx_ev nu e) {a b c : Nat} {x y : Int32} (ha : zx_r ads ex nu a (.int x)) (hb : zx_r ads ex nu b (.int y)) {kt kf : Nat → Bool} (hk : zx_cm c e a b kt kf = true) (hc : c < 6) :
    ∃ e' : Nat, zx_ev nu e' ∧ (zx_cv c x y → kt e' = true) ∧ (¬ zx_cv c x y → kf e' = true) := by
  match c, hc, hk with
  | 0, _, hk => exact zx_lt_s he ha hb hk
  | 1, _, hk =>
    obtain ⟨e', h1, h2, h3⟩ := zx_lt_s he ha hb (kt := kf) (kf := kt) hk
    exact ⟨e', h1, h3, fun z => h2 (Classical.not_not.mp z)⟩
  | 2, _, hk => exact zx_lt_s he hb ha hk
  | 3, _, hk =>
    obtain ⟨e', h1, h2, h3⟩ := zx_lt_s he hb ha (kt := kf) (kf := kt) hk
    exact ⟨e', h1, h3, fun z => h2 (Classical.not_not.mp z)⟩
  | 4, _, hk => exact zx_eq_s he ha hb hk
  | 5, _, hk =>
    obtain ⟨e', h1, h2, h3⟩ := zx_eq_s he ha hb (kt := kf) (kf := kt) hk
    exact ⟨e', h1, h3, fun z => h2 (Classical.not_not.mp z)⟩
theorem zx_iv_k {v : Nat} {k : Nat → Nat → Bool} (hk : zx_iv e v k = true) : ∃ l u, k l u = true := by
  unfold zx_iv at hk
  rcases zx_bif hk with ⟨q1, hk⟩ | ⟨-, hk⟩
  · rw [zx_fn_eq] at hk; exact ⟨_, _, hk⟩
  rcases zx_bif hk with ⟨q1, hk⟩ | ⟨-, hk⟩
  · rw [zx_fn_eq] at hk
    rcases zx_bif hk with ⟨-, hk⟩ | ⟨q0, hk⟩
    · cases hk
    rw [zx_fn_eq, zx_fn_eq] at hk
    exact ⟨_, _, hk⟩
  rcases zx_bft hk with ⟨q1, hk⟩
  rw [zx_fn_eq, zx_fn_eq, zx_fn_eq] at hk
  exact ⟨_, _, hk⟩
theorem zx_cm_i {c a b : Nat} {kt kf : Nat → Bool} (hk : zx_cm c e a b kt kf = true) : zx_ii a = true ∧ zx_ii b = true := by
  have hl : ∀ {a b : Nat} {kt kf : Nat → Bool}, zx_lt e a b kt kf = true → zx_ii a = true ∧ zx_ii b = true := fun h => ⟨zx_iv_i h, by
    obtain ⟨l, u, h⟩ := zx_iv_k h
    exact zx_iv_i h⟩
  have hq : ∀ {a b : Nat} {kt kf : Nat → Bool}, zx_eq e a b kt kf = true → zx_ii a = true ∧ zx_ii b = true := fun h => ⟨zx_iv_i h, by
    obtain ⟨l, u, h⟩ := zx_iv_k h
    exact zx_iv_i h⟩
  unfold zx_cm at hk
  rcases zx_bif hk with ⟨-, hk⟩ | ⟨-, hk⟩
  · rcases zx_bif hk with ⟨-, hk⟩ | ⟨-, hk⟩ <;> exact hl hk
  rcases zx_bif hk with ⟨-, hk⟩ | ⟨-, hk⟩
  · rcases zx_bif hk with ⟨-, hk⟩ | ⟨-, hk⟩ <;> exact (hl hk).symm
  · rcases zx_bif hk with ⟨-, hk⟩ | ⟨-, hk⟩ <;> exact hq hk
theorem zx_in_s (he : zx_ev nu e) {i : Nat} {x : Int32} {n : Nat} (hi : zx_r ads ex nu i (.int x)) (hn : zx_in e i n = true) : vp_in x n := by
  unfold zx_in at hn
  obtain ⟨l, u, hk, a1, a2, -, -⟩ := zx_iv_s he hi hn
  obtain ⟨q1, q2⟩ := zx_and_b hk
  have q1 := zx_ble_t q1
  have q2 : u < n + 2147483648 := zx_blt_t q2
  have hz := zx_bz_int x
  rw [vp_in_iff]
  omega
theorem zx_sp_s (he : zx_ev nu e) {i : Nat} {x : Int32} (hi : zx_r ads ex nu i (.int x)) {k : Nat → Bool} (hk : zx_sp e i k = true) : ∃ e', zx_ev nu e' ∧ k e' = true := by
  unfold zx_sp at hk
  obtain ⟨l, u, hk, a1, a2, a3, a4⟩ := zx_iv_s he hi hk
  obtain ⟨q, hk⟩ := zx_bft hk
  obtain ⟨q1, q2⟩ := zx_and_b q
  have q1 : i % 16 = 1 := zx_beq_t q1
  have q2 : u < l + 4 := zx_blt_t q2
  have ex1 := a4 q1
  have e0 : zx_pl i = i / 16 := rfl
  obtain ⟨k0, k1⟩ := zx_and_b hk
  obtain ⟨k1, k2⟩ := zx_and_b k1
  obtain ⟨k2, k3⟩ := zx_and_b k2
  have key : ∀ d : Nat, zx_bz x = l + d → zx_ev nu (zx_es e (zx_pl i) (zx_bd (l + d) (l + d))) := fun d hd => zx_ev_set he (by rw [e0, ← ex1]; omega) (by rw [e0, ← ex1]; omega) (by omega)
  rcases (show zx_bz x = l + 0 ∨ zx_bz x = l + 1 ∨ zx_bz x = l + 2 ∨ zx_bz x = l + 3 by omega) with h | h | h | h
  · rw [zx_fn_eq] at k0
    exact ⟨_, key 0 h, k0⟩
  · rw [show Nat.ble (Nat.add l 1) u = true from Nat.ble_eq_true_of_le (show l + 1 ≤ u by omega), cond_true, zx_fn_eq] at k1
    exact ⟨_, key 1 h, k1⟩
  · rw [show Nat.ble (Nat.add l 2) u = true from Nat.ble_eq_true_of_le (show l + 2 ≤ u by omega), cond_true, zx_fn_eq] at k2
    exact ⟨_, key 2 h, k2⟩
  · rw [show Nat.ble (Nat.add l 3) u = true from Nat.ble_eq_true_of_le (show l + 3 ≤ u by omega), cond_true, zx_fn_eq] at k3
    exact ⟨_, key 3 h, k3⟩
end ZR
end
section
/-! stacks, locals and worlds of the walker's values -/
def zx_SR (ads : List Nat) (ex : Nat → Nat) (nu : Nat → Int32) : List Nat → List Value → Prop
  | [], [] => True
  | a :: l, b :: m => zx_r ads ex nu a b ∧ zx_SR ads ex nu l m
  | [], _ :: _ => False
  | _ :: _, [] => False
def zx_ty (t : Nat) : FieldType := match t with
  | 0 => .int
  | 1 => .byte
  | _ => .boolean
def zx_cr (ads : List Nat) (ex : Nat → Nat) (nu : Nat → Int32) (tys : List (ClassId × FieldType)) (c : Nat) (e : va_E) : Prop := match c % 16 with
  | 0 => ∃ (cA : ClassId) (f : Nat → Int32), (cA, zx_ty 0) ∈ tys ∧ e = .inl (cA, zx_cn c, .inl f) ∧ ∀ j, j < zx_cn c → f j = nI (zx_ig c j)
  | 1 => ∃ (cA : ClassId) (f : Nat → Int32), (cA, zx_ty 1) ∈ tys ∧ e = .inl (cA, zx_cn c, .inl f) ∧ ∀ j, j < zx_cn c → f j = nI (zx_ig c j)
  | 2 => ∃ (cA : ClassId) (f : Nat → Int32), (cA, zx_ty 2) ∈ tys ∧ e = .inl (cA, zx_cn c, .inl f) ∧ ∀ j, j < zx_cn c → f j = nI (zx_ig c j)
  | 3 => ∃ (cA : ClassId) (f : Nat → Int32), (cA, zx_ty 0) ∈ tys ∧ e = .inl (cA, zx_cn c, .inl f)
  | 4 => ∃ (cA : ClassId) (f : Nat → Int32), (cA, zx_ty 1) ∈ tys ∧ e = .inl (cA, zx_cn c, .inl f)
  | 5 => ∃ (cA : ClassId) (f : Nat → Int32), (cA, zx_ty 2) ∈ tys ∧ e = .inl (cA, zx_cn c, .inl f)
  | 6 => ∃ (cA : ClassId) (f : Nat → Int64), (cA, FieldType.long) ∈ tys ∧ e = .inl (cA, zx_cn c, .inr (.inl f))
  | 7 => ∃ (fs : List Value) (r : vw_C), e = .inr (zx_cn c, fs) ∧ vwCl[zx_cn c]? = some r ∧ fs.length = r.2.2 ∧ ∀ (k : Nat) (v : Value), fs[k]? = some v → zx_r ads ex nu (zx_og c k) v
  | 8 => ∃ (cA : ClassId) (f : Nat → Option Nat), (cA, FieldType.object RX8) ∈ tys ∧ e = .inl (cA, zx_cn c, .inr (.inr (.inr (.inr f)))) ∧ ∀ j, j < zx_cn c → (zx_og c j = 0 ∧ f j = none) ∨ zx_r ads ex nu (zx_og c j) (va_rf (f j))
  | _ => False
def zx_hG (h : zx_H) (i : Nat) : Option Nat := (h[i / 16]?).bind (fun l => l[i % 16]?)
def zx_HR (ads : List Nat) (ex : Nat → Nat) (nu : Nat → Int32) (tys : List (ClassId × FieldType)) (h : zx_H) (ws : va_W) : Prop := ∀ (i c : Nat), zx_hG h i = some c → c % 16 ≠ 15 → ∃ w, ws[i]? = some w ∧ zx_cr ads ex nu tys c w.2
def zx_LR (ads : List Nat) (ex : Nat → Nat) (nu : Nat → Int32) (row : Nat) (ls : Array Slot) : Prop := ∀ i : Nat, zx_lg row i % 16 ≠ 0 → ∃ v, ls[i]? = some (.val v) ∧ zx_r ads ex nu (zx_lg row i) v
theorem zx_hg_s {h : zx_H} {i : Nat} {k : Nat → Bool} (hk : zx_hg h i k = true) : ∃ c, zx_hG h i = some c ∧ k c = true := by
  obtain ⟨l, h1, h2⟩ := zx_at_s _ _ hk
  obtain ⟨c, h3, h4⟩ := zx_at_s _ _ h2
  refine ⟨c, ?_, h4⟩
  show (h[i / 16]?).bind (fun l => l[i % 16]?) = some c
  rw [show h[i / 16]? = some l from h1]
  exact h3
theorem zx_hs_s {h : zx_H} {i x : Nat} {k : zx_H → Bool} (hk : zx_hs h i x k = true) : ∃ h', k h' = true ∧ zx_hG h' i = some x ∧ ∀ j, j ≠ i → zx_hG h' j = zx_hG h j := by
  obtain ⟨l, h1, h2⟩ := zx_at_s _ _ hk
  obtain ⟨h3, h4⟩ := zx_up_s _ _ _ h2
  obtain ⟨h5, h6⟩ := zx_up_s _ _ _ h4
  have h1 : h[i / 16]? = some l := h1
  have h3 : i % 16 < l.length := h3
  have h5 : i / 16 < h.length := h5
  refine ⟨_, h6, ?_, fun j hj => ?_⟩
  · show ((h.set (i / 16) (l.set (i % 16) x))[i / 16]?).bind (fun l => l[i % 16]?) = some x
    rw [List.getElem?_set_self h5]
    exact List.getElem?_set_self h3
  · show ((h.set (i / 16) (l.set (i % 16) x))[j / 16]?).bind (fun l => l[j % 16]?) = (h[j / 16]?).bind (fun l => l[j % 16]?)
    by_cases e1 : i / 16 = j / 16
    · rw [← e1, List.getElem?_set_self h5, h1]
      have e2 : i % 16 ≠ j % 16 := by omega
      exact List.getElem?_set_ne e2
    · rw [List.getElem?_set_ne e1]
section ZC
variable {ads ads' : List Nat} {ex : Nat → Nat} {nu : Nat → Int32} {tys tys' : List (ClassId × FieldType)}
theorem zx_SR_mono (hp : ∀ (i q : Nat), ads[i]? = some q → ads'[i]? = some q) : ∀ {lo : List Nat} {lv : List Value}, zx_SR ads ex nu lo lv → zx_SR ads' ex nu lo lv
  | [], [], _ => trivial
  | _ :: _, _ :: _, h => ⟨zx_r_mono hp h.1, zx_SR_mono hp h.2⟩
  | [], _ :: _, h => h.elim
  | _ :: _, [], h => h.elim
theorem zx_LR_mono (hp : ∀ (i q : Nat), ads[i]? = some q → ads'[i]? = some q) {row : Nat} {ls : Array Slot} (h : zx_LR ads ex nu row ls) : zx_LR ads' ex nu row ls := fun i hi => by
  obtain ⟨v, h1, h2⟩ := h i hi
  exact ⟨v, h1, zx_r_mono hp h2⟩
theorem zx_c7 {c : Nat} {e : va_E} (h : c % 16 = 7) : zx_cr ads ex nu tys c e ↔ ∃ (fs : List Value) (r : vw_C), e = .inr (zx_cn c, fs) ∧ vwCl[zx_cn c]? = some r ∧ fs.length = r.2.2 ∧ ∀ (k : Nat) (v : Value), fs[k]? = some v → zx_r ads ex nu (zx_og c k) v := by unfold zx_cr; rw [h]; exact Iff.rfl
theorem zx_c8 {c : Nat} {e : va_E} (h : c % 16 = 8) : zx_cr ads ex nu tys c e ↔ ∃ (cA : ClassId) (f : Nat → Option Nat), (cA, FieldType.object RX8) ∈ tys ∧ e = .inl (cA, zx_cn c, .inr (.inr (.inr (.inr f)))) ∧ ∀ j, j < zx_cn c → (zx_og c j = 0 ∧ f j = none) ∨ zx_r ads ex nu (zx_og c j) (va_rf (f j)) := by unfold zx_cr; rw [h]; exact Iff.rfl
theorem zx_c6 {c : Nat} {e : va_E} (h : c % 16 = 6) : zx_cr ads ex nu tys c e ↔ ∃ (cA : ClassId) (f : Nat → Int64), (cA, FieldType.long) ∈ tys ∧ e = .inl (cA, zx_cn c, .inr (.inl f)) := by unfold zx_cr; rw [h]; exact Iff.rfl
theorem zx_ck {c t : Nat} {e : va_E} (h : c % 16 = t) (ht : t < 3) : zx_cr ads ex nu tys c e ↔ ∃ (cA : ClassId) (f : Nat → Int32), (cA, zx_ty t) ∈ tys ∧ e = .inl (cA, zx_cn c, .inl f) ∧ ∀ j, j < zx_cn c → f j = nI (zx_ig c j) := by
  unfold zx_cr
  rw [h]
  match t, ht with
  | 0, _ => exact Iff.rfl
  | 1, _ => exact Iff.rfl
  | 2, _ => exact Iff.rfl
theorem zx_cu {c t : Nat} {e : va_E} (h : c % 16 = t + 3) (ht : t < 3) : zx_cr ads ex nu tys c e ↔ ∃ (cA : ClassId) (f : Nat → Int32), (cA, zx_ty t) ∈ tys ∧ e = .inl (cA, zx_cn c, .inl f) := by
  unfold zx_cr
  rw [h]
  match t, ht with
  | 0, _ => exact Iff.rfl
  | 1, _ => exact Iff.rfl
  | 2, _ => exact Iff.rfl
theorem zx_cr_tg {c : Nat} {e : va_E} (h : zx_cr ads ex nu tys c e) : c % 16 < 9 := by
  unfold zx_cr at h
  have hl : c % 16 < 16 := Nat.mod_lt _ (by decide)
  generalize c % 16 = t at h hl
  match t, h with
  | 0, _ => omega
  | 1, _ => omega
  | 2, _ => omega
  | 3, _ => omega
  | 4, _ => omega
  | 5, _ => omega
  | 6, _ => omega
  | 7, _ => omega
  | 8, _ => omega
  | (k + 9), h => exact h.elim
theorem zx_cr_mono (hp : ∀ (i q : Nat), ads[i]? = some q → ads'[i]? = some q) (ht : ∀ x ∈ tys, x ∈ tys') {c : Nat} {e : va_E} (h : zx_cr ads ex nu tys c e) : zx_cr ads' ex nu tys' c e := by
  have hl := zx_cr_tg h
  rcases (show c % 16 < 3 ∨ (3 ≤ c % 16 ∧ c % 16 < 6) ∨ c % 16 = 6 ∨ c % 16 = 7 ∨ c % 16 = 8 by omega) with q | q | q | q | q
  · obtain ⟨cA, f, h1, h2, h3⟩ := (zx_ck rfl q).mp h
    exact (zx_ck rfl q).mpr ⟨cA, f, ht _ h1, h2, h3⟩
  · have e1 : c % 16 = (c % 16 - 3) + 3 := by omega
    obtain ⟨cA, f, h1, h2⟩ := (zx_cu e1 (by omega)).mp h
    exact (zx_cu e1 (by omega)).mpr ⟨cA, f, ht _ h1, h2⟩
  · obtain ⟨cA, f, h1, h2⟩ := (zx_c6 q).mp h
    exact (zx_c6 q).mpr ⟨cA, f, ht _ h1, h2⟩
  · obtain ⟨fs, r, h1, h2, h3, h4⟩ := (zx_c7 q).mp h
    exact (zx_c7 q).mpr ⟨fs, r, h1, h2, h3, fun k v hk => zx_r_mono hp (h4 k v hk)⟩
  · obtain ⟨cA, f, h1, h2, h3⟩ := (zx_c8 q).mp h
    exact (zx_c8 q).mpr ⟨cA, f, ht _ h1, h2, fun j hj => (h3 j hj).imp id (zx_r_mono hp)⟩
theorem zx_ads_set {ws : va_W} {i a : Nat} {e e' : va_E} (h : ws[i]? = some (a, e)) : (ws.set i (a, e')).map (fun w => w.1) = ws.map (fun w => w.1) := by
  rw [List.map_set]
  apply List.ext_getElem?
  intro j
  rw [List.getElem?_set]
  split
  · rename_i hij
    subst hij
    rw [List.getElem?_map, h]
    split
    · rfl
    · rename_i hl
      rw [List.length_map] at hl
      rw [List.getElem?_eq_none (by omega)] at h
      cases h
  · rfl
theorem zx_ads_at {ws : va_W} {i q : Nat} (h : (ws.map (fun w => w.1))[i]? = some q) : ∃ e, ws[i]? = some (q, e) := by
  rw [List.getElem?_map] at h
  cases hw : ws[i]? with
  | none => rw [hw] at h; cases h
  | some w => rw [hw] at h; cases h; exact ⟨w.2, rfl⟩
theorem zx_ads_app (ws : va_W) (w : Nat × va_E) : ∀ (i q : Nat), (ws.map (fun w => w.1))[i]? = some q → ((ws ++ [w]).map (fun w => w.1))[i]? = some q := fun i q h => by
  rw [List.map_append, List.getElem?_append_left (List.getElem?_eq_some_iff.mp h).1]
  exact h
theorem zx_HR_get {h : zx_H} {ws : va_W} {i c q : Nat} (hr : zx_HR (ws.map (fun w => w.1)) ex nu tys h ws) (hc : zx_hG h i = some c) (hq : (ws.map (fun w => w.1))[i]? = some q) (h15 : c % 16 ≠ 15) : ∃ e, ws[i]? = some (q, e) ∧ zx_cr (ws.map (fun w => w.1)) ex nu tys c e := by
  obtain ⟨w, h1, h2⟩ := hr i c hc h15
  obtain ⟨e, h3⟩ := zx_ads_at hq
  rw [h3] at h1
  cases h1
  exact ⟨e, h3, h2⟩
theorem zx_HR_set {h h' : zx_H} {ws : va_W} {i c a : Nat} {e0 e1 : va_E} (hr : zx_HR (ws.map (fun w => w.1)) ex nu tys h ws) (hw : ws[i]? = some (a, e0)) (h1 : zx_hG h' i = some c) (h2 : ∀ j, j ≠ i → zx_hG h' j = zx_hG h j) (hc : zx_cr (ws.map (fun w => w.1)) ex nu tys c e1) : zx_HR ((ws.set i (a, e1)).map (fun w => w.1)) ex nu tys h' (ws.set i (a, e1)) := by
  rw [zx_ads_set hw]
  intro j c' hj h15
  by_cases hji : j = i
  · subst hji
    rw [h1] at hj
    cases hj
    exact ⟨_, List.getElem?_set_self (List.getElem?_eq_some_iff.mp hw).1, hc⟩
  · rw [h2 j hji] at hj
    obtain ⟨w, q1, q2⟩ := hr j c' hj h15
    exact ⟨w, by rw [List.getElem?_set_ne (Ne.symm hji)]; exact q1, q2⟩
theorem zx_HR_push {h h' : zx_H} {ws : va_W} {n c : Nat} {w : Nat × va_E} (hr : zx_HR (ws.map (fun w => w.1)) ex nu tys h ws) (hn : ws.length = n) (h1 : zx_hG h' n = some c) (h2 : ∀ j, j ≠ n → zx_hG h' j = zx_hG h j) (ht : ∀ x ∈ tys, x ∈ tys') (hc : zx_cr ((ws ++ [w]).map (fun w => w.1)) ex nu tys' c w.2) : zx_HR ((ws ++ [w]).map (fun w => w.1)) ex nu tys' h' (ws ++ [w]) := by
  intro j c' hj h15
  by_cases hji : j = n
  · subst hji
    rw [h1] at hj
    cases hj
    exact ⟨w, by rw [List.getElem?_append_right (by omega), hn, Nat.sub_self]; rfl, hc⟩
  · rw [h2 j hji] at hj
    obtain ⟨w', q1, q2⟩ := hr j c' hj h15
    exact ⟨w', by rw [List.getElem?_append_left (List.getElem?_eq_some_iff.mp q1).1]; exact q1, zx_cr_mono (zx_ads_app ws w) ht q2⟩
/-! locals -/
def zx_lv (ls : Array Slot) : List (Nat × Value) := (List.range ls.size).filterMap (fun i => match (ls[i]? : Option Slot) with
  | some (Slot.val v) => some (i, v)
  | _ => none)
theorem zx_lv_mem {ls : Array Slot} {i : Nat} {v : Value} : (i, v) ∈ zx_lv ls ↔ ls[i]? = some (.val v) := by
  unfold zx_lv
  rw [List.mem_filterMap]
  constructor
  · rintro ⟨j, -, h⟩
    split at h
    · rename_i w hw
      cases h
      exact hw
    · cases h
  · intro h
    refine ⟨i, List.mem_range.mpr (Array.getElem?_eq_some_iff.mp h).1, ?_⟩
    rw [h]
theorem zx_lv_has {ls : Array Slot} {n : Nat} (h : lv_has ls n []) : lv_has ls n (zx_lv ls) := ⟨h.1, h.2.1, fun q hq => zx_lv_mem.mp (by exact hq)⟩
theorem zx_lv_none {ls : Array Slot} {n : Nat} {l : List (Nat × Value)} (h : lv_has ls n l) : lv_has ls n [] := ⟨h.1, h.2.1, fun q hq => by cases hq⟩
theorem zx_cat_ne {d : Nat} {w : Value} (h : zx_r ads ex nu d w) (hk : Nat.beq (zx_kd d) 5 = false) : (w.category == 2) = false := by
  rw [zx_r_cat h, hk]; rfl
theorem zx_LR_st1 {row i v n : Nat} {x : Value} {ls ls' : Array Slot} (hL : zx_LR ads ex nu row ls) (h5 : Nat.beq (zx_kd (zx_lg row (Nat.pred i))) 5 = false) (hv : zx_r ads ex nu v x) (h' : lv_has ls' n ((i, x) :: (zx_lv ls).filter (fun q => !(q.1 == i) && !(q.1 + 1 == i && q.2.category == 2)))) : zx_LR ads ex nu (zx_ls row i v) ls' := by
  intro j hj
  by_cases hji : j = i
  · subst hji
    rw [show zx_lg (zx_ls row j v) j = v from zx_sd_same (by decide) row j v hv.1] at hj ⊢
    exact ⟨x, h'.2.2 (j, x) List.mem_cons_self, hv⟩
  · rw [show zx_lg (zx_ls row i v) j = zx_lg row j from zx_sd_other (by decide) row i v j hv.1 hji] at hj ⊢
    obtain ⟨w, h1, h2⟩ := hL j hj
    refine ⟨w, h'.2.2 (j, w) (List.mem_cons_of_mem _ (List.mem_filter.mpr ⟨zx_lv_mem.mpr h1, ?_⟩)), h2⟩
    show (!(j == i) && !(j + 1 == i && w.category == 2)) = true
    rw [show (j == i) = false from by simpa using hji]
    by_cases hp : j + 1 = i
    · subst hp
      rw [zx_cat_ne h2 h5]
      simp
    · rw [show (j + 1 == i) = false from by simpa using hp]
      rfl
theorem zx_LR_st2 {row i v n : Nat} {x : Value} {ls ls' : Array Slot} (hL : zx_LR ads ex nu row ls) (h5 : Nat.beq (zx_kd (zx_lg row (Nat.pred i))) 5 = false) (hv : zx_r ads ex nu v x) (h' : lv_has ls' n ((i, x) :: (zx_lv ls).filter (fun q => !(q.1 == i) && (!(q.1 == i + 1) && !(q.1 + 1 == i && q.2.category == 2))))) : zx_LR ads ex nu (zx_ls (zx_ls row i v) (i + 1) 0) ls' := by
  intro j hj
  by_cases hj1 : j = i + 1
  · subst hj1
    rw [show zx_lg (zx_ls (zx_ls row i v) (i + 1) 0) (i + 1) = 0 from zx_sd_same (by decide) _ _ 0 (by decide)] at hj
    exact absurd rfl hj
  rw [show zx_lg (zx_ls (zx_ls row i v) (i + 1) 0) j = zx_lg (zx_ls row i v) j from zx_sd_other (by decide) _ _ 0 j (by decide) hj1] at hj ⊢
  by_cases hji : j = i
  · subst hji
    rw [show zx_lg (zx_ls row j v) j = v from zx_sd_same (by decide) row j v hv.1] at hj ⊢
    exact ⟨x, h'.2.2 (j, x) List.mem_cons_self, hv⟩
  · rw [show zx_lg (zx_ls row i v) j = zx_lg row j from zx_sd_other (by decide) row i v j hv.1 hji] at hj ⊢
    obtain ⟨w, h1, h2⟩ := hL j hj
    refine ⟨w, h'.2.2 (j, w) (List.mem_cons_of_mem _ (List.mem_filter.mpr ⟨zx_lv_mem.mpr h1, ?_⟩)), h2⟩
    show (!(j == i) && (!(j == i + 1) && !(j + 1 == i && w.category == 2))) = true
    rw [show (j == i) = false from by simpa using hji, show (j == i + 1) = false from by simpa using hj1]
    by_cases hp : j + 1 = i
    · subst hp
      rw [zx_cat_ne h2 h5]
      simp
    · rw [show (j + 1 == i) = false from by simpa using hp]
      rfl
/-! calls -/
theorem zx_lg_0 {v r : Nat} (hv : v < 4722366482869645213696) : zx_lg (v + 4722366482869645213696 * r) 0 = v := by
  show ((v + 4722366482869645213696 * r) >>> (0 + 72 * 0)) % 4722366482869645213696 = v
  rw [Nat.shiftRight_zero]
  omega
theorem zx_lg_S {v r j : Nat} (hv : v < 4722366482869645213696) : zx_lg (v + 4722366482869645213696 * r) (j + 1) = zx_lg r j := by
  show ((v + 4722366482869645213696 * r) >>> (0 + 72 * (j + 1))) % 4722366482869645213696 = (r >>> (0 + 72 * j)) % 4722366482869645213696
  rw [show 0 + 72 * (j + 1) = 72 + (0 + 72 * j) by omega, Nat.shiftRight_add]
  congr 2
  rw [Nat.shiftRight_eq_div_pow]
  show (v + 4722366482869645213696 * r) / 4722366482869645213696 = r
  omega
theorem zx_rw_cons (v : Nat) (l : List Nat) : zx_rw (v :: l) = v + (bif Nat.beq (zx_kd v) 5 then 22300745198530623141535718272648361505980416 else 4722366482869645213696) * zx_rw l := rfl
theorem zx_rw_s : ∀ {l : List Nat} {av : List Value} (b : Nat), zx_SR ads ex nu l av → ∀ j, zx_lg (zx_rw l) j % 16 ≠ 0 → ∃ v, (b + j, v) ∈ lv_args b av ∧ zx_r ads ex nu (zx_lg (zx_rw l) j) v
  | [], [], b, _, j, hj => by
    exfalso
    apply hj
    show ((0 : Nat) >>> (0 + 72 * j)) % 4722366482869645213696 % 16 = 0
    rw [Nat.zero_shiftRight]
  | v :: l, x :: av, b, h, j, hj => by
    have hc := zx_r_cat h.1
    have hv := h.1.1
    unfold lv_args
    rw [zx_rw_cons] at hj ⊢
    cases hk : Nat.beq (zx_kd v) 5 with
    | false =>
      rw [hk] at hj
      rw [cond_false] at hj ⊢
      rw [hk, cond_false] at hc
      rw [hc, if_neg (by decide)]
      cases j with
      | zero =>
        rw [zx_lg_0 hv] at hj ⊢
        exact ⟨x, List.mem_cons_self, h.1⟩
      | succ j =>
        rw [zx_lg_S hv] at hj ⊢
        obtain ⟨w, h1, h2⟩ := zx_rw_s (b + 1) h.2 j hj
        exact ⟨w, List.mem_cons_of_mem _ (by rw [show b + (j + 1) = b + 1 + j by omega]; exact h1), h2⟩
    | true =>
      rw [hk] at hj
      rw [cond_true, show (22300745198530623141535718272648361505980416 : Nat) = 4722366482869645213696 * 4722366482869645213696 from by decide, Nat.mul_assoc] at hj ⊢
      rw [hk, cond_true] at hc
      rw [hc, if_pos rfl]
      cases j with
      | zero =>
        rw [zx_lg_0 hv] at hj ⊢
        exact ⟨x, List.mem_cons_self, h.1⟩
      | succ j =>
        rw [zx_lg_S hv] at hj ⊢
        cases j with
        | zero =>
          exfalso
          apply hj
          rw [show 4722366482869645213696 * zx_rw l = 0 + 4722366482869645213696 * zx_rw l by omega, zx_lg_0 (by decide)]
        | succ j =>
          rw [show 4722366482869645213696 * zx_rw l = 0 + 4722366482869645213696 * zx_rw l by omega, zx_lg_S (by decide)] at hj ⊢
          obtain ⟨w, h1, h2⟩ := zx_rw_s (b + 2) h.2 j hj
          exact ⟨w, List.mem_cons_of_mem _ (by rw [show b + (j + 1 + 1) = b + 2 + j by omega]; exact h1), h2⟩
  | [], _ :: _, _, h, _, _ => h.elim
  | _ :: _, [], _, h, _, _ => h.elim
theorem zx_wd_cons (v : Nat) (l : List Nat) : zx_wd (v :: l) = (bif Nat.beq (zx_kd v) 5 then 2 else 1) + zx_wd l := rfl
theorem zx_wd_s : ∀ {f : List Nat} {v : List Value}, zx_SR ads ex nu f v → (lg_sl v).length = zx_wd f ∧ (v.map fun w => w.category).sum = zx_wd f
  | [], [], _ => ⟨rfl, rfl⟩
  | a :: l, b :: m, h => by
    have hc := zx_r_cat h.1
    obtain ⟨i1, i2⟩ := zx_wd_s h.2
    refine ⟨?_, ?_⟩
    · unfold lg_sl at i1 ⊢
      rw [List.flatMap_cons, List.length_append, i1, zx_wd_cons, ← hc]
      rcases lv_cat b with q | q <;> rw [q] <;> simp
    · rw [List.map_cons, List.sum_cons, i2, zx_wd_cons, hc]
  | [], _ :: _, h => h.elim
  | _ :: _, [], h => h.elim
/-- arguments off the stack -/
theorem zx_tk_s {e : Nat} (he : zx_ev nu e) : ∀ (n : Nat) {acc st : List Nat} {va vs : List Value} {k : List Nat → List Nat → Bool}, zx_SR ads ex nu acc va → zx_SR ads ex nu st vs → zx_tk n e acc st k = true → ∃ (as st' : List Nat) (av vs' : List Value), k as st' = true ∧ zx_SR ads ex nu as (av.reverse ++ va) ∧ zx_SR ads ex nu st' vs' ∧ vs = av ++ vs' ∧ av.length = n
  | 0, acc, st, va, vs, k, ha, hs, hk => ⟨acc, st, [], vs, hk, ha, hs, rfl, rfl⟩
  | n + 1, acc, st, va, vs, k, ha, hs, hk => by
    obtain ⟨v, t, rfl, hk⟩ := zx_p1_s (show zx_p1 st (fun v st => zx_no e v (fun v => zx_tk n e (v :: acc) st k)) = true from hk)
    cases vs with
    | nil => exact hs.elim
    | cons x vs =>
      obtain ⟨v', h1, hk⟩ := zx_no_s he hs.1 hk
      obtain ⟨as, st', av, vs', k1, k2, k3, k4, k5⟩ := zx_tk_s he n (acc := v' :: acc) (va := x :: va) ⟨h1, ha⟩ hs.2 hk
      refine ⟨as, st', x :: av, vs', k1, ?_, k3, by rw [k4]; rfl, by rw [List.length_cons, k5]⟩
      rw [List.reverse_cons, List.append_assoc]
      exact k2
end ZC
end
section
/-! links: (class, index, which, which, list of words, place there); printed by program -/
abbrev zx_Q : Type := Nat × Nat × Nat × Nat × Nat × Nat
def zx_FL : List zx_Q := [(12, 20, 12, 11, 6, 112), (12, 300, 12, 43, 6, 144), (12, 27, 12, 13, 6, 114), (12, 119, 12, 49, 6, 150), (12, 429, 12, 52, 6, 153), (12, 432, 12, 53, 6, 154), (12, 435, 12, 68, 6, 169), (12, 554, 12, 69, 6, 170), (12, 297, 12, 2, 6, 103), (12, 30, 12, 14, 6, 115), (12, 438, 12, 57, 6, 158), (12, 24, 12, 12, 6, 113), (11, 74, 11, 9, 2, 213), (11, 111, 6, 9, 1, 113), (11, 354, 6, 8, 1, 110), (11, 357, 6, 10, 1, 119), (11, 78, 11, 10, 2, 214), (11, 147, 8, 0, 2, 64), (11, 150, 8, 1, 2, 66), (11, 193, 8, 3, 2, 70), (11, 210, 8, 4, 2, 72), (11, 360, 8, 5, 2, 74), (11, 28, 11, 2, 2, 206), (11, 46, 11, 5, 2, 209), (11, 363, 1, 4, 2, 120), (11, 338, 1, 5, 2, 122), (11, 12, 11, 0, 2, 204), (11, 85, 10, 1, 1, 39), (11, 366, 6, 7, 1, 107), (11, 370, 0, 4, 1, 71), (11, 67, 11, 8, 2, 212), (11, 316, 5, 1, 2, 196), (2, 24, 2, 3, 2, 95), (2, 21, 2, 2, 2, 94), (12, 167, 12, 71, 6, 172), (12, 164, 12, 70, 6, 171), (11, 39, 11, 4, 2, 208), (11, 81, 11, 11, 2, 215), (2, 17, 2, 1, 2, 93), (8, 9, 8, 0, 2, 63), (8, 15, 8, 1, 2, 65), (8, 18, 8, 2, 2, 67), (8, 21, 8, 3, 2, 69), (8, 24, 8, 4, 2, 71), (8, 27, 8, 5, 2, 73), (8, 30, 8, 6, 2, 75), (12, 131, 12, 55, 6, 156), (12, 128, 12, 54, 6, 155), (12, 122, 12, 50, 6, 151), (12, 84, 12, 32, 6, 133), (12, 158, 12, 66, 6, 167), (12, 161, 12, 67, 6, 168), (12, 155, 12, 65, 6, 166), (12, 152, 12, 64, 6, 165), (12, 42, 12, 18, 6, 119), (12, 45, 12, 19, 6, 120), (12, 51, 12, 21, 6, 122), (12, 48, 12, 20, 6, 121), (12, 78, 12, 30, 6, 131), (11, 53, 11, 6, 2, 210), (4, 21, 4, 3, 2, 145), (4, 15, 4, 1, 2, 143), (4, 32, 4, 6, 2, 148), (4, 9, 4, 0, 2, 142), (4, 28, 4, 5, 2, 147), (11, 134, 8, 2, 2, 68), (11, 394, 1, 0, 2, 114), (11, 397, 1, 1, 2, 116), (1, 24, 1, 4, 2, 119), (1, 18, 1, 2, 2, 117), (1, 21, 1, 3, 2, 118), (6, 44, 6, 9, 1, 111), (6, 18, 6, 2, 1, 90), (6, 50, 6, 11, 1, 120), (6, 21, 6, 3, 1, 94), (6, 24, 6, 4, 1, 97), (6, 15, 6, 1, 1, 88), (11, 156, 6, 14, 1, 132), (12, 134, 12, 56, 6, 157), (5, 15, 5, 1, 2, 195), (5, 9, 5, 0, 2, 194), (1, 28, 1, 5, 2, 121), (1, 9, 1, 0, 2, 113), (1, 15, 1, 1, 2, 115), (12, 149, 12, 63, 6, 164), (4, 24, 4, 4, 2, 146), (8, 58, 6, 14, 1, 131), (12, 140, 12, 59, 6, 160), (12, 533, 12, 61, 6, 162), (12, 143, 12, 60, 6, 161), (12, 54, 12, 22, 6, 123), (12, 57, 12, 23, 6, 124), (12, 60, 12, 24, 6, 125), (12, 63, 12, 25, 6, 126), (12, 39, 12, 17, 6, 118), (11, 60, 11, 7, 2, 211), (9, 15, 9, 1, 2, 172), (9, 21, 9, 3, 2, 174), (9, 18, 9, 2, 2, 173), (9, 85, 6, 10, 1, 118), (9, 88, 6, 5, 1, 101), (9, 91, 6, 6, 1, 103), (9, 9, 9, 0, 2, 171), (9, 34, 6, 1, 1, 89), (9, 37, 6, 9, 1, 112), (9, 40, 6, 2, 1, 91), (6, 9, 6, 0, 1, 85), (6, 40, 6, 8, 1, 108), (12, 81, 12, 31, 6, 132), (11, 35, 11, 3, 2, 207), (11, 153, 6, 13, 1, 127), (8, 65, 6, 9, 1, 115), (8, 100, 6, 13, 1, 128), (12, 146, 12, 62, 6, 163), (11, 309, 9, 4, 2, 176), (9, 25, 9, 4, 2, 175), (11, 281, 6, 0, 1, 87), (12, 137, 12, 58, 6, 159), (8, 113, 6, 2, 1, 93), (12, 94, 12, 35, 6, 136), (12, 66, 12, 26, 6, 127), (12, 69, 12, 27, 6, 128), (12, 104, 12, 38, 6, 139), (12, 116, 12, 42, 6, 143), (12, 107, 12, 39, 6, 140), (4, 18, 4, 2, 2, 144), (8, 76, 6, 7, 1, 105), (8, 80, 6, 4, 1, 98), (8, 83, 6, 3, 1, 95), (0, 22, 0, 3, 1, 68), (0, 18, 0, 2, 1, 67), (0, 11, 0, 0, 1, 65), (0, 15, 0, 1, 1, 66), (12, 125, 12, 51, 6, 152), (2, 11, 2, 0, 2, 92), (11, 159, 8, 6, 2, 76), (11, 124, 6, 2, 1, 92), (11, 128, 6, 3, 1, 96), (11, 131, 6, 4, 1, 99), (11, 141, 6, 11, 1, 121), (12, 179, 12, 4, 6, 105), (12, 16, 12, 5, 6, 106), (11, 21, 11, 1, 2, 205), (11, 114, 7, 5, 2, 32), (11, 117, 7, 6, 2, 34), (12, 176, 12, 3, 6, 104), (12, 13, 12, 1, 6, 102), (12, 7, 12, 0, 6, 101), (12, 232, 12, 7, 6, 108), (12, 291, 12, 44, 6, 145), (12, 242, 12, 8, 6, 109), (12, 72, 12, 28, 6, 129), (12, 75, 12, 29, 6, 130), (12, 33, 12, 15, 6, 116), (12, 36, 12, 16, 6, 117), (12, 249, 12, 10, 6, 111), (12, 87, 12, 33, 6, 134), (12, 91, 12, 34, 6, 135), (12, 235, 12, 6, 6, 107), (12, 260, 12, 9, 6, 110), (12, 354, 12, 48, 6, 149), (12, 294, 12, 45, 6, 146), (12, 360, 12, 47, 6, 148), (12, 363, 12, 46, 6, 147), (12, 110, 12, 40, 6, 141), (12, 113, 12, 41, 6, 142), (12, 97, 12, 36, 6, 137), (12, 101, 12, 37, 6, 138), (8, 34, 6, 15, 1, 135), (8, 37, 6, 12, 1, 124), (8, 38, 6, 16, 1, 138), (8, 39, 6, 17, 1, 141), (7, 21, 7, 3, 2, 29), (7, 25, 7, 4, 2, 30), (7, 29, 7, 5, 2, 31), (7, 32, 7, 6, 2, 33), (7, 40, 7, 0, 2, 26), (7, 50, 3, 3, 2, 4), (7, 57, 6, 8, 1, 109), (7, 67, 6, 9, 1, 114), (7, 73, 6, 10, 1, 117), (7, 207, 3, 4, 2, 6), (7, 169, 6, 17, 1, 142), (3, 13, 3, 2, 2, 2), (3, 30, 3, 0, 2, 0), (3, 53, 10, 1, 1, 40), (3, 20, 3, 4, 2, 5), (3, 17, 3, 3, 2, 3), (14, 9, 100, 0, 9, 152), (14, 38, 200, 0, 1, 195), (14, 15, 101, 0, 9, 153), (3, 23, 3, 5, 2, 7), (10, 15, 10, 1, 1, 38), (10, 9, 10, 0, 1, 37), (3, 26, 3, 6, 2, 9), (3, 9, 3, 1, 2, 1), (7, 200, 3, 5, 2, 8), (7, 166, 6, 16, 1, 139), (7, 178, 6, 7, 1, 106), (7, 197, 0, 4, 1, 70), (7, 117, 6, 0, 1, 86), (6, 47, 6, 10, 1, 116), (6, 27, 6, 5, 1, 100), (6, 30, 6, 6, 1, 102), (7, 9, 7, 1, 2, 27), (7, 203, 3, 6, 2, 10), (7, 15, 7, 2, 2, 28), (7, 148, 6, 13, 1, 129), (7, 151, 6, 14, 1, 133), (7, 154, 6, 15, 1, 136), (7, 142, 6, 11, 1, 122), (7, 139, 6, 12, 1, 125), (6, 53, 6, 12, 1, 123), (6, 56, 6, 13, 1, 126), (6, 59, 6, 14, 1, 130), (6, 62, 6, 15, 1, 134), (6, 65, 6, 16, 1, 137), (6, 68, 6, 17, 1, 140), (6, 36, 6, 7, 1, 104), (0, 25, 0, 4, 1, 69), (14, 1053, 201, 0, 1, 211)]
def zx_ML : List zx_Q := [(13, 9, 325, 0, 1, 25), (13, 12, 324, 0, 6, 89), (13, 13, 322, 0, 3, 1), (13, 17, 321, 0, 9, 144), (13, 18, 320, 0, 3, 9), (13, 22, 319, 0, 9, 148), (13, 23, 268, 0, 3, 13), (13, 27, 231, 0, 7, 78), (13, 28, 230, 0, 4, 22), (13, 31, 229, 0, 8, 3), (13, 32, 228, 0, 4, 26), (13, 36, 227, 0, 8, 7), (13, 37, 226, 0, 4, 40), (13, 40, 214, 0, 8, 44), (13, 41, 225, 0, 4, 70), (13, 44, 224, 0, 8, 76), (13, 45, 223, 0, 4, 75), (13, 48, 222, 0, 8, 80), (13, 49, 221, 0, 4, 98), (13, 52, 220, 0, 8, 176), (13, 53, 219, 0, 4, 105), (13, 56, 218, 0, 8, 96), (13, 57, 217, 0, 4, 138), (13, 60, 216, 0, 8, 172), (13, 61, 215, 0, 4, 148), (13, 64, 213, 0, 8, 111), (13, 65, 212, 0, 4, 174), (13, 69, 211, 0, 8, 120), (13, 70, 210, 0, 4, 178), (13, 73, 209, 0, 8, 124), (13, 74, 208, 0, 4, 183), (13, 77, 207, 0, 8, 132), (13, 78, 206, 0, 4, 187), (13, 82, 205, 0, 8, 144), (13, 83, 204, 0, 4, 206), (13, 86, 203, 0, 8, 148), (13, 87, 201, 0, 4, 210), (13, 90, 198, 0, 8, 152), (13, 91, 196, 0, 4, 219), (13, 95, 195, 0, 8, 180), (13, 96, 190, 0, 4, 235), (13, 99, 188, 0, 8, 188), (13, 100, 187, 0, 5, 7), (13, 103, 186, 0, 8, 196), (13, 104, 185, 0, 5, 67), (13, 107, 184, 0, 8, 228), (13, 108, 181, 0, 5, 94), (13, 111, 179, 0, 9, 3), (13, 112, 168, 0, 5, 106), (13, 115, 162, 0, 9, 11), (13, 116, 160, 0, 5, 123), (13, 119, 159, 0, 9, 19), (13, 120, 154, 0, 5, 131), (13, 123, 151, 0, 9, 23), (13, 124, 150, 0, 5, 143), (13, 127, 149, 0, 9, 27), (13, 128, 148, 0, 5, 148), (13, 131, 147, 0, 9, 31), (13, 132, 144, 0, 5, 152), (13, 135, 142, 0, 8, 136), (13, 136, 141, 0, 5, 156), (13, 139, 140, 0, 8, 164), (13, 140, 134, 0, 5, 161), (13, 143, 130, 0, 9, 35), (13, 144, 129, 0, 5, 165), (13, 147, 128, 0, 9, 39), (13, 148, 127, 0, 5, 170), (13, 151, 126, 0, 9, 67), (13, 152, 125, 0, 5, 196), (13, 156, 124, 0, 9, 71), (13, 157, 122, 0, 5, 201), (13, 160, 121, 0, 9, 75), (13, 161, 118, 0, 5, 214), (13, 164, 117, 0, 9, 79), (13, 165, 113, 0, 5, 222), (13, 168, 110, 0, 8, 168), (13, 169, 107, 0, 5, 226), (13, 172, 106, 0, 9, 83), (13, 173, 105, 0, 5, 234), (13, 176, 104, 0, 9, 43), (13, 177, 92, 0, 5, 238), (13, 180, 83, 0, 9, 87), (13, 181, 79, 0, 6, 2), (13, 184, 77, 0, 9, 91), (13, 185, 75, 0, 6, 14), (13, 188, 74, 0, 8, 192), (13, 189, 72, 0, 6, 22), (13, 192, 71, 0, 9, 99), (13, 193, 69, 0, 6, 30), (13, 196, 68, 0, 9, 103), (13, 197, 67, 0, 6, 38), (13, 200, 66, 0, 9, 107), (13, 201, 60, 0, 6, 43), (13, 204, 58, 0, 9, 112), (13, 205, 55, 0, 6, 63), (13, 208, 54, 0, 9, 124), (13, 209, 35, 0, 6, 71), (13, 212, 15, 0, 9, 128), (13, 213, 14, 0, 6, 75), (13, 216, 13, 0, 9, 132), (13, 217, 8, 0, 6, 79), (13, 220, 5, 0, 9, 136), (13, 221, 2, 0, 6, 83), (13, 224, 0, 0, 9, 140), (12, 397, 1, 0, 8, 15), (11, 216, 4, 0, 4, 223), (11, 224, 3, 0, 4, 239), (12, 400, 7, 0, 8, 19), (12, 517, 6, 0, 9, 0), (11, 144, 12, 0, 4, 39), (11, 275, 11, 0, 5, 160), (11, 104, 10, 0, 4, 10), (11, 188, 9, 0, 4, 142), (8, 48, 9001, 0, 4, 167), (12, 558, 33, 0, 9, 116), (12, 441, 32, 0, 8, 11), (12, 410, 19, 0, 8, 38), (12, 561, 21, 0, 9, 120), (12, 451, 20, 0, 8, 68), (12, 498, 16, 0, 8, 216), (12, 491, 17, 0, 8, 220), (12, 454, 18, 0, 8, 72), (12, 447, 23, 0, 8, 48), (12, 495, 22, 0, 8, 212), (12, 426, 24, 0, 8, 52), (12, 404, 26, 0, 8, 22), (12, 417, 31, 0, 8, 56), (12, 420, 30, 0, 8, 34), (12, 414, 29, 0, 8, 26), (12, 387, 28, 0, 8, 30), (12, 423, 27, 0, 8, 60), (12, 407, 25, 0, 8, 64), (12, 501, 34, 0, 8, 204), (11, 342, 52, 0, 6, 47), (11, 120, 50, 0, 4, 30), (11, 345, 42, 0, 6, 51), (11, 351, 41, 0, 6, 59), (11, 241, 36, 0, 5, 29), (4, 54, 37, 0, 5, 34), (4, 57, 38, 0, 5, 38), (4, 61, 40, 0, 5, 43), (11, 233, 46, 0, 5, 19), (11, 237, 44, 0, 5, 24), (11, 391, 43, 0, 6, 55), (4, 41, 45, 0, 5, 28), (4, 35, 47, 0, 5, 23), (6, 100, 48, 0, 4, 60), (6, 85, 50, 0, 4, 38), (6, 93, 51, 0, 4, 64), (6, 96, 49, 0, 4, 65), (6, 88, 342, 0, 4, 69), (11, 323, 53, 0, 5, 15), (11, 319, 39, 0, 5, 16), (11, 348, 56, 0, 6, 67), (4, 70, 57, 0, 5, 52), (12, 510, 59, 0, 8, 224), (11, 108, 65, 0, 4, 18), (11, 244, 61, 0, 5, 47), (4, 64, 9, 0, 5, 51), (4, 73, 63, 0, 5, 56), (4, 76, 62, 0, 5, 63), (4, 82, 64, 0, 5, 59), (11, 335, 70, 0, 6, 34), (11, 332, 73, 0, 6, 26), (11, 329, 76, 0, 6, 18), (12, 551, 78, 0, 9, 95), (11, 203, 82, 0, 4, 182), (11, 326, 80, 0, 6, 6), (4, 101, 81, 0, 6, 10), (8, 54, 53, 0, 4, 52), (12, 544, 91, 0, 9, 47), (12, 547, 84, 0, 9, 51), (12, 540, 85, 0, 9, 55), (12, 536, 86, 0, 9, 59), (12, 529, 87, 0, 9, 63), (12, 460, 89, 0, 8, 84), (12, 463, 88, 0, 8, 92), (12, 457, 90, 0, 8, 88), (11, 170, 100, 0, 4, 79), (11, 288, 103, 0, 4, 195), (11, 173, 99, 0, 4, 80), (11, 284, 93, 0, 5, 174), (9, 62, 95, 0, 5, 178), (9, 66, 94, 0, 5, 192), (9, 72, 45, 0, 5, 182), (9, 78, 96, 0, 5, 183), (9, 81, 97, 0, 5, 187), (9, 69, 98, 0, 5, 191), (9, 28, 102, 0, 4, 84), (9, 43, 51, 0, 4, 89), (9, 47, 100, 0, 4, 90), (9, 53, 49, 0, 4, 92), (9, 57, 341, 0, 4, 93), (6, 78, 101, 0, 3, 196), (6, 82, 100, 0, 4, 88), (11, 312, 109, 0, 5, 230), (11, 297, 108, 0, 5, 209), (11, 300, 62, 0, 5, 212), (12, 485, 111, 0, 8, 160), (12, 482, 112, 0, 8, 156), (11, 162, 116, 0, 4, 44), (11, 213, 114, 0, 4, 214), (8, 61, 82, 0, 4, 48), (8, 68, 47, 0, 4, 56), (8, 106, 115, 0, 4, 218), (11, 181, 120, 0, 4, 102), (11, 306, 119, 0, 5, 218), (11, 291, 95, 0, 5, 200), (11, 294, 123, 0, 5, 205), (11, 303, 94, 0, 5, 213), (11, 278, 101, 0, 5, 169), (11, 177, 98, 0, 4, 94), (12, 520, 131, 0, 8, 232), (12, 475, 133, 0, 8, 128), (12, 514, 132, 0, 8, 236), (11, 248, 135, 0, 5, 71), (11, 375, 136, 0, 5, 75), (4, 88, 138, 0, 5, 79), (4, 91, 137, 0, 5, 87), (4, 85, 139, 0, 5, 83), (12, 478, 143, 0, 8, 140), (11, 206, 145, 0, 4, 191), (11, 380, 146, 0, 4, 198), (11, 383, 342, 0, 4, 204), (11, 388, 341, 0, 4, 205), (8, 110, 51, 0, 4, 202), (11, 272, 47, 0, 5, 147), (12, 504, 153, 0, 8, 200), (12, 507, 152, 0, 8, 208), (11, 230, 158, 0, 5, 11), (11, 269, 156, 0, 5, 135), (11, 251, 155, 0, 5, 91), (11, 377, 157, 0, 5, 139), (11, 266, 161, 0, 5, 127), (11, 166, 48, 0, 4, 74), (12, 526, 163, 0, 9, 15), (12, 466, 164, 0, 8, 100), (12, 245, 167, 0, 7, 90), (12, 390, 166, 0, 8, 104), (12, 394, 165, 0, 8, 108), (11, 184, 172, 0, 4, 109), (11, 257, 171, 0, 5, 110), (11, 260, 170, 0, 5, 114), (11, 263, 169, 0, 5, 122), (4, 98, 169, 0, 5, 118), (8, 72, 50, 0, 4, 113), (8, 86, 173, 0, 4, 114), (8, 92, 342, 0, 4, 136), (8, 97, 341, 0, 4, 137), (0, 28, 176, 0, 4, 118), (0, 32, 174, 0, 4, 122), (0, 36, 178, 0, 4, 126), (0, 40, 175, 0, 4, 129), (0, 43, 177, 0, 4, 133), (12, 523, 180, 0, 9, 7), (11, 254, 182, 0, 5, 98), (4, 95, 183, 0, 5, 102), (12, 488, 189, 0, 8, 184), (11, 227, 191, 0, 5, 3), (2, 36, 192, 0, 4, 231), (2, 28, 193, 0, 4, 156), (2, 40, 194, 0, 4, 160), (11, 220, 197, 0, 4, 227), (12, 472, 200, 0, 8, 116), (12, 444, 199, 0, 8, 41), (11, 196, 202, 0, 4, 152), (2, 32, 11, 0, 4, 163), (11, 137, 51, 0, 4, 34), (12, 469, 214, 0, 8, 115), (11, 200, 115, 0, 4, 170), (12, 170, 267, 0, 6, 93), (12, 274, 238, 0, 7, 82), (12, 270, 233, 0, 7, 127), (12, 303, 234, 0, 7, 131), (12, 173, 232, 0, 6, 97), (12, 306, 266, 0, 7, 135), (12, 277, 236, 0, 7, 143), (12, 309, 265, 0, 7, 151), (12, 312, 259, 0, 7, 179), (12, 315, 255, 0, 7, 199), (12, 318, 245, 0, 7, 203), (12, 287, 244, 0, 7, 175), (12, 321, 243, 0, 7, 219), (12, 283, 235, 0, 7, 171), (12, 266, 237, 0, 7, 147), (12, 238, 240, 0, 7, 86), (12, 253, 242, 0, 7, 93), (12, 257, 241, 0, 7, 121), (12, 263, 239, 0, 7, 124), (12, 357, 246, 0, 7, 207), (12, 366, 248, 0, 7, 211), (12, 369, 253, 0, 7, 215), (12, 372, 247, 0, 7, 231), (12, 381, 251, 0, 7, 235), (12, 384, 250, 0, 7, 239), (12, 378, 249, 0, 7, 227), (12, 280, 252, 0, 7, 139), (12, 375, 254, 0, 7, 223), (12, 328, 257, 0, 7, 155), (12, 340, 256, 0, 7, 183), (12, 324, 258, 0, 7, 159), (12, 332, 264, 0, 7, 163), (12, 336, 263, 0, 7, 167), (12, 343, 261, 0, 7, 187), (12, 347, 262, 0, 7, 191), (12, 351, 260, 0, 7, 195), (11, 92, 272, 0, 3, 17), (11, 96, 271, 0, 3, 239), (11, 100, 270, 0, 4, 3), (11, 107, 269, 0, 4, 14), (8, 42, 45, 0, 4, 7), (7, 44, 317, 0, 3, 21), (7, 47, 316, 0, 3, 29), (7, 53, 273, 0, 3, 119), (7, 60, 314, 0, 3, 123), (7, 63, 274, 0, 3, 132), (7, 70, 307, 0, 3, 148), (7, 76, 303, 0, 3, 188), (7, 79, 294, 0, 3, 201), (7, 82, 296, 0, 3, 205), (7, 86, 276, 0, 3, 136), (7, 89, 295, 0, 3, 231), (7, 92, 275, 0, 3, 235), (7, 102, 293, 0, 3, 140), (7, 95, 277, 0, 3, 127), (3, 57, 288, 0, 3, 37), (3, 61, 287, 0, 3, 41), (3, 65, 290, 0, 3, 44), (3, 68, 289, 0, 3, 52), (3, 71, 286, 0, 3, 55), (3, 76, 278, 0, 3, 60), (14, 633, 279, 0, 3, 64), (14, 492, 285, 0, 1, 201), (14, 505, 280, 0, 3, 68), (14, 637, 282, 0, 3, 69), (14, 335, 281, 0, 1, 191), (18, 88, 284, 0, 3, 72), (18, 92, 341, 0, 3, 75), (18, 38, 342, 0, 3, 78), (18, 95, 283, 0, 3, 81), (3, 46, 292, 0, 1, 235), (3, 79, 291, 0, 3, 48), (7, 172, 298, 0, 3, 209), (7, 175, 302, 0, 3, 228), (7, 182, 297, 0, 3, 217), (7, 188, 301, 0, 3, 213), (7, 191, 299, 0, 3, 221), (7, 194, 300, 0, 3, 225), (7, 110, 305, 0, 3, 152), (7, 114, 101, 0, 3, 160), (7, 157, 306, 0, 3, 156), (7, 160, 100, 0, 3, 192), (7, 163, 304, 0, 3, 197), (7, 98, 313, 0, 3, 128), (7, 121, 342, 0, 3, 164), (7, 126, 312, 0, 3, 165), (7, 130, 311, 0, 3, 169), (7, 133, 309, 0, 3, 173), (7, 136, 308, 0, 3, 184), (7, 145, 310, 0, 3, 177), (7, 106, 315, 0, 3, 144), (3, 50, 277, 0, 3, 33), (6, 71, 318, 0, 3, 25), (11, 88, 323, 0, 3, 5), (12, 1, 9000, 0, 6, 92), (11, 3, 9000, 0, 1, 28), (11, 18, 334, 0, 1, 49), (11, 27, 333, 0, 2, 52), (8, 3, 9000, 0, 2, 62), (6, 3, 9000, 0, 1, 58), (0, 3, 9000, 0, 1, 64), (5, 3, 9000, 0, 2, 193), (9, 3, 9000, 0, 2, 170), (4, 3, 9000, 0, 2, 141), (1, 3, 9000, 0, 2, 112), (2, 3, 9000, 0, 2, 55), (7, 3, 9000, 0, 1, 52), (7, 37, 335, 0, 1, 182), (3, 1, 9000, 0, 1, 185), (3, 36, 280, 0, 1, 187), (3, 42, 336, 0, 1, 197), (14, 495, 339, 0, 1, 205), (14, 1059, 338, 0, 1, 213), (18, 9, 337, 0, 1, 208), (10, 3, 9000, 0, 1, 36)]
def zx_NL : List zx_Q := [(4, 50, 39, 1, 5, 33), (4, 47, 12, 1, 5, 42), (6, 74, 12, 1, 3, 181), (9, 50, 12, 1, 4, 91), (8, 103, 12, 1, 4, 203), (11, 11, 340, 1, 1, 33), (11, 34, 326, 1, 2, 106), (11, 45, 332, 1, 2, 109), (11, 52, 331, 1, 2, 138), (11, 59, 330, 1, 2, 167), (11, 66, 329, 1, 2, 190), (11, 73, 327, 1, 2, 203), (6, 35, 328, 1, 1, 61), (2, 27, 326, 1, 2, 59), (7, 20, 327, 1, 1, 55)]
def zx_CL : List zx_Q := [(13, 7, 11, 0, 1, 23), (13, 10, 12, 0, 6, 87), (11, 9, 10, 0, 1, 31), (11, 16, 7, 0, 1, 47), (11, 25, 2, 0, 2, 50), (11, 32, 8, 0, 2, 105), (11, 43, 1, 0, 2, 107), (11, 50, 4, 0, 2, 136), (11, 57, 9, 0, 2, 165), (11, 64, 5, 0, 2, 188), (11, 71, 6, 0, 2, 202), (6, 33, 0, 0, 1, 59), (2, 9, 8, 0, 2, 56), (7, 18, 6, 0, 1, 53), (7, 35, 3, 0, 1, 180)]
def zx_KL : List zx_Q := [(15, 265, 1431655765, 0, 4, 145), (15, 266, 858993459, 0, 4, 146), (15, 267, 252645135, 0, 4, 147), (15, 264, 65536, 0, 5, 62), (12, 557, 100000, 0, 9, 111), (11, 341, 100000, 0, 6, 42)]
def zx_JL : List zx_Q := [(12, 182, 1818324581, 0, 7, 96), (12, 188, 1685024626, 0, 7, 99), (12, 210, 109330312357234, 0, 7, 110), (12, 214, 7301484, 0, 7, 112), (12, 216, 495874696043, 0, 7, 113), (12, 218, 1685217655, 0, 7, 114), (12, 184, 1819242087, 0, 7, 97), (12, 186, 2003395685, 0, 7, 98), (12, 190, 26990, 0, 7, 100), (12, 192, 24948, 0, 7, 101), (12, 194, 422826697060, 0, 7, 102), (12, 196, 1818584692, 0, 7, 103), (12, 198, 491394656372, 0, 7, 104), (12, 200, 474316174440, 0, 7, 105), (12, 202, 495791207528, 0, 7, 106), (12, 204, 465726042981, 0, 7, 107), (12, 206, 1953064292, 0, 7, 108), (12, 208, 1869636974, 0, 7, 109), (12, 212, 2003399784, 0, 7, 111), (12, 220, 499984983411, 0, 7, 115), (12, 222, 6578553, 0, 7, 116), (12, 224, 482854658917, 0, 7, 117), (12, 226, 28530, 0, 7, 118), (12, 228, 6385252, 0, 7, 119), (12, 230, 7237492, 0, 7, 120), (3, 82, 27, 0, 1, 238), (3, 84, 97, 0, 1, 239)]
def zx_mp : List (Nat × Nat × Nat × Nat × Nat × Nat × Nat × Nat) := [(9, 143, 1, 17, 9, 141, 9, 142), (8, 18, 1, 17, 8, 17, 0, 80), (6, 86, 1, 1, 6, 84, 6, 85), (5, 2, 1, 11, 5, 0, 5, 1), (4, 226, 1, 11, 4, 224, 4, 225), (9, 139, 1, 17, 9, 137, 9, 138), (9, 2, 1, 17, 9, 1, 0, 0), (8, 21, 1, 17, 8, 20, 0, 0), (6, 82, 1, 1, 6, 80, 6, 81), (4, 144, 1, 21, 4, 143, 0, 0), (4, 13, 1, 11, 4, 11, 4, 12), (4, 166, 1, 12, 4, 164, 4, 165), (3, 183, 1, 1, 3, 182, 0, 0), (9, 135, 1, 17, 9, 133, 9, 134), (6, 78, 1, 1, 6, 76, 6, 77), (9, 131, 1, 17, 9, 129, 9, 130), (8, 219, 1, 17, 8, 218, 0, 107), (8, 223, 1, 17, 8, 222, 0, 108), (8, 75, 1, 17, 8, 74, 0, 91), (8, 40, 1, 17, 8, 39, 0, 0), (8, 71, 1, 17, 8, 70, 0, 90), (9, 123, 1, 17, 9, 122, 0, 121), (8, 215, 1, 17, 8, 214, 0, 106), (8, 51, 1, 17, 8, 50, 0, 85), (8, 55, 1, 17, 8, 54, 0, 86), (8, 67, 1, 17, 8, 66, 0, 89), (8, 25, 1, 17, 8, 24, 0, 81), (8, 63, 1, 17, 8, 62, 0, 88), (8, 33, 1, 17, 8, 32, 0, 83), (8, 29, 1, 17, 8, 28, 0, 82), (8, 37, 1, 17, 8, 36, 0, 84), (8, 59, 1, 17, 8, 58, 0, 87), (8, 14, 1, 17, 8, 13, 0, 79), (9, 119, 1, 17, 9, 118, 0, 120), (8, 207, 1, 17, 8, 206, 0, 104), (6, 74, 1, 1, 6, 72, 6, 73), (5, 32, 1, 14, 5, 30, 5, 31), (5, 37, 1, 14, 5, 36, 0, 30), (5, 41, 1, 14, 5, 40, 0, 31), (5, 18, 1, 1, 5, 17, 0, 0), (5, 46, 1, 14, 5, 45, 0, 32), (6, 62, 1, 14, 6, 60, 6, 61), (6, 54, 1, 1, 6, 53, 0, 45), (6, 58, 1, 13, 6, 56, 6, 57), (5, 27, 1, 14, 5, 25, 5, 26), (4, 9, 1, 20, 4, 8, 0, 0), (5, 22, 1, 14, 5, 20, 5, 21), (4, 59, 1, 4, 4, 57, 4, 58), (4, 63, 1, 4, 4, 61, 4, 62), (4, 68, 1, 4, 4, 66, 4, 67), (4, 33, 1, 4, 4, 31, 4, 32), (4, 37, 1, 4, 4, 35, 4, 36), (6, 50, 1, 1, 6, 49, 0, 44), (4, 55, 1, 4, 4, 53, 4, 54), (9, 127, 1, 17, 9, 125, 9, 126), (6, 66, 1, 1, 6, 64, 6, 65), (6, 70, 1, 14, 6, 68, 6, 69), (5, 55, 1, 14, 5, 54, 0, 33), (9, 115, 1, 17, 9, 113, 9, 114), (8, 227, 1, 17, 8, 226, 0, 109), (6, 46, 1, 1, 6, 44, 6, 45), (5, 50, 1, 14, 5, 48, 5, 49), (5, 66, 1, 16, 5, 64, 5, 65), (5, 58, 1, 14, 5, 57, 0, 0), (5, 61, 1, 21, 5, 60, 0, 0), (4, 21, 1, 16, 4, 19, 4, 20), (9, 110, 1, 17, 9, 108, 9, 109), (6, 41, 1, 1, 6, 39, 6, 40), (9, 106, 1, 17, 9, 104, 9, 105), (6, 33, 1, 1, 6, 31, 6, 32), (6, 37, 1, 13, 6, 35, 6, 36), (9, 102, 1, 17, 9, 100, 9, 101), (6, 25, 1, 1, 6, 23, 6, 24), (6, 29, 1, 13, 6, 27, 6, 28), (8, 195, 1, 17, 8, 193, 8, 194), (6, 17, 1, 1, 6, 15, 6, 16), (6, 21, 1, 16, 6, 19, 6, 20), (9, 94, 1, 17, 9, 92, 9, 93), (9, 98, 1, 17, 9, 97, 0, 119), (6, 5, 1, 1, 6, 3, 6, 4), (6, 9, 1, 14, 6, 7, 6, 8), (6, 13, 1, 14, 6, 12, 0, 43), (4, 51, 1, 12, 4, 49, 4, 50), (9, 90, 1, 17, 9, 88, 9, 89), (9, 54, 1, 17, 9, 53, 0, 115), (9, 58, 1, 17, 9, 57, 0, 116), (9, 62, 1, 17, 9, 61, 0, 117), (9, 66, 1, 17, 9, 65, 0, 118), (8, 95, 1, 17, 8, 94, 0, 94), (8, 87, 1, 17, 8, 86, 0, 92), (8, 91, 1, 17, 8, 90, 0, 93), (9, 50, 1, 17, 9, 49, 0, 114), (6, 1, 1, 1, 5, 239, 6, 0), (5, 177, 1, 15, 5, 175, 5, 176), (5, 195, 1, 15, 5, 193, 5, 194), (5, 181, 1, 15, 5, 179, 5, 180), (5, 186, 1, 15, 5, 185, 0, 41), (5, 190, 1, 15, 5, 189, 0, 42), (4, 97, 1, 15, 4, 95, 4, 96), (4, 83, 1, 15, 4, 81, 4, 82), (3, 195, 1, 4, 3, 193, 3, 194), (3, 163, 1, 4, 3, 161, 3, 162), (4, 87, 1, 4, 4, 85, 4, 86), (4, 197, 1, 1, 4, 196, 0, 0), (9, 46, 1, 17, 9, 44, 9, 45), (5, 237, 1, 1, 5, 235, 5, 236), (9, 86, 1, 17, 9, 84, 9, 85), (5, 229, 1, 1, 5, 227, 5, 228), (5, 211, 1, 1, 5, 210, 0, 0), (5, 233, 1, 15, 5, 231, 5, 232), (8, 171, 1, 17, 8, 169, 8, 170), (8, 163, 1, 17, 8, 162, 0, 101), (8, 159, 1, 17, 8, 158, 0, 100), (5, 225, 1, 1, 5, 223, 5, 224), (4, 217, 1, 12, 4, 215, 4, 216), (4, 173, 1, 12, 4, 171, 4, 172), (4, 47, 1, 12, 4, 45, 4, 46), (9, 82, 1, 17, 9, 80, 9, 81), (5, 217, 1, 1, 5, 215, 5, 216), (5, 221, 1, 15, 5, 219, 5, 220), (4, 104, 1, 1, 4, 103, 0, 0), (9, 78, 1, 17, 9, 76, 9, 77), (5, 204, 1, 1, 5, 202, 5, 203), (5, 208, 1, 15, 5, 206, 5, 207), (9, 74, 1, 17, 9, 72, 9, 73), (5, 199, 1, 1, 5, 197, 5, 198), (9, 70, 1, 17, 9, 68, 9, 69), (5, 173, 1, 1, 5, 171, 5, 172), (9, 42, 1, 17, 9, 40, 9, 41), (5, 168, 1, 1, 5, 166, 5, 167), (9, 38, 1, 17, 9, 36, 9, 37), (8, 235, 1, 17, 8, 234, 0, 110), (8, 239, 1, 17, 8, 238, 0, 111), (8, 131, 1, 17, 8, 130, 0, 98), (5, 164, 1, 1, 5, 162, 5, 163), (5, 74, 1, 1, 5, 73, 0, 34), (5, 78, 1, 14, 5, 76, 5, 77), (5, 90, 1, 14, 5, 89, 0, 37), (5, 82, 1, 14, 5, 81, 0, 35), (5, 86, 1, 14, 5, 85, 0, 36), (8, 167, 1, 17, 8, 165, 8, 166), (5, 159, 1, 1, 5, 157, 5, 158), (8, 139, 1, 17, 8, 137, 8, 138), (8, 143, 1, 17, 8, 142, 0, 99), (5, 155, 1, 1, 5, 153, 5, 154), (4, 194, 1, 1, 4, 193, 0, 27), (4, 201, 1, 12, 4, 199, 4, 200), (9, 34, 1, 17, 9, 32, 9, 33), (5, 151, 1, 1, 5, 149, 5, 150), (9, 30, 1, 17, 9, 28, 9, 29), (5, 146, 1, 1, 5, 144, 5, 145), (9, 26, 1, 17, 9, 24, 9, 25), (8, 211, 1, 17, 8, 210, 0, 105), (8, 203, 1, 17, 8, 202, 0, 103), (5, 134, 1, 1, 5, 132, 5, 133), (5, 93, 1, 1, 5, 92, 0, 0), (5, 138, 1, 1, 5, 137, 0, 40), (5, 142, 1, 14, 5, 140, 5, 141), (5, 14, 1, 1, 5, 13, 0, 29), (9, 22, 1, 17, 9, 20, 9, 21), (5, 126, 1, 1, 5, 124, 5, 125), (5, 130, 1, 1, 5, 129, 0, 39), (9, 14, 1, 17, 9, 12, 9, 13), (9, 18, 1, 17, 9, 17, 0, 113), (8, 103, 1, 17, 8, 102, 0, 95), (8, 110, 1, 17, 8, 109, 0, 0), (8, 107, 1, 17, 8, 106, 0, 96), (7, 92, 1, 17, 7, 91, 0, 0), (5, 109, 1, 1, 5, 107, 5, 108), (5, 121, 1, 14, 5, 119, 5, 120), (5, 117, 1, 14, 5, 115, 5, 116), (5, 113, 1, 14, 5, 111, 5, 112), (4, 112, 1, 12, 4, 110, 4, 111), (4, 117, 1, 5, 4, 115, 4, 116), (4, 125, 1, 5, 4, 124, 0, 24), (4, 132, 1, 5, 4, 131, 0, 25), (4, 121, 1, 5, 4, 120, 0, 23), (4, 135, 1, 5, 4, 134, 0, 0), (4, 128, 1, 5, 4, 127, 0, 0), (9, 6, 1, 17, 9, 4, 9, 5), (9, 10, 1, 17, 9, 9, 0, 112), (5, 97, 1, 1, 5, 95, 5, 96), (5, 101, 1, 14, 5, 99, 5, 100), (5, 105, 1, 14, 5, 104, 0, 38), (8, 231, 1, 17, 8, 229, 8, 230), (5, 70, 1, 1, 5, 68, 5, 69), (8, 199, 1, 17, 8, 197, 8, 198), (5, 10, 1, 1, 5, 8, 5, 9), (8, 191, 1, 17, 8, 189, 8, 190), (8, 187, 1, 17, 8, 186, 0, 102), (4, 238, 1, 1, 4, 236, 4, 237), (5, 6, 1, 11, 5, 4, 5, 5), (4, 234, 1, 11, 4, 233, 0, 28), (4, 159, 1, 11, 4, 158, 0, 26), (4, 162, 1, 18, 4, 161, 0, 0), (8, 183, 1, 17, 8, 181, 8, 182), (4, 222, 1, 1, 4, 220, 4, 221), (4, 230, 1, 11, 4, 228, 4, 229), (8, 155, 1, 17, 8, 153, 8, 154), (8, 43, 1, 17, 8, 42, 0, 0), (8, 119, 1, 17, 8, 118, 0, 97), (4, 213, 1, 1, 4, 211, 4, 212), (4, 155, 1, 11, 4, 153, 4, 154), (8, 151, 1, 17, 8, 149, 8, 150), (4, 209, 1, 1, 4, 207, 4, 208), (8, 147, 1, 17, 8, 145, 8, 146), (4, 190, 1, 1, 4, 188, 4, 189), (8, 135, 1, 17, 8, 133, 8, 134), (4, 186, 1, 1, 4, 184, 4, 185), (8, 127, 1, 17, 8, 125, 8, 126), (4, 181, 1, 1, 4, 179, 4, 180), (8, 123, 1, 17, 8, 121, 8, 122), (4, 177, 1, 1, 4, 175, 4, 176), (8, 114, 1, 17, 8, 112, 8, 113), (8, 47, 1, 17, 8, 45, 8, 46), (4, 151, 1, 1, 4, 149, 4, 150), (8, 175, 1, 17, 8, 173, 8, 174), (4, 141, 1, 1, 4, 139, 4, 140), (8, 99, 1, 17, 8, 97, 8, 98), (4, 108, 1, 1, 4, 106, 4, 107), (8, 179, 1, 17, 8, 177, 8, 178), (4, 101, 1, 1, 4, 99, 4, 100), (8, 83, 1, 17, 8, 81, 8, 82), (4, 78, 1, 1, 4, 76, 4, 77), (8, 79, 1, 17, 8, 77, 8, 78), (4, 73, 1, 1, 4, 71, 4, 72), (4, 43, 1, 1, 4, 41, 4, 42), (8, 10, 1, 17, 8, 8, 8, 9), (4, 29, 1, 1, 4, 27, 4, 28), (8, 6, 1, 17, 8, 4, 8, 5), (4, 25, 1, 1, 4, 23, 4, 24), (7, 81, 1, 17, 7, 79, 7, 80), (6, 100, 1, 17, 6, 99, 0, 47), (7, 130, 1, 17, 7, 129, 0, 50), (7, 134, 1, 17, 7, 133, 0, 51), (7, 174, 1, 17, 7, 173, 0, 61), (7, 146, 1, 17, 7, 145, 0, 54), (7, 150, 1, 17, 7, 149, 0, 55), (7, 85, 1, 17, 7, 84, 0, 48), (7, 126, 1, 17, 7, 125, 0, 0), (7, 89, 1, 17, 7, 88, 0, 49), (7, 123, 1, 17, 7, 122, 0, 0), (7, 95, 1, 17, 7, 94, 0, 0), (7, 222, 1, 17, 7, 221, 0, 73), (7, 178, 1, 17, 7, 177, 0, 62), (7, 206, 1, 17, 7, 205, 0, 69), (7, 210, 1, 17, 7, 209, 0, 70), (7, 234, 1, 17, 7, 233, 0, 76), (7, 214, 1, 17, 7, 213, 0, 71), (7, 230, 1, 17, 7, 229, 0, 75), (8, 2, 1, 17, 8, 1, 0, 78), (7, 238, 1, 17, 7, 237, 0, 77), (7, 142, 1, 17, 7, 141, 0, 53), (7, 218, 1, 17, 7, 217, 0, 72), (7, 226, 1, 17, 7, 225, 0, 74), (7, 202, 1, 17, 7, 201, 0, 68), (7, 186, 1, 17, 7, 185, 0, 64), (7, 158, 1, 17, 7, 157, 0, 57), (7, 162, 1, 17, 7, 161, 0, 58), (7, 182, 1, 17, 7, 181, 0, 63), (7, 198, 1, 17, 7, 197, 0, 67), (7, 190, 1, 17, 7, 189, 0, 65), (7, 194, 1, 17, 7, 193, 0, 66), (7, 170, 1, 17, 7, 169, 0, 60), (7, 166, 1, 17, 7, 165, 0, 59), (7, 154, 1, 17, 7, 153, 0, 56), (7, 138, 1, 17, 7, 137, 0, 52), (6, 96, 1, 17, 6, 95, 0, 46), (3, 16, 1, 1, 3, 14, 3, 15), (4, 17, 1, 13, 4, 15, 4, 16), (4, 6, 1, 12, 4, 4, 4, 5), (4, 2, 1, 3, 4, 0, 4, 1), (3, 20, 1, 3, 3, 18, 3, 19), (3, 122, 1, 3, 3, 121, 0, 3), (3, 135, 1, 3, 3, 134, 0, 6), (3, 238, 1, 3, 3, 237, 0, 22), (3, 139, 1, 3, 3, 138, 0, 7), (3, 36, 1, 6, 3, 34, 3, 35), (3, 63, 1, 7, 3, 61, 3, 62), (3, 67, 1, 7, 3, 65, 3, 66), (1, 190, 1, 7, 1, 188, 1, 189), (1, 194, 1, 7, 1, 192, 1, 193), (3, 71, 1, 8, 3, 70, 0, 0), (3, 83, 1, 8, 3, 82, 0, 0), (3, 74, 1, 8, 3, 73, 0, 0), (1, 204, 1, 7, 1, 202, 1, 203), (3, 58, 1, 6, 3, 57, 0, 2), (3, 43, 1, 6, 3, 42, 0, 0), (3, 40, 1, 2, 3, 38, 3, 39), (3, 54, 1, 6, 3, 53, 0, 0), (3, 47, 1, 6, 3, 46, 0, 0), (3, 51, 1, 6, 3, 50, 0, 1), (1, 237, 1, 6, 1, 236, 0, 0), (3, 143, 1, 3, 3, 142, 0, 8), (3, 204, 1, 3, 3, 203, 0, 16), (3, 234, 1, 3, 3, 233, 0, 21), (3, 208, 1, 3, 3, 207, 0, 17), (3, 220, 1, 5, 3, 218, 3, 219), (3, 212, 1, 3, 3, 211, 0, 18), (3, 224, 1, 3, 3, 223, 0, 20), (3, 227, 1, 3, 3, 226, 0, 0), (3, 216, 1, 3, 3, 215, 0, 19), (3, 230, 1, 3, 3, 229, 0, 0), (3, 191, 1, 3, 3, 190, 0, 15), (3, 200, 1, 4, 3, 198, 3, 199), (3, 155, 1, 3, 3, 154, 0, 10), (3, 159, 1, 3, 3, 158, 0, 11), (3, 151, 1, 3, 3, 150, 0, 9), (3, 187, 1, 3, 3, 186, 0, 14), (3, 176, 1, 3, 3, 175, 0, 13), (3, 180, 1, 4, 3, 178, 3, 179), (3, 172, 1, 3, 3, 171, 0, 12), (3, 168, 1, 4, 3, 166, 3, 167), (3, 131, 1, 3, 3, 130, 0, 5), (3, 126, 1, 3, 3, 125, 0, 4), (3, 147, 1, 4, 3, 145, 3, 146), (3, 32, 1, 6, 3, 30, 3, 31), (3, 24, 1, 4, 3, 22, 3, 23), (3, 28, 1, 5, 3, 26, 3, 27), (9, 151, 1, 17, 9, 149, 9, 150), (3, 12, 1, 1, 3, 10, 3, 11), (9, 147, 1, 17, 9, 145, 9, 146), (3, 4, 1, 1, 3, 2, 3, 3), (3, 8, 1, 2, 3, 6, 3, 7), (6, 91, 1, 17, 6, 90, 0, 0), (1, 27, 1, 1, 1, 26, 0, 0), (2, 61, 1, 12, 2, 60, 0, 0), (1, 57, 1, 4, 1, 56, 0, 0), (1, 63, 1, 5, 1, 62, 0, 0), (2, 192, 1, 16, 2, 191, 0, 0), (2, 169, 1, 15, 2, 168, 0, 0), (2, 140, 1, 14, 2, 139, 0, 0), (2, 111, 1, 13, 2, 110, 0, 0), (2, 54, 1, 11, 2, 53, 0, 0), (1, 51, 1, 3, 1, 50, 0, 0), (1, 184, 1, 6, 1, 183, 0, 0), (1, 200, 1, 7, 1, 198, 1, 199), (1, 210, 1, 7, 1, 209, 0, 0), (1, 215, 1, 9, 1, 214, 0, 0), (1, 207, 1, 8, 1, 206, 0, 0), (1, 35, 1, 2, 1, 34, 0, 0), (3, 77, 1, 18, 3, 76, 0, 0), (3, 80, 1, 18, 3, 79, 0, 0)]
def zx_cp : List (List (Nat × Nat) × (Nat × Nat) × (Nat × Nat)) := [([(1, 72), (1, 74), (1, 76), (1, 78), (1, 80)], (1, 60), (1, 5)), ([(2, 123), (2, 125), (2, 127), (2, 129), (2, 131), (2, 133)], (2, 108), (1, 13)), ([(2, 96), (2, 98), (2, 100), (2, 102)], (2, 51), (1, 11)), ([(2, 11), (2, 13), (2, 15), (2, 17), (2, 19), (2, 21), (2, 23)], (1, 181), (1, 6)), ([(2, 149), (2, 151), (2, 153), (2, 155), (2, 157), (2, 159), (2, 161)], (2, 137), (1, 14)), ([(2, 197), (2, 199)], (2, 189), (1, 16)), ([(1, 143), (1, 145), (1, 147), (1, 149), (1, 151), (1, 153), (1, 155), (1, 157), (1, 159), (1, 161), (1, 163), (1, 165), (1, 167), (1, 169), (1, 171), (1, 173), (1, 175), (1, 177)], (1, 54), (1, 4)), ([(2, 35), (2, 37), (2, 39), (2, 41), (2, 43), (2, 45), (2, 47)], (1, 48), (1, 3)), ([(2, 77), (2, 79), (2, 81), (2, 83), (2, 85), (2, 87), (2, 89)], (2, 58), (1, 12)), ([(2, 177), (2, 179), (2, 181), (2, 183), (2, 185)], (2, 166), (1, 15)), ([(1, 41), (1, 43)], (1, 32), (1, 2)), ([(2, 216), (2, 218), (2, 220), (2, 222), (2, 224), (2, 226), (2, 228), (2, 230), (2, 232), (2, 234), (2, 236), (2, 238)], (1, 24), (1, 1)), ([(6, 173), (6, 175), (6, 177), (6, 179), (6, 181), (6, 183), (6, 185), (6, 187), (6, 189), (6, 191), (6, 193), (6, 195), (6, 197), (6, 199), (6, 201), (6, 203), (6, 205), (6, 207), (6, 209), (6, 211), (6, 213), (6, 215), (6, 217), (6, 219), (6, 221), (6, 223), (6, 225), (6, 227), (6, 229), (6, 231), (6, 233), (6, 235), (6, 237), (6, 239), (7, 1), (7, 3), (7, 5), (7, 7), (7, 9), (7, 11), (7, 13), (7, 15), (7, 17), (7, 19), (7, 21), (7, 23), (7, 25), (7, 27), (7, 29), (7, 31), (7, 33), (7, 35), (7, 37), (7, 39), (7, 41), (7, 43), (7, 45), (7, 47), (7, 49), (7, 51), (7, 53), (7, 55), (7, 57), (7, 59), (7, 61), (7, 63), (7, 65), (7, 67), (7, 69), (7, 71), (7, 73), (7, 75)], (6, 88), (1, 17))]
def zx_ow : List (Nat × Nat × Cond) := [(1, 29, .instanceMethod objectInit), (1, 30, .code objectInit ⟨#[0xb1]⟩ 1 none), (4, 169, .native arraycopyName), (4, 168, .static arraycopyName), (1, 22, .initialized "java/lang/System"), (1, 84, .arrayClass .int), (1, 46, .arrayClass .byte), (2, 164, .arrayClass .boolean), (1, 83, .arrayClass .long)]
/-- a new object of each class -/
def zx_nc : List Nat := [2085924839766513752339330096697397832999099553025209239458151456163789930010725009960597454855, 9850501549098619803071845949875669965022274037285117516171051851634977829484059118400727841601594224296735093555223, 441711766194596082395917911290518806743636029855239210209743928395038759, 58147097943648551243955755132589461368094380700935320492484238208598856108136653938545898512753199005665311458854945474317979747884204087, 46517678354918840995166574206381388818436118408457021586351956936876103323972828915551953445030672092155247075921024242556314456375164999, 19807040628566084398389133399, 1211642775994771984630199648991052866295722236195534977645434660765182248012404030479313682960836031484542015790981976575967565132979494068966220970335382931434395092761305287370291077882418314423773891771567833176654872587749920389288976374139073524535529818737747423788512084621899158927319203122225783001458386590857511540184518513542392306788595895839548755027054054867047, 46517678354918840995166574206381388818436118929938231527980395021598199556773638144727862223510352255007202110642636981970511239324893303, 34888258766189130746377393280173316268777857158941142563476551834818398888507920392107784889912764907720910772406187937586393595366080647, 2085924839766513752339330096697397832999099529641183042163704764904832606550196695465676767383, 19807040628566084398389133479, 109248748468303532426541642480939391036720979351712827526531546418042237417110628252665443765958691478625241575826573280355046495734701237269093836311829292319803286967885967570508320852340184441831617345664008700691746420613928817222429092872375, 2307060599492146329444221036003718157600683112930945907234932469468882049561918732614457931808798820598062206552832035145451844504101507824758624839056290354783521578457600262424135698985769765079235636358112320131844903270203654997907560023193822115655959763556628030551602304341808941203642076660881163479243935410345675026322153382582048114069655948314810301119214232406572110924152053989902237687544306454942976905510704236144786518826271097089684540687850476715310501038192846511705663767024031251667362840961461859101290950182434178157174580900532655580618963111058056358436605070491200203880037038490115308467086752349204393196519491244470365507639956974030352000949050680994094475836754107609618169839975796830769871914166175864634881920580667057060203290783970746515753794710514878137621974111662382188436880653954590067095418517157655672064157401895406167965918940826604607194821101043933010616542673385417007041062371837274548490862040500710421365856809633358403357005790161847513528977039718955087139017115742187302187038278098482397651109300831344042402686112131853448610749135713911151327771086876944815773168252334353985031518961629459606066864999795086294201325247620856425711314917466823022288404170884341161372096251409599294106512217195277247173831962757358588214381318852336160442256975801476961707443493955256008298952652276226988383510714550469276775317304750010847203643651109260432638434163228942941197787883531921331021721760396255146629458987855375076360630506488898208464032748198827874297940210577227699065703065714887]
end
section
/-! the words that the walker's tables stand for, that the statement has them, and what an instruction is among the walker's -/
def zx_tb (k : Nat) : List Cond := match k with
  | 0 => k2_sels lw_privs
  | 1 => tables_1_1
  | 2 => tables_1_2
  | 3 => tables_1_3
  | 4 => tables_1_4
  | 5 => tables_1_5
  | 6 => tables_1_6
  | 7 => tables_1_7
  | 8 => tables_1_8
  | 9 => tables_1_9
  | _ => []
theorem zx_tb_in (k : Nat) (w : Cond) (h : w ∈ zx_tb k) : w ∈ lw_tbl := by
  have hr : ∀ {a b : List Cond}, w ∈ b → w ∈ a ++ b := fun h => List.mem_append_right _ h
  have hl : ∀ {a b : List Cond}, w ∈ a → w ∈ a ++ b := fun h => List.mem_append_left _ h
  match k, h with
  | 0, h => exact hl h
  | 1, h => exact hr (hl h)
  | 2, h => exact hr (hr (hl h))
  | 3, h => exact hr (hr (hr (hl h)))
  | 4, h => exact hr (hr (hr (hr (hl h))))
  | 5, h => exact hr (hr (hr (hr (hr (hl h)))))
  | 6, h => exact hr (hr (hr (hr (hr (hr (hl h))))))
  | 7, h => exact hr (hr (hr (hr (hr (hr (hr (hl h)))))))
  | 8, h => exact hr (hr (hr (hr (hr (hr (hr (hr (hl h))))))))
  | 9, h => exact hr (hr (hr (hr (hr (hr (hr (hr (hr h))))))))
  | (k + 10), h => cases h
def zx_on1 (o : Nat) : String := zx_on.getD o ""
def zx_me (k : Nat) : Option zx_M := (zx_mt[k / 16]?).bind (fun l => l[k % 16]?)
def zx_ci (ci : Nat) : vw_C := vwCl.getD ci ("", fun _ => ("", "", "", false), 0)
def zx_fd (x y : Nat) : String × String × String := bif Nat.blt x 100 then (((zx_ci x).2.1 y).1, ((zx_ci x).2.1 y).2.1, ((zx_ci x).2.1 y).2.2.1) else match x with
  | 100 => ("java/lang/String", "value", "[B")
  | 101 => ("java/lang/String", "coder", "B")
  | 200 => ("java/lang/String", "COMPACT_STRINGS", "Z")
  | _ => ("jdk/internal/util/Preconditions", "SIOOBE_FORMATTER", "Ljava/util/function/BiFunction;")
def zx_fw (q : zx_Q) : Cond := .fieldLink (zx_on1 q.1) q.2.1 (zx_fd q.2.2.1 q.2.2.2.1).1 (zx_fd q.2.2.1 q.2.2.2.1).2.1 (zx_fd q.2.2.1 q.2.2.2.1).2.2
def zx_my (k : Nat) : MethodName := bif Nat.beq k 9000 then objectInit else bif Nat.beq k 9001 then arraycopyName else match zx_me k with
  | some y => y.1.1
  | none => objectInit
def zx_mw (q : zx_Q) : Cond := .methodLink (zx_on1 q.1) q.2.1 (zx_my q.2.2.1)
def zx_nw1 (q : zx_Q) : Cond := .methodLinkNest (zx_on1 q.1) q.2.1 (zx_my q.2.2.1) "LaneDoors"
def zx_cw (q : zx_Q) : Cond := .classLink (zx_on1 q.1) q.2.1 (zx_ci q.2.2.1).1
def zx_kw (q : zx_Q) : Cond := .constant (zx_on1 q.1) q.2.1 (nI q.2.2.1)
def zx_jw (q : zx_Q) : Cond := .constantLong (zx_on1 q.1) q.2.1 (lN q.2.2.1)
def zx_mc (m : zx_M) : Cond := .code m.1.1 m.1.2.1 m.1.2.2.1 m.1.2.2.2
def zx_mi (m : zx_M) : Cond := .initialized m.1.1.cls
def zx_mkw (m : zx_M) : Cond := bif Nat.beq m.2.1.2.1 1 then .static m.1.1 else .instanceMethod m.1.1
def zx_ms (m : zx_M) : List Cond := bif Nat.beq m.2.1.2.1 0 then [.selects m.1.1.cls m.1.1 m.1.1] else []
def zx_mws (m : zx_M) : List Cond := zx_mc m :: zx_mi m :: zx_mkw m :: zx_ms m
def zx_cls (c : vw_C) : List Cond := .instantiable c.1 c.2.2 :: .initialized c.1 :: u_ws c.1 c.2.1 c.2.2
def zx_G : List Cond := zx_FL.map zx_fw ++ (zx_ML.map zx_mw ++ (zx_CL.map zx_cw ++ (zx_KL.map zx_kw ++ (zx_JL.map zx_jw ++ (zx_mt.flatten.flatMap zx_mws ++ (vwCl.flatMap zx_cls ++ zx_ow.map (fun q => q.2.2)))))))
def zx_nw : List Cond := zx_NL.map zx_nw1
def zx_gd (k i : Nat) (w : Cond) : Bool := decide ((zx_tb k)[i]? = some w) && goodWord w
theorem zx_gd_s {k i : Nat} {w : Cond} (h : zx_gd k i w = true) : w ∈ lw_tbl ∧ goodWord w = true := by
  obtain ⟨h1, h2⟩ := zx_and_b h
  exact ⟨zx_tb_in k w (List.mem_of_getElem? (of_decide_eq_true h1)), h2⟩
theorem zx_FL_ok : (zx_FL.all fun q => zx_gd q.2.2.2.2.1 q.2.2.2.2.2 (zx_fw q)) = true := by decide +kernel
theorem zx_ML_ok : (zx_ML.all fun q => zx_gd q.2.2.2.2.1 q.2.2.2.2.2 (zx_mw q)) = true := by decide +kernel
theorem zx_CL_ok : (zx_CL.all fun q => zx_gd q.2.2.2.2.1 q.2.2.2.2.2 (zx_cw q)) = true := by decide +kernel
theorem zx_KL_ok : (zx_KL.all fun q => zx_gd q.2.2.2.2.1 q.2.2.2.2.2 (zx_kw q)) = true := by decide +kernel
theorem zx_JL_ok : (zx_JL.all fun q => zx_gd q.2.2.2.2.1 q.2.2.2.2.2 (zx_jw q)) = true := by decide +kernel
theorem zx_ow_ok : (zx_ow.all fun q => zx_gd q.1 q.2.1 q.2.2) = true := by decide +kernel
theorem zx_NL_ok : (zx_NL.all fun q => decide ((zx_tb q.2.2.2.2.1)[q.2.2.2.2.2]? = some (zx_nw1 q))) = true := by decide +kernel
def zx_mok (m : zx_M) (p : Nat × Nat × Nat × Nat × Nat × Nat × Nat × Nat) : Bool := goodWord (zx_mc m) && (zx_gd p.2.2.1 p.2.2.2.1 (zx_mi m) && (zx_gd p.2.2.2.2.1 p.2.2.2.2.2.1 (zx_mkw m) && (zx_ms m).all (fun w => zx_gd p.2.2.2.2.2.2.1 p.2.2.2.2.2.2.2 w)))
theorem zx_mp_ok : ((zx_mt.flatten.zip zx_mp).all fun q => zx_mok q.1 q.2) = true := by decide +kernel
set_option maxRecDepth 100000 in
theorem zx_mpc_ok : zx_mt.flatten.map (fun m => some (zx_mc m)) = zx_mp.map (fun p => (zx_tb p.1)[p.2.1]?) := by rfl
theorem zx_mp_len : zx_mt.flatten.length = zx_mp.length := by decide +kernel
def zx_cok (c : vw_C) (p : List (Nat × Nat) × (Nat × Nat) × (Nat × Nat)) : Bool := zx_gd p.2.1.1 p.2.1.2 (.instantiable c.1 c.2.2) && (zx_gd p.2.2.1 p.2.2.2 (.initialized c.1) && (Nat.beq c.2.2 p.1.length && (List.range c.2.2).all (fun k => zx_gd (p.1.getD k (0, 0)).1 (p.1.getD k (0, 0)).2 (u_lay c.1 c.2.1 k))))
theorem zx_cp_ok : ((vwCl.zip zx_cp).all fun q => zx_cok q.1 q.2) = true := by decide +kernel
theorem zx_cp_len : vwCl.length = zx_cp.length := by decide +kernel
theorem zx_zip_all {α β : Type} {f : α × β → Bool} : ∀ (l : List α) (m : List β), l.length = m.length → (l.zip m).all f = true → ∀ a ∈ l, ∃ b, f (a, b) = true
  | [], _, _, _, a, h => by cases h
  | _ :: _, [], h, _, _, _ => by cases h
  | a :: l, b :: m, hl, h, x, hx => by
    rw [List.zip_cons_cons, List.all_cons] at h
    obtain ⟨h1, h2⟩ := zx_and_b h
    rcases List.mem_cons.mp hx with rfl | hx
    · exact ⟨b, h1⟩
    · exact zx_zip_all l m (Nat.succ.inj hl) h2 x hx
theorem zx_mws_ok {y : zx_M} (hy : y ∈ zx_mt.flatten) {w : Cond} (h : w ∈ zx_mws y) : w ∈ lw_tbl ∧ goodWord w = true := by
  obtain ⟨p, hp⟩ := zx_zip_all _ _ zx_mp_len zx_mp_ok y hy
  obtain ⟨h1, h2⟩ := zx_and_b hp
  obtain ⟨h2, h3⟩ := zx_and_b h2
  obtain ⟨h3, h4⟩ := zx_and_b h3
  rcases List.mem_cons.mp h with rfl | h
  · have h5 : some (zx_mc y) ∈ zx_mt.flatten.map (fun m => some (zx_mc m)) := List.mem_map.mpr ⟨y, hy, rfl⟩
    rw [zx_mpc_ok] at h5
    obtain ⟨p', -, h6⟩ := List.mem_map.mp h5
    exact ⟨zx_tb_in _ _ (List.mem_of_getElem? h6), h1⟩
  rcases List.mem_cons.mp h with rfl | h
  · exact zx_gd_s h2
  rcases List.mem_cons.mp h with rfl | h
  · exact zx_gd_s h3
  · exact zx_gd_s (List.all_eq_true.mp h4 w h)
theorem zx_cls_ok {c : vw_C} (hc : c ∈ vwCl) {w : Cond} (h : w ∈ zx_cls c) : w ∈ lw_tbl ∧ goodWord w = true := by
  obtain ⟨p, hp⟩ := zx_zip_all _ _ zx_cp_len zx_cp_ok c hc
  obtain ⟨h1, h2⟩ := zx_and_b hp
  obtain ⟨h2, h3⟩ := zx_and_b h2
  obtain ⟨h3, h4⟩ := zx_and_b h3
  rcases List.mem_cons.mp h with rfl | h
  · exact zx_gd_s h1
  rcases List.mem_cons.mp h with rfl | h
  · exact zx_gd_s h2
  · obtain ⟨k, hk, rfl⟩ := List.mem_map.mp h
    exact zx_gd_s (List.all_eq_true.mp h4 k hk)
theorem zx_all_map {f : zx_Q → Cond} {l : List zx_Q} (h : (l.all fun q => zx_gd q.2.2.2.2.1 q.2.2.2.2.2 (f q)) = true) {w : Cond} (hw : w ∈ l.map f) : w ∈ lw_tbl ∧ goodWord w = true := by
  obtain ⟨q, hq, rfl⟩ := List.mem_map.mp hw
  exact zx_gd_s (List.all_eq_true.mp h q hq)
theorem zx_G_ok {w : Cond} (h : w ∈ zx_G) : w ∈ lw_tbl ∧ goodWord w = true := by
  rcases List.mem_append.mp h with h | h
  · exact zx_all_map zx_FL_ok h
  rcases List.mem_append.mp h with h | h
  · exact zx_all_map zx_ML_ok h
  rcases List.mem_append.mp h with h | h
  · exact zx_all_map zx_CL_ok h
  rcases List.mem_append.mp h with h | h
  · exact zx_all_map zx_KL_ok h
  rcases List.mem_append.mp h with h | h
  · exact zx_all_map zx_JL_ok h
  rcases List.mem_append.mp h with h | h
  · obtain ⟨y, hy, hw⟩ := List.mem_flatMap.mp h
    exact zx_mws_ok hy hw
  rcases List.mem_append.mp h with h | h
  · obtain ⟨c, hc, hw⟩ := List.mem_flatMap.mp h
    exact zx_cls_ok hc hw
  · obtain ⟨q, hq, rfl⟩ := List.mem_map.mp h
    exact zx_gd_s (List.all_eq_true.mp zx_ow_ok q hq)
/-- places in zx_G -/
theorem zx_inF {q : zx_Q} (h : q ∈ zx_FL) : zx_fw q ∈ zx_G := List.mem_append_left _ (List.mem_map.mpr ⟨q, h, rfl⟩)
theorem zx_inM {q : zx_Q} (h : q ∈ zx_ML) : zx_mw q ∈ zx_G := List.mem_append_right _ (List.mem_append_left _ (List.mem_map.mpr ⟨q, h, rfl⟩))
theorem zx_inC {q : zx_Q} (h : q ∈ zx_CL) : zx_cw q ∈ zx_G := List.mem_append_right _ (List.mem_append_right _ (List.mem_append_left _ (List.mem_map.mpr ⟨q, h, rfl⟩)))
theorem zx_inK {q : zx_Q} (h : q ∈ zx_KL) : zx_kw q ∈ zx_G := List.mem_append_right _ (List.mem_append_right _ (List.mem_append_right _ (List.mem_append_left _ (List.mem_map.mpr ⟨q, h, rfl⟩))))
theorem zx_inJ {q : zx_Q} (h : q ∈ zx_JL) : zx_jw q ∈ zx_G := List.mem_append_right _ (List.mem_append_right _ (List.mem_append_right _ (List.mem_append_right _ (List.mem_append_left _ (List.mem_map.mpr ⟨q, h, rfl⟩)))))
theorem zx_inY {y : zx_M} (h : y ∈ zx_mt.flatten) {w : Cond} (hw : w ∈ zx_mws y) : w ∈ zx_G := List.mem_append_right _ (List.mem_append_right _ (List.mem_append_right _ (List.mem_append_right _ (List.mem_append_right _ (List.mem_append_left _ (List.mem_flatMap.mpr ⟨y, h, hw⟩))))))
theorem zx_inL {c : vw_C} (h : c ∈ vwCl) {w : Cond} (hw : w ∈ zx_cls c) : w ∈ zx_G := List.mem_append_right _ (List.mem_append_right _ (List.mem_append_right _ (List.mem_append_right _ (List.mem_append_right _ (List.mem_append_right _ (List.mem_append_left _ (List.mem_flatMap.mpr ⟨c, h, hw⟩)))))))
theorem zx_inO {q : Nat × Nat × Cond} (h : q ∈ zx_ow) : q.2.2 ∈ zx_G := List.mem_append_right _ (List.mem_append_right _ (List.mem_append_right _ (List.mem_append_right _ (List.mem_append_right _ (List.mem_append_right _ (List.mem_append_right _ (List.mem_map.mpr ⟨q, h, rfl⟩)))))))
/-! instructions -/
def zx_lf (l : List zx_Q) (o i : Nat) : Option zx_Q := l.find? (fun q => Nat.beq q.1 o && Nat.beq q.2.1 i)
theorem zx_lf_s {l : List zx_Q} {o i : Nat} {q : zx_Q} (h : zx_lf l o i = some q) : q ∈ l ∧ q.1 = o ∧ q.2.1 = i := by
  refine ⟨List.mem_of_find?_eq_some h, ?_⟩
  obtain ⟨h1, h2⟩ := zx_and_b (List.find?_some (p := fun q : zx_Q => Nat.beq q.1 o && Nat.beq q.2.1 i) h)
  exact ⟨zx_beq_t h1, zx_beq_t h2⟩
def zx_cc (c : ClassFile.Cond) : Nat := match c with
  | .lt => 0
  | .ge => 1
  | .gt => 2
  | .le => 3
  | .eq => 4
  | .ne => 5
def zx_m32 (n : Int) : Nat := (n % 4294967296).toNat
def zx_row (pc : Nat) (d : Int) (ps : List (Int × Int)) : Nat × List (Nat × Nat) := (((pc : Int) + d).toNat, ps.map (fun p => (zx_m32 p.1, ((pc : Int) + p.2).toNat)))
def zx_rok (pc : Nat) (d : Int) (ps : List (Int × Int)) : Bool := decide (0 ≤ (pc : Int) + d) && ps.all (fun p => decide (0 ≤ (pc : Int) + p.2 ∧ -2147483648 ≤ p.1 ∧ p.1 < 2147483648))
def zx_sx (pc : Nat) (d : Int) (ps : List (Int × Int)) : Option (Nat × Nat × Nat) := if zx_rok pc d ps = true then (zx_SW.findIdx? (fun q => decide (q = zx_row pc d ps))).map (fun i => (26, i, 0)) else none
def zx_tps (lo : Int) (offs : List Int) : List (Int × Int) := (List.range offs.length).map (fun (j : Nat) => (lo + (j : Int), offs.getD j 0))
def zx_tg1 (pc : Nat) (off : Int) (op b : Nat) : Option (Nat × Nat × Nat) := if 0 ≤ (pc : Int) + off then some (op, ((pc : Int) + off).toNat, b) else none
def zx_le1 (c : Bool) (r : Nat × Nat × Nat) : Option (Nat × Nat × Nat) := if c = true then some r else none
def zx_fm (d : String) : Nat := if d = "I" then 146 else if d = "J" then 32 else 332
/-- which of the reference's long constants; 25: none -/
def zx_jx (n : Nat) : Nat := zy_lcs.findIdx (fun m => Nat.beq m n)
def zx_cd (M : zx_M) (pc : Nat) (ins : Instr) (len : Nat) : Option (Nat × Nat × Nat) := match ins with
  | .iload_n k => zx_le1 (Nat.beq len 1) (0, k.val, 146)
  | .iload i => zx_le1 (Nat.beq len 2) (0, i, 146)
  | .aload_n k => zx_le1 (Nat.beq len 1) (0, k.val, 332)
  | .aload i => zx_le1 (Nat.beq len 2) (0, i, 332)
  | .lload_n k => zx_le1 (Nat.beq len 1) (0, k.val, 32)
  | .lload i => zx_le1 (Nat.beq len 2) (0, i, 32)
  | .istore_n k => zx_le1 (Nat.beq len 1) (1, k.val, 146)
  | .istore i => zx_le1 (Nat.beq len 2) (1, i, 146)
  | .astore_n k => zx_le1 (Nat.beq len 1) (1, k.val, 332)
  | .astore i => zx_le1 (Nat.beq len 2) (1, i, 332)
  | .lstore_n k => zx_le1 (Nat.beq len 1) (2, k.val, 0)
  | .lstore i => zx_le1 (Nat.beq len 2) (2, i, 0)
  | .iinc i n => zx_le1 (Nat.beq len 3) (3, i, zx_c (zx_m32 n))
  | .iconst n => zx_le1 (Nat.beq len 1) (4, zx_c (zx_m32 n), 0)
  | .bipush n => zx_le1 (Nat.beq len 2 && decide (-128 ≤ n ∧ n < 128)) (4, zx_c (zx_m32 n), 0)
  | .sipush n => zx_le1 (Nat.beq len 3 && decide (-32768 ≤ n ∧ n < 32768)) (4, zx_c (zx_m32 n), 0)
  | .ldc i => match zx_lf zx_KL M.2.1.1 i with
    | some q => zx_le1 (Nat.beq len 2 && Nat.blt q.2.2.1 4294967296) (4, zx_c q.2.2.1, 0)
    | none => if M.2.1.1 = 3 ∧ i = 34 then zx_le1 (Nat.beq len 2) (4, 22, 0) else if M.2.1.1 = 3 ∧ i = 74 then zx_le1 (Nat.beq len 2) (4, 54, 0) else none
  | .ldc_w i => match zx_lf zx_KL M.2.1.1 i with
    | some q => zx_le1 (Nat.beq len 3 && Nat.blt q.2.2.1 4294967296) (4, zx_c q.2.2.1, 0)
    | none => none
  | .lconst _ => zx_le1 (Nat.beq len 1) (4, 5, 25)
  | .ldc2_w i => match zx_lf zx_JL M.2.1.1 i with
    | some q => zx_le1 (Nat.beq len 3) (4, 5, zx_jx q.2.2.1)
    | none => none
  | .iadd => zx_le1 (Nat.beq len 1) (5, 0, 0)
  | .isub => zx_le1 (Nat.beq len 1) (6, 0, 0)
  | .imul => zx_le1 (Nat.beq len 1) (7, 0, 0)
  | .iand => zx_le1 (Nat.beq len 1) (8, 0, 0)
  | .ior => zx_le1 (Nat.beq len 1) (9, 0, 0)
  | .ixor => zx_le1 (Nat.beq len 1) (10, 0, 0)
  | .ishl => zx_le1 (Nat.beq len 1) (11, 0, 0)
  | .ishr => zx_le1 (Nat.beq len 1) (12, 0, 0)
  | .iushr => zx_le1 (Nat.beq len 1) (13, 0, 0)
  | .idiv => zx_le1 (Nat.beq len 1) (14, 0, 0)
  | .irem => zx_le1 (Nat.beq len 1) (15, 0, 0)
  | .i2b => zx_le1 (Nat.beq len 1) (16, 0, 0)
  | .i2c => zx_le1 (Nat.beq len 1) (17, 0, 0)
  | .i2l => zx_le1 (Nat.beq len 1) (18, 0, 0)
  | .ladd => zx_le1 (Nat.beq len 1) (19, 0, 0)
  | .lsub => zx_le1 (Nat.beq len 1) (19, 0, 0)
  | .lmul => zx_le1 (Nat.beq len 1) (19, 0, 0)
  | .lcmp => zx_le1 (Nat.beq len 1) (44, 0, 0)
  | .ineg => zx_le1 (Nat.beq len 1) (45, 0, 0)
  | .lshl => zx_le1 (Nat.beq len 1) (46, 0, 0)
  | .lor => zx_le1 (Nat.beq len 1) (47, 0, 0)
  | .dup => zx_le1 (Nat.beq len 1) (20, 0, 0)
  | .pop => zx_le1 (Nat.beq len 1) (21, 0, 0)
  | .dup2 => zx_le1 (Nat.beq len 1) (22, 0, 0)
  | .goto off => if len = 3 then zx_tg1 pc off 23 0 else none
  | .if_icmp c off => if len = 3 then zx_tg1 pc off 24 (zx_cc c) else none
  | .ifCond c off => if len = 3 then zx_tg1 pc off 25 (zx_cc c) else none
  | .tableswitch d lo hi offs => if hi + 1 = lo + (offs.size : Int) then zx_sx pc d (zx_tps lo offs.toList) else none
  | .lookupswitch d ps => if (ps.toList.zip (ps.toList.drop 1)).all (fun (a, next) => a.1 < next.1) = true then zx_sx pc d ps.toList else none
  | .getfield i => match zx_lf zx_FL M.2.1.1 i with
    | some q => if len = 3 then (if q.2.2.1 < 100 then zx_le1 (decide (q.2.2.2.1 < (zx_ci q.2.2.1).2.2)) (27, 7 + 16 * q.2.2.1, q.2.2.2.1) else if q.2.2.1 = 100 then some (29, 0, 0) else if q.2.2.1 = 101 then some (29, 1, 0) else none) else none
    | none => none
  | .putfield i => match zx_lf zx_FL M.2.1.1 i with
    | some q => if len = 3 ∧ q.2.2.1 < 100 ∧ q.2.2.2.1 < (zx_ci q.2.2.1).2.2 ∧ (((zx_ci q.2.2.1).2.1 q.2.2.2.1).2.2.2 = false ∨ (M.2.1.2.1 = 2 ∧ ((zx_ci q.2.2.1).2.1 q.2.2.2.1).1 = zx_on1 M.2.1.1)) then some (28, 7 + 16 * q.2.2.1 + 1048576 * zx_fm ((zx_ci q.2.2.1).2.1 q.2.2.2.1).2.2.1, q.2.2.2.1) else none
    | none => none
  | .getstatic i => match zx_lf zx_FL M.2.1.1 i with
    | some q => if len = 3 then (if q.2.2.1 = 200 then some (4, 20, 0) else if q.2.2.1 = 201 then some (4, 8, 0) else none) else none
    | none => none
  | .new i => match zx_lf zx_CL M.2.1.1 i with
    | some q => zx_le1 (Nat.beq len 3 && Nat.blt q.2.2.1 13) (30, zx_nc.getD q.2.2.1 0, (zx_ci q.2.2.1).2.2)
    | none => none
  | .newarray t => if len = 2 then (match t with
    | .int => some (31, 0, 0)
    | .byte => some (31, 1, 0)
    | .boolean => some (31, 2, 0)
    | .long => some (31, 6, 0)
    | _ => none) else none
  | .anewarray i => match zx_lf zx_CL M.2.1.1 i with
    | some q => zx_le1 (Nat.beq len 3 && Nat.beq q.2.2.1 8) (31, 8, 0)
    | none => none
  | .arraylength => zx_le1 (Nat.beq len 1) (32, 0, 0)
  | .iaload => zx_le1 (Nat.beq len 1) (33, 9, 0)
  | .baload => zx_le1 (Nat.beq len 1) (33, 54, 0)
  | .iastore => zx_le1 (Nat.beq len 1) (34, 9, 0)
  | .bastore => zx_le1 (Nat.beq len 1) (34, 54, 0)
  | .laload => zx_le1 (Nat.beq len 1) (35, 0, 0)
  | .lastore => zx_le1 (Nat.beq len 1) (36, 0, 0)
  | .aaload => zx_le1 (Nat.beq len 1) (37, 0, 0)
  | .aastore => zx_le1 (Nat.beq len 1) (38, 0, 0)
  | .invokevirtual i => match zx_lf zx_ML M.2.1.1 i with
    | some q => match zx_me q.2.2.1 with
      | some y => if len = 3 ∧ y.2.1.2.1 = 0 ∧ q.2.2.1 < 9000 then some (41, q.2.2.1, 0) else none
      | none => none
    | none => none
  | .invokestatic i => match zx_lf zx_ML M.2.1.1 i with
    | some q => if q.2.2.1 = 9001 then zx_le1 (Nat.beq len 3) (40, 0, 0) else match zx_me q.2.2.1 with
      | some y => if len = 3 ∧ y.2.1.2.1 = 1 ∧ q.2.2.1 < 9000 then some (41, q.2.2.1, 1) else none
      | none => none
    | none => match zx_lf zx_NL M.2.1.1 i with
      | some q => match zx_me q.2.2.1 with
        | some y => if len = 3 ∧ y.2.1.2.1 = 1 ∧ q.2.2.1 < 9000 then some (41, q.2.2.1, 5) else none
        | none => none
      | none => none
  | .invokespecial i => match zx_lf zx_ML M.2.1.1 i with
    | some q => if q.2.2.1 = 9000 then zx_le1 (Nat.beq len 3) (39, 0, 0) else match zx_me q.2.2.1 with
      | some y => if len = 3 ∧ y.2.1.2.1 = 2 ∧ q.2.2.1 < 9000 then some (41, q.2.2.1, 2) else none
      | none => none
    | none => match zx_lf zx_NL M.2.1.1 i with
      | some q => match zx_me q.2.2.1 with
        | some y => if len = 3 ∧ y.2.1.2.1 = 2 ∧ q.2.2.1 < 9000 then some (41, q.2.2.1, 6) else none
        | none => none
      | none => none
  | .ireturn => zx_le1 (Nat.beq len 1) (42, 0, 0)
  | .lreturn => zx_le1 (Nat.beq len 1) (42, 1, 0)
  | .areturn => zx_le1 (Nat.beq len 1) (42, 2, 0)
  | .return_ => zx_le1 (Nat.beq len 1) (43, 0, 0)
  | _ => none
def zx_vb (M : zx_M) (q : zx_E) : Bool := match decode M.1.2.1 q.1 with
  | .ok (ins, len) => Nat.beq q.2.2.2.2 (q.1 + len) && decide (zx_cd M q.1 ins len = some (q.2.1, q.2.2.1, q.2.2.2.1))
  | .error _ => false
def zx_vd (M : zx_M) (q : zx_E) : Prop := ∃ (ins : Instr) (len : Nat), decode M.1.2.1 q.1 = .ok (ins, len) ∧ q.2.2.2.2 = q.1 + len ∧ zx_cd M q.1 ins len = some (q.2.1, q.2.2.1, q.2.2.2.1)
theorem zx_vb_s {M : zx_M} {q : zx_E} (h : zx_vb M q = true) : zx_vd M q := by
  unfold zx_vb at h
  split at h
  · rename_i ins len hd
    obtain ⟨h1, h2⟩ := zx_and_b h
    exact ⟨ins, len, hd, zx_beq_t h1, of_decide_eq_true h2⟩
  · cases h
/-- what a method of the tables is -/
def zx_rk (r : Option FieldType) : Nat := match r with
  | none => 0
  | some .int => 1
  | some .boolean => 2
  | some .char => 3
  | some .byte => 4
  | some .long => 5
  | some (.object _) => 6
  | some (.array _) => 6
  | _ => 7
def zx_hb (m : zx_M) : Bool := decide (m.1.1.cls = zx_on1 m.2.1.1) && (plainName m.1.1.cls && (decide (m.1.1.cls ≠ "java/lang/invoke/MethodHandle" ∧ m.1.1.cls ≠ "java/lang/invoke/VarHandle") &&
  (decide ((parseMethodDescriptor m.1.1.desc).map (fun d => d.parameters.length) = some (bif Nat.beq m.2.1.2.1 1 then m.2.1.2.2.1 else m.2.1.2.2.1 - 1)) && ((Nat.beq m.2.1.2.1 1 || Nat.ble 1 m.2.1.2.2.1) && (Nat.ble m.1.2.2.1 60 && ((!Nat.beq m.2.1.2.1 2 || (decide (m.1.1.name = "<init>") && decide (m.1.2.2.2 = none))) &&
  (Nat.beq (zx_rk m.1.2.2.2) m.2.1.2.2.2.2.2 && (Nat.ble m.2.1.2.1 2 && (!Nat.beq m.2.1.2.1 0 || (Nat.beq m.2.1.1 14 || (Nat.blt m.2.1.1 13 && decide ((zx_ci m.2.1.1).1 = zx_on1 m.2.1.1)))))))))))) 
def zx_tv (m : zx_M) : Bool := m.2.2.all (fun b => b.2.all (zx_vb m))
end
section
/-! the methods of the tables are what they seem (by the kernel) -/
theorem zt_0 : zx_tv zm_0 = true := by decide +kernel
theorem zt_1 : zx_tv zm_1 = true := by decide +kernel
theorem zt_2 : zx_tv zm_2 = true := by decide +kernel
theorem zt_3 : zx_tv zm_3 = true := by decide +kernel
theorem zt_4 : zx_tv zm_4 = true := by decide +kernel
theorem zt_5 : zx_tv zm_5 = true := by decide +kernel
theorem zt_6 : zx_tv zm_6 = true := by decide +kernel
theorem zt_7 : zx_tv zm_7 = true := by decide +kernel
theorem zt_8 : zx_tv zm_8 = true := by decide +kernel
theorem zt_9 : zx_tv zm_9 = true := by decide +kernel
theorem zt_10 : zx_tv zm_10 = true := by decide +kernel
theorem zt_11 : zx_tv zm_11 = true := by decide +kernel
theorem zt_12 : zx_tv zm_12 = true := by decide +kernel
theorem zt_13 : zx_tv zm_13 = true := by decide +kernel
theorem zt_14 : zx_tv zm_14 = true := by decide +kernel
theorem zt_15 : zx_tv zm_15 = true := by decide +kernel
theorem zt_16 : zx_tv zm_16 = true := by decide +kernel
theorem zt_17 : zx_tv zm_17 = true := by decide +kernel
theorem zt_18 : zx_tv zm_18 = true := by decide +kernel
theorem zt_19 : zx_tv zm_19 = true := by decide +kernel
theorem zt_20 : zx_tv zm_20 = true := by decide +kernel
theorem zt_21 : zx_tv zm_21 = true := by decide +kernel
theorem zt_22 : zx_tv zm_22 = true := by decide +kernel
theorem zt_23 : zx_tv zm_23 = true := by decide +kernel
theorem zt_24 : zx_tv zm_24 = true := by decide +kernel
theorem zt_25 : zx_tv zm_25 = true := by decide +kernel
theorem zt_26 : zx_tv zm_26 = true := by decide +kernel
theorem zt_27 : zx_tv zm_27 = true := by decide +kernel
theorem zt_28 : zx_tv zm_28 = true := by decide +kernel
theorem zt_29 : zx_tv zm_29 = true := by decide +kernel
theorem zt_30 : zx_tv zm_30 = true := by decide +kernel
theorem zt_31 : zx_tv zm_31 = true := by decide +kernel
theorem zt_32 : zx_tv zm_32 = true := by decide +kernel
theorem zt_33 : zx_tv zm_33 = true := by decide +kernel
theorem zt_34 : zx_tv zm_34 = true := by decide +kernel
theorem zt_35 : zx_tv zm_35 = true := by decide +kernel
theorem zt_36 : zx_tv zm_36 = true := by decide +kernel
theorem zt_37 : zx_tv zm_37 = true := by decide +kernel
theorem zt_38 : zx_tv zm_38 = true := by decide +kernel
theorem zt_39 : zx_tv zm_39 = true := by decide +kernel
theorem zt_40 : zx_tv zm_40 = true := by decide +kernel
theorem zt_41 : zx_tv zm_41 = true := by decide +kernel
theorem zt_42 : zx_tv zm_42 = true := by decide +kernel
theorem zt_43 : zx_tv zm_43 = true := by decide +kernel
theorem zt_44 : zx_tv zm_44 = true := by decide +kernel
theorem zt_45 : zx_tv zm_45 = true := by decide +kernel
theorem zt_46 : zx_tv zm_46 = true := by decide +kernel
theorem zt_47 : zx_tv zm_47 = true := by decide +kernel
theorem zt_48 : zx_tv zm_48 = true := by decide +kernel
theorem zt_49 : zx_tv zm_49 = true := by decide +kernel
theorem zt_50 : zx_tv zm_50 = true := by decide +kernel
theorem zt_51 : zx_tv zm_51 = true := by decide +kernel
theorem zt_52 : zx_tv zm_52 = true := by decide +kernel
theorem zt_53 : zx_tv zm_53 = true := by decide +kernel
theorem zt_54 : zx_tv zm_54 = true := by decide +kernel
theorem zt_55 : zx_tv zm_55 = true := by decide +kernel
theorem zt_56 : zx_tv zm_56 = true := by decide +kernel
theorem zt_57 : zx_tv zm_57 = true := by decide +kernel
theorem zt_58 : zx_tv zm_58 = true := by decide +kernel
theorem zt_59 : zx_tv zm_59 = true := by decide +kernel
theorem zt_60 : zx_tv zm_60 = true := by decide +kernel
theorem zt_61 : zx_tv zm_61 = true := by decide +kernel
theorem zt_62 : zx_tv zm_62 = true := by decide +kernel
theorem zt_63 : zx_tv zm_63 = true := by decide +kernel
theorem zt_64 : zx_tv zm_64 = true := by decide +kernel
theorem zt_65 : zx_tv zm_65 = true := by decide +kernel
theorem zt_66 : zx_tv zm_66 = true := by decide +kernel
theorem zt_67 : zx_tv zm_67 = true := by decide +kernel
theorem zt_68 : zx_tv zm_68 = true := by decide +kernel
theorem zt_69 : zx_tv zm_69 = true := by decide +kernel
theorem zt_70 : zx_tv zm_70 = true := by decide +kernel
theorem zt_71 : zx_tv zm_71 = true := by decide +kernel
theorem zt_72 : zx_tv zm_72 = true := by decide +kernel
theorem zt_73 : zx_tv zm_73 = true := by decide +kernel
theorem zt_74 : zx_tv zm_74 = true := by decide +kernel
theorem zt_75 : zx_tv zm_75 = true := by decide +kernel
theorem zt_76 : zx_tv zm_76 = true := by decide +kernel
theorem zt_77 : zx_tv zm_77 = true := by decide +kernel
theorem zt_78 : zx_tv zm_78 = true := by decide +kernel
theorem zt_79 : zx_tv zm_79 = true := by decide +kernel
theorem zt_80 : zx_tv zm_80 = true := by decide +kernel
theorem zt_81 : zx_tv zm_81 = true := by decide +kernel
theorem zt_82 : zx_tv zm_82 = true := by decide +kernel
theorem zt_83 : zx_tv zm_83 = true := by decide +kernel
theorem zt_84 : zx_tv zm_84 = true := by decide +kernel
theorem zt_85 : zx_tv zm_85 = true := by decide +kernel
theorem zt_86 : zx_tv zm_86 = true := by decide +kernel
theorem zt_87 : zx_tv zm_87 = true := by decide +kernel
theorem zt_88 : zx_tv zm_88 = true := by decide +kernel
theorem zt_89 : zx_tv zm_89 = true := by decide +kernel
theorem zt_90 : zx_tv zm_90 = true := by decide +kernel
theorem zt_91 : zx_tv zm_91 = true := by decide +kernel
theorem zt_92 : zx_tv zm_92 = true := by decide +kernel
theorem zt_93 : zx_tv zm_93 = true := by decide +kernel
theorem zt_94 : zx_tv zm_94 = true := by decide +kernel
theorem zt_95 : zx_tv zm_95 = true := by decide +kernel
theorem zt_96 : zx_tv zm_96 = true := by decide +kernel
theorem zt_97 : zx_tv zm_97 = true := by decide +kernel
theorem zt_98 : zx_tv zm_98 = true := by decide +kernel
theorem zt_99 : zx_tv zm_99 = true := by decide +kernel
theorem zt_100 : zx_tv zm_100 = true := by decide +kernel
theorem zt_101 : zx_tv zm_101 = true := by decide +kernel
theorem zt_102 : zx_tv zm_102 = true := by decide +kernel
theorem zt_103 : zx_tv zm_103 = true := by decide +kernel
theorem zt_104 : zx_tv zm_104 = true := by decide +kernel
theorem zt_105 : zx_tv zm_105 = true := by decide +kernel
theorem zt_106 : zx_tv zm_106 = true := by decide +kernel
theorem zt_107 : zx_tv zm_107 = true := by decide +kernel
theorem zt_108 : zx_tv zm_108 = true := by decide +kernel
theorem zt_109 : zx_tv zm_109 = true := by decide +kernel
theorem zt_110 : zx_tv zm_110 = true := by decide +kernel
theorem zt_111 : zx_tv zm_111 = true := by decide +kernel
theorem zt_112 : zx_tv zm_112 = true := by decide +kernel
theorem zt_113 : zx_tv zm_113 = true := by decide +kernel
theorem zt_114 : zx_tv zm_114 = true := by decide +kernel
theorem zt_115 : zx_tv zm_115 = true := by decide +kernel
theorem zt_116 : zx_tv zm_116 = true := by decide +kernel
theorem zt_117 : zx_tv zm_117 = true := by decide +kernel
theorem zt_118 : zx_tv zm_118 = true := by decide +kernel
theorem zt_119 : zx_tv zm_119 = true := by decide +kernel
theorem zt_120 : zx_tv zm_120 = true := by decide +kernel
theorem zt_121 : zx_tv zm_121 = true := by decide +kernel
theorem zt_122 : zx_tv zm_122 = true := by decide +kernel
theorem zt_123 : zx_tv zm_123 = true := by decide +kernel
theorem zt_124 : zx_tv zm_124 = true := by decide +kernel
theorem zt_125 : zx_tv zm_125 = true := by decide +kernel
theorem zt_126 : zx_tv zm_126 = true := by decide +kernel
theorem zt_127 : zx_tv zm_127 = true := by decide +kernel
theorem zt_128 : zx_tv zm_128 = true := by decide +kernel
theorem zt_129 : zx_tv zm_129 = true := by decide +kernel
theorem zt_130 : zx_tv zm_130 = true := by decide +kernel
theorem zt_131 : zx_tv zm_131 = true := by decide +kernel
theorem zt_132 : zx_tv zm_132 = true := by decide +kernel
theorem zt_133 : zx_tv zm_133 = true := by decide +kernel
theorem zt_134 : zx_tv zm_134 = true := by decide +kernel
theorem zt_135 : zx_tv zm_135 = true := by decide +kernel
theorem zt_136 : zx_tv zm_136 = true := by decide +kernel
theorem zt_137 : zx_tv zm_137 = true := by decide +kernel
theorem zt_138 : zx_tv zm_138 = true := by decide +kernel
theorem zt_139 : zx_tv zm_139 = true := by decide +kernel
theorem zt_140 : zx_tv zm_140 = true := by decide +kernel
theorem zt_141 : zx_tv zm_141 = true := by decide +kernel
theorem zt_142 : zx_tv zm_142 = true := by decide +kernel
theorem zt_143 : zx_tv zm_143 = true := by decide +kernel
theorem zt_144 : zx_tv zm_144 = true := by decide +kernel
theorem zt_145 : zx_tv zm_145 = true := by decide +kernel
theorem zt_146 : zx_tv zm_146 = true := by decide +kernel
theorem zt_147 : zx_tv zm_147 = true := by decide +kernel
theorem zt_148 : zx_tv zm_148 = true := by decide +kernel
theorem zt_149 : zx_tv zm_149 = true := by decide +kernel
theorem zt_150 : zx_tv zm_150 = true := by decide +kernel
theorem zt_151 : zx_tv zm_151 = true := by decide +kernel
theorem zt_152 : zx_tv zm_152 = true := by decide +kernel
theorem zt_153 : zx_tv zm_153 = true := by decide +kernel
theorem zt_154 : zx_tv zm_154 = true := by decide +kernel
theorem zt_155 : zx_tv zm_155 = true := by decide +kernel
theorem zt_156 : zx_tv zm_156 = true := by decide +kernel
theorem zt_157 : zx_tv zm_157 = true := by decide +kernel
theorem zt_158 : zx_tv zm_158 = true := by decide +kernel
theorem zt_159 : zx_tv zm_159 = true := by decide +kernel
theorem zt_160 : zx_tv zm_160 = true := by decide +kernel
theorem zt_161 : zx_tv zm_161 = true := by decide +kernel
theorem zt_162 : zx_tv zm_162 = true := by decide +kernel
theorem zt_163 : zx_tv zm_163 = true := by decide +kernel
theorem zt_164 : zx_tv zm_164 = true := by decide +kernel
theorem zt_165 : zx_tv zm_165 = true := by decide +kernel
theorem zt_166 : zx_tv zm_166 = true := by decide +kernel
theorem zt_167 : zx_tv zm_167 = true := by decide +kernel
theorem zt_168 : zx_tv zm_168 = true := by decide +kernel
theorem zt_169 : zx_tv zm_169 = true := by decide +kernel
theorem zt_170 : zx_tv zm_170 = true := by decide +kernel
theorem zt_171 : zx_tv zm_171 = true := by decide +kernel
theorem zt_172 : zx_tv zm_172 = true := by decide +kernel
theorem zt_173 : zx_tv zm_173 = true := by decide +kernel
theorem zt_174 : zx_tv zm_174 = true := by decide +kernel
theorem zt_175 : zx_tv zm_175 = true := by decide +kernel
theorem zt_176 : zx_tv zm_176 = true := by decide +kernel
theorem zt_177 : zx_tv zm_177 = true := by decide +kernel
theorem zt_178 : zx_tv zm_178 = true := by decide +kernel
theorem zt_179 : zx_tv zm_179 = true := by decide +kernel
theorem zt_180 : zx_tv zm_180 = true := by decide +kernel
theorem zt_181 : zx_tv zm_181 = true := by decide +kernel
theorem zt_182 : zx_tv zm_182 = true := by decide +kernel
theorem zt_183 : zx_tv zm_183 = true := by decide +kernel
theorem zt_184 : zx_tv zm_184 = true := by decide +kernel
theorem zt_185 : zx_tv zm_185 = true := by decide +kernel
theorem zt_186 : zx_tv zm_186 = true := by decide +kernel
theorem zt_187 : zx_tv zm_187 = true := by decide +kernel
theorem zt_188 : zx_tv zm_188 = true := by decide +kernel
theorem zt_189 : zx_tv zm_189 = true := by decide +kernel
theorem zt_190 : zx_tv zm_190 = true := by decide +kernel
theorem zt_191 : zx_tv zm_191 = true := by decide +kernel
theorem zt_192 : zx_tv zm_192 = true := by decide +kernel
theorem zt_193 : zx_tv zm_193 = true := by decide +kernel
theorem zt_194 : zx_tv zm_194 = true := by decide +kernel
theorem zt_195 : zx_tv zm_195 = true := by decide +kernel
theorem zt_196 : zx_tv zm_196 = true := by decide +kernel
theorem zt_197 : zx_tv zm_197 = true := by decide +kernel
theorem zt_198 : zx_tv zm_198 = true := by decide +kernel
theorem zt_199 : zx_tv zm_199 = true := by decide +kernel
theorem zt_200 : zx_tv zm_200 = true := by decide +kernel
theorem zt_201 : zx_tv zm_201 = true := by decide +kernel
theorem zt_202 : zx_tv zm_202 = true := by decide +kernel
theorem zt_203 : zx_tv zm_203 = true := by decide +kernel
theorem zt_204 : zx_tv zm_204 = true := by decide +kernel
theorem zt_205 : zx_tv zm_205 = true := by decide +kernel
theorem zt_206 : zx_tv zm_206 = true := by decide +kernel
theorem zt_207 : zx_tv zm_207 = true := by decide +kernel
theorem zt_208 : zx_tv zm_208 = true := by decide +kernel
theorem zt_209 : zx_tv zm_209 = true := by decide +kernel
theorem zt_210 : zx_tv zm_210 = true := by decide +kernel
theorem zt_211 : zx_tv zm_211 = true := by decide +kernel
theorem zt_212 : zx_tv zm_212 = true := by decide +kernel
theorem zt_213 : zx_tv zm_213 = true := by decide +kernel
theorem zt_214 : zx_tv zm_214 = true := by decide +kernel
theorem zt_215 : zx_tv zm_215 = true := by decide +kernel
theorem zt_216 : zx_tv zm_216 = true := by decide +kernel
theorem zt_217 : zx_tv zm_217 = true := by decide +kernel
theorem zt_218 : zx_tv zm_218 = true := by decide +kernel
theorem zt_219 : zx_tv zm_219 = true := by decide +kernel
theorem zt_220 : zx_tv zm_220 = true := by decide +kernel
theorem zt_221 : zx_tv zm_221 = true := by decide +kernel
theorem zt_222 : zx_tv zm_222 = true := by decide +kernel
theorem zt_223 : zx_tv zm_223 = true := by decide +kernel
theorem zt_224 : zx_tv zm_224 = true := by decide +kernel
theorem zt_225 : zx_tv zm_225 = true := by decide +kernel
theorem zt_226 : zx_tv zm_226 = true := by decide +kernel
theorem zt_227 : zx_tv zm_227 = true := by decide +kernel
theorem zt_228 : zx_tv zm_228 = true := by decide +kernel
theorem zt_229 : zx_tv zm_229 = true := by decide +kernel
theorem zt_230 : zx_tv zm_230 = true := by decide +kernel
theorem zt_231 : zx_tv zm_231 = true := by decide +kernel
theorem zt_232 : zx_tv zm_232 = true := by decide +kernel
theorem zt_233 : zx_tv zm_233 = true := by decide +kernel
theorem zt_234 : zx_tv zm_234 = true := by decide +kernel
theorem zt_235 : zx_tv zm_235 = true := by decide +kernel
theorem zt_236 : zx_tv zm_236 = true := by decide +kernel
theorem zt_237 : zx_tv zm_237 = true := by decide +kernel
theorem zt_238 : zx_tv zm_238 = true := by decide +kernel
theorem zt_239 : zx_tv zm_239 = true := by decide +kernel
theorem zt_240 : zx_tv zm_240 = true := by decide +kernel
theorem zt_241 : zx_tv zm_241 = true := by decide +kernel
theorem zt_242 : zx_tv zm_242 = true := by decide +kernel
theorem zt_243 : zx_tv zm_243 = true := by decide +kernel
theorem zt_244 : zx_tv zm_244 = true := by decide +kernel
theorem zt_245 : zx_tv zm_245 = true := by decide +kernel
theorem zt_246 : zx_tv zm_246 = true := by decide +kernel
theorem zt_247 : zx_tv zm_247 = true := by decide +kernel
theorem zt_248 : zx_tv zm_248 = true := by decide +kernel
theorem zt_249 : zx_tv zm_249 = true := by decide +kernel
theorem zt_250 : zx_tv zm_250 = true := by decide +kernel
theorem zt_251 : zx_tv zm_251 = true := by decide +kernel
theorem zt_252 : zx_tv zm_252 = true := by decide +kernel
theorem zt_253 : zx_tv zm_253 = true := by decide +kernel
theorem zt_254 : zx_tv zm_254 = true := by decide +kernel
theorem zt_255 : zx_tv zm_255 = true := by decide +kernel
theorem zt_256 : zx_tv zm_256 = true := by decide +kernel
theorem zt_257 : zx_tv zm_257 = true := by decide +kernel
theorem zt_258 : zx_tv zm_258 = true := by decide +kernel
theorem zt_259 : zx_tv zm_259 = true := by decide +kernel
theorem zt_260 : zx_tv zm_260 = true := by decide +kernel
theorem zt_261 : zx_tv zm_261 = true := by decide +kernel
theorem zt_262 : zx_tv zm_262 = true := by decide +kernel
theorem zt_263 : zx_tv zm_263 = true := by decide +kernel
theorem zt_264 : zx_tv zm_264 = true := by decide +kernel
theorem zt_265 : zx_tv zm_265 = true := by decide +kernel
theorem zt_266 : zx_tv zm_266 = true := by decide +kernel
theorem zt_267 : zx_tv zm_267 = true := by decide +kernel
theorem zt_268 : zx_tv zm_268 = true := by decide +kernel
theorem zt_269 : zx_tv zm_269 = true := by decide +kernel
theorem zt_270 : zx_tv zm_270 = true := by decide +kernel
theorem zt_271 : zx_tv zm_271 = true := by decide +kernel
theorem zt_272 : zx_tv zm_272 = true := by decide +kernel
theorem zt_273 : zx_tv zm_273 = true := by decide +kernel
theorem zt_274 : zx_tv zm_274 = true := by decide +kernel
theorem zt_275 : zx_tv zm_275 = true := by decide +kernel
theorem zt_276 : zx_tv zm_276 = true := by decide +kernel
theorem zt_277 : zx_tv zm_277 = true := by decide +kernel
theorem zt_278 : zx_tv zm_278 = true := by decide +kernel
theorem zt_279 : zx_tv zm_279 = true := by decide +kernel
theorem zt_280 : zx_tv zm_280 = true := by decide +kernel
theorem zt_281 : zx_tv zm_281 = true := by decide +kernel
theorem zt_282 : zx_tv zm_282 = true := by decide +kernel
theorem zt_283 : zx_tv zm_283 = true := by decide +kernel
theorem zt_284 : zx_tv zm_284 = true := by decide +kernel
theorem zt_285 : zx_tv zm_285 = true := by decide +kernel
theorem zt_286 : zx_tv zm_286 = true := by decide +kernel
theorem zt_287 : zx_tv zm_287 = true := by decide +kernel
theorem zt_288 : zx_tv zm_288 = true := by decide +kernel
theorem zt_289 : zx_tv zm_289 = true := by decide +kernel
theorem zt_290 : zx_tv zm_290 = true := by decide +kernel
theorem zt_291 : zx_tv zm_291 = true := by decide +kernel
theorem zt_292 : zx_tv zm_292 = true := by decide +kernel
theorem zt_293 : zx_tv zm_293 = true := by decide +kernel
theorem zt_294 : zx_tv zm_294 = true := by decide +kernel
theorem zt_295 : zx_tv zm_295 = true := by decide +kernel
theorem zt_296 : zx_tv zm_296 = true := by decide +kernel
theorem zt_297 : zx_tv zm_297 = true := by decide +kernel
theorem zt_298 : zx_tv zm_298 = true := by decide +kernel
theorem zt_299 : zx_tv zm_299 = true := by decide +kernel
theorem zt_300 : zx_tv zm_300 = true := by decide +kernel
theorem zt_301 : zx_tv zm_301 = true := by decide +kernel
theorem zt_302 : zx_tv zm_302 = true := by decide +kernel
theorem zt_303 : zx_tv zm_303 = true := by decide +kernel
theorem zt_304 : zx_tv zm_304 = true := by decide +kernel
theorem zt_305 : zx_tv zm_305 = true := by decide +kernel
theorem zt_306 : zx_tv zm_306 = true := by decide +kernel
theorem zt_307 : zx_tv zm_307 = true := by decide +kernel
theorem zt_308 : zx_tv zm_308 = true := by decide +kernel
theorem zt_309 : zx_tv zm_309 = true := by decide +kernel
theorem zt_310 : zx_tv zm_310 = true := by decide +kernel
theorem zt_311 : zx_tv zm_311 = true := by decide +kernel
theorem zt_312 : zx_tv zm_312 = true := by decide +kernel
theorem zt_313 : zx_tv zm_313 = true := by decide +kernel
theorem zt_314 : zx_tv zm_314 = true := by decide +kernel
theorem zt_315 : zx_tv zm_315 = true := by decide +kernel
theorem zt_316 : zx_tv zm_316 = true := by decide +kernel
theorem zt_317 : zx_tv zm_317 = true := by decide +kernel
theorem zt_318 : zx_tv zm_318 = true := by decide +kernel
theorem zt_319 : zx_tv zm_319 = true := by decide +kernel
theorem zt_320 : zx_tv zm_320 = true := by decide +kernel
theorem zt_321 : zx_tv zm_321 = true := by decide +kernel
theorem zt_322 : zx_tv zm_322 = true := by decide +kernel
theorem zt_323 : zx_tv zm_323 = true := by decide +kernel
theorem zt_324 : zx_tv zm_324 = true := by decide +kernel
theorem zt_325 : zx_tv zm_325 = true := by decide +kernel
theorem zt_326 : zx_tv zm_326 = true := by decide +kernel
theorem zt_327 : zx_tv zm_327 = true := by decide +kernel
theorem zt_328 : zx_tv zm_328 = true := by decide +kernel
theorem zt_329 : zx_tv zm_329 = true := by decide +kernel
theorem zt_330 : zx_tv zm_330 = true := by decide +kernel
theorem zt_331 : zx_tv zm_331 = true := by decide +kernel
theorem zt_332 : zx_tv zm_332 = true := by decide +kernel
theorem zt_333 : zx_tv zm_333 = true := by decide +kernel
theorem zt_334 : zx_tv zm_334 = true := by decide +kernel
theorem zt_335 : zx_tv zm_335 = true := by decide +kernel
theorem zt_336 : zx_tv zm_336 = true := by decide +kernel
theorem zt_337 : zx_tv zm_337 = true := by decide +kernel
theorem zt_338 : zx_tv zm_338 = true := by decide +kernel
theorem zt_339 : zx_tv zm_339 = true := by decide +kernel
theorem zt_340 : zx_tv zm_340 = true := by decide +kernel
theorem zt_341 : zx_tv zm_341 = true := by decide +kernel
theorem zt_342 : zx_tv zm_342 = true := by decide +kernel
theorem zt_zc_L_law_0 : (zc_L_law_0.all (fun b => b.2.all (zx_vb zm_law))) = true := by decide +kernel
theorem zt_zc_L_law_1 : (zc_L_law_1.all (fun b => b.2.all (zx_vb zm_law))) = true := by decide +kernel
theorem zt_zc_L_law_2 : (zc_L_law_2.all (fun b => b.2.all (zx_vb zm_law))) = true := by decide +kernel
theorem zt_zc_L_law_3 : (zc_L_law_3.all (fun b => b.2.all (zx_vb zm_law))) = true := by decide +kernel
theorem zt_zc_L_law_4 : (zc_L_law_4.all (fun b => b.2.all (zx_vb zm_law))) = true := by decide +kernel
theorem zt_zc_L_law_5 : (zc_L_law_5.all (fun b => b.2.all (zx_vb zm_law))) = true := by decide +kernel
theorem zt_zc_L_law_6 : (zc_L_law_6.all (fun b => b.2.all (zx_vb zm_law))) = true := by decide +kernel
theorem zt_zc_L_law_7 : (zc_L_law_7.all (fun b => b.2.all (zx_vb zm_law))) = true := by decide +kernel
theorem zt_zc_L_law_8 : (zc_L_law_8.all (fun b => b.2.all (zx_vb zm_law))) = true := by decide +kernel
theorem zt_zc_L_law_9 : (zc_L_law_9.all (fun b => b.2.all (zx_vb zm_law))) = true := by decide +kernel
theorem zt_zc_L_law_10 : (zc_L_law_10.all (fun b => b.2.all (zx_vb zm_law))) = true := by decide +kernel
theorem zt_zc_L_law_11 : (zc_L_law_11.all (fun b => b.2.all (zx_vb zm_law))) = true := by decide +kernel
theorem zt_law : zx_tv zm_law = true := by
  show (zc_L_law.all (fun b => b.2.all (zx_vb zm_law))) = true
  unfold zc_L_law
  simp only [List.all_append, zt_zc_L_law_0, zt_zc_L_law_1, zt_zc_L_law_2, zt_zc_L_law_3, zt_zc_L_law_4, zt_zc_L_law_5, zt_zc_L_law_6, zt_zc_L_law_7, zt_zc_L_law_8, zt_zc_L_law_9, zt_zc_L_law_10, zt_zc_L_law_11, Bool.and_self, Bool.true_and, Bool.and_true]
theorem zu_0 : ∀ m ∈ [zm_0, zm_1, zm_2, zm_3, zm_4, zm_5, zm_6, zm_7, zm_8, zm_9, zm_10, zm_11, zm_12, zm_13, zm_14, zm_15], zx_tv m = true := by
  intro m h
  simp only [List.mem_cons, List.not_mem_nil, or_false] at h
  rcases h with rfl | rfl | rfl | rfl | rfl | rfl | rfl | rfl | rfl | rfl | rfl | rfl | rfl | rfl | rfl | rfl
  · exact zt_0
  · exact zt_1
  · exact zt_2
  · exact zt_3
  · exact zt_4
  · exact zt_5
  · exact zt_6
  · exact zt_7
  · exact zt_8
  · exact zt_9
  · exact zt_10
  · exact zt_11
  · exact zt_12
  · exact zt_13
  · exact zt_14
  · exact zt_15
theorem zu_1 : ∀ m ∈ [zm_16, zm_17, zm_18, zm_19, zm_20, zm_21, zm_22, zm_23, zm_24, zm_25, zm_26, zm_27, zm_28, zm_29, zm_30, zm_31], zx_tv m = true := by
  intro m h
  simp only [List.mem_cons, List.not_mem_nil, or_false] at h
  rcases h with rfl | rfl | rfl | rfl | rfl | rfl | rfl | rfl | rfl | rfl | rfl | rfl | rfl | rfl | rfl | rfl
  · exact zt_16
  · exact zt_17
  · exact zt_18
  · exact zt_19
  · exact zt_20
  · exact zt_21
  · exact zt_22
  · exact zt_23
  · exact zt_24
  · exact zt_25
  · exact zt_26
  · exact zt_27
  · exact zt_28
  · exact zt_29
  · exact zt_30
  · exact zt_31
theorem zu_2 : ∀ m ∈ [zm_32, zm_33, zm_34, zm_35, zm_36, zm_37, zm_38, zm_39, zm_40, zm_41, zm_42, zm_43, zm_44, zm_45, zm_46, zm_47], zx_tv m = true := by
  intro m h
  simp only [List.mem_cons, List.not_mem_nil, or_false] at h
  rcases h with rfl | rfl | rfl | rfl | rfl | rfl | rfl | rfl | rfl | rfl | rfl | rfl | rfl | rfl | rfl | rfl
  · exact zt_32
  · exact zt_33
  · exact zt_34
  · exact zt_35
  · exact zt_36
  · exact zt_37
  · exact zt_38
  · exact zt_39
  · exact zt_40
  · exact zt_41
  · exact zt_42
  · exact zt_43
  · exact zt_44
  · exact zt_45
  · exact zt_46
  · exact zt_47
theorem zu_3 : ∀ m ∈ [zm_48, zm_49, zm_50, zm_51, zm_52, zm_53, zm_54, zm_55, zm_56, zm_57, zm_58, zm_59, zm_60, zm_61, zm_62, zm_63], zx_tv m = true := by
  intro m h
  simp only [List.mem_cons, List.not_mem_nil, or_false] at h
  rcases h with rfl | rfl | rfl | rfl | rfl | rfl | rfl | rfl | rfl | rfl | rfl | rfl | rfl | rfl | rfl | rfl
  · exact zt_48
  · exact zt_49
  · exact zt_50
  · exact zt_51
  · exact zt_52
  · exact zt_53
  · exact zt_54
  · exact zt_55
  · exact zt_56
  · exact zt_57
  · exact zt_58
  · exact zt_59
  · exact zt_60
  · exact zt_61
  · exact zt_62
  · exact zt_63
theorem zu_4 : ∀ m ∈ [zm_64, zm_65, zm_66, zm_67, zm_68, zm_69, zm_70, zm_71, zm_72, zm_73, zm_74, zm_75, zm_76, zm_77, zm_78, zm_79], zx_tv m = true := by
  intro m h
  simp only [List.mem_cons, List.not_mem_nil, or_false] at h
  rcases h with rfl | rfl | rfl | rfl | rfl | rfl | rfl | rfl | rfl | rfl | rfl | rfl | rfl | rfl | rfl | rfl
  · exact zt_64
  · exact zt_65
  · exact zt_66
  · exact zt_67
  · exact zt_68
  · exact zt_69
  · exact zt_70
  · exact zt_71
  · exact zt_72
  · exact zt_73
  · exact zt_74
  · exact zt_75
  · exact zt_76
  · exact zt_77
  · exact zt_78
  · exact zt_79
theorem zu_5 : ∀ m ∈ [zm_80, zm_81, zm_82, zm_83, zm_84, zm_85, zm_86, zm_87, zm_88, zm_89, zm_90, zm_91, zm_92, zm_93, zm_94, zm_95], zx_tv m = true := by
  intro m h
  simp only [List.mem_cons, List.not_mem_nil, or_false] at h
  rcases h with rfl | rfl | rfl | rfl | rfl | rfl | rfl | rfl | rfl | rfl | rfl | rfl | rfl | rfl | rfl | rfl
  · exact zt_80
  · exact zt_81
  · exact zt_82
  · exact zt_83
  · exact zt_84
  · exact zt_85
  · exact zt_86
  · exact zt_87
  · exact zt_88
  · exact zt_89
  · exact zt_90
  · exact zt_91
  · exact zt_92
  · exact zt_93
  · exact zt_94
  · exact zt_95
theorem zu_6 : ∀ m ∈ [zm_96, zm_97, zm_98, zm_99, zm_100, zm_101, zm_102, zm_103, zm_104, zm_105, zm_106, zm_107, zm_108, zm_109, zm_110, zm_111], zx_tv m = true := by
  intro m h
  simp only [List.mem_cons, List.not_mem_nil, or_false] at h
  rcases h with rfl | rfl | rfl | rfl | rfl | rfl | rfl | rfl | rfl | rfl | rfl | rfl | rfl | rfl | rfl | rfl
  · exact zt_96
  · exact zt_97
  · exact zt_98
  · exact zt_99
  · exact zt_100
  · exact zt_101
  · exact zt_102
  · exact zt_103
  · exact zt_104
  · exact zt_105
  · exact zt_106
  · exact zt_107
  · exact zt_108
  · exact zt_109
  · exact zt_110
  · exact zt_111
theorem zu_7 : ∀ m ∈ [zm_112, zm_113, zm_114, zm_115, zm_116, zm_117, zm_118, zm_119, zm_120, zm_121, zm_122, zm_123, zm_124, zm_125, zm_126, zm_127], zx_tv m = true := by
  intro m h
  simp only [List.mem_cons, List.not_mem_nil, or_false] at h
  rcases h with rfl | rfl | rfl | rfl | rfl | rfl | rfl | rfl | rfl | rfl | rfl | rfl | rfl | rfl | rfl | rfl
  · exact zt_112
  · exact zt_113
  · exact zt_114
  · exact zt_115
  · exact zt_116
  · exact zt_117
  · exact zt_118
  · exact zt_119
  · exact zt_120
  · exact zt_121
  · exact zt_122
  · exact zt_123
  · exact zt_124
  · exact zt_125
  · exact zt_126
  · exact zt_127
theorem zu_8 : ∀ m ∈ [zm_128, zm_129, zm_130, zm_131, zm_132, zm_133, zm_134, zm_135, zm_136, zm_137, zm_138, zm_139, zm_140, zm_141, zm_142, zm_143], zx_tv m = true := by
  intro m h
  simp only [List.mem_cons, List.not_mem_nil, or_false] at h
  rcases h with rfl | rfl | rfl | rfl | rfl | rfl | rfl | rfl | rfl | rfl | rfl | rfl | rfl | rfl | rfl | rfl
  · exact zt_128
  · exact zt_129
  · exact zt_130
  · exact zt_131
  · exact zt_132
  · exact zt_133
  · exact zt_134
  · exact zt_135
  · exact zt_136
  · exact zt_137
  · exact zt_138
  · exact zt_139
  · exact zt_140
  · exact zt_141
  · exact zt_142
  · exact zt_143
theorem zu_9 : ∀ m ∈ [zm_144, zm_145, zm_146, zm_147, zm_148, zm_149, zm_150, zm_151, zm_152, zm_153, zm_154, zm_155, zm_156, zm_157, zm_158, zm_159], zx_tv m = true := by
  intro m h
  simp only [List.mem_cons, List.not_mem_nil, or_false] at h
  rcases h with rfl | rfl | rfl | rfl | rfl | rfl | rfl | rfl | rfl | rfl | rfl | rfl | rfl | rfl | rfl | rfl
  · exact zt_144
  · exact zt_145
  · exact zt_146
  · exact zt_147
  · exact zt_148
  · exact zt_149
  · exact zt_150
  · exact zt_151
  · exact zt_152
  · exact zt_153
  · exact zt_154
  · exact zt_155
  · exact zt_156
  · exact zt_157
  · exact zt_158
  · exact zt_159
theorem zu_10 : ∀ m ∈ [zm_160, zm_161, zm_162, zm_163, zm_164, zm_165, zm_166, zm_167, zm_168, zm_169, zm_170, zm_171, zm_172, zm_173, zm_174, zm_175], zx_tv m = true := by
  intro m h
  simp only [List.mem_cons, List.not_mem_nil, or_false] at h
  rcases h with rfl | rfl | rfl | rfl | rfl | rfl | rfl | rfl | rfl | rfl | rfl | rfl | rfl | rfl | rfl | rfl
  · exact zt_160
  · exact zt_161
  · exact zt_162
  · exact zt_163
  · exact zt_164
  · exact zt_165
  · exact zt_166
  · exact zt_167
  · exact zt_168
  · exact zt_169
  · exact zt_170
  · exact zt_171
  · exact zt_172
  · exact zt_173
  · exact zt_174
  · exact zt_175
theorem zu_11 : ∀ m ∈ [zm_176, zm_177, zm_178, zm_179, zm_180, zm_181, zm_182, zm_183, zm_184, zm_185, zm_186, zm_187, zm_188, zm_189, zm_190, zm_191], zx_tv m = true := by
  intro m h
  simp only [List.mem_cons, List.not_mem_nil, or_false] at h
  rcases h with rfl | rfl | rfl | rfl | rfl | rfl | rfl | rfl | rfl | rfl | rfl | rfl | rfl | rfl | rfl | rfl
  · exact zt_176
  · exact zt_177
  · exact zt_178
  · exact zt_179
  · exact zt_180
  · exact zt_181
  · exact zt_182
  · exact zt_183
  · exact zt_184
  · exact zt_185
  · exact zt_186
  · exact zt_187
  · exact zt_188
  · exact zt_189
  · exact zt_190
  · exact zt_191
theorem zu_12 : ∀ m ∈ [zm_192, zm_193, zm_194, zm_195, zm_196, zm_197, zm_198, zm_199, zm_200, zm_201, zm_202, zm_203, zm_204, zm_205, zm_206, zm_207], zx_tv m = true := by
  intro m h
  simp only [List.mem_cons, List.not_mem_nil, or_false] at h
  rcases h with rfl | rfl | rfl | rfl | rfl | rfl | rfl | rfl | rfl | rfl | rfl | rfl | rfl | rfl | rfl | rfl
  · exact zt_192
  · exact zt_193
  · exact zt_194
  · exact zt_195
  · exact zt_196
  · exact zt_197
  · exact zt_198
  · exact zt_199
  · exact zt_200
  · exact zt_201
  · exact zt_202
  · exact zt_203
  · exact zt_204
  · exact zt_205
  · exact zt_206
  · exact zt_207
theorem zu_13 : ∀ m ∈ [zm_208, zm_209, zm_210, zm_211, zm_212, zm_213, zm_214, zm_215, zm_216, zm_217, zm_218, zm_219, zm_220, zm_221, zm_222, zm_223], zx_tv m = true := by
  intro m h
  simp only [List.mem_cons, List.not_mem_nil, or_false] at h
  rcases h with rfl | rfl | rfl | rfl | rfl | rfl | rfl | rfl | rfl | rfl | rfl | rfl | rfl | rfl | rfl | rfl
  · exact zt_208
  · exact zt_209
  · exact zt_210
  · exact zt_211
  · exact zt_212
  · exact zt_213
  · exact zt_214
  · exact zt_215
  · exact zt_216
  · exact zt_217
  · exact zt_218
  · exact zt_219
  · exact zt_220
  · exact zt_221
  · exact zt_222
  · exact zt_223
theorem zu_14 : ∀ m ∈ [zm_224, zm_225, zm_226, zm_227, zm_228, zm_229, zm_230, zm_231, zm_232, zm_233, zm_234, zm_235, zm_236, zm_237, zm_238, zm_239], zx_tv m = true := by
  intro m h
  simp only [List.mem_cons, List.not_mem_nil, or_false] at h
  rcases h with rfl | rfl | rfl | rfl | rfl | rfl | rfl | rfl | rfl | rfl | rfl | rfl | rfl | rfl | rfl | rfl
  · exact zt_224
  · exact zt_225
  · exact zt_226
  · exact zt_227
  · exact zt_228
  · exact zt_229
  · exact zt_230
  · exact zt_231
  · exact zt_232
  · exact zt_233
  · exact zt_234
  · exact zt_235
  · exact zt_236
  · exact zt_237
  · exact zt_238
  · exact zt_239
theorem zu_15 : ∀ m ∈ [zm_240, zm_241, zm_242, zm_243, zm_244, zm_245, zm_246, zm_247, zm_248, zm_249, zm_250, zm_251, zm_252, zm_253, zm_254, zm_255], zx_tv m = true := by
  intro m h
  simp only [List.mem_cons, List.not_mem_nil, or_false] at h
  rcases h with rfl | rfl | rfl | rfl | rfl | rfl | rfl | rfl | rfl | rfl | rfl | rfl | rfl | rfl | rfl | rfl
  · exact zt_240
  · exact zt_241
  · exact zt_242
  · exact zt_243
  · exact zt_244
  · exact zt_245
  · exact zt_246
  · exact zt_247
  · exact zt_248
  · exact zt_249
  · exact zt_250
  · exact zt_251
  · exact zt_252
  · exact zt_253
  · exact zt_254
  · exact zt_255
theorem zu_16 : ∀ m ∈ [zm_256, zm_257, zm_258, zm_259, zm_260, zm_261, zm_262, zm_263, zm_264, zm_265, zm_266, zm_267, zm_268, zm_269, zm_270, zm_271], zx_tv m = true := by
  intro m h
  simp only [List.mem_cons, List.not_mem_nil, or_false] at h
  rcases h with rfl | rfl | rfl | rfl | rfl | rfl | rfl | rfl | rfl | rfl | rfl | rfl | rfl | rfl | rfl | rfl
  · exact zt_256
  · exact zt_257
  · exact zt_258
  · exact zt_259
  · exact zt_260
  · exact zt_261
  · exact zt_262
  · exact zt_263
  · exact zt_264
  · exact zt_265
  · exact zt_266
  · exact zt_267
  · exact zt_268
  · exact zt_269
  · exact zt_270
  · exact zt_271
theorem zu_17 : ∀ m ∈ [zm_272, zm_273, zm_274, zm_275, zm_276, zm_277, zm_278, zm_279, zm_280, zm_281, zm_282, zm_283, zm_284, zm_285, zm_286, zm_287], zx_tv m = true := by
  intro m h
  simp only [List.mem_cons, List.not_mem_nil, or_false] at h
  rcases h with rfl | rfl | rfl | rfl | rfl | rfl | rfl | rfl | rfl | rfl | rfl | rfl | rfl | rfl | rfl | rfl
  · exact zt_272
  · exact zt_273
  · exact zt_274
  · exact zt_275
  · exact zt_276
  · exact zt_277
  · exact zt_278
  · exact zt_279
  · exact zt_280
  · exact zt_281
  · exact zt_282
  · exact zt_283
  · exact zt_284
  · exact zt_285
  · exact zt_286
  · exact zt_287
theorem zu_18 : ∀ m ∈ [zm_288, zm_289, zm_290, zm_291, zm_292, zm_293, zm_294, zm_295, zm_296, zm_297, zm_298, zm_299, zm_300, zm_301, zm_302, zm_303], zx_tv m = true := by
  intro m h
  simp only [List.mem_cons, List.not_mem_nil, or_false] at h
  rcases h with rfl | rfl | rfl | rfl | rfl | rfl | rfl | rfl | rfl | rfl | rfl | rfl | rfl | rfl | rfl | rfl
  · exact zt_288
  · exact zt_289
  · exact zt_290
  · exact zt_291
  · exact zt_292
  · exact zt_293
  · exact zt_294
  · exact zt_295
  · exact zt_296
  · exact zt_297
  · exact zt_298
  · exact zt_299
  · exact zt_300
  · exact zt_301
  · exact zt_302
  · exact zt_303
theorem zu_19 : ∀ m ∈ [zm_304, zm_305, zm_306, zm_307, zm_308, zm_309, zm_310, zm_311, zm_312, zm_313, zm_314, zm_315, zm_316, zm_317, zm_318, zm_319], zx_tv m = true := by
  intro m h
  simp only [List.mem_cons, List.not_mem_nil, or_false] at h
  rcases h with rfl | rfl | rfl | rfl | rfl | rfl | rfl | rfl | rfl | rfl | rfl | rfl | rfl | rfl | rfl | rfl
  · exact zt_304
  · exact zt_305
  · exact zt_306
  · exact zt_307
  · exact zt_308
  · exact zt_309
  · exact zt_310
  · exact zt_311
  · exact zt_312
  · exact zt_313
  · exact zt_314
  · exact zt_315
  · exact zt_316
  · exact zt_317
  · exact zt_318
  · exact zt_319
theorem zu_20 : ∀ m ∈ [zm_320, zm_321, zm_322, zm_323, zm_324, zm_325, zm_326, zm_327, zm_328, zm_329, zm_330, zm_331, zm_332, zm_333, zm_334, zm_335], zx_tv m = true := by
  intro m h
  simp only [List.mem_cons, List.not_mem_nil, or_false] at h
  rcases h with rfl | rfl | rfl | rfl | rfl | rfl | rfl | rfl | rfl | rfl | rfl | rfl | rfl | rfl | rfl | rfl
  · exact zt_320
  · exact zt_321
  · exact zt_322
  · exact zt_323
  · exact zt_324
  · exact zt_325
  · exact zt_326
  · exact zt_327
  · exact zt_328
  · exact zt_329
  · exact zt_330
  · exact zt_331
  · exact zt_332
  · exact zt_333
  · exact zt_334
  · exact zt_335
theorem zu_21 : ∀ m ∈ [zm_336, zm_337, zm_338, zm_339, zm_340, zm_341, zm_342], zx_tv m = true := by
  intro m h
  simp only [List.mem_cons, List.not_mem_nil, or_false] at h
  rcases h with rfl | rfl | rfl | rfl | rfl | rfl | rfl
  · exact zt_336
  · exact zt_337
  · exact zt_338
  · exact zt_339
  · exact zt_340
  · exact zt_341
  · exact zt_342
theorem zx_tv_ok : ∀ l ∈ zx_mt, ∀ m ∈ l, zx_tv m = true := by
  intro l h
  unfold zx_mt at h
  simp only [List.mem_cons, List.not_mem_nil, or_false] at h
  rcases h with rfl | rfl | rfl | rfl | rfl | rfl | rfl | rfl | rfl | rfl | rfl | rfl | rfl | rfl | rfl | rfl | rfl | rfl | rfl | rfl | rfl | rfl
  · exact zu_0
  · exact zu_1
  · exact zu_2
  · exact zu_3
  · exact zu_4
  · exact zu_5
  · exact zu_6
  · exact zu_7
  · exact zu_8
  · exact zu_9
  · exact zu_10
  · exact zu_11
  · exact zu_12
  · exact zu_13
  · exact zu_14
  · exact zu_15
  · exact zu_16
  · exact zu_17
  · exact zu_18
  · exact zu_19
  · exact zu_20
  · exact zu_21
end
section
/-! the methods' heads -/
def zx_re1 (M : zx_M) (q : zx_E) : Bool := bif Nat.beq q.2.1 42 then (bif Nat.beq q.2.2.1 0 then Nat.ble 1 M.2.1.2.2.2.2.2 && Nat.ble M.2.1.2.2.2.2.2 4 else bif Nat.beq q.2.2.1 1 then Nat.beq M.2.1.2.2.2.2.2 5 else Nat.beq M.2.1.2.2.2.2.2 6) else true
def zx_re (m : zx_M) : Bool := m.2.2.all (fun b => b.2.all (zx_re1 m))
def zx_hc (m : zx_M) : Bool := decide (m.1.1.cls = zx_on1 m.2.1.1) && (plainFor m.1.1 && (decide (m.1.1.cls ≠ "java/lang/invoke/MethodHandle" ∧ m.1.1.cls ≠ "java/lang/invoke/VarHandle") &&
  (decide ((parseMethodDescriptor m.1.1.desc).map (fun d => d.parameters.length) = some (bif Nat.beq m.2.1.2.1 1 then m.2.1.2.2.1 else m.2.1.2.2.1 - 1)) && ((Nat.beq m.2.1.2.1 1 || Nat.ble 1 m.2.1.2.2.1) && (Nat.ble m.1.2.2.1 60 && ((!Nat.beq m.2.1.2.1 2 || (decide (m.1.1.name = "<init>") && decide (m.1.2.2.2 = none))) &&
  (Nat.beq (zx_rk m.1.2.2.2) m.2.1.2.2.2.2.2 && (Nat.ble m.2.1.2.1 2 && ((!Nat.beq m.2.1.2.1 0 || (Nat.beq m.2.1.1 14 || (Nat.blt m.2.1.1 13 && decide ((zx_ci m.2.1.1).1 = zx_on1 m.2.1.1)))) && zx_re m)))))))))
theorem zx_hc_ok : (zx_mt.flatten.all zx_hc) = true := by decide +kernel
theorem zx_re_law : zx_re zm_law = true := by decide +kernel
theorem zx_on14 : zx_on1 14 = "java/lang/String" := by decide +kernel
/-- what is known of a method of the tables -/
def zx_ve (M : zx_M) (q : zx_E) : Prop := zx_vd M q ∧ zx_re1 M q = true
def zx_tw (M : zx_M) : Prop := ∀ b ∈ M.2.2, ∀ q ∈ b.2, zx_ve M q
theorem zx_tw_of {M : zx_M} (h1 : zx_tv M = true) (h2 : zx_re M = true) : zx_tw M := fun b hb q hq => ⟨zx_vb_s (List.all_eq_true.mp (List.all_eq_true.mp h1 b hb) q hq), List.all_eq_true.mp (List.all_eq_true.mp h2 b hb) q hq⟩
theorem zx_me_s {k : Nat} {y : zx_M} (h : zx_me k = some y) : y ∈ zx_mt.flatten ∧ zx_tv y = true := by
  unfold zx_me at h
  cases h1 : zx_mt[k / 16]? with
  | none => rw [h1] at h; cases h
  | some l =>
    rw [h1] at h
    have h2 : l[k % 16]? = some y := h
    have m1 := List.mem_of_getElem? h1
    have m2 := List.mem_of_getElem? h2
    exact ⟨List.mem_flatten.mpr ⟨l, m1, m2⟩, zx_tv_ok l m1 y m2⟩
theorem zx_tw_in {y : zx_M} (h : y ∈ zx_mt.flatten) : zx_tw y := by
  obtain ⟨l, m1, m2⟩ := List.mem_flatten.mp h
  have h1 := List.all_eq_true.mp zx_hc_ok y h
  unfold zx_hc at h1
  have h2 := (zx_and_b (zx_and_b (zx_and_b (zx_and_b (zx_and_b (zx_and_b (zx_and_b (zx_and_b (zx_and_b (zx_and_b h1).2).2).2).2).2).2).2).2).2).2
  exact zx_tw_of (zx_tv_ok l m1 y m2) h2
theorem zx_tw_law : zx_tw zm_law := zx_tw_of zt_law zx_re_law
end
section
/-! the machine at a place of a method, and the walker there -/
def zx_A (N0 : Nat) : Nat → Prop := fun q => N0 ≤ q
def zx_t1 : String := "lane long wide door in at broad left right north south loose tied open corner with oil stock draw or and not times day place "
def zx_t2 : String := ";()<>=+-*/%"
/-- a text from outside: its object and its bytes -/
def zx_Tx (N0 a b n w : Nat) (U : State) (H : Heap) : Prop := va_O "java/lang/String" a (zx_A N0) U H ∧ va_OF "java/lang/String" "coder" "B" (.int 0) a (zx_A N0) U H ∧ va_OF "java/lang/String" "value" "[B" (.ref b) a (zx_A N0) U H ∧ va_T .byte b n (fun j => .int (nI (zx_dg 0 8 256 w j))) (zx_A N0) U H
/-- what is known of the world outside -/
def zx_X (ex : Nat → Nat) (nu : Nat → Int32) (N0 : Nat) (U : State) (H : Heap) : Prop :=
  vk_R "LaneDoors$Lexer" 34 zx_t1 (ex 1) U ∧ vk_R "LaneDoors$Lexer" 74 zx_t2 (ex 3) U ∧ zx_Tx N0 (ex 1) (ex 2) 125 zx_words U H ∧ zx_Tx N0 (ex 3) (ex 4) 11 zx_signs U H ∧
  va_Z "java/lang/String" "COMPACT_STRINGS" "Z" (.int 1) (zx_A N0) U H ∧ va_Zq "jdk/internal/util/Preconditions" "SIOOBE_FORMATTER" "Ljava/util/function/BiFunction;" (zx_A N0) U H ∧
  (nu 63 = 1 → va_X (ex 0) 6 nu U H ∧ ex 0 < N0) ∧ va_AO RX8 U ∧ (∀ q ∈ zx_NL, va_Nw (zx_nw1 q) U)
theorem zx_Tx_mv {N0 a b n w : Nat} {s U : State} {H H1 : Heap} (h : zx_Tx N0 a b n w s H) (hW : s.vm.Alike U.vm) (hq : ∀ a : Nat, a < H.size → ¬ zx_A N0 a → H1[a]? = H[a]?) : zx_Tx N0 a b n w U H1 :=
  ⟨(h.1.moved hW).kept hq, (h.2.1.moved hW).kept hq, (h.2.2.1.moved hW).kept hq, (h.2.2.2.moved hW).kept hq⟩
theorem zx_X_mv {ex : Nat → Nat} {nu : Nat → Int32} {N0 : Nat} {s U : State} {H H1 : Heap} (h : zx_X ex nu N0 s H) (hN : N0 ≤ H.size) (hW : s.WarmedH U.vm) (hq : ∀ a : Nat, a < H.size → ¬ zx_A N0 a → H1[a]? = H[a]?) : zx_X ex nu N0 U H1 := by
  obtain ⟨h1, h2, h3, h4, h5, h6, h7, h8, h9⟩ := h
  refine ⟨h1.warm hW, h2.warm hW, zx_Tx_mv h3 hW.alike hq, zx_Tx_mv h4 hW.alike hq, (h5.moved hW.alike).kept hq, (h6.moved hW.alike).kept hq, fun z => ?_, h8.moved hW.alike, fun q hq => (h9 q hq).warmM hW⟩
  obtain ⟨q1, q2⟩ := h7 z
  exact ⟨(q1.moved hW.alike).kept (hq _ (by omega) (by unfold zx_A; omega)), q2⟩
def zx_Cx (p : Program) (R : Room) (s : State) (m : MethodId) (args : Array Value) (meth : Method) (c : Code) (M : zx_M) (d N0 : Nat) (ex : Nat → Nat) (nu : Nat → Int32) : Prop :=
  p.tables.exec = Jvm.exec ∧ c.code = M.1.2.1 ∧ c.maxLocals = M.1.2.2.1 ∧ s.vm.findClass (zx_on1 M.2.1.1) = some m.cls ∧ (∀ w ∈ zx_G, w.before args s = true) ∧ (M.2.1.2.1 = 2 → meth.name = "<init>") ∧ N0 ≤ s.heap.size ∧ zx_X ex nu N0 s s.heap ∧
  (d + 1 ≤ R.frames ∧ 80 * (d + 1) ≤ R.locals ∧ M.2.1.2.2.2.1 ≤ R.cells ∧ M.2.1.2.2.2.2.1 ≤ R.slots) ∧ zx_tw M
/-- the world: its cells, and what the walker knows of them -/
def zx_Wd (D : va_G) (N0 : Nat) (ex : Nat → Nat) (nu : Nat → Int32) (ad0 : List Nat) (U : State) (H : Heap) (h : zx_H) (hn : Nat) (tys : List (ClassId × FieldType)) (ws : va_W) : Prop :=
  va_K D vwCl tys U ∧ va_P D vwCl ws H ∧ va_D (zx_A N0) ws ∧ ws.length = hn ∧ zx_HR (ws.map (fun w => w.1)) ex nu tys h ws ∧ ∀ (i q : Nat), ad0[i]? = some q → (ws.map (fun w => w.1))[i]? = some q
def zx_Rl (D : va_G) (N0 : Nat) (ex : Nat → Nat) (nu : Nat → Int32) (ad0 : List Nat) (M : zx_M) (s : State) (row : Nat) (st : List Nat) (h : zx_H) (e hn : Nat) (ls : Array Slot) (vs : List Value) (H : Heap) (locs : List Loc) : Prop :=
  ∃ (tys : List (ClassId × FieldType)) (ws : va_W), zx_Wd D N0 ex nu ad0 s H h hn tys ws ∧ va_S (zx_A N0) s.heap H locs ∧ lv_has ls M.1.2.2.1 [] ∧ zx_LR (ws.map (fun w => w.1)) ex nu row ls ∧ zx_SR (ws.map (fun w => w.1)) ex nu st vs ∧ zx_ev nu e
/-- where the walker goes on, the machine comes to Q -/
def zx_Nx (p : Program) (l : Launch) (en : Env) (R : Room) (s : State) (m : MethodId) (args : Array Value) (below : List Frame) (meth : Method) (c : Code) (Q : State → Prop) (D : va_G) (N0 : Nat) (ex : Nat → Nat) (nu : Nat → Int32) (ad0 : List Nat) (M : zx_M) (nx : zx_N) : Prop :=
  ∀ (cur : List zx_E) (pc row : Nat) (st : List Nat) (h : zx_H) (e hn ce sl : Nat), (∀ q ∈ cur, zx_ve M q) → nx cur pc row st h e hn ce sl = true → ∀ (ls : Array Slot) (vs : List Value) (H : Heap) (locs : List Loc), zx_Rl D N0 ex nu ad0 M s row st h e hn ls vs H locs → W p l en R s m args below meth c H locs ce sl Q (F0 m pc ls vs)
/-- how a method may end -/
def zx_ri (ret : Option FieldType) (ins : Instr) (vs : List Value) : Prop :=
  (ret = none ∧ ins = .return_ ∧ vs = []) ∨ (∃ (ty : FieldType) (v : Int32), ret = some ty ∧ ins = .ireturn ∧ vs = [.int v] ∧ narrow ty (.int v) = .int v) ∨ (∃ v : Int64, ret = some .long ∧ ins = .lreturn ∧ vs = [.long v]) ∨
  (∃ (ty : FieldType) (v : Value), ret = some ty ∧ ((∃ n, ty = .object n) ∨ ∃ t, ty = .array t) ∧ ins = .areturn ∧ vs = [v] ∧ (v = .null ∨ ∃ a, v = .ref a))
def zx_Rt (p : Program) (l : Launch) (en : Env) (R : Room) (s : State) (m : MethodId) (args : Array Value) (below : List Frame) (meth : Method) (c : Code) (Q : State → Prop) (D : va_G) (N0 : Nat) (ex : Nat → Nat) (nu : Nat → Int32) (ad0 : List Nat) (M : zx_M) (K : zx_K) : Prop :=
  ∀ (pc row : Nat) (r : List Nat) (h : zx_H) (e hn ce sl : Nat) (ls : Array Slot) (vs : List Value) (H : Heap) (locs : List Loc) (ins : Instr), decode M.1.2.1 pc = .ok (ins, 1) → zx_ri M.1.2.2.2 ins vs → K r h e hn = true → ce ≤ M.2.1.2.2.2.1 → sl ≤ M.2.1.2.2.2.2.1 → zx_Rl D N0 ex nu ad0 M s row r h e hn ls vs H locs → W p l en R s m args below meth c H locs ce sl Q (F0 m pc ls vs)
def zx_rm (d : Nat) (y : zx_M) : Room := { frames := d + 1, cells := y.2.1.2.2.2.1, slots := y.2.1.2.2.2.2.1, locals := 80 * (d + 1) }
def zx_Pc (D : va_G) (N0 : Nat) (ex : Nat → Nat) (nu : Nat → Int32) (av : List Value) (tys : List (ClassId × FieldType)) (ws : va_W) : Array Value → State → Prop := fun a U => a = av.toArray ∧ N0 ≤ U.heap.size ∧ va_K D vwCl tys U ∧ va_P D vwCl ws U.heap ∧ zx_X ex nu N0 U U.heap
def zx_Qc (D : va_G) (N0 : Nat) (ex : Nat → Nat) (nu : Nat → Int32) (ad0 : List Nat) (K : zx_K) : Array Value → State → Outcome → State → Prop := fun _ st o t =>
  (∃ (r : List Nat) (vs : List Value) (h : zx_H) (e hn : Nat) (tys : List (ClassId × FieldType)) (ws : va_W), o = .returned vs.head? ∧ vs.length ≤ 1 ∧ zx_SR (ws.map (fun w => w.1)) ex nu r vs ∧ zx_Wd D N0 ex nu ad0 t t.heap h hn tys ws ∧ zx_ev nu e ∧ K r h e hn = true) ∧ va_F (zx_A N0) st t
/-- a call is as the walker's -/
def zx_Ca (l : Launch) (D : va_G) (N0 : Nat) (ex : Nat → Nat) (nu : Nat → Int32) (d : Nat) (call : zx_M → zx_K → zx_N) : Prop :=
  ∀ (y : zx_M) (K : zx_K) (as : List Nat) (h : zx_H) (e hn : Nat) (av : List Value) (tys : List (ClassId × FieldType)) (ws : va_W), y ∈ zx_mt.flatten → call y K [] 0 (zx_rw as) [] h e hn 0 0 = true → zx_SR (ws.map (fun w => w.1)) ex nu as av → zx_wd as ≤ y.1.2.2.1 → va_D (zx_A N0) ws → ws.length = hn → zx_HR (ws.map (fun w => w.1)) ex nu tys h ws → zx_ev nu e →
    ∃ d', d = d' + 1 ∧ Met l y.1.1 (zx_mc y :: zx_G) (zx_rm d' y) (zx_Pc D N0 ex nu av tys ws) (zx_Qc D N0 ex nu (ws.map (fun w => w.1)) K) y.2.1.2.2.2.1 y.2.1.2.2.2.2.1 (zx_A N0)
theorem zx_Pc_blind {D : va_G} {N0 : Nat} {ex : Nat → Nat} {nu : Nat → Int32} {av : List Value} {tys : List (ClassId × FieldType)} {ws : va_W} : FrameBlind (zx_Pc D N0 ex nu av tys ws) := by
  intro a U g mk ⟨h1, h2, h3, h4, h5⟩
  exact ⟨h1, h2, va_K.moved (u := U) (U := U.calling g mk a) (Vm.Alike.refl U.vm) h3, h4, zx_X_mv (s := U) (U := U.calling g mk a) (H := U.heap) (H1 := U.heap) h5 h2 (State.WarmedH.refl U) (fun _ _ _ => rfl)⟩
end
section
/-! one step: loads, stores, numbers, jumps -/
section ZS
variable {p : Program} {l : Launch} {en : Env} {R : Room} {s : State} {m : MethodId} {args : Array Value} {below : List Frame} {meth : Method} {c : Code} {Q : State → Prop} {D : va_G} {N0 : Nat} {ex : Nat → Nat} {nu : Nat → Int32} {ad0 : List Nat} {M : zx_M} {d : Nat} {nx : zx_N} {cur : List zx_E} {pc row : Nat} {st : List Nat} {h : zx_H} {e hn ce sl : Nat} {ls : Array Slot} {vs : List Value} {H : Heap} {locs : List Loc}
theorem zx_SR1 {ads : List Nat} {a : Nat} {t : List Nat} {vs : List Value} (h : zx_SR ads ex nu (a :: t) vs) : ∃ x r, vs = x :: r ∧ zx_r ads ex nu a x ∧ zx_SR ads ex nu t r := by
  cases vs with
  | nil => exact h.elim
  | cons x r => exact ⟨x, r, rfl, h.1, h.2⟩
theorem zx_SR2 {ads : List Nat} {a b : Nat} {t : List Nat} {vs : List Value} (h : zx_SR ads ex nu (a :: b :: t) vs) : ∃ x y r, vs = x :: y :: r ∧ zx_r ads ex nu a x ∧ zx_r ads ex nu b y ∧ zx_SR ads ex nu t r := by
  obtain ⟨x, r, rfl, h1, h2⟩ := zx_SR1 h
  obtain ⟨y, r, rfl, h3, h4⟩ := zx_SR1 h2
  exact ⟨x, y, r, rfl, h1, h3, h4⟩
theorem zx_SR3 {ads : List Nat} {a b k : Nat} {t : List Nat} {vs : List Value} (h : zx_SR ads ex nu (a :: b :: k :: t) vs) : ∃ x y z r, vs = x :: y :: z :: r ∧ zx_r ads ex nu a x ∧ zx_r ads ex nu b y ∧ zx_r ads ex nu k z ∧ zx_SR ads ex nu t r := by
  obtain ⟨x, y, r, rfl, h1, h2, h3⟩ := zx_SR2 h
  obtain ⟨z, r, rfl, h4, h5⟩ := zx_SR1 h3
  exact ⟨x, y, z, r, rfl, h1, h2, h4, h5⟩
theorem zx_kc0 {b v : Nat} (hb : b = 146 ∨ b = 332 ∨ b = 32) (h : zx_kc b v = true) : v % 16 ≠ 0 := by
  rcases hb with rfl | rfl | rfl
  · rcases zx_kc146 h with q | q | q <;> omega
  · rcases zx_kc332 h with q | q | q | q <;> omega
  · have := zx_kc32 h; omega
/-- what kinds the masks name -/
def zx_kp (b : Nat) (x : Value) : Prop := (b = 146 → ∃ y, x = .int y) ∧ (b = 332 → x = .null ∨ ∃ q, x = .ref q) ∧ (b = 32 → ∃ y, x = .long y)
theorem zx_kp_of {ads : List Nat} {b v : Nat} {x : Value} (h : zx_kc b v = true) (hr : zx_r ads ex nu v x) : zx_kp b x := ⟨fun e => by subst e; exact zx_r_i h hr, fun e => by subst e; exact zx_r_r h hr, fun e => by subst e; exact zx_r_j (zx_kc32 h) hr⟩
theorem zs_ld {a b np : Nat} (hb : b = 146 ∨ b = 332 ∨ b = 32) (hN : zx_Nx p l en R s m args below meth c Q D N0 ex nu ad0 M nx) (hv : ∀ q ∈ cur, zx_ve M q) (hR : zx_Rl D N0 ex nu ad0 M s row st h e hn ls vs H locs) (hk : zh_ld nx a b np cur row st h e hn ce sl = true) :
    ∃ x, ls[a]? = some (.val x) ∧ zx_kp b x ∧ W p l en R s m args below meth c H locs ce sl Q (F0 m np ls (x :: vs)) := by
  unfold zh_ld at hk
  rw [zx_fn_eq] at hk
  obtain ⟨q, hk⟩ := zx_bft hk
  obtain ⟨tys, ws, hW, hS, hl, hL, hT, hE⟩ := hR
  obtain ⟨x, h1, h2⟩ := hL a (zx_kc0 hb q)
  exact ⟨x, h1, zx_kp_of q h2, hN _ _ _ _ _ _ _ _ _ hv hk _ _ _ _ ⟨tys, ws, hW, hS, hl, hL, ⟨h2, hT⟩, hE⟩⟩
theorem zs_st1 {a b np : Nat} (hN : zx_Nx p l en R s m args below meth c Q D N0 ex nu ad0 M nx) (hv : ∀ q ∈ cur, zx_ve M q) (hR : zx_Rl D N0 ex nu ad0 M s row st h e hn ls vs H locs) (hk : zh_st1 M nx a b np cur row st h e hn ce sl = true) :
    lv_has ls M.1.2.2.1 (zx_lv ls) ∧ a < M.1.2.2.1 ∧ ∃ x r, vs = x :: r ∧ zx_kp b x ∧ ∀ ls' : Array Slot, lv_has ls' M.1.2.2.1 ((a, x) :: (zx_lv ls).filter (fun q => !(q.1 == a) && !(q.1 + 1 == a && q.2.category == 2))) → W p l en R s m args below meth c H locs ce sl Q (F0 m np ls' r) := by
  unfold zh_st1 at hk
  obtain ⟨v, st, rfl, hk⟩ := zx_p1_s hk
  obtain ⟨q, hk⟩ := zx_bft hk
  obtain ⟨q1, q2⟩ := zx_and_b q
  obtain ⟨q2, q3⟩ := zx_and_b q2
  rw [zx_fn_eq] at hk
  obtain ⟨tys, ws, hW, hS, hl, hL, hT, hE⟩ := hR
  obtain ⟨x, r, rfl, h1, h2⟩ := zx_SR1 hT
  refine ⟨zx_lv_has hl, zx_blt_t q2, x, r, rfl, zx_kp_of q1 h1, fun ls' hl' => ?_⟩
  exact hN _ _ _ _ _ _ _ _ _ hv hk _ _ _ _ ⟨tys, ws, hW, hS, zx_lv_none hl', zx_LR_st1 hL (by simpa using q3) h1 hl', h2, hE⟩
theorem zs_st2 {a np : Nat} (hN : zx_Nx p l en R s m args below meth c Q D N0 ex nu ad0 M nx) (hv : ∀ q ∈ cur, zx_ve M q) (hR : zx_Rl D N0 ex nu ad0 M s row st h e hn ls vs H locs) (hk : zh_st2 M nx a np cur row st h e hn ce sl = true) :
    lv_has ls M.1.2.2.1 (zx_lv ls) ∧ a + 1 < M.1.2.2.1 ∧ ∃ x r, vs = .long x :: r ∧ ∀ ls' : Array Slot, lv_has ls' M.1.2.2.1 ((a, .long x) :: (zx_lv ls).filter (fun q => !(q.1 == a) && (!(q.1 == a + 1) && !(q.1 + 1 == a && q.2.category == 2)))) → W p l en R s m args below meth c H locs ce sl Q (F0 m np ls' r) := by
  unfold zh_st2 at hk
  obtain ⟨v, st, rfl, hk⟩ := zx_p1_s hk
  obtain ⟨q, hk⟩ := zx_bft hk
  obtain ⟨q1, q2⟩ := zx_and_b q
  obtain ⟨q2, q3⟩ := zx_and_b q2
  rw [zx_fn_eq] at hk
  obtain ⟨tys, ws, hW, hS, hl, hL, hT, hE⟩ := hR
  obtain ⟨x, r, rfl, h1, h2⟩ := zx_SR1 hT
  obtain ⟨y, rfl⟩ := zx_r_j (by rw [zx_beq_t q1]) h1
  refine ⟨zx_lv_has hl, zx_blt_t q2, y, r, rfl, fun ls' hl' => ?_⟩
  exact hN _ _ _ _ _ _ _ _ _ hv hk _ _ _ _ ⟨tys, ws, hW, hS, zx_lv_none hl', zx_LR_st2 hL (by simpa using q3) h1 hl', h2, hE⟩
theorem zs_psh {a np : Nat} {x : Value} (hN : zx_Nx p l en R s m args below meth c Q D N0 ex nu ad0 M nx) (hv : ∀ q ∈ cur, zx_ve M q) (hR : zx_Rl D N0 ex nu ad0 M s row st h e hn ls vs H locs) (hk : zh_psh nx a np cur row st h e hn ce sl = true) (hx : ∀ ads : List Nat, zx_r ads ex nu a x) :
    W p l en R s m args below meth c H locs ce sl Q (F0 m np ls (x :: vs)) := by
  obtain ⟨tys, ws, hW, hS, hl, hL, hT, hE⟩ := hR
  exact hN _ _ _ _ _ _ _ _ _ hv hk _ _ _ _ ⟨tys, ws, hW, hS, hl, hL, ⟨hx _, hT⟩, hE⟩
theorem zx_m32_lt (n : Int) : zx_m32 n < 4294967296 := by unfold zx_m32; omega
theorem zx_m32_of (n : Int) : Int32.ofInt n = nI (zx_m32 n) := by
  apply Int32.toBitVec_inj.1
  show BitVec.ofInt 32 n = BitVec.ofNat 32 (zx_m32 n)
  apply BitVec.eq_of_toNat_eq
  rw [BitVec.toNat_ofInt, BitVec.toNat_ofNat]
  unfold zx_m32
  omega
theorem zx_m8_of {n : Int} (h : -128 ≤ n ∧ n < 128) : (Int8.ofInt n).toInt32 = nI (zx_m32 n) := by
  rw [← zx_m32_of]
  apply Int32.toInt_inj.1
  rw [Int8.toInt_toInt32, Int8.toInt_ofInt, Int32.toInt_ofInt, show Int8.size = 256 from rfl, show Int32.size = 4294967296 from rfl]
  simp only [Int.bmod_def]
  split <;> split <;> omega
theorem zx_m16_of {n : Int} (h : -32768 ≤ n ∧ n < 32768) : (Int16.ofInt n).toInt32 = nI (zx_m32 n) := by
  rw [← zx_m32_of]
  apply Int32.toInt_inj.1
  rw [Int16.toInt_toInt32, Int16.toInt_ofInt, Int32.toInt_ofInt, show Int16.size = 65536 from rfl, show Int32.size = 4294967296 from rfl]
  simp only [Int.bmod_def]
  split <;> split <;> omega
theorem zs_inc {a n np : Nat} (hn' : n < 4294967296) (hN : zx_Nx p l en R s m args below meth c Q D N0 ex nu ad0 M nx) (hv : ∀ q ∈ cur, zx_ve M q) (hR : zx_Rl D N0 ex nu ad0 M s row st h e hn ls vs H locs) (hk : zh_inc M nx a (zx_c n) np cur row st h e hn ce sl = true) :
    lv_has ls M.1.2.2.1 (zx_lv ls) ∧ a < M.1.2.2.1 ∧ ∃ x, (∃ k : Nat, (zx_lv ls)[k]? = some (a, .int x)) ∧ ∀ ls' : Array Slot, lv_has ls' M.1.2.2.1 ((a, .int (x + nI n)) :: (zx_lv ls).filter (fun q => !(q.1 == a) && !(q.1 + 1 == a && q.2.category == 2))) → W p l en R s m args below meth c H locs ce sl Q (F0 m np ls' vs) := by
  unfold zh_inc at hk
  obtain ⟨q, hk⟩ := zx_bft hk
  obtain ⟨q2, q3⟩ := zx_and_b q
  rw [zx_fn_eq] at hk
  obtain ⟨q1, hk⟩ := zx_bft hk
  obtain ⟨tys, ws, hW, hS, hl, hL, hT, hE⟩ := hR
  obtain ⟨x, h1, h2⟩ := hL a (zx_kc0 (Or.inl rfl) q1)
  obtain ⟨y, rfl⟩ := zx_r_i q1 h2
  obtain ⟨v', h3, hk⟩ := zx_no_s hE h2 hk
  obtain ⟨w, h4, hk⟩ := zx_ad_s h3 (zx_r_c hn') hk
  rw [zx_fn_eq] at hk
  obtain ⟨k, hk1⟩ := List.getElem?_of_mem (zx_lv_mem.mpr h1)
  refine ⟨zx_lv_has hl, zx_blt_t q2, y, ⟨k, hk1⟩, fun ls' hl' => ?_⟩
  exact hN _ _ _ _ _ _ _ _ _ hv hk _ _ _ _ ⟨tys, ws, hW, hS, zx_lv_none hl', zx_LR_st1 hL (by simpa using q3) h4 hl', hT, hE⟩
theorem zs_bin {np : Nat} {f : Nat → Nat → (Nat → Bool) → Bool} (hN : zx_Nx p l en R s m args below meth c Q D N0 ex nu ad0 M nx) (hv : ∀ q ∈ cur, zx_ve M q) (hR : zx_Rl D N0 ex nu ad0 M s row st h e hn ls vs H locs) (hk : zh_bin nx np cur row st h e hn ce sl f = true)
    {P : Int32 → Int32 → Prop} {F : Int32 → Int32 → Int32} (hf : ∀ (ads : List Nat) (a b : Nat) (x y : Int32) (k : Nat → Bool), zx_r ads ex nu a (.int x) → zx_r ads ex nu b (.int y) → f a b k = true → P x y ∧ ∃ c : Nat, zx_r ads ex nu c (.int (F x y)) ∧ k c = true) :
    ∃ x y r, vs = .int y :: .int x :: r ∧ P x y ∧ W p l en R s m args below meth c H locs ce sl Q (F0 m np ls (.int (F x y) :: r)) := by
  unfold zh_bin at hk
  obtain ⟨b, a, st, rfl, hk⟩ := zx_p2_s hk
  obtain ⟨q, hk⟩ := zx_bft hk
  obtain ⟨q1, q2⟩ := zx_and_b q
  obtain ⟨tys, ws, hW, hS, hl, hL, hT, hE⟩ := hR
  obtain ⟨y, x, r, rfl, h1, h2, h3⟩ := zx_SR2 hT
  obtain ⟨y, rfl⟩ := zx_r_i q2 h1
  obtain ⟨x, rfl⟩ := zx_r_i q1 h2
  obtain ⟨b', h4, hk⟩ := zx_no_s hE h1 hk
  obtain ⟨a', h5, hk⟩ := zx_no_s hE h2 hk
  obtain ⟨hp, v, h6, hk⟩ := hf _ _ _ _ _ _ h5 h4 hk
  exact ⟨x, y, r, rfl, hp, hN _ _ _ _ _ _ _ _ _ hv hk _ _ _ _ ⟨tys, ws, hW, hS, hl, hL, ⟨h6, h3⟩, hE⟩⟩
theorem zs_un {np : Nat} {f : Nat → Nat} {F : Int32 → Int32} (hN : zx_Nx p l en R s m args below meth c Q D N0 ex nu ad0 M nx) (hv : ∀ q ∈ cur, zx_ve M q) (hR : zx_Rl D N0 ex nu ad0 M s row st h e hn ls vs H locs) (hk : zh_un nx np cur row st h e hn ce sl f = true) (hf : ∀ x : Nat, x < 4294967296 → F (nI x) = nI (f x) ∧ f x < 4294967296) :
    ∃ x r, vs = .int x :: r ∧ W p l en R s m args below meth c H locs ce sl Q (F0 m np ls (.int (F x) :: r)) := by
  unfold zh_un at hk
  obtain ⟨a, st, rfl, hk⟩ := zx_p1_s hk
  obtain ⟨q, hk⟩ := zx_bft hk
  obtain ⟨tys, ws, hW, hS, hl, hL, hT, hE⟩ := hR
  obtain ⟨x, r, rfl, h1, h2⟩ := zx_SR1 hT
  obtain ⟨x, rfl⟩ := zx_r_i q h1
  obtain ⟨a', h4, hk⟩ := zx_no_s hE h1 hk
  obtain ⟨v, h6, hk⟩ := zx_u1_s hf h4 hk
  exact ⟨x, r, rfl, hN _ _ _ _ _ _ _ _ _ hv hk _ _ _ _ ⟨tys, ws, hW, hS, hl, hL, ⟨h6, h2⟩, hE⟩⟩
theorem zs_i2l {np : Nat} (hN : zx_Nx p l en R s m args below meth c Q D N0 ex nu ad0 M nx) (hv : ∀ q ∈ cur, zx_ve M q) (hR : zx_Rl D N0 ex nu ad0 M s row st h e hn ls vs H locs) (hk : zh_i2l nx np cur row st h e hn ce sl = true) :
    ∃ x r, vs = .int x :: r ∧ ∀ y : Int64, W p l en R s m args below meth c H locs ce sl Q (F0 m np ls (.long y :: r)) := by
  unfold zh_i2l at hk
  obtain ⟨a, st, rfl, hk⟩ := zx_p1_s hk
  obtain ⟨q, hk⟩ := zx_bft hk
  obtain ⟨tys, ws, hW, hS, hl, hL, hT, hE⟩ := hR
  obtain ⟨x, r, rfl, h1, h2⟩ := zx_SR1 hT
  obtain ⟨x, rfl⟩ := zx_r_i q h1
  exact ⟨x, r, rfl, fun y => hN _ _ _ _ _ _ _ _ _ hv hk _ _ _ _ ⟨tys, ws, hW, hS, hl, hL, ⟨zx_r_l y, h2⟩, hE⟩⟩
theorem zs_lbin {np : Nat} (hN : zx_Nx p l en R s m args below meth c Q D N0 ex nu ad0 M nx) (hv : ∀ q ∈ cur, zx_ve M q) (hR : zx_Rl D N0 ex nu ad0 M s row st h e hn ls vs H locs) (hk : zh_lbin nx np cur row st h e hn ce sl = true) :
    ∃ x y r, vs = .long y :: .long x :: r ∧ ∀ z : Int64, W p l en R s m args below meth c H locs ce sl Q (F0 m np ls (.long z :: r)) := by
  unfold zh_lbin at hk
  obtain ⟨b, a, st, rfl, hk⟩ := zx_p2_s hk
  obtain ⟨q, hk⟩ := zx_bft hk
  obtain ⟨q1, q2⟩ := zx_and_b q
  obtain ⟨tys, ws, hW, hS, hl, hL, hT, hE⟩ := hR
  obtain ⟨y, x, r, rfl, h1, h2, h3⟩ := zx_SR2 hT
  obtain ⟨y, rfl⟩ := zx_r_j (by rw [zx_beq_t q2]) h1
  obtain ⟨x, rfl⟩ := zx_r_j (by rw [zx_beq_t q1]) h2
  exact ⟨x, y, r, rfl, fun z => hN _ _ _ _ _ _ _ _ _ hv hk _ _ _ _ ⟨tys, ws, hW, hS, hl, hL, ⟨zx_r_l z, h3⟩, hE⟩⟩
theorem zx_cat1 {ads : List Nat} {v : Nat} {x : Value} (h : zx_r ads ex nu v x) (hk : Nat.beq (zx_kd v) 5 = false) : x.category = 1 := by rw [zx_r_cat h, hk]; rfl
theorem zs_dup {np : Nat} (hN : zx_Nx p l en R s m args below meth c Q D N0 ex nu ad0 M nx) (hv : ∀ q ∈ cur, zx_ve M q) (hR : zx_Rl D N0 ex nu ad0 M s row st h e hn ls vs H locs) (hk : zh_dup nx np cur row st h e hn ce sl = true) :
    ∃ x r, vs = x :: r ∧ x.category = 1 ∧ W p l en R s m args below meth c H locs ce sl Q (F0 m np ls (x :: x :: r)) := by
  unfold zh_dup at hk
  obtain ⟨a, st, rfl, hk⟩ := zx_p1_s hk
  rcases zx_bif hk with ⟨-, hk⟩ | ⟨q, hk⟩
  · cases hk
  obtain ⟨tys, ws, hW, hS, hl, hL, hT, hE⟩ := hR
  obtain ⟨x, r, rfl, h1, h2⟩ := zx_SR1 hT
  exact ⟨x, r, rfl, zx_cat1 h1 q, hN _ _ _ _ _ _ _ _ _ hv hk _ _ _ _ ⟨tys, ws, hW, hS, hl, hL, ⟨h1, h1, h2⟩, hE⟩⟩
theorem zs_pop {np : Nat} (hN : zx_Nx p l en R s m args below meth c Q D N0 ex nu ad0 M nx) (hv : ∀ q ∈ cur, zx_ve M q) (hR : zx_Rl D N0 ex nu ad0 M s row st h e hn ls vs H locs) (hk : zh_pop nx np cur row st h e hn ce sl = true) :
    ∃ x r, vs = x :: r ∧ x.category = 1 ∧ W p l en R s m args below meth c H locs ce sl Q (F0 m np ls r) := by
  unfold zh_pop at hk
  obtain ⟨a, st, rfl, hk⟩ := zx_p1_s hk
  rcases zx_bif hk with ⟨-, hk⟩ | ⟨q, hk⟩
  · cases hk
  obtain ⟨tys, ws, hW, hS, hl, hL, hT, hE⟩ := hR
  obtain ⟨x, r, rfl, h1, h2⟩ := zx_SR1 hT
  exact ⟨x, r, rfl, zx_cat1 h1 q, hN _ _ _ _ _ _ _ _ _ hv hk _ _ _ _ ⟨tys, ws, hW, hS, hl, hL, h2, hE⟩⟩
theorem zs_dup2 {np : Nat} (hN : zx_Nx p l en R s m args below meth c Q D N0 ex nu ad0 M nx) (hv : ∀ q ∈ cur, zx_ve M q) (hR : zx_Rl D N0 ex nu ad0 M s row st h e hn ls vs H locs) (hk : zh_dup2 nx np cur row st h e hn ce sl = true) :
    ∃ x y r, vs = y :: x :: r ∧ x.category = 1 ∧ y.category = 1 ∧ W p l en R s m args below meth c H locs ce sl Q (F0 m np ls (y :: x :: y :: x :: r)) := by
  unfold zh_dup2 at hk
  obtain ⟨b, a, st, rfl, hk⟩ := zx_p2_s hk
  rcases zx_bif hk with ⟨-, hk⟩ | ⟨q, hk⟩
  · cases hk
  obtain ⟨q1, q2⟩ := (Bool.or_eq_false_iff).mp q
  obtain ⟨tys, ws, hW, hS, hl, hL, hT, hE⟩ := hR
  obtain ⟨y, x, r, rfl, h1, h2, h3⟩ := zx_SR2 hT
  exact ⟨x, y, r, rfl, zx_cat1 h2 q1, zx_cat1 h1 q2, hN _ _ _ _ _ _ _ _ _ hv hk _ _ _ _ ⟨tys, ws, hW, hS, hl, hL, ⟨h1, h2, h1, h2, h3⟩, hE⟩⟩
/-- a jump -/
theorem zs_jp {a : Nat} (hw : zx_tw M) (hN : zx_Nx p l en R s m args below meth c Q D N0 ex nu ad0 M nx) (hR : zx_Rl D N0 ex nu ad0 M s row st h e hn ls vs H locs) (hk : zx_jp M nx a row st h e hn ce sl = true) :
    W p l en R s m args below meth c H locs ce sl Q (F0 m a ls vs) := by
  obtain ⟨b, hb, hk⟩ := zx_bk_s _ hk
  exact hN _ _ _ _ _ _ _ _ _ (hw b hb) hk _ _ _ _ hR
theorem zs_icmp {a b np : Nat} (hb : b < 6) (hw : zx_tw M) (hN : zx_Nx p l en R s m args below meth c Q D N0 ex nu ad0 M nx) (hv : ∀ q ∈ cur, zx_ve M q) (hR : zx_Rl D N0 ex nu ad0 M s row st h e hn ls vs H locs) (hk : zh_icmp M nx a b np cur row st h e hn ce sl = true) :
    ∃ x y r, vs = .int y :: .int x :: r ∧ (zx_cv b x y → W p l en R s m args below meth c H locs ce sl Q (F0 m a ls r)) ∧ (¬ zx_cv b x y → W p l en R s m args below meth c H locs ce sl Q (F0 m np ls r)) := by
  unfold zh_icmp at hk
  obtain ⟨y0, x0, st, rfl, hk⟩ := zx_p2_s hk
  obtain ⟨q1, q2⟩ := zx_cm_i hk
  obtain ⟨tys, ws, hW, hS, hl, hL, hT, hE⟩ := hR
  obtain ⟨y, x, r, rfl, h1, h2, h3⟩ := zx_SR2 hT
  obtain ⟨y, rfl⟩ := zx_r_i q2 h1
  obtain ⟨x, rfl⟩ := zx_r_i q1 h2
  obtain ⟨e', hE', kt, kf⟩ := zx_cm_s hE h2 h1 hk hb
  exact ⟨x, y, r, rfl, fun z => zs_jp hw hN ⟨tys, ws, hW, hS, hl, hL, h3, hE'⟩ (kt z), fun z => hN _ _ _ _ _ _ _ _ _ hv (kf z) _ _ _ _ ⟨tys, ws, hW, hS, hl, hL, h3, hE'⟩⟩
theorem zx_r_0 {ads : List Nat} : zx_r ads ex nu 4 (.int 0) := by
  have h := zx_r_c (ads := ads) (ex := ex) (nu := nu) (n := 0) (by decide)
  rw [nI_0] at h
  exact h
theorem zs_if {a b np : Nat} (hb : b < 6) (hw : zx_tw M) (hN : zx_Nx p l en R s m args below meth c Q D N0 ex nu ad0 M nx) (hv : ∀ q ∈ cur, zx_ve M q) (hR : zx_Rl D N0 ex nu ad0 M s row st h e hn ls vs H locs) (hk : zh_if M nx a b np cur row st h e hn ce sl = true) :
    ∃ x r, vs = .int x :: r ∧ (zx_cv b x 0 → W p l en R s m args below meth c H locs ce sl Q (F0 m a ls r)) ∧ (¬ zx_cv b x 0 → W p l en R s m args below meth c H locs ce sl Q (F0 m np ls r)) := by
  unfold zh_if at hk
  obtain ⟨x0, st, rfl, hk⟩ := zx_p1_s hk
  obtain ⟨q1, q2⟩ := zx_cm_i hk
  obtain ⟨tys, ws, hW, hS, hl, hL, hT, hE⟩ := hR
  obtain ⟨x, r, rfl, h2, h3⟩ := zx_SR1 hT
  obtain ⟨x, rfl⟩ := zx_r_i q1 h2
  obtain ⟨e', hE', kt, kf⟩ := zx_cm_s hE h2 zx_r_0 hk hb
  exact ⟨x, r, rfl, fun z => zs_jp hw hN ⟨tys, ws, hW, hS, hl, hL, h3, hE'⟩ (kt z), fun z => hN _ _ _ _ _ _ _ _ _ hv (kf z) _ _ _ _ ⟨tys, ws, hW, hS, hl, hL, h3, hE'⟩⟩
theorem zx_nle {x y : Int32} : ¬ x < y ↔ y ≤ x := by rw [zx_lt', zx_le']; omega
/-- switches -/
theorem zx_sw_s {v : Nat} {x : Int32} {st : List Nat} {ads : List Nat} (hr : zx_r ads ex nu v (.int x)) (dflt : Int) : ∀ (ps : List (Int × Int)) (e : Nat), zx_ev nu e → (∀ q ∈ ps, 0 ≤ (pc : Int) + q.2 ∧ -2147483648 ≤ q.1 ∧ q.1 < 2147483648) → 0 ≤ (pc : Int) + dflt → zx_sw M nx row h hn ce sl (zx_row pc dflt ps).2 (zx_row pc dflt ps).1 v st e = true → ∃ (t e' : Nat), (pc : Int) + Op.lookupswitch.offset ps dflt x.toInt = (t : Int) ∧ zx_ev nu e' ∧ zx_jp M nx t row st h e' hn ce sl = true
  | [], e, he, _, hd, hk => ⟨((pc : Int) + dflt).toNat, e, (Int.toNat_of_nonneg hd).symm, he, hk⟩
  | q :: ps, e, he, hq, hd, hk => by
    have hk : zx_eq e v (zx_c (zx_m32 q.1)) (fun e => zx_jp M nx ((pc : Int) + q.2).toNat row st h e hn ce sl) (zx_sw M nx row h hn ce sl (zx_row pc dflt ps).2 (zx_row pc dflt ps).1 v st) = true := hk
    obtain ⟨e', he', kt, kf⟩ := zx_eq_s he hr (zx_r_c (zx_m32_lt q.1)) hk
    obtain ⟨q1, q2, q3⟩ := hq q List.mem_cons_self
    obtain ⟨qa, qo⟩ := q
    have hi : x = nI (zx_m32 qa) ↔ qa = x.toInt := by
      rw [← Int32.toInt_inj, zx_nI_int _ (zx_m32_lt qa)]
      unfold zx_m32
      have := zx_rg x
      simp only at q2 q3
      split <;> omega
    rw [Op.lookupswitch.offset_cons]
    by_cases hx : qa = x.toInt
    · rw [if_pos hx]
      exact ⟨_, e', (Int.toNat_of_nonneg q1).symm, he', kt (hi.mpr hx)⟩
    · rw [if_neg hx]
      exact zx_sw_s hr dflt ps e' he' (fun q hq' => hq q (List.mem_cons_of_mem _ hq')) hd (kf (fun z => hx (hi.mp z)))
theorem zs_sw {a : Nat} {dflt : Int} {ps : List (Int × Int)} (hsx : zx_sx pc dflt ps = some (26, a, 0)) (hw : zx_tw M) (hN : zx_Nx p l en R s m args below meth c Q D N0 ex nu ad0 M nx) (hR : zx_Rl D N0 ex nu ad0 M s row st h e hn ls vs H locs) (hk : zh_sw M nx a row st h e hn ce sl = true) :
    ∃ x r t, vs = .int x :: r ∧ (pc : Int) + Op.lookupswitch.offset ps dflt x.toInt = ((t : Nat) : Int) ∧ W p l en R s m args below meth c H locs ce sl Q (F0 m t ls r) := by
  unfold zh_sw at hk
  obtain ⟨v, st, rfl, hk⟩ := zx_p1_s hk
  obtain ⟨q, hk⟩ := zx_bft hk
  obtain ⟨rw', h1, hk⟩ := zx_at_s _ _ hk
  unfold zx_sx at hsx
  split at hsx
  · rename_i hok
    rw [Option.map_eq_some_iff] at hsx
    obtain ⟨i, hi, he⟩ := hsx
    have he : i = a := by injection he with _ he; injection he
    subst he
    obtain ⟨hlt, hdec, -⟩ := List.findIdx?_eq_some_iff_getElem.mp hi
    rw [List.getElem?_eq_getElem hlt] at h1
    have h1 := Option.some.inj h1
    have hdec := of_decide_eq_true hdec
    rw [h1] at hdec
    subst hdec
    obtain ⟨o1, o2⟩ := zx_and_b hok
    obtain ⟨tys, ws, hW, hS, hl, hL, hT, hE⟩ := hR
    obtain ⟨x, r, rfl, h2, h3⟩ := zx_SR1 hT
    obtain ⟨x, rfl⟩ := zx_r_i q h2
    obtain ⟨t, e', ht, hE', hk⟩ := zx_sw_s h2 dflt ps e hE (fun q hq => of_decide_eq_true (List.all_eq_true.mp o2 q hq)) (of_decide_eq_true o1) hk
    exact ⟨x, r, t, rfl, ht, zs_jp hw hN ⟨tys, ws, hW, hS, hl, hL, h3, hE'⟩ hk⟩
  · cases hsx
end ZS
end
section
/-! one step: fields, new objects, arrays -/
def zx_isr (t : FieldType) : Bool := match t with
  | .object _ => true
  | .array _ => true
  | _ => false
def zx_fty (r : vw_C) (k : Nat) : FieldType := (parseFieldDescriptor (r.2.1 k).2.2.1).getD .int
def zx_df (d : String) : Nat := if d = "I" then 4 else if d = "J" then 5 else 3
def zx_tyk (d : String) (t : FieldType) : Bool := if d = "I" then decide (t = .int) else if d = "J" then decide (t = .long) else zx_isr t
def zx_clk (r : vw_C) : Bool := (List.range r.2.2).all (fun k => decide (parseFieldDescriptor (r.2.1 k).2.2.1 = some (zx_fty r k)) && zx_tyk (r.2.1 k).2.2.1 (zx_fty r k)) && (List.range r.2.2).all (fun a => (List.range r.2.2).all (fun b => Nat.beq a b || decide ((r.2.1 a).2.1 ≠ (r.2.1 b).2.1)))
theorem zx_clk_ok : (vwCl.all zx_clk) = true := by decide +kernel
def zx_nck (ci : Nat) : Bool := Nat.beq (zx_hd (zx_nc.getD ci 0)) (7 + 16 * ci) && (List.range (zx_ci ci).2.2).all (fun k => Nat.beq (zx_og (zx_nc.getD ci 0) k) (zx_df ((zx_ci ci).2.1 k).2.2.1))
theorem zx_nc_ok : ((List.range 13).all zx_nck) = true := by decide +kernel
theorem zx_vwl : vwCl.length = 13 := by decide +kernel
theorem zx_ci_of {ci : Nat} {r : vw_C} (h : vwCl[ci]? = some r) : zx_ci ci = r := by
  unfold zx_ci
  rw [List.getD_eq_getElem?_getD, h]
  rfl
theorem zx_ci_in {ci : Nat} (h : ci < 13) : vwCl[ci]? = some (zx_ci ci) := by
  have hl : ci < vwCl.length := by rw [zx_vwl]; exact h
  rw [List.getElem?_eq_getElem hl]
  exact congrArg some (zx_ci_of (List.getElem?_eq_getElem hl)).symm
theorem zx_cl_ty {r : vw_C} (h : r ∈ vwCl) : (∀ k, k < r.2.2 → parseFieldDescriptor (r.2.1 k).2.2.1 = some (zx_fty r k)) ∧ (∀ k, k < r.2.2 → zx_tyk (r.2.1 k).2.2.1 (zx_fty r k) = true) ∧ ∀ a, a < r.2.2 → ∀ b, b < r.2.2 → a ≠ b → (r.2.1 a).2.1 ≠ (r.2.1 b).2.1 := by
  obtain ⟨h1, h2⟩ := zx_and_b (List.all_eq_true.mp zx_clk_ok r h)
  refine ⟨fun k hk => of_decide_eq_true (zx_and_b (List.all_eq_true.mp h1 k (List.mem_range.mpr hk))).1, fun k hk => (zx_and_b (List.all_eq_true.mp h1 k (List.mem_range.mpr hk))).2, fun a ha b hb hab => ?_⟩
  have h3 := List.all_eq_true.mp (List.all_eq_true.mp h2 a (List.mem_range.mpr ha)) b (List.mem_range.mpr hb)
  rcases (Bool.or_eq_true _ _).mp h3 with q | q
  · exact absurd (zx_beq_t q) hab
  · exact of_decide_eq_true q
theorem zx_cl_ws {r : vw_C} (h : r ∈ vwCl) : ∀ w ∈ u_ws r.1 r.2.1 r.2.2, w ∈ zx_G := fun w hw => zx_inL h (List.mem_cons_of_mem _ (List.mem_cons_of_mem _ hw))
theorem zx_hd7 {c x : Nat} (h : zx_hd c = 7 + 16 * x) (hx : x < 100) : c % 16 = 7 ∧ zx_cn c = x := by
  have h : c % 1048576 = 7 + 16 * x := h
  refine ⟨by omega, ?_⟩
  show c % 1048576 / 16 = x
  omega
theorem zx_fw_of {q : zx_Q} (hx : q.2.2.1 < 100) {r : vw_C} (hr : zx_ci q.2.2.1 = r) : zx_fw q = .fieldLink (zx_on1 q.1) q.2.1 (r.2.1 q.2.2.2.1).1 (r.2.1 q.2.2.2.1).2.1 (r.2.1 q.2.2.2.1).2.2.1 := by
  subst hr
  unfold zx_fw zx_fd
  rw [show Nat.blt q.2.2.1 100 = true from Nat.ble_eq_true_of_le hx]
  rfl
section ZM
variable {p : Program} {l : Launch} {en : Env} {R : Room} {s : State} {m : MethodId} {args : Array Value} {below : List Frame} {meth : Method} {c : Code} {Q : State → Prop} {D : va_G} {N0 : Nat} {ex : Nat → Nat} {nu : Nat → Int32} {ad0 : List Nat} {M : zx_M} {d : Nat} {nx : zx_N} {cur cur0 : List zx_E} {pc row : Nat} {st : List Nat} {h : zx_H} {e hn ce sl : Nat} {ls : Array Slot} {vs : List Value} {H : Heap} {locs : List Loc}
theorem zx_ref2 {ads : List Nat} {r : Nat} {x : Value} (h : zx_r ads ex nu r x) (hk : Nat.beq (zx_kd r) 2 = true) : ∃ q, ads[r / 16]? = some q ∧ x = .ref q := ((zx_r2 (zx_beq_t hk)).mp h).2
theorem zx_Wd_set {U : State} {h h' : zx_H} {H1 : Heap} {tys : List (ClassId × FieldType)} {ws : va_W} {i a k : Nat} {e0 e1 : va_E} (hW : zx_Wd D N0 ex nu ad0 U H h hn tys ws) (h4 : ws[i]? = some (a, e0)) (g2 : zx_hG h' i = some k) (g3 : ∀ j, j ≠ i → zx_hG h' j = zx_hG h j) (hc : zx_cr (ws.map (fun w => w.1)) ex nu tys k e1) (hP1 : va_P D vwCl (ws.set i (a, e1)) H1) (hD1 : va_D (zx_A N0) (ws.set i (a, e1))) : zx_Wd D N0 ex nu ad0 U H1 h' hn tys (ws.set i (a, e1)) ∧ (ws.set i (a, e1)).map (fun w => w.1) = ws.map (fun w => w.1) := by
  obtain ⟨hK, hP, hD, hn', hH, hp⟩ := hW
  have ha := zx_ads_set (e' := e1) h4
  exact ⟨⟨hK, hP1, hD1, by rw [List.length_set]; exact hn', zx_HR_set hH h4 g2 g3 hc, by rw [ha]; exact hp⟩, ha⟩
theorem zs_get {q : zx_Q} {i : Nat} (hC : zx_Cx p R s m args meth c M d N0 ex nu) (hq : q ∈ zx_FL) (ho : q.1 = M.2.1.1) (hi : q.2.1 = i) (hx : q.2.2.1 < 100) (hy : q.2.2.2.1 < (zx_ci q.2.2.1).2.2) (hd : decode M.1.2.1 pc = .ok (.getfield i, 3)) (hN : zx_Nx p l en R s m args below meth c Q D N0 ex nu ad0 M nx) (hv : ∀ q ∈ cur, zx_ve M q) (hR : zx_Rl D N0 ex nu ad0 M s row st h e hn ls vs H locs) (hk : zh_get nx (7 + 16 * q.2.2.1) q.2.2.2.1 (pc + 3) cur row st h e hn ce sl = true) :
    W p l en R s m args below meth c H locs ce sl Q (F0 m pc ls vs) := by
  obtain ⟨hx0, hb, hml, hown, hts, -⟩ := hC
  unfold zh_get at hk
  obtain ⟨r, st, rfl, hk⟩ := zx_p1_s hk
  obtain ⟨q1, hk⟩ := zx_bft hk
  obtain ⟨k, g1, hk⟩ := zx_hg_s hk
  obtain ⟨q2, hk⟩ := zx_bft hk
  rw [zx_fn_eq] at hk
  obtain ⟨tys, ws, ⟨hK, hP, hD, hn', hH, hp⟩, hS, hl, hL, hT, hE⟩ := hR
  obtain ⟨x, rs, rfl, h1, h2⟩ := zx_SR1 hT
  obtain ⟨ad, h3, rfl⟩ := zx_ref2 h1 q1
  obtain ⟨t7, tcn⟩ := zx_hd7 (zx_beq_t q2) hx
  obtain ⟨ee, h4, h5⟩ := zx_HR_get hH g1 h3 (by omega)
  obtain ⟨fs, rc, rfl, h6, h7, h8⟩ := (zx_c7 t7).mp h5
  rw [tcn] at h4 h6
  have hci := zx_ci_of h6
  have hrm := List.mem_of_getElem? h6
  rw [hci] at hy
  have hlt : q.2.2.2.1 < fs.length := by rw [h7]; exact hy
  refine va_get (own := zx_on1 M.2.1.1) (ref := (rc.2.1 q.2.2.2.1).1) hx0 hb hts (zx_cl_ws hrm) hown hK hP (r / 16) h4 h6 q.2.2.2.1 hy ?_ (fun _ z => z) (List.getElem?_eq_getElem hlt) hd ?_
  · have := hts _ (zx_inF hq)
    rw [zx_fw_of hx hci, ho, hi] at this
    exact this
  · exact hN _ _ _ _ _ _ _ _ _ hv hk _ _ _ _ ⟨tys, ws, ⟨hK, hP, hD, hn', hH, hp⟩, hS, hl, hL, ⟨h8 _ _ (List.getElem?_eq_getElem hlt), h2⟩, hE⟩
theorem zx_put_ty {d : String} {t : FieldType} {x : Value} (ht : zx_tyk d t = true) (hx : zx_kp (zx_fm d) x) : narrow t x = x ∧ fits t x = true := by
  unfold zx_tyk at ht
  unfold zx_fm at hx
  split at ht
  · rename_i hd
    rw [if_pos hd] at hx
    have := of_decide_eq_true ht
    subst this
    obtain ⟨y, rfl⟩ := hx.1 rfl
    exact ⟨rfl, rfl⟩
  · rename_i hd
    rw [if_neg hd] at hx
    split at ht
    · rename_i hd
      rw [if_pos hd] at hx
      have := of_decide_eq_true ht
      subst this
      obtain ⟨y, rfl⟩ := hx.2.2 rfl
      exact ⟨rfl, rfl⟩
    · rename_i hd
      rw [if_neg hd] at hx
      cases t with
      | object n => rcases hx.2.1 rfl with rfl | ⟨q, rfl⟩ <;> exact ⟨rfl, rfl⟩
      | array n => rcases hx.2.1 rfl with rfl | ⟨q, rfl⟩ <;> exact ⟨rfl, rfl⟩
      | _ => cases ht
theorem zs_put {q : zx_Q} {i : Nat} (hC : zx_Cx p R s m args meth c M d N0 ex nu) (hq : q ∈ zx_FL) (ho : q.1 = M.2.1.1) (hi : q.2.1 = i) (hx : q.2.2.1 < 100) (hy : q.2.2.2.1 < (zx_ci q.2.2.1).2.2) (hfin : ((zx_ci q.2.2.1).2.1 q.2.2.2.1).2.2.2 = false ∨ (M.2.1.2.1 = 2 ∧ ((zx_ci q.2.2.1).2.1 q.2.2.2.1).1 = zx_on1 M.2.1.1)) (hd : decode M.1.2.1 pc = .ok (.putfield i, 3)) (hN : zx_Nx p l en R s m args below meth c Q D N0 ex nu ad0 M nx) (hv : ∀ q ∈ cur, zx_ve M q) (hR : zx_Rl D N0 ex nu ad0 M s row st h e hn ls vs H locs) (hk : zh_put nx (7 + 16 * q.2.2.1 + 1048576 * zx_fm ((zx_ci q.2.2.1).2.1 q.2.2.2.1).2.2.1) q.2.2.2.1 (pc + 3) cur row st h e hn ce sl = true) :
    W p l en R s m args below meth c H locs ce sl Q (F0 m pc ls vs) := by
  obtain ⟨hx0, hb, hml, hown, hts, hini, -⟩ := hC
  unfold zh_put at hk
  obtain ⟨v, r, st, rfl, hk⟩ := zx_p2_s hk
  obtain ⟨q1, hk⟩ := zx_bft hk
  obtain ⟨q1, q3⟩ := zx_and_b q1
  obtain ⟨tys, ws, ⟨hK, hP, hD, hn', hH, hp⟩, hS, hl, hL, hT, hE⟩ := hR
  obtain ⟨xv, x, rs, rfl, h0, h1, h2⟩ := zx_SR2 hT
  obtain ⟨v', h0', hk⟩ := zx_no_s hE h0 hk
  obtain ⟨k, g1, hk⟩ := zx_hg_s hk
  obtain ⟨q2, hk⟩ := zx_bft hk
  rw [zx_fn_eq] at hk
  obtain ⟨h', hk, g2, g3⟩ := zx_hs_s hk
  obtain ⟨ad, h3, rfl⟩ := zx_ref2 h1 q1
  generalize hmk : zx_fm ((zx_ci q.2.2.1).2.1 q.2.2.2.1).2.2.1 = mk at q2 q3
  have e1 : zx_hd (7 + 16 * q.2.2.1 + 1048576 * mk) = 7 + 16 * q.2.2.1 := by
    show (7 + 16 * q.2.2.1 + 1048576 * mk) % 1048576 = _
    omega
  have e2 : Nat.shiftRight (7 + 16 * q.2.2.1 + 1048576 * mk) 20 = mk := by
    show (7 + 16 * q.2.2.1 + 1048576 * mk) >>> 20 = mk
    rw [Nat.shiftRight_eq_div_pow]
    show (7 + 16 * q.2.2.1 + 1048576 * mk) / 1048576 = mk
    omega
  rw [e2] at q3
  obtain ⟨t7, tcn⟩ := zx_hd7 ((zx_beq_t q2).trans e1) hx
  obtain ⟨ee, h4, h5⟩ := zx_HR_get hH g1 h3 (by omega)
  obtain ⟨fs, rc, rfl, h6, h7, h8⟩ := (zx_c7 t7).mp h5
  rw [tcn] at h6
  rw [tcn] at h4
  have hci := zx_ci_of h6
  have hrm := List.mem_of_getElem? h6
  rw [hci] at hy hfin hmk
  have hlt : q.2.2.2.1 < fs.length := by rw [h7]; exact hy
  obtain ⟨ty1, ty2, ty3⟩ := zx_cl_ty hrm
  obtain ⟨hnr, hft⟩ := zx_put_ty (ty2 _ hy) (by rw [hmk]; exact zx_kp_of q3 h0)
  have hlink : (Cond.fieldLink (zx_on1 M.2.1.1) i (rc.2.1 q.2.2.2.1).1 (rc.2.1 q.2.2.2.1).2.1 (rc.2.1 q.2.2.2.1).2.2.1).before args s = true := by
    have := hts _ (zx_inF hq)
    rw [zx_fw_of hx hci, ho, hi] at this
    exact this
  have hhd := zx_hd_tg (zx_os_hd k q.2.2.2.1 v')
  have key : ∀ (H1 : Heap) (locs1 : List Loc), va_P D vwCl (ws.set (r / 16) (ad, .inr (q.2.2.1, fs.set q.2.2.2.1 xv))) H1 → va_D (zx_A N0) (ws.set (r / 16) (ad, .inr (q.2.2.1, fs.set q.2.2.2.1 xv))) → va_S (zx_A N0) s.heap H1 locs1 → W p l en R s m args below meth c H1 locs1 ce sl Q (F0 m (pc + 3) ls rs) := by
    intro H1 locs1 hP1 hD1 hS1
    have hcr : zx_cr (ws.map (fun w => w.1)) ex nu tys (zx_os k q.2.2.2.1 v') (.inr (q.2.2.1, fs.set q.2.2.2.1 xv)) := by
      refine (zx_c7 (by rw [show zx_os k q.2.2.2.1 v' % 16 = k % 16 from hhd.1]; exact t7)).mpr ⟨fs.set q.2.2.2.1 xv, rc, by rw [hhd.2, tcn], by rw [hhd.2, tcn]; exact h6, by rw [List.length_set]; exact h7, fun j w hw => ?_⟩
      by_cases hj : j = q.2.2.2.1
      · subst hj
        rw [List.getElem?_set_self hlt] at hw
        cases hw
        rw [show zx_og (zx_os k q.2.2.2.1 v') q.2.2.2.1 = v' from zx_sd_same (by decide) _ _ _ h0'.1]
        exact h0'
      · rw [List.getElem?_set_ne (Ne.symm hj)] at hw
        rw [show zx_og (zx_os k q.2.2.2.1 v') j = zx_og k j from zx_sd_other (by decide) _ _ _ _ h0'.1 hj]
        exact h8 j w hw
    obtain ⟨hW1, ha⟩ := zx_Wd_set (i := r / 16) ⟨hK, hP, hD, hn', hH, hp⟩ h4 g2 g3 hcr hP1 hD1
    exact hN _ _ _ _ _ _ _ _ _ hv hk _ _ _ _ ⟨tys, _, hW1, hS1, hl, by rw [ha]; exact hL, by rw [ha]; exact h2, hE⟩
  by_cases hf : (rc.2.1 q.2.2.2.1).2.2.2 = false
  · exact va_put (own := zx_on1 M.2.1.1) (ref := (rc.2.1 q.2.2.2.1).1) hx0 hb hts (zx_cl_ws hrm) (zx_fty rc) ty1 ty3 hown hK hP hD hS (r / 16) h4 h6 q.2.2.2.1 hy hlink (fun _ z => z) hf (ty1 _ hy) hnr hft hlt hd key
  · rcases hfin with z | ⟨z1, z2⟩
    · exact absurd z hf
    · exact va_putF (own := zx_on1 M.2.1.1) (ref := (rc.2.1 q.2.2.2.1).1) hx0 hb hts (zx_cl_ws hrm) (zx_fty rc) ty1 ty3 hown hK hP hD hS (r / 16) h4 h6 q.2.2.2.1 hy hlink (fun _ z => z) (by simpa using hf) (hini z1) z2 (ty1 _ hy) hnr hft hlt hd key
theorem zs_str {q : zx_Q} {i a : Nat} (hC : zx_Cx p R s m args meth c M d N0 ex nu) (hq : q ∈ zx_FL) (ho : q.1 = M.2.1.1) (hi : q.2.1 = i) (hx : q.2.2.1 = 100 + a) (ha : a < 2) (hd : decode M.1.2.1 pc = .ok (.getfield i, 3)) (hN : zx_Nx p l en R s m args below meth c Q D N0 ex nu ad0 M nx) (hv : ∀ q ∈ cur, zx_ve M q) (hR : zx_Rl D N0 ex nu ad0 M s row st h e hn ls vs H locs) (hk : zh_str nx a (pc + 3) cur row st h e hn ce sl = true) :
    W p l en R s m args below meth c H locs ce sl Q (F0 m pc ls vs) := by
  obtain ⟨hx0, hb, hml, hown, hts, hini, hN0, hX, -⟩ := hC
  unfold zh_str at hk
  obtain ⟨r, st, rfl, hk⟩ := zx_p1_s hk
  obtain ⟨q1, hk⟩ := zx_bft hk
  obtain ⟨tys, ws, hW, hS, hl, hL, hT, hE⟩ := hR
  obtain ⟨x, rs, rfl, h1, h2⟩ := zx_SR1 hT
  have hlink := hts _ (zx_inF hq)
  unfold zx_fw at hlink
  rw [hx, ho, hi] at hlink
  obtain ⟨b, n, w, hbx, hTx, rfl⟩ : ∃ b n w, (∀ ads : List Nat, zx_r ads ex nu (r + 16) (.ref b)) ∧ zx_Tx N0 (ex (r / 16)) b n w s s.heap ∧ x = .ref (ex (r / 16)) := by
    rcases (Bool.or_eq_true _ _).mp q1 with z | z <;> have z := zx_beq_t z <;> subst z
    · exact ⟨ex 2, 125, zx_words, fun ads => (zx_r6 (by decide)).mpr ⟨by decide, rfl⟩, hX.2.2.1, ((zx_r6 (by decide)).mp h1).2⟩
    · exact ⟨ex 4, 11, zx_signs, fun ads => (zx_r6 (by decide)).mpr ⟨by decide, rfl⟩, hX.2.2.2.1, ((zx_r6 (by decide)).mp h1).2⟩
  match a, ha with
  | 0, _ =>
    refine vk_getf (own := zx_on1 M.2.1.1) (ref := "java/lang/String") hx0 hb hTx.2.2.1 hS hown hlink (fun _ z => z) hd ?_
    exact hN _ _ _ _ _ _ _ _ _ hv hk _ _ _ _ ⟨tys, ws, hW, hS, hl, hL, ⟨hbx _, h2⟩, hE⟩
  | 1, _ =>
    refine vk_getf (own := zx_on1 M.2.1.1) (ref := "java/lang/String") hx0 hb hTx.2.1 hS hown hlink (fun _ z => z) hd ?_
    exact hN _ _ _ _ _ _ _ _ _ hv hk _ _ _ _ ⟨tys, ws, hW, hS, hl, hL, ⟨zx_r_0, h2⟩, hE⟩
end ZM
end
section
/-! one step: new objects and arrays -/
theorem zx_flag {nu : Nat → Int32} {e : Nat} (he : zx_ev nu e) (h : Nat.beq (zx_eg e 63) 9223372043297226753 = true) : nu 63 = 1 := by
  have h := zx_beq_t h
  rcases he 63 with q | q
  · rw [h] at q; cases q
  · rw [h] at q
    have h1 : zx_bz (nu 63) = 2147483649 := by omega
    rw [zx_eq', h1]
    decide
theorem zx_mem_at {tys : List (ClassId × FieldType)} {x : ClassId × FieldType} (h : x ∈ tys) : ∃ k : Nat, tys[k]? = some x := List.getElem?_of_mem h
theorem zx_nr_bool (v : Nat) : vp_nar .boolean (nI v) = nI (v % 2) := by
  show nI v &&& 1 = nI (v % 2)
  rw [show (1 : Int32) = nI 1 from rfl, zx_and', Nat.and_one_is_mod]
theorem zx_cn_lt (c : Nat) : zx_cn c < 65536 := by
  show c % 1048576 / 16 < 65536
  omega
section ZA
variable {p : Program} {l : Launch} {en : Env} {R : Room} {s : State} {m : MethodId} {args : Array Value} {below : List Frame} {meth : Method} {c : Code} {Q : State → Prop} {D : va_G} {N0 : Nat} {ex : Nat → Nat} {nu : Nat → Int32} {ad0 : List Nat} {M : zx_M} {d : Nat} {nx : zx_N} {cur cur0 : List zx_E} {pc row : Nat} {st : List Nat} {h : zx_H} {e hn ce sl : Nat} {ls : Array Slot} {vs : List Value} {H : Heap} {locs : List Loc}
theorem zx_mk_s {k n np : Nat} {st : List Nat} (hk : zx_mk M nx np cur row h e hn ce sl k n st = true) : hn < 65536 ∧ ce + 1 ≤ M.2.1.2.2.2.1 ∧ sl + n ≤ M.2.1.2.2.2.2.1 ∧ ∃ h', nx cur np row ((hn * 16 + 2) :: st) h' e (hn + 1) (ce + 1) (sl + n) = true ∧ zx_hG h' hn = some k ∧ ∀ j, j ≠ hn → zx_hG h' j = zx_hG h j := by
  unfold zx_mk at hk
  obtain ⟨q, hk⟩ := zx_bft hk
  obtain ⟨q1, q2⟩ := zx_and_b q
  obtain ⟨q2, q3⟩ := zx_and_b q2
  obtain ⟨h', hk, g1, g2⟩ := zx_hs_s hk
  rw [zx_fn_eq, zx_fn_eq, zx_fn_eq, zx_fn_eq] at hk
  exact ⟨zx_blt_t q1, zx_ble_t q2, zx_ble_t q3, h', hk, g1, g2⟩
theorem zx_Wd_push {U : State} {h h' : zx_H} {H1 : Heap} {tys tys' : List (ClassId × FieldType)} {ws : va_W} {a k : Nat} {e1 : va_E} (hW : zx_Wd D N0 ex nu ad0 U H h hn tys ws) (hlt : hn < 65536) (g2 : zx_hG h' hn = some k) (g3 : ∀ j, j ≠ hn → zx_hG h' j = zx_hG h j) (ht : ∀ x ∈ tys, x ∈ tys') (hK1 : va_K D vwCl tys' U) (hc : zx_cr ((ws ++ [(a, e1)]).map (fun w => w.1)) ex nu tys' k e1) (hP1 : va_P D vwCl (ws ++ [(a, e1)]) H1) (hD1 : va_D (zx_A N0) (ws ++ [(a, e1)])) :
    zx_Wd D N0 ex nu ad0 U H1 h' (hn + 1) tys' (ws ++ [(a, e1)]) ∧ (∀ (i q : Nat), (ws.map (fun w => w.1))[i]? = some q → ((ws ++ [(a, e1)]).map (fun w => w.1))[i]? = some q) ∧ zx_r ((ws ++ [(a, e1)]).map (fun w => w.1)) ex nu (hn * 16 + 2) (.ref a) := by
  obtain ⟨hK, hP, hD, hn', hH, hp⟩ := hW
  have ha := zx_ads_app ws (a, e1)
  refine ⟨⟨hK1, hP1, hD1, by rw [List.length_append, hn']; rfl, zx_HR_push hH hn' g2 g3 ht hc, fun i q hq => ha i q (hp i q hq)⟩, ha, ?_⟩
  rw [zx_r2 (by omega)]
  refine ⟨by omega, a, ?_, rfl⟩
  rw [show (hn * 16 + 2) / 16 = hn by omega, List.map_append, List.getElem?_append_right (by rw [List.length_map]; omega), List.length_map, hn', Nat.sub_self]
  rfl
theorem zs_new {q : zx_Q} {i : Nat} (hC : zx_Cx p R s m args meth c M d N0 ex nu) (hq : q ∈ zx_CL) (ho : q.1 = M.2.1.1) (hi : q.2.1 = i) (hx : q.2.2.1 < 13) (hd : decode M.1.2.1 pc = .ok (.new i, 3)) (hN : zx_Nx p l en R s m args below meth c Q D N0 ex nu ad0 M nx) (hv : ∀ q ∈ cur, zx_ve M q) (hR : zx_Rl D N0 ex nu ad0 M s row st h e hn ls vs H locs) (hk : zh_new M nx (zx_nc.getD q.2.2.1 0) (zx_ci q.2.2.1).2.2 (pc + 3) cur row st h e hn ce sl = true) :
    W p l en R s m args below meth c H locs ce sl Q (F0 m pc ls vs) := by
  obtain ⟨hx0, hb, hml, hown, hts, -, hN0, -, ⟨-, -, hrc, hrs⟩, -⟩ := hC
  obtain ⟨hlt, k1, k2, h', hk, g1, g2⟩ := zx_mk_s hk
  obtain ⟨tys, ws, hW, hS, hl, hL, hT, hE⟩ := hR
  obtain ⟨hK, hP, hD, hn', hH, hp⟩ := hW
  have hci := zx_ci_in hx
  have hrm := List.mem_of_getElem? hci
  obtain ⟨ty1, ty2, ty3⟩ := zx_cl_ty hrm
  have hlink : (Cond.classLink (zx_on1 M.2.1.1) i (zx_ci q.2.2.1).1).before args s = true := by
    have := hts _ (zx_inC hq)
    unfold zx_cw at this
    rw [ho, hi] at this
    exact this
  have hnc := List.all_eq_true.mp zx_nc_ok q.2.2.1 (List.mem_range.mpr hx)
  obtain ⟨hnc1, hnc2⟩ := zx_and_b hnc
  obtain ⟨t7, tcn⟩ := zx_hd7 (zx_beq_t hnc1) (by omega)
  refine va_new (own := zx_on1 M.2.1.1) (T := (zx_ci q.2.2.1).2.1) (N := (zx_ci q.2.2.1).2.2) (fs := (List.range (zx_ci q.2.2.1).2.2).map (fun j => defaultValue (zx_fty (zx_ci q.2.2.1) j))) hx0 hb hts (zx_cl_ws hrm) (zx_fty (zx_ci q.2.2.1)) ty1 hown hlink (hts _ (zx_inL hrm List.mem_cons_self)) (hts _ (zx_inL hrm (List.mem_cons_of_mem _ List.mem_cons_self))) hK hP hD hS (fun q hq => Nat.le_trans hN0 hq) hci ?_ (Nat.le_trans k1 hrc) (Nat.le_trans k2 hrs) hd ?_
  · intro j hj
    unfold vp_V
    rw [List.getD_eq_getElem?_getD, List.getElem?_map, List.getElem?_range hj]
    rfl
  · intro a H1 hP1 hD1 hS1
    obtain ⟨hW1, ha, hr⟩ := zx_Wd_push (tys' := tys) ⟨hK, hP, hD, hn', hH, hp⟩ hlt g1 g2 (fun _ z => z) hK ((zx_c7 t7).mpr ⟨_, zx_ci q.2.2.1, by rw [tcn], by rw [tcn]; exact hci, by rw [List.length_map, List.length_range], fun k v hkv => by
      rw [List.getElem?_map] at hkv
      by_cases hkl : k < (zx_ci q.2.2.1).2.2
      · rw [List.getElem?_range hkl] at hkv
        have hkv : defaultValue (zx_fty (zx_ci q.2.2.1) k) = v := Option.some.inj hkv
        rw [← hkv, zx_beq_t (List.all_eq_true.mp hnc2 k (List.mem_range.mpr hkl))]
        have hty := ty2 k hkl
        unfold zx_tyk at hty
        unfold zx_df
        split at hty
        · rename_i hd1
          rw [if_pos hd1, of_decide_eq_true hty]
          exact zx_r_0
        · rename_i hd1
          rw [if_neg hd1]
          split at hty
          · rename_i hd2
            rw [if_pos hd2, of_decide_eq_true hty]
            exact zx_r_l 0
          · rename_i hd2
            rw [if_neg hd2]
            cases hf : zx_fty (zx_ci q.2.2.1) k with
            | object n => exact (zx_r3 (by decide)).mpr ⟨by decide, rfl⟩
            | array n => exact (zx_r3 (by decide)).mpr ⟨by decide, rfl⟩
            | _ => rw [hf] at hty; cases hty
      · rw [List.getElem?_eq_none (by rw [List.length_range]; omega)] at hkv
        cases hkv⟩) hP1 hD1
    exact hN _ _ _ _ _ _ _ _ _ hv hk _ _ _ _ ⟨tys, _, hW1, hS1, hl, zx_LR_mono ha hL, ⟨hr, zx_SR_mono ha hT⟩, hE⟩
theorem zx_ig0 {t n j : Nat} (ht : t < 16) (hn : n < 65536) : zx_ig (t + n * 16) j = 0 := by
  show ((t + n * 16) >>> (20 + 32 * j)) % 4294967296 = 0
  rw [Nat.shiftRight_eq_div_pow, Nat.div_eq_of_lt, Nat.zero_mod]
  rw [Nat.pow_add]
  have : 1 ≤ 2 ^ (32 * j) := Nat.one_le_two_pow
  calc t + n * 16 < 1048576 * 1 := by omega
    _ ≤ 2 ^ 20 * 2 ^ (32 * j) := Nat.mul_le_mul (by decide) this
theorem zx_og0 {t n j : Nat} (ht : t < 16) (hn : n < 65536) : zx_og (t + n * 16) j = 0 := by
  show ((t + n * 16) >>> (20 + 72 * j)) % 4722366482869645213696 = 0
  rw [Nat.shiftRight_eq_div_pow, Nat.div_eq_of_lt, Nat.zero_mod]
  rw [Nat.pow_add]
  have : 1 ≤ 2 ^ (72 * j) := Nat.one_le_two_pow
  calc t + n * 16 < 1048576 * 1 := by omega
    _ ≤ 2 ^ 20 * 2 ^ (72 * j) := Nat.mul_le_mul (by decide) this
theorem zx_tn {t n : Nat} (ht : t < 16) (hn : n < 65536) : (t + n * 16) % 16 = t ∧ zx_cn (t + n * 16) = n := by
  refine ⟨by omega, ?_⟩
  show (t + n * 16) % 1048576 / 16 = n
  omega
/-- the number of places of a new array -/
theorem zx_arr_s {a np : Nat} (hR : zx_Rl D N0 ex nu ad0 M s row st h e hn ls vs H locs) (hk : zh_arr M nx a np cur row st h e hn ce sl = true) : ∃ (n : Nat) (st' : List Nat) (r : List Value), n < 65536 ∧ vs = .int (nI n) :: r ∧ zx_Rl D N0 ex nu ad0 M s row st' h e hn ls r H locs ∧ zx_mk M nx np cur row h e hn ce sl (a + n * 16) n st' = true := by
  unfold zh_arr at hk
  obtain ⟨v, st, rfl, hk⟩ := zx_p1_s hk
  obtain ⟨tys, ws, hW, hS, hl, hL, hT, hE⟩ := hR
  obtain ⟨x, r, rfl, h1, h2⟩ := zx_SR1 hT
  obtain ⟨v', h3, hk⟩ := zx_no_s hE h1 hk
  obtain ⟨q, hk⟩ := zx_bft hk
  obtain ⟨q1, q2⟩ := zx_and_b q
  rw [zx_fn_eq] at hk
  obtain ⟨-, h4, -⟩ := (zx_r4 (zx_beq_t q1)).mp h3
  subst h4
  exact ⟨v' / 16, st, r, zx_blt_t q2, rfl, ⟨tys, ws, hW, hS, hl, hL, h2, hE⟩, hk⟩
theorem zs_arr {t : ArrayType} {k : Nat} (ht : (t = .int ∧ k = 0) ∨ (t = .byte ∧ k = 1) ∨ (t = .boolean ∧ k = 2) ∨ (t = .long ∧ k = 6)) (hC : zx_Cx p R s m args meth c M d N0 ex nu) (hd : decode M.1.2.1 pc = .ok (.newarray t, 2)) (hN : zx_Nx p l en R s m args below meth c Q D N0 ex nu ad0 M nx) (hv : ∀ q ∈ cur, zx_ve M q) (hR : zx_Rl D N0 ex nu ad0 M s row st h e hn ls vs H locs) (hk : zh_arr M nx k (pc + 2) cur row st h e hn ce sl = true) :
    W p l en R s m args below meth c H locs ce sl Q (F0 m pc ls vs) := by
  obtain ⟨hx0, hb, hml, hown, hts, -, hN0, -, ⟨-, -, hrc, hrs⟩, -⟩ := hC
  obtain ⟨n, st, r, hn16, rfl, hR, hk⟩ := zx_arr_s hR hk
  obtain ⟨hlt, k1, k2, h', hk, g1, g2⟩ := zx_mk_s hk
  obtain ⟨tys, ws, hW, hS, hl, hL, hT, hE⟩ := hR
  obtain ⟨hK, hP, hD, hn', hH, hp⟩ := hW
  have hno : ¬ (nI n) < 0 := nI_pos (by omega)
  have hcl : (nI n).toNatClampNeg = n := nI_clamp (by omega)
  have fin : ∀ (ty : FieldType) (a0 : vp_A) (cA : ClassId) (q : Nat) (H1 : Heap), (∀ ads : List Nat, zx_cr ads ex nu (tys ++ [(cA, ty)]) (k + n * 16) (.inl (cA, a0))) → va_K D vwCl (tys ++ [(cA, ty)]) s → va_P D vwCl (ws ++ [(q, .inl (cA, a0))]) H1 → va_D (zx_A N0) (ws ++ [(q, .inl (cA, a0))]) → va_S (zx_A N0) s.heap H1 locs → W p l en R s m args below meth c H1 locs (ce + 1) (sl + n) Q (F0 m (pc + 2) ls (.ref q :: r)) := by
    intro ty a0 cA q H1 hcr hK1 hP1 hD1 hS1
    obtain ⟨hW1, ha, hr⟩ := zx_Wd_push (tys' := tys ++ [(cA, ty)]) ⟨hK, hP, hD, hn', hH, hp⟩ hlt g1 g2 (fun _ z => List.mem_append_left _ z) hK1 (hcr _) hP1 hD1
    exact hN _ _ _ _ _ _ _ _ _ hv hk _ _ _ _ ⟨_, _, hW1, hS1, hl, zx_LR_mono ha hL, ⟨hr, zx_SR_mono ha hT⟩, hE⟩
  have hA : ∀ q, s.heap.size ≤ q → zx_A N0 q := fun q hq => Nat.le_trans hN0 hq
  have hw : ∀ (ty : FieldType) (i j : Nat), (i, j, Cond.arrayClass ty) ∈ zx_ow → (Cond.arrayClass ty).before args s = true := fun ty i j hm => hts _ (zx_inO hm)
  rcases ht with ⟨rfl, rfl⟩ | ⟨rfl, rfl⟩ | ⟨rfl, rfl⟩ | ⟨rfl, rfl⟩
  · refine va_newa (atype := .int) (ty := .int) (a0 := (n, .inl (fun _ => 0))) hx0 hb (hts _ (zx_inO (List.mem_of_getElem? (i := 5) rfl))) rfl hK hP hD hS hA (fun _ => rfl) hno hcl (by show n * 4 ≤ _; omega) (Nat.le_trans k1 hrc) (Nat.le_trans k2 hrs) hd (fun q cA H1 hK1 hP1 hD1 hS1 => fin _ _ cA q H1 (fun ads => ?_) hK1 hP1 hD1 hS1)
    obtain ⟨e1, e2⟩ := zx_tn (t := 0) (by decide) hn16
    exact (zx_ck e1 (by decide)).mpr ⟨cA, _, List.mem_append_right _ List.mem_cons_self, by rw [e2], fun j _ => by rw [zx_ig0 (by decide) hn16]; exact nI_0.symm⟩
  · refine va_newa (atype := .byte) (ty := .byte) (a0 := (n, .inl (fun _ => 0))) hx0 hb (hts _ (zx_inO (List.mem_of_getElem? (i := 6) rfl))) rfl hK hP hD hS hA (fun _ => rfl) hno hcl (by show n * 1 ≤ _; omega) (Nat.le_trans k1 hrc) (Nat.le_trans k2 hrs) hd (fun q cA H1 hK1 hP1 hD1 hS1 => fin _ _ cA q H1 (fun ads => ?_) hK1 hP1 hD1 hS1)
    obtain ⟨e1, e2⟩ := zx_tn (t := 1) (by decide) hn16
    exact (zx_ck e1 (by decide)).mpr ⟨cA, _, List.mem_append_right _ List.mem_cons_self, by rw [e2], fun j _ => by rw [zx_ig0 (by decide) hn16]; exact nI_0.symm⟩
  · refine va_newa (atype := .boolean) (ty := .boolean) (a0 := (n, .inl (fun _ => 0))) hx0 hb (hts _ (zx_inO (List.mem_of_getElem? (i := 7) rfl))) rfl hK hP hD hS hA (fun _ => rfl) hno hcl (by show n * 1 ≤ _; omega) (Nat.le_trans k1 hrc) (Nat.le_trans k2 hrs) hd (fun q cA H1 hK1 hP1 hD1 hS1 => fin _ _ cA q H1 (fun ads => ?_) hK1 hP1 hD1 hS1)
    obtain ⟨e1, e2⟩ := zx_tn (t := 2) (by decide) hn16
    exact (zx_ck e1 (by decide)).mpr ⟨cA, _, List.mem_append_right _ List.mem_cons_self, by rw [e2], fun j _ => by rw [zx_ig0 (by decide) hn16]; exact nI_0.symm⟩
  · refine va_newa (atype := .long) (ty := .long) (a0 := (n, .inr (.inl (fun _ => 0)))) hx0 hb (hts _ (zx_inO (List.mem_of_getElem? (i := 8) rfl))) rfl hK hP hD hS hA (fun _ => rfl) hno hcl (by show n * 8 ≤ _; omega) (Nat.le_trans k1 hrc) (Nat.le_trans k2 hrs) hd (fun q cA H1 hK1 hP1 hD1 hS1 => fin _ _ cA q H1 (fun ads => ?_) hK1 hP1 hD1 hS1)
    obtain ⟨e1, e2⟩ := zx_tn (t := 6) (by decide) hn16
    exact (zx_c6 e1).mpr ⟨cA, _, List.mem_append_right _ List.mem_cons_self, by rw [e2]⟩
theorem zs_anew {q : zx_Q} {i : Nat} (hC : zx_Cx p R s m args meth c M d N0 ex nu) (hq : q ∈ zx_CL) (ho : q.1 = M.2.1.1) (hi : q.2.1 = i) (hx : q.2.2.1 = 8) (hd : decode M.1.2.1 pc = .ok (.anewarray i, 3)) (hN : zx_Nx p l en R s m args below meth c Q D N0 ex nu ad0 M nx) (hv : ∀ q ∈ cur, zx_ve M q) (hR : zx_Rl D N0 ex nu ad0 M s row st h e hn ls vs H locs) (hk : zh_arr M nx 8 (pc + 3) cur row st h e hn ce sl = true) :
    W p l en R s m args below meth c H locs ce sl Q (F0 m pc ls vs) := by
  obtain ⟨hx0, hb, hml, hown, hts, -, hN0, hX, ⟨-, -, hrc, hrs⟩, -⟩ := hC
  obtain ⟨n, st, r, hn16, rfl, hR, hk⟩ := zx_arr_s hR hk
  obtain ⟨hlt, k1, k2, h', hk, g1, g2⟩ := zx_mk_s hk
  obtain ⟨tys, ws, hW, hS, hl, hL, hT, hE⟩ := hR
  obtain ⟨hK, hP, hD, hn', hH, hp⟩ := hW
  have hlink : (Cond.classLink (zx_on1 M.2.1.1) i RX8).before args s = true := by
    have := hts _ (zx_inC hq)
    unfold zx_cw at this
    rw [ho, hi, hx] at this
    exact this
  refine va_newq (own := zx_on1 M.2.1.1) hx0 hb hown hlink hX.2.2.2.2.2.2.2.1 hK hP hD hS (fun q hq => Nat.le_trans hN0 hq) (nI_pos (by omega)) (nI_clamp (by omega)) (by omega) (Nat.le_trans k1 hrc) (Nat.le_trans k2 hrs) hd (fun a cA H1 hK1 hP1 hD1 hS1 => ?_)
  obtain ⟨e1, e2⟩ := zx_tn (t := 8) (by decide) hn16
  obtain ⟨hW1, ha, hr⟩ := zx_Wd_push (tys' := tys ++ [(cA, .object RX8)]) ⟨hK, hP, hD, hn', hH, hp⟩ hlt g1 g2 (fun _ z => List.mem_append_left _ z) hK1 ((zx_c8 e1).mpr ⟨cA, _, List.mem_append_right _ List.mem_cons_self, by rw [e2], fun j _ => Or.inl ⟨zx_og0 (by decide) hn16, rfl⟩⟩) hP1 hD1
  exact hN _ _ _ _ _ _ _ _ _ hv hk _ _ _ _ ⟨_, _, hW1, hS1, hl, zx_LR_mono ha hL, ⟨hr, zx_SR_mono ha hT⟩, hE⟩
end ZA
end
section
/-! one step: cells of arrays -/
section ZB
variable {p : Program} {l : Launch} {en : Env} {R : Room} {s : State} {m : MethodId} {args : Array Value} {below : List Frame} {meth : Method} {c : Code} {Q : State → Prop} {D : va_G} {N0 : Nat} {ex : Nat → Nat} {nu : Nat → Int32} {ad0 : List Nat} {M : zx_M} {d : Nat} {nx : zx_N} {cur cur0 : List zx_E} {pc row : Nat} {st : List Nat} {h : zx_H} {e hn ce sl : Nat} {ls : Array Slot} {vs : List Value} {H : Heap} {locs : List Loc}
theorem zx_cr_arr {ads : List Nat} {tys : List (ClassId × FieldType)} {k : Nat} {e : va_E} (hc : zx_cr ads ex nu tys k e) (h7 : k % 16 ≠ 7) : ∃ (cA : ClassId) (ty : FieldType) (f : (Nat → Int32) ⊕ (Nat → Int64) ⊕ (Nat → UInt32) ⊕ (Nat → UInt64) ⊕ (Nat → Option Nat)), (cA, ty) ∈ tys ∧ e = .inl (cA, zx_cn k, f) := by
  have hl := zx_cr_tg hc
  rcases (show k % 16 < 3 ∨ (3 ≤ k % 16 ∧ k % 16 < 6) ∨ k % 16 = 6 ∨ k % 16 = 8 by omega) with q | q | q | q
  · obtain ⟨cA, f, h1, h2, -⟩ := (zx_ck rfl q).mp hc
    exact ⟨cA, _, _, h1, h2⟩
  · have e1 : k % 16 = (k % 16 - 3) + 3 := by omega
    obtain ⟨cA, f, h1, h2⟩ := (zx_cu e1 (by omega)).mp hc
    exact ⟨cA, _, _, h1, h2⟩
  · obtain ⟨cA, f, h1, h2⟩ := (zx_c6 q).mp hc
    exact ⟨cA, _, _, h1, h2⟩
  · obtain ⟨cA, f, h1, h2, -⟩ := (zx_c8 q).mp hc
    exact ⟨cA, _, _, h1, h2⟩
theorem zx_cr_int {ads : List Nat} {tys : List (ClassId × FieldType)} {k : Nat} {e : va_E} (hc : zx_cr ads ex nu tys k e) (h6 : k % 16 < 6) : ∃ (cA : ClassId) (f : Nat → Int32), (cA, zx_ty (k % 16 % 3)) ∈ tys ∧ e = .inl (cA, zx_cn k, .inl f) ∧ (k % 16 < 3 → ∀ j, j < zx_cn k → f j = nI (zx_ig k j)) := by
  rcases (show k % 16 < 3 ∨ (3 ≤ k % 16 ∧ k % 16 < 6) by omega) with q | q
  · obtain ⟨cA, f, h1, h2, h3⟩ := (zx_ck rfl q).mp hc
    exact ⟨cA, f, by rw [Nat.mod_eq_of_lt q]; exact h1, h2, fun _ => h3⟩
  · have e1 : k % 16 = (k % 16 - 3) + 3 := by omega
    obtain ⟨cA, f, h1, h2⟩ := (zx_cu e1 (by omega)).mp hc
    exact ⟨cA, f, by rw [show k % 16 % 3 = k % 16 - 3 by omega]; exact h1, h2, fun z => by omega⟩
/-- a text's bytes -/
theorem zx_Tx_at (hX : zx_X ex nu N0 s s.heap) {r : Nat} (hr : (Nat.beq r 38 || Nat.beq r 70) = true) {ads : List Nat} {x : Value} (h : zx_r ads ex nu r x) : ∃ b, x = .ref b ∧ va_T .byte b (zx_xl (zx_pl r)) (fun j => .int (nI (zx_dg 0 8 256 (zx_xb (zx_pl r)) j))) (zx_A N0) s s.heap := by
  rcases (Bool.or_eq_true _ _).mp hr with z | z <;> have z := zx_beq_t z <;> subst z
  · exact ⟨ex 2, ((zx_r6 (by decide)).mp h).2, hX.2.2.1.2.2.2⟩
  · exact ⟨ex 4, ((zx_r6 (by decide)).mp h).2, hX.2.2.2.1.2.2.2⟩
theorem zs_len (hC : zx_Cx p R s m args meth c M d N0 ex nu) (hd : decode M.1.2.1 pc = .ok (.arraylength, 1)) (hN : zx_Nx p l en R s m args below meth c Q D N0 ex nu ad0 M nx) (hv : ∀ q ∈ cur, zx_ve M q) (hR : zx_Rl D N0 ex nu ad0 M s row st h e hn ls vs H locs) (hk : zh_len nx (pc + 1) cur row st h e hn ce sl = true) :
    W p l en R s m args below meth c H locs ce sl Q (F0 m pc ls vs) := by
  obtain ⟨hx0, hb, hml, hown, hts, -, hN0, hX, -⟩ := hC
  unfold zh_len at hk
  obtain ⟨r, st, rfl, hk⟩ := zx_p1_s hk
  obtain ⟨tys, ws, hW, hS, hl, hL, hT, hE⟩ := hR
  obtain ⟨x, rs, rfl, h1, h2⟩ := zx_SR1 hT
  rcases zx_bif hk with ⟨q1, hk⟩ | ⟨-, hk⟩
  · obtain ⟨k, g1, hk⟩ := zx_hg_s hk
    rcases zx_bif hk with ⟨-, hk⟩ | ⟨q2, hk⟩
    · cases hk
    rw [zx_fn_eq] at hk
    obtain ⟨q2, q3⟩ := (Bool.or_eq_false_iff).mp q2
    have q2 : k % 16 ≠ 7 := zx_beq_f q2
    have q3 : k % 16 < 9 := zx_ble_f q3
    obtain ⟨ad, h3, rfl⟩ := zx_ref2 h1 q1
    obtain ⟨hK, hP, hD, hn', hH, hp⟩ := hW
    obtain ⟨ee, h4, h5⟩ := zx_HR_get hH g1 h3 (by omega)
    obtain ⟨cA, ty, f, h6, rfl⟩ := zx_cr_arr h5 q2
    obtain ⟨t0, h7⟩ := zx_mem_at h6
    refine va_alen hx0 hb hK hP (r / 16) t0 h4 h7 rfl hd ?_
    exact hN _ _ _ _ _ _ _ _ _ hv hk _ _ _ _ ⟨tys, ws, ⟨hK, hP, hD, hn', hH, hp⟩, hS, hl, hL, ⟨zx_r_c (by have := zx_cn_lt k; omega), h2⟩, hE⟩
  rcases zx_bif hk with ⟨q1, hk2⟩ | ⟨-, hk⟩
  · obtain ⟨q1, q2⟩ := zx_and_b q1
    have q1 := zx_beq_t q1
    subst q1
    obtain ⟨hXs, hlt⟩ := hX.2.2.2.2.2.2.1 (zx_flag hE q2)
    obtain ⟨-, h3⟩ := (zx_r6 (by decide)).mp h1
    subst h3
    refine va_slen hx0 hb hXs (Nat.lt_of_lt_of_le hlt hN0) (by show ¬ N0 ≤ _; exact Nat.not_le.mpr hlt) hS hd ?_
    exact hN _ _ _ _ _ _ _ _ _ hv hk2 _ _ _ _ ⟨tys, ws, hW, hS, hl, hL, ⟨zx_r_c (n := 6) (by decide), h2⟩, hE⟩
  obtain ⟨q1, hk⟩ := zx_bft hk
  rw [zx_fn_eq] at hk
  obtain ⟨b, rfl, hTt⟩ := zx_Tx_at hX q1 h1
  refine va_tlen hx0 hb hTt hS rfl hd ?_
  refine hN _ _ _ _ _ _ _ _ _ hv hk _ _ _ _ ⟨tys, ws, hW, hS, hl, hL, ⟨zx_r_c ?_, h2⟩, hE⟩
  rcases (Bool.or_eq_true _ _).mp q1 with z | z <;> have z := zx_beq_t z <;> subst z <;> decide
/-- the machine reads a place -/
theorem zx_ldrow {ins : Instr} {t q0 a n : Nat} {tys : List (ClassId × FieldType)} {ws : va_W} {cA : ClassId} {f : Nat → Int32} {i : Int32} {rs : List Value} (hx0 : p.tables.exec = Jvm.exec) (hb : c.code = M.1.2.1) (hi : (t = 0 ∧ ins = .iaload) ∨ ((t = 1 ∨ t = 2) ∧ ins = .baload)) (hK : va_K D vwCl tys s) (hP : va_P D vwCl ws H) (ha : ws[q0]? = some (a, .inl (cA, n, .inl f))) (ht : (cA, zx_ty t) ∈ tys) (hin : vp_in i n) (hd : decode M.1.2.1 pc = .ok (ins, 1))
    (kk : W p l en R s m args below meth c H locs ce sl Q (F0 m (pc + 1) ls (.int (f i.toNatClampNeg) :: rs))) : W p l en R s m args below meth c H locs ce sl Q (F0 m pc ls (.int i :: .ref a :: rs)) := by
  obtain ⟨t0, h7⟩ := zx_mem_at ht
  rcases hi with ⟨rfl, rfl⟩ | ⟨rfl | rfl, rfl⟩
  · exact va_iald hx0 hb hK hP q0 t0 ha h7 hin hd kk
  · exact va_bald hx0 hb hK hP q0 t0 ha h7 hin hd kk
  · exact va_zald hx0 hb hK hP q0 t0 ha h7 hin hd kk
theorem zx_tags {a k : Nat} {iv ib : Instr} {ins : Instr} (ha : (a = 9 ∧ ins = iv) ∨ (a = 54 ∧ ins = ib)) (h : zx_kc a (zx_tg k) = true) : k % 16 < 6 ∧ ((k % 16 % 3 = 0 ∧ ins = iv) ∨ ((k % 16 % 3 = 1 ∨ k % 16 % 3 = 2) ∧ ins = ib)) := by
  have e1 : zx_tg k % 16 = k % 16 := by show k % 16 % 16 = k % 16; omega
  rcases ha with ⟨rfl, rfl⟩ | ⟨rfl, rfl⟩
  · rcases zx_kc9 h with q | q <;> rw [e1] at q <;> exact ⟨by omega, Or.inl ⟨by omega, rfl⟩⟩
  · rcases zx_kc54 h with q | q | q | q <;> rw [e1] at q <;> exact ⟨by omega, Or.inr ⟨by omega, rfl⟩⟩
theorem zs_ald {a : Nat} {ins : Instr} (ha : (a = 9 ∧ ins = .iaload) ∨ (a = 54 ∧ ins = .baload)) (hC : zx_Cx p R s m args meth c M d N0 ex nu) (hd : decode M.1.2.1 pc = .ok (ins, 1)) (hN : zx_Nx p l en R s m args below meth c Q D N0 ex nu ad0 M nx) (hv0 : ∀ q ∈ cur0, zx_ve M q) (hv : ∀ q ∈ cur, zx_ve M q) (hR : zx_Rl D N0 ex nu ad0 M s row st h e hn ls vs H locs) (hk : zh_ald nx a (pc + 1) cur0 cur pc row st h e hn ce sl = true) :
    W p l en R s m args below meth c H locs ce sl Q (F0 m pc ls vs) := by
  obtain ⟨hx0, hb, hml, hown, hts, -, hN0, hX, -⟩ := hC
  unfold zh_ald at hk
  obtain ⟨i0, r, st', rfl, hk⟩ := zx_p2_s hk
  obtain ⟨qi, hk⟩ := zx_bft hk
  obtain ⟨tys, ws, hW, hS, hl, hL, hT, hE⟩ := hR
  obtain ⟨xi, x, rs, rfl, h0, h1, h2⟩ := zx_SR2 hT
  obtain ⟨xi, rfl⟩ := zx_r_i qi h0
  obtain ⟨i, hi, hk⟩ := zx_no_s hE h0 hk
  rcases zx_bif hk with ⟨q1, hk⟩ | ⟨-, hk⟩
  · obtain ⟨k, g1, hk⟩ := zx_hg_s hk
    obtain ⟨q2, hk⟩ := zx_bft hk
    obtain ⟨t6, hins⟩ := zx_tags ha q2
    obtain ⟨ad, h3, rfl⟩ := zx_ref2 h1 q1
    obtain ⟨hK, hP, hD, hn', hH, hp⟩ := hW
    obtain ⟨ee, h4, h5⟩ := zx_HR_get hH g1 h3 (by omega)
    obtain ⟨cA, f, h6, rfl, h7⟩ := zx_cr_int h5 t6
    rcases zx_bif hk with ⟨q3, hk⟩ | ⟨-, hk⟩
    · obtain ⟨q3, q4⟩ := zx_and_b q3
      obtain ⟨q4, q5⟩ := zx_and_b q4
      have q4 : i / 16 < zx_cn k := zx_blt_t q4
      have q5 : k % 16 < 3 := zx_blt_t q5
      rw [zx_fn_eq] at hk
      obtain ⟨-, h8, h9⟩ := (zx_r4 (zx_beq_t q3)).mp hi
      cases h8
      have hcn := zx_cn_lt k
      refine zx_ldrow hx0 hb hins hK hP h4 h6 (vp_in_nI q4 (by omega)) hd ?_
      rw [nI_clamp (by omega), h7 q5 _ q4]
      exact hN _ _ _ _ _ _ _ _ _ hv hk _ _ _ _ ⟨tys, ws, ⟨hK, hP, hD, hn', hH, hp⟩, hS, hl, hL, ⟨zx_r_c (zx_dg_lt (by decide)), h2⟩, hE⟩
    rcases zx_bif hk with ⟨q3, hk⟩ | ⟨-, hk⟩
    · obtain ⟨e', hE', hk⟩ := zx_sp_s hE hi hk
      exact hN _ _ _ _ _ _ _ _ _ hv0 hk _ _ _ _ ⟨tys, ws, ⟨hK, hP, hD, hn', hH, hp⟩, hS, hl, hL, hT, hE'⟩
    · obtain ⟨q3, hk⟩ := zx_bft hk
      refine zx_ldrow hx0 hb hins hK hP h4 h6 (zx_in_s hE hi q3) hd ?_
      exact hN _ _ _ _ _ _ _ _ _ hv hk _ _ _ _ ⟨tys, ws, ⟨hK, hP, hD, hn', hH, hp⟩, hS, hl, hL, ⟨zx_r_un _, h2⟩, hE⟩
  rcases zx_bif hk with ⟨q1, hk⟩ | ⟨-, hk⟩
  · obtain ⟨q1, q2⟩ := zx_and_b q1
    have q1 := zx_beq_t q1
    obtain ⟨q3, hk2⟩ := zx_bft hk
    obtain ⟨q3, q4⟩ := zx_and_b q3
    obtain ⟨q4, q5⟩ := zx_and_b q4
    rw [zx_fn_eq] at hk2
    obtain ⟨hXs, hlt⟩ := hX.2.2.2.2.2.2.1 (zx_flag hE q2)
    rw [q1] at h1
    obtain ⟨-, h3⟩ := (zx_r6 (by decide)).mp h1
    have h3 : x = .ref (ex 0) := h3
    subst h3
    obtain ⟨-, h8, h9⟩ := (zx_r4 (zx_beq_t q4)).mp hi
    cases h8
    have q5 : i / 16 < 6 := zx_blt_t q5
    rcases ha with ⟨rfl, rfl⟩ | ⟨rfl, rfl⟩
    · refine va_sld hx0 hb hXs (Nat.lt_of_lt_of_le hlt hN0) (by show ¬ N0 ≤ _; exact Nat.not_le.mpr hlt) hS (vp_in_nI q5 (by decide)) hd ?_
      rw [nI_clamp (by omega)]
      refine hN _ _ _ _ _ _ _ _ _ hv hk2 _ _ _ _ ⟨tys, ws, hW, hS, hl, hL, ⟨?_, h2⟩, hE⟩
      have e1 : Nat.add (Nat.mul (zx_pl i) 16) 1 = i / 16 * 16 + 1 := rfl
      rw [e1, zx_r1 (by omega)]
      exact ⟨by omega, by rw [show (i / 16 * 16 + 1) / 16 = i / 16 by omega]⟩
    · cases q3
  obtain ⟨q1, hk⟩ := zx_bft hk
  obtain ⟨q3, hk2⟩ := zx_bft hk
  obtain ⟨q3, q4⟩ := zx_and_b q3
  obtain ⟨q4, q5⟩ := zx_and_b q4
  rw [zx_fn_eq] at hk2
  obtain ⟨b, rfl, hTt⟩ := zx_Tx_at hX q1 h1
  obtain ⟨-, h8, h9⟩ := (zx_r4 (zx_beq_t q4)).mp hi
  cases h8
  have q5 : i / 16 < zx_xl (zx_pl r) := zx_blt_t q5
  have hxl : zx_xl (zx_pl r) < 2147483648 := by
    rcases (Bool.or_eq_true _ _).mp q1 with z | z <;> have z := zx_beq_t z <;> rw [z] <;> decide
  rcases ha with ⟨rfl, rfl⟩ | ⟨rfl, rfl⟩
  · cases q3
  · refine va_tb hx0 hb hTt hS (vp_in_nI q5 (by omega)) rfl hd ?_
    rw [nI_clamp (by omega)]
    exact hN _ _ _ _ _ _ _ _ _ hv hk2 _ _ _ _ ⟨tys, ws, hW, hS, hl, hL, ⟨zx_r_c (Nat.lt_of_lt_of_le (zx_dg_lt (by decide)) (by decide)), h2⟩, hE⟩
/-- what a store leaves -/
theorem zx_nr_s {t v : Nat} (ht : t < 3) (hv : v < 4294967296) : vp_nar (zx_ty t) (nI v) = nI (zx_nr t v) ∧ zx_nr t v < 4294967296 := by
  match t, ht with
  | 0, _ => exact ⟨rfl, hv⟩
  | 1, _ => exact ⟨by show (nI v).toInt8.toInt32 = nI (zx_n8 v); exact zx_n8' v hv, zx_n8_lt v⟩
  | 2, _ => exact ⟨zx_nr_bool v, by show v % 2 < _; omega⟩
theorem zx_strow {ins : Instr} {t q0 a n : Nat} {tys : List (ClassId × FieldType)} {ws : va_W} {cA : ClassId} {f : Nat → Int32} {i x : Int32} {rs : List Value} (hx0 : p.tables.exec = Jvm.exec) (hb : c.code = M.1.2.1) (hi : (t = 0 ∧ ins = .iastore) ∨ ((t = 1 ∨ t = 2) ∧ ins = .bastore)) (hK : va_K D vwCl tys s) (hP : va_P D vwCl ws H) (hD : va_D (zx_A N0) ws) (hS : va_S (zx_A N0) s.heap H locs) (ha : ws[q0]? = some (a, .inl (cA, n, .inl f))) (ht : (cA, zx_ty t) ∈ tys) (hin : vp_in i n) (hd : decode M.1.2.1 pc = .ok (ins, 1))
    (kk : ∀ (H1 : Heap) (locs1 : List Loc), va_P D vwCl (ws.set q0 (a, .inl (cA, n, .inl (upd f i.toNatClampNeg (vp_nar (zx_ty t) x))))) H1 → va_D (zx_A N0) (ws.set q0 (a, .inl (cA, n, .inl (upd f i.toNatClampNeg (vp_nar (zx_ty t) x))))) → va_S (zx_A N0) s.heap H1 locs1 → W p l en R s m args below meth c H1 locs1 ce sl Q (F0 m (pc + 1) ls rs)) : W p l en R s m args below meth c H locs ce sl Q (F0 m pc ls (.int x :: .int i :: .ref a :: rs)) := by
  obtain ⟨t0, h7⟩ := zx_mem_at ht
  rcases hi with ⟨rfl, rfl⟩ | ⟨rfl | rfl, rfl⟩
  · exact va_iast hx0 hb hK hP hD hS q0 t0 ha h7 hin hd kk
  · exact va_bast hx0 hb hK hP hD hS q0 t0 ha h7 hin hd kk
  · exact va_zast hx0 hb hK hP hD hS q0 t0 ha h7 hin hd kk
theorem zx_uk_s {t n : Nat} (ht : t < 3) (hn : n < 65536) : zx_uk t n % 16 = t + 3 ∧ zx_cn (zx_uk t n) = n := by
  have e1 : zx_uk t n = 3 + t + (n * 16 + 4503599626321920) := rfl
  rw [e1]
  refine ⟨by omega, ?_⟩
  show (3 + t + (n * 16 + 4503599626321920)) % 1048576 / 16 = n
  omega
theorem zs_ast {a : Nat} {ins : Instr} (ha : (a = 9 ∧ ins = .iastore) ∨ (a = 54 ∧ ins = .bastore)) (hC : zx_Cx p R s m args meth c M d N0 ex nu) (hd : decode M.1.2.1 pc = .ok (ins, 1)) (hN : zx_Nx p l en R s m args below meth c Q D N0 ex nu ad0 M nx) (hv : ∀ q ∈ cur, zx_ve M q) (hR : zx_Rl D N0 ex nu ad0 M s row st h e hn ls vs H locs) (hk : zh_ast nx a (pc + 1) cur row st h e hn ce sl = true) :
    W p l en R s m args below meth c H locs ce sl Q (F0 m pc ls vs) := by
  obtain ⟨hx0, hb, hml, hown, hts, -, hN0, hX, -⟩ := hC
  unfold zh_ast at hk
  obtain ⟨v0, i0, r, st, rfl, hk⟩ := zx_p3_s hk
  obtain ⟨qq, hk⟩ := zx_bft hk
  obtain ⟨qv, qq⟩ := zx_and_b qq
  obtain ⟨qi, q1⟩ := zx_and_b qq
  obtain ⟨tys, ws, ⟨hK, hP, hD, hn', hH, hp⟩, hS, hl, hL, hT, hE⟩ := hR
  obtain ⟨xv, xi, x, rs, rfl, h00, h0, h1, h2⟩ := zx_SR3 hT
  obtain ⟨xv, rfl⟩ := zx_r_i qv h00
  obtain ⟨xi, rfl⟩ := zx_r_i qi h0
  obtain ⟨v, hv1, hk⟩ := zx_no_s hE h00 hk
  obtain ⟨i, hi, hk⟩ := zx_no_s hE h0 hk
  obtain ⟨k, g1, hk⟩ := zx_hg_s hk
  obtain ⟨q2, hk⟩ := zx_bft hk
  obtain ⟨t6, hins⟩ := zx_tags ha q2
  obtain ⟨ad, h3, rfl⟩ := zx_ref2 h1 q1
  obtain ⟨ee, h4, h5⟩ := zx_HR_get hH g1 h3 (by omega)
  obtain ⟨cA, f, h6, rfl, h7⟩ := zx_cr_int h5 t6
  have hcn := zx_cn_lt k
  rcases zx_bif hk with ⟨q3, hk⟩ | ⟨-, hk⟩
  · obtain ⟨q0, q3⟩ := zx_and_b q3
    obtain ⟨q3, q4⟩ := zx_and_b q3
    obtain ⟨q4, q5⟩ := zx_and_b q4
    have q4 : i / 16 < zx_cn k := zx_blt_t q4
    have q5 : k % 16 < 3 := zx_blt_t q5
    rw [zx_fn_eq] at hk
    obtain ⟨h', hk, g2, g3⟩ := zx_hs_s hk
    obtain ⟨-, h8, h9⟩ := (zx_r4 (zx_beq_t q3)).mp hi
    cases h8
    obtain ⟨-, h8, h10⟩ := (zx_r4 (zx_beq_t q0)).mp hv1
    cases h8
    obtain ⟨n1, n2⟩ := zx_nr_s (t := k % 16) q5 h10
    refine zx_strow hx0 hb hins hK hP hD hS h4 h6 (vp_in_nI q4 (by omega)) hd (fun H1 locs1 hP1 hD1 hS1 => ?_)
    rw [nI_clamp (by omega)] at hP1 hD1
    have hhd := zx_hd_tg (zx_is_hd k (i / 16) (zx_nr (k % 16) (v / 16)))
    have hcr : zx_cr (ws.map (fun w => w.1)) ex nu tys (zx_is k (i / 16) (zx_nr (k % 16) (v / 16))) (.inl (cA, zx_cn k, .inl (upd f (i / 16) (vp_nar (zx_ty (k % 16 % 3)) (nI (v / 16)))))) := by
      refine (zx_ck (t := k % 16) hhd.1 q5).mpr ⟨cA, _, by rw [Nat.mod_eq_of_lt q5] at h6; exact h6, by rw [hhd.2], fun j hj => ?_⟩
      rw [hhd.2] at hj
      by_cases hji : j = i / 16
      · subst hji
        rw [pk_us, show zx_ig (zx_is k (i / 16) (zx_nr (k % 16) (v / 16))) (i / 16) = zx_nr (k % 16) (v / 16) from zx_sd_same (by decide) _ _ _ n2, Nat.mod_eq_of_lt q5]
        exact n1
      · rw [pk_un hji, show zx_ig (zx_is k (i / 16) (zx_nr (k % 16) (v / 16))) j = zx_ig k j from zx_sd_other (by decide) _ _ _ _ n2 hji]
        exact h7 q5 j hj
    obtain ⟨hW1, haa⟩ := zx_Wd_set (i := r / 16) ⟨hK, hP, hD, hn', hH, hp⟩ h4 g2 g3 hcr hP1 hD1
    exact hN _ _ _ _ _ _ _ _ _ hv hk _ _ _ _ ⟨tys, _, hW1, hS1, hl, by rw [haa]; exact hL, by rw [haa]; exact h2, hE⟩
  · obtain ⟨q3, hk⟩ := zx_bft hk
    rw [zx_fn_eq] at hk
    obtain ⟨h', hk, g2, g3⟩ := zx_hs_s hk
    refine zx_strow hx0 hb hins hK hP hD hS h4 h6 (zx_in_s hE hi q3) hd (fun H1 locs1 hP1 hD1 hS1 => ?_)
    obtain ⟨u1, u2⟩ := zx_uk_s (t := k % 16 % 3) (Nat.mod_lt _ (by decide)) hcn
    obtain ⟨hW1, haa⟩ := zx_Wd_set (i := r / 16) ⟨hK, hP, hD, hn', hH, hp⟩ h4 g2 g3 ((zx_cu (t := k % 16 % 3) u1 (Nat.mod_lt _ (by decide))).mpr ⟨cA, _, h6, by rw [u2]⟩) hP1 hD1
    exact hN _ _ _ _ _ _ _ _ _ hv hk _ _ _ _ ⟨tys, _, hW1, hS1, hl, by rw [haa]; exact hL, by rw [haa]; exact h2, hE⟩
end ZB
end
section
/-! one step: longs, references in arrays, copies, Object's constructor -/
section ZD
variable {p : Program} {l : Launch} {en : Env} {R : Room} {s : State} {m : MethodId} {args : Array Value} {below : List Frame} {meth : Method} {c : Code} {Q : State → Prop} {D : va_G} {N0 : Nat} {ex : Nat → Nat} {nu : Nat → Int32} {ad0 : List Nat} {M : zx_M} {d : Nat} {nx : zx_N} {cur cur0 : List zx_E} {pc row : Nat} {st : List Nat} {h : zx_H} {e hn ce sl : Nat} {ls : Array Slot} {vs : List Value} {H : Heap} {locs : List Loc}
theorem zs_lald (hC : zx_Cx p R s m args meth c M d N0 ex nu) (hd : decode M.1.2.1 pc = .ok (.laload, 1)) (hN : zx_Nx p l en R s m args below meth c Q D N0 ex nu ad0 M nx) (hv : ∀ q ∈ cur, zx_ve M q) (hR : zx_Rl D N0 ex nu ad0 M s row st h e hn ls vs H locs) (hk : zh_lald nx (pc + 1) cur row st h e hn ce sl = true) :
    W p l en R s m args below meth c H locs ce sl Q (F0 m pc ls vs) := by
  obtain ⟨hx0, hb, -⟩ := hC
  unfold zh_lald at hk
  obtain ⟨i, r, st, rfl, hk⟩ := zx_p2_s hk
  obtain ⟨qq, hk⟩ := zx_bft hk
  obtain ⟨qi, q1⟩ := zx_and_b qq
  obtain ⟨k, g1, hk⟩ := zx_hg_s hk
  obtain ⟨q2, hk⟩ := zx_bft hk
  obtain ⟨q2, q3⟩ := zx_and_b q2
  have q2 : k % 16 = 6 := zx_beq_t q2
  obtain ⟨tys, ws, ⟨hK, hP, hD, hn', hH, hp⟩, hS, hl, hL, hT, hE⟩ := hR
  obtain ⟨xi, x, rs, rfl, h0, h1, h2⟩ := zx_SR2 hT
  obtain ⟨xi, rfl⟩ := zx_r_i qi h0
  obtain ⟨ad, h3, rfl⟩ := zx_ref2 h1 q1
  obtain ⟨ee, h4, h5⟩ := zx_HR_get hH g1 h3 (by omega)
  obtain ⟨cA, f, h6, rfl⟩ := (zx_c6 q2).mp h5
  obtain ⟨t0, h7⟩ := zx_mem_at h6
  refine va_lald hx0 hb hK hP (r / 16) t0 h4 h7 (zx_in_s hE h0 q3) hd ?_
  exact hN _ _ _ _ _ _ _ _ _ hv hk _ _ _ _ ⟨tys, ws, ⟨hK, hP, hD, hn', hH, hp⟩, hS, hl, hL, ⟨zx_r_l _, h2⟩, hE⟩
theorem zs_last (hC : zx_Cx p R s m args meth c M d N0 ex nu) (hd : decode M.1.2.1 pc = .ok (.lastore, 1)) (hN : zx_Nx p l en R s m args below meth c Q D N0 ex nu ad0 M nx) (hv : ∀ q ∈ cur, zx_ve M q) (hR : zx_Rl D N0 ex nu ad0 M s row st h e hn ls vs H locs) (hk : zh_last nx (pc + 1) cur row st h e hn ce sl = true) :
    W p l en R s m args below meth c H locs ce sl Q (F0 m pc ls vs) := by
  obtain ⟨hx0, hb, -⟩ := hC
  unfold zh_last at hk
  obtain ⟨v, i, r, st, rfl, hk⟩ := zx_p3_s hk
  obtain ⟨qq, hk⟩ := zx_bft hk
  obtain ⟨qv, qq⟩ := zx_and_b qq
  obtain ⟨qi, q1⟩ := zx_and_b qq
  obtain ⟨k, g1, hk⟩ := zx_hg_s hk
  obtain ⟨q2, hk⟩ := zx_bft hk
  obtain ⟨q2, q3⟩ := zx_and_b q2
  have q2 : k % 16 = 6 := zx_beq_t q2
  obtain ⟨tys, ws, ⟨hK, hP, hD, hn', hH, hp⟩, hS, hl, hL, hT, hE⟩ := hR
  obtain ⟨xv, xi, x, rs, rfl, h00, h0, h1, h2⟩ := zx_SR3 hT
  obtain ⟨xv, rfl⟩ := zx_r_j (by rw [zx_beq_t qv]) h00
  obtain ⟨xi, rfl⟩ := zx_r_i qi h0
  obtain ⟨ad, h3, rfl⟩ := zx_ref2 h1 q1
  obtain ⟨ee, h4, h5⟩ := zx_HR_get hH g1 h3 (by omega)
  obtain ⟨cA, f, h6, rfl⟩ := (zx_c6 q2).mp h5
  obtain ⟨t0, h7⟩ := zx_mem_at h6
  refine va_last hx0 hb hK hP hD hS (r / 16) t0 h4 h7 (zx_in_s hE h0 q3) hd (fun H1 locs1 hP1 hD1 hS1 => ?_)
  obtain ⟨hW1, haa⟩ := zx_Wd_set (i := r / 16) (h' := h) ⟨hK, hP, hD, hn', hH, hp⟩ h4 g1 (fun _ _ => rfl) ((zx_c6 q2).mpr ⟨cA, _, h6, rfl⟩) hP1 hD1
  exact hN _ _ _ _ _ _ _ _ _ hv hk _ _ _ _ ⟨tys, _, hW1, hS1, hl, by rw [haa]; exact hL, by rw [haa]; exact h2, hE⟩
theorem zs_rald (hC : zx_Cx p R s m args meth c M d N0 ex nu) (hd : decode M.1.2.1 pc = .ok (.aaload, 1)) (hN : zx_Nx p l en R s m args below meth c Q D N0 ex nu ad0 M nx) (hv0 : ∀ q ∈ cur0, zx_ve M q) (hv : ∀ q ∈ cur, zx_ve M q) (hR : zx_Rl D N0 ex nu ad0 M s row st h e hn ls vs H locs) (hk : zh_rald nx (pc + 1) cur0 cur pc row st h e hn ce sl = true) :
    W p l en R s m args below meth c H locs ce sl Q (F0 m pc ls vs) := by
  obtain ⟨hx0, hb, -⟩ := hC
  unfold zh_rald at hk
  obtain ⟨i0, r, st', rfl, hk⟩ := zx_p2_s hk
  obtain ⟨qq, hk⟩ := zx_bft hk
  obtain ⟨qi, q1⟩ := zx_and_b qq
  obtain ⟨tys, ws, ⟨hK, hP, hD, hn', hH, hp⟩, hS, hl, hL, hT, hE⟩ := hR
  obtain ⟨xi, x, rs, rfl, h0, h1, h2⟩ := zx_SR2 hT
  obtain ⟨xi, rfl⟩ := zx_r_i qi h0
  obtain ⟨i, hi, hk⟩ := zx_no_s hE h0 hk
  obtain ⟨k, g1, hk⟩ := zx_hg_s hk
  obtain ⟨q2, hk⟩ := zx_bft hk
  have q2 : k % 16 = 8 := zx_beq_t q2
  obtain ⟨ad, h3, rfl⟩ := zx_ref2 h1 q1
  obtain ⟨ee, h4, h5⟩ := zx_HR_get hH g1 h3 (by omega)
  obtain ⟨cA, f, h6, rfl, h8⟩ := (zx_c8 q2).mp h5
  obtain ⟨t0, h7⟩ := zx_mem_at h6
  have hcn := zx_cn_lt k
  rcases zx_bif hk with ⟨q3, hk⟩ | ⟨-, hk⟩
  · obtain ⟨q3, q4⟩ := zx_and_b q3
    have q4 : i / 16 < zx_cn k := zx_blt_t q4
    rw [zx_fn_eq] at hk
    obtain ⟨-, h9, -⟩ := (zx_r4 (zx_beq_t q3)).mp hi
    cases h9
    refine va_aldq hx0 hb hK hP (r / 16) t0 h4 h7 (vp_in_nI q4 (by omega)) hd ?_
    rw [nI_clamp (by omega)]
    refine hN _ _ _ _ _ _ _ _ _ hv hk _ _ _ _ ⟨tys, ws, ⟨hK, hP, hD, hn', hH, hp⟩, hS, hl, hL, ⟨?_, h2⟩, hE⟩
    have e0 : zx_pl i = i / 16 := rfl
    rw [e0]
    rcases h8 (i / 16) q4 with ⟨z1, z2⟩ | z
    · rw [z1, z2]
      exact (zx_r3 (by decide)).mpr ⟨by decide, rfl⟩
    · cases hb0 : Nat.beq (zx_og k (i / 16)) 0 with
      | false => exact z
      | true =>
        rw [zx_beq_t hb0] at z
        exact z.2.elim
  · obtain ⟨e', hE', hk⟩ := zx_sp_s hE hi hk
    exact hN _ _ _ _ _ _ _ _ _ hv0 hk _ _ _ _ ⟨tys, ws, ⟨hK, hP, hD, hn', hH, hp⟩, hS, hl, hL, hT, hE'⟩
theorem zs_rast (hC : zx_Cx p R s m args meth c M d N0 ex nu) (hd : decode M.1.2.1 pc = .ok (.aastore, 1)) (hN : zx_Nx p l en R s m args below meth c Q D N0 ex nu ad0 M nx) (hv : ∀ q ∈ cur, zx_ve M q) (hR : zx_Rl D N0 ex nu ad0 M s row st h e hn ls vs H locs) (hk : zh_rast nx (pc + 1) cur row st h e hn ce sl = true) :
    W p l en R s m args below meth c H locs ce sl Q (F0 m pc ls vs) := by
  obtain ⟨hx0, hb, -⟩ := hC
  unfold zh_rast at hk
  obtain ⟨v, i0, r, st, rfl, hk⟩ := zx_p3_s hk
  obtain ⟨qq, hk⟩ := zx_bft hk
  obtain ⟨qv, qq⟩ := zx_and_b qq
  obtain ⟨qi, q1⟩ := zx_and_b qq
  obtain ⟨tys, ws, ⟨hK, hP, hD, hn', hH, hp⟩, hS, hl, hL, hT, hE⟩ := hR
  obtain ⟨xv, xi, x, rs, rfl, h00, h0, h1, h2⟩ := zx_SR3 hT
  obtain ⟨xi, rfl⟩ := zx_r_i qi h0
  obtain ⟨i, hi, hk⟩ := zx_no_s hE h0 hk
  obtain ⟨k, g1, hk⟩ := zx_hg_s hk
  obtain ⟨kv, gv, hk⟩ := zx_hg_s hk
  obtain ⟨q2, hk⟩ := zx_bft hk
  obtain ⟨q2, q3⟩ := zx_and_b q2
  obtain ⟨q3, q4⟩ := zx_and_b q3
  obtain ⟨q4, q5⟩ := zx_and_b q4
  have q2 : k % 16 = 8 := zx_beq_t q2
  have q5 : i / 16 < zx_cn k := zx_blt_t q5
  rw [zx_fn_eq] at hk
  obtain ⟨h', hk, g2, g3⟩ := zx_hs_s hk
  obtain ⟨ad, h3, rfl⟩ := zx_ref2 h1 q1
  obtain ⟨av, hv3, rfl⟩ := zx_ref2 h00 qv
  obtain ⟨ee, h4, h5⟩ := zx_HR_get hH g1 h3 (by omega)
  obtain ⟨cA, f, h6, rfl, h8⟩ := (zx_c8 q2).mp h5
  obtain ⟨t0, h7⟩ := zx_mem_at h6
  obtain ⟨tv7, tvc⟩ := zx_hd7 (c := kv) (x := 8) (zx_beq_t q3) (by decide)
  obtain ⟨ev, hv4, hv5⟩ := zx_HR_get hH gv hv3 (by omega)
  obtain ⟨fv, rv, rfl, hv6, -, -⟩ := (zx_c7 tv7).mp hv5
  rw [tvc] at hv4 hv6
  have hcn := zx_cn_lt k
  obtain ⟨-, h9, -⟩ := (zx_r4 (zx_beq_t q4)).mp hi
  cases h9
  have hr1 : rv.1 = RX8 := by
    have := Option.some.inj hv6
    rw [← this]
  refine va_astq hx0 hb hK hP hD hS (r / 16) t0 (v / 16) 8 h4 (by rw [hr1]; exact h7) hv4 hv6 (vp_in_nI q5 (by omega)) hd (fun H1 locs1 hP1 hD1 hS1 => ?_)
  rw [nI_clamp (by omega)] at hP1 hD1
  have hhd := zx_hd_tg (zx_os_hd k (i / 16) v)
  have hcr : zx_cr (ws.map (fun w => w.1)) ex nu tys (zx_os k (zx_pl i) v) (.inl (cA, zx_cn k, .inr (.inr (.inr (.inr (va_up f (i / 16) (some av))))))) := by
    refine (zx_c8 (by rw [show zx_os k (zx_pl i) v % 16 = k % 16 from hhd.1]; exact q2)).mpr ⟨cA, _, h6, by rw [show zx_cn (zx_os k (zx_pl i) v) = zx_cn k from hhd.2], fun j hj => ?_⟩
    rw [show zx_cn (zx_os k (zx_pl i) v) = zx_cn k from hhd.2] at hj
    by_cases hji : j = i / 16
    · subst hji
      right
      rw [show zx_og (zx_os k (zx_pl i) v) (i / 16) = v from zx_sd_same (by decide) _ _ _ h00.1]
      unfold va_up
      rw [if_pos rfl]
      exact h00
    · rw [show zx_og (zx_os k (zx_pl i) v) j = zx_og k j from zx_sd_other (by decide) _ _ _ _ h00.1 hji]
      unfold va_up
      rw [if_neg hji]
      exact h8 j hj
  obtain ⟨hW1, haa⟩ := zx_Wd_set (i := r / 16) ⟨hK, hP, hD, hn', hH, hp⟩ h4 g2 g3 hcr hP1 hD1
  exact hN _ _ _ _ _ _ _ _ _ hv hk _ _ _ _ ⟨tys, _, hW1, hS1, hl, by rw [haa]; exact hL, by rw [haa]; exact h2, hE⟩
theorem zx_room {st : List Nat} {vs : List Value} {ads : List Nat} (h : zx_SR ads ex nu st vs) (hw : Nat.ble (zx_wd st) 8 = true) : (vs.map fun w => w.category).sum ≤ 8 := by rw [(zx_wd_s h).2]; exact zx_ble_t hw
theorem zs_obj {q : zx_Q} {i : Nat} (hC : zx_Cx p R s m args meth c M d N0 ex nu) (hq : q ∈ zx_ML) (ho : q.1 = M.2.1.1) (hi : q.2.1 = i) (hx : q.2.2.1 = 9000) (hd : decode M.1.2.1 pc = .ok (.invokespecial i, 3)) (hN : zx_Nx p l en R s m args below meth c Q D N0 ex nu ad0 M nx) (hv : ∀ q ∈ cur, zx_ve M q) (hR : zx_Rl D N0 ex nu ad0 M s row st h e hn ls vs H locs) (hk : zh_obj nx (pc + 3) cur row st h e hn ce sl = true) :
    W p l en R s m args below meth c H locs ce sl Q (F0 m pc ls vs) := by
  obtain ⟨hx0, hb, hml, hown, hts, -, hN0, hX, ⟨hrf, hrl, -, -⟩, -⟩ := hC
  unfold zh_obj at hk
  obtain ⟨r, st, rfl, hk⟩ := zx_p1_s hk
  obtain ⟨q1, hk⟩ := zx_bft hk
  obtain ⟨q1, q2⟩ := zx_and_b q1
  obtain ⟨tys, ws, hW, hS, hl, hL, hT, hE⟩ := hR
  obtain ⟨x, rs, rfl, h1, h2⟩ := zx_SR1 hT
  obtain ⟨ad, h3, rfl⟩ := zx_ref2 h1 q1
  have hlink : (Cond.methodLink (zx_on1 M.2.1.1) i objectInit).before args s = true := by
    have := hts _ (zx_inM hq)
    unfold zx_mw at this
    rw [ho, hi, hx] at this
    exact this
  have hrm := zx_room h2 q2
  refine W.objInit (own := zx_on1 M.2.1.1) hx0 hb hown hlink (hts _ (zx_inO (List.mem_of_getElem? (i := 0) rfl))) (hts _ (zx_inO (List.mem_of_getElem? (i := 1) rfl))) rfl (hl.1.trans hml.symm) rfl hd (by omega) ?_ ?_
  · have := lv_room (m := m) (pc := pc) (ls := ls) (rest := (.ref ad :: rs)) hrm
    omega
  · exact hN _ _ _ _ _ _ _ _ _ hv hk _ _ _ _ ⟨tys, ws, hW, hS, hl, hL, h2, hE⟩
theorem zs_cpy {q : zx_Q} {i : Nat} (hC : zx_Cx p R s m args meth c M d N0 ex nu) (hq : q ∈ zx_ML) (ho : q.1 = M.2.1.1) (hi : q.2.1 = i) (hx : q.2.2.1 = 9001) (hd : decode M.1.2.1 pc = .ok (.invokestatic i, 3)) (hN : zx_Nx p l en R s m args below meth c Q D N0 ex nu ad0 M nx) (hv : ∀ q ∈ cur, zx_ve M q) (hR : zx_Rl D N0 ex nu ad0 M s row st h e hn ls vs H locs) (hk : zh_cpy nx (pc + 3) cur row st h e hn ce sl = true) :
    W p l en R s m args below meth c H locs ce sl Q (F0 m pc ls vs) := by
  obtain ⟨hx0, hb, hml, hown, hts, -, hN0, hX, ⟨hrf, hrl, -, -⟩, -⟩ := hC
  unfold zh_cpy at hk
  obtain ⟨n, dp, dst, st1, rfl, hk1⟩ := zx_p3_s hk
  obtain ⟨sp, src, st, rfl, hk2⟩ := zx_p2_s hk1
  obtain ⟨q1, hk⟩ := zx_bft hk2
  obtain ⟨q1, q2⟩ := zx_and_b q1
  obtain ⟨q2, q3⟩ := zx_and_b q2
  obtain ⟨q3, q4⟩ := zx_and_b q3
  obtain ⟨q4, q5⟩ := zx_and_b q4
  obtain ⟨k, g1, hk⟩ := zx_hg_s hk
  obtain ⟨k1, gd, hk⟩ := zx_hg_s hk
  obtain ⟨q6, hk⟩ := zx_bft hk
  obtain ⟨q6, q7⟩ := zx_and_b q6
  obtain ⟨q7, q8⟩ := zx_and_b q7
  have q6 : k % 16 = 0 := zx_beq_t q6
  obtain ⟨t1, t2⟩ := zx_hd_tg (zx_beq_t q7)
  have t1 : k % 16 = k1 % 16 := t1
  obtain ⟨h', hk, g2, g3⟩ := zx_hs_s hk
  obtain ⟨tys, ws, ⟨hK, hP, hD, hn', hH, hp⟩, hS, hl, hL, hT, hE⟩ := hR
  obtain ⟨xn, xdp, xd, rs1, rfl, h01, h02, h03, hT2⟩ := zx_SR3 hT
  obtain ⟨xsp, xs, rs, rfl, h04, h05, h2⟩ := zx_SR2 hT2
  obtain ⟨as, h3, rfl⟩ := zx_ref2 h05 q1
  obtain ⟨ad, hd3, rfl⟩ := zx_ref2 h03 q2
  rw [zx_beq_t q3] at h04
  rw [zx_beq_t q4] at h02
  rw [zx_beq_t q8] at h01
  obtain ⟨-, e1, -⟩ := (zx_r4 (by decide)).mp h04
  obtain ⟨-, e2, -⟩ := (zx_r4 (by decide)).mp h02
  obtain ⟨-, e3, -⟩ := (zx_r4 (zx_c_kd _)).mp h01
  rw [zx_c_pl] at e3
  subst e1
  subst e2
  subst e3
  obtain ⟨ee, h4, h5⟩ := zx_HR_get hH g1 h3 (by omega)
  obtain ⟨cA, f, h6, rfl, h7⟩ := (zx_ck q6 (by decide)).mp h5
  obtain ⟨ed, hd4, hd5⟩ := zx_HR_get hH gd hd3 (by omega)
  obtain ⟨cB, g, hd6, rfl, hd7⟩ := (zx_ck (t1.symm.trans q6) (by decide)).mp hd5
  obtain ⟨t0, h8⟩ := zx_mem_at h6
  obtain ⟨t0', hd8⟩ := zx_mem_at hd6
  have hcn := zx_cn_lt k
  have hlink : (Cond.methodLink (zx_on1 M.2.1.1) i arraycopyName).before args s = true := by
    have := hts _ (zx_inM hq)
    unfold zx_mw at this
    rw [ho, hi, hx] at this
    exact this
  have hrm := zx_room h2 q5
  have e0 : (nI (4 / 16)).toNatClampNeg = 0 := by decide
  have en : (nI (zx_cn k)).toNatClampNeg = zx_cn k := nI_clamp (by omega)
  refine va_copyi (own := zx_on1 M.2.1.1) hx0 hb (hml.trans hl.1.symm) hown hlink (hts _ (zx_inO (List.mem_of_getElem? (i := 2) rfl))) (hts _ (zx_inO (List.mem_of_getElem? (i := 3) rfl))) (hts _ (zx_inO (List.mem_of_getElem? (i := 4) rfl))) hK hP hD hS (src / 16) (dst / 16) t0 t0' h4 hd4 h8 hd8 rfl (by decide) (by decide) (nI_pos (by omega)) (by rw [e0, en]; omega) (by rw [e0, en, ← t2]; omega) (fun _ _ => rfl) (by omega) ?_ hd (fun H1 locs1 hP1 hD1 hS1 => ?_)
  · have : nativeFrameWords "java/lang/System" "arraycopy" 5 = 7 := by decide
    omega
  · rw [e0, en] at hP1 hD1
    have hcr : zx_cr (ws.map (fun w => w.1)) ex nu tys k (.inl (cB, zx_cn k1, .inl (va_cpy f g 0 0 (zx_cn k)))) := by
      refine (zx_ck q6 (by decide)).mpr ⟨cB, _, hd6, by rw [t2], fun j hj => ?_⟩
      rw [pk_cpy_in (Nat.zero_le _) (by omega)]
      rw [show 0 + (j - 0) = j by omega]
      exact h7 j hj
    obtain ⟨hW1, haa⟩ := zx_Wd_set (i := dst / 16) ⟨hK, hP, hD, hn', hH, hp⟩ hd4 g2 g3 hcr hP1 hD1
    exact hN _ _ _ _ _ _ _ _ _ hv hk _ _ _ _ ⟨tys, _, hW1, hS1, hl, by rw [haa]; exact hL, by rw [haa]; exact h2, hE⟩
end ZD
end
section
/-! one step: calls and returns -/
theorem zx_good {w : Cond} (h : w ∈ zx_G) : w ∈ zx_G ∧ ((w.onTables && w.keeps) = true ∨ ∃ ty, w = .arrayClass ty) := ⟨h, good_of_word (zx_G_ok h).2⟩
theorem zx_goodIn {y : zx_M} (hy : y ∈ zx_mt.flatten) : GoodIn zx_G (zx_mc y :: zx_G) := fun w hw => by
  rcases List.mem_cons.mp hw with rfl | hw
  · exact zx_good (zx_inY hy List.mem_cons_self)
  · exact zx_good hw
/-- a method's head -/
theorem zx_head {y : zx_M} (hy : y ∈ zx_mt.flatten) : y.1.1.cls = zx_on1 y.2.1.1 ∧ plainFor y.1.1 = true ∧ (y.1.1.cls ≠ "java/lang/invoke/MethodHandle" ∧ y.1.1.cls ≠ "java/lang/invoke/VarHandle") ∧
    (parseMethodDescriptor y.1.1.desc).map (fun d => d.parameters.length) = some (bif Nat.beq y.2.1.2.1 1 then y.2.1.2.2.1 else y.2.1.2.2.1 - 1) ∧ (Nat.beq y.2.1.2.1 1 || Nat.ble 1 y.2.1.2.2.1) = true ∧ y.1.2.2.1 ≤ 60 ∧ (y.2.1.2.1 = 2 → y.1.1.name = "<init>" ∧ y.1.2.2.2 = none) ∧ zx_rk y.1.2.2.2 = y.2.1.2.2.2.2.2 ∧ y.2.1.2.1 ≤ 2 ∧ (y.2.1.2.1 = 0 → y.2.1.1 = 14 ∨ (y.2.1.1 < 13 ∧ (zx_ci y.2.1.1).1 = zx_on1 y.2.1.1)) := by
  have h := List.all_eq_true.mp zx_hc_ok y hy
  unfold zx_hc at h
  obtain ⟨h1, h⟩ := zx_and_b h
  obtain ⟨h2, h⟩ := zx_and_b h
  obtain ⟨h3, h⟩ := zx_and_b h
  obtain ⟨h4, h⟩ := zx_and_b h
  obtain ⟨h5, h⟩ := zx_and_b h
  obtain ⟨h6, h⟩ := zx_and_b h
  obtain ⟨h7, h⟩ := zx_and_b h
  obtain ⟨h8, h⟩ := zx_and_b h
  obtain ⟨h9, h⟩ := zx_and_b h
  obtain ⟨h10, h⟩ := zx_and_b h
  refine ⟨of_decide_eq_true h1, h2, of_decide_eq_true h3, of_decide_eq_true h4, h5, zx_ble_t h6, fun z => ?_, zx_beq_t h8, zx_ble_t h9, fun z => ?_⟩
  · rcases (Bool.or_eq_true _ _).mp h7 with q | q
    · rw [z] at q; cases q
    · obtain ⟨q1, q2⟩ := zx_and_b q
      exact ⟨of_decide_eq_true q1, of_decide_eq_true q2⟩
  · rcases (Bool.or_eq_true _ _).mp h10 with q | q
    · rw [z] at q; cases q
    · rcases (Bool.or_eq_true _ _).mp q with q | q
      · exact Or.inl (zx_beq_t q)
      · obtain ⟨q1, q2⟩ := zx_and_b q
        exact Or.inr ⟨zx_blt_t q1, of_decide_eq_true q2⟩
section ZI
variable {p : Program} {l : Launch} {en : Env} {R : Room} {s : State} {m : MethodId} {args : Array Value} {below : List Frame} {meth : Method} {c : Code} {Q : State → Prop} {D : va_G} {N0 : Nat} {ex : Nat → Nat} {nu : Nat → Int32} {ad0 : List Nat} {M : zx_M} {d : Nat} {nx : zx_N} {call : zx_M → zx_K → zx_N} {cur cur0 : List zx_E} {pc row : Nat} {st : List Nat} {h : zx_H} {e hn ce sl : Nat} {ls : Array Slot} {vs : List Value} {H : Heap} {locs : List Loc}
theorem zs_go {K : zx_K} {mc ms : Nat} {ads : List Nat} {a : Array Value} {vs0 rest : List Value} (hr : va_Run p l en R s m args below meth c H locs ce sl mc ms (F0 m pc ls vs0) rest (zx_Qc D N0 ex nu ads K a) (zx_A N0)) (hS : va_S (zx_A N0) s.heap H locs)
    (kk : ∀ (r : List Nat) (vs : List Value) (h : zx_H) (e hn : Nat) (tys : List (ClassId × FieldType)) (ws : va_W) (H1 : Heap) (locs1 : List Loc), vs.length ≤ 1 → zx_SR (ws.map (fun w => w.1)) ex nu r vs → zx_Wd D N0 ex nu ads s H1 h hn tys ws → zx_ev nu e → K r h e hn = true → va_S (zx_A N0) s.heap H1 locs1 → W p l en R s m args below meth c H1 locs1 (ce + mc) (sl + ms) Q (F0 m (pc + 3) ls (vs ++ rest))) : W p l en R s m args below meth c H locs ce sl Q (F0 m pc ls vs0) := by
  intro T hT X
  obtain ⟨v, st₀, t, T', L, h0, X', hL, e1, e2, ⟨⟨r, vs, h', e', hn', tys, ws, ho, hlen, hsr, hW, hE, hK⟩, hz, hkp⟩, stp⟩ := hr T hT X
  have hv : v = vs.head? := by injection ho
  have hvl : v.toList = vs := by
    rw [hv]
    match vs, hlen with
    | [], _ => rfl
    | [x], _ => rfl
    | _ :: _ :: _, hlen => exact absurd hlen (by simp)
  rw [h0] at hz hkp
  have hal : s.vm.Alike t.vm := by rw [← e2]; exact X'.warmed.alike
  obtain ⟨k1, k2, k3⟩ := hW
  have hS1 : va_S (zx_A N0) s.heap T'.heap (locs ++ L) := ⟨Nat.le_trans hS.1 (by rw [e1]; exact hz), fun q h1 h2 => by rw [e1, hkp q (Nat.lt_of_lt_of_le h1 hS.1) h2]; exact hS.2.1 q h1 h2, fun q hq => by
      rcases List.mem_append.mp hq with h | h
      · exact hS.2.2 q h
      · exact hL q h⟩
  obtain ⟨t2, a1, b1⟩ := kk r vs h' e' hn' tys ws T'.heap (locs ++ L) hlen hsr ⟨va_K.moved hal.symm k1, by rw [e1]; exact k2, k3⟩ hE hK hS1 T' rfl X'
  refine ⟨t2, stp t2 ?_, b1⟩
  rw [hvl]
  exact a1
/-- what every call of the tables needs -/
theorem zx_cb {y : zx_M} {i n d' : Nat} (hC : zx_Cx p R s m args meth c M d N0 ex nu) (hy : y ∈ zx_mt.flatten) (hd' : d = d' + 1) (hl : (Cond.methodLink (zx_on1 M.2.1.1) i y.1.1).before args s = true) (hnp : (parseMethodDescriptor y.1.1.desc).map (fun d => d.parameters.length) = some n) : CallB R s args (zx_on1 M.2.1.1) i y.1.1 y.1.2.1 y.1.2.2.1 y.1.2.2.2 (zx_mc y :: zx_G) (zx_rm d' y) y.2.1.2.2.2.1 y.2.1.2.2.2.2.1 n := by
  obtain ⟨hx0, hb, hml, hown, hts, -, hN0, hX, ⟨hrf, hrl, -, -⟩, -⟩ := hC
  obtain ⟨h1, h2, h3, h4, h5, h6, h7, h8, h9, h10⟩ := zx_head hy
  refine callB_of n hts (zx_goodIn hy) rfl rfl rfl (hts _ (zx_inY hy (List.mem_cons_of_mem _ List.mem_cons_self))) hl ⟨h3.1, h3.2, hnp⟩ ⟨?_, ?_⟩
  · show d' + 1 + 1 ≤ R.frames
    omega
  · show 8 + (y.1.2.2.1 + 11) + 80 * (d' + 1) ≤ R.locals
    omega
theorem zx_cbn {q : zx_Q} {y : zx_M} {i n d' : Nat} (hC : zx_Cx p R s m args meth c M d N0 ex nu) (hy : y ∈ zx_mt.flatten) (hd' : d = d' + 1) (hq : q ∈ zx_NL) (ho : q.1 = M.2.1.1) (hi : q.2.1 = i) (hm : zx_my q.2.2.1 = y.1.1) (hnp : (parseMethodDescriptor y.1.1.desc).map (fun d => d.parameters.length) = some n) : va_CN R s args (zx_on1 M.2.1.1) i y.1.1 "LaneDoors" y.1.2.1 y.1.2.2.1 y.1.2.2.2 (zx_mc y :: zx_G) (zx_rm d' y) y.2.1.2.2.2.1 y.2.1.2.2.2.2.1 n := by
  obtain ⟨hx0, hb, hml, hown, hts, -, hN0, hX, ⟨hrf, hrl, -, -⟩, -⟩ := hC
  obtain ⟨h1, h2, h3, h4, h5, h6, h7, h8, h9, h10⟩ := zx_head hy
  have hnw := hX.2.2.2.2.2.2.2.2 q hq
  unfold zx_nw1 at hnw
  rw [ho, hi, hm] at hnw
  refine va_cnB n hts (zx_goodIn hy) rfl rfl rfl hnw (hts _ (zx_inY hy (List.mem_cons_of_mem _ List.mem_cons_self))) ⟨h3.1, h3.2, hnp⟩ ⟨?_, ?_⟩
  · show d' + 1 + 1 ≤ R.frames
    omega
  · show 8 + (y.1.2.2.1 + 11) + 80 * (d' + 1) ≤ R.locals
    omega
/-- the walker's call, taken apart -/
theorem zx_inv_s {a np : Nat} {y : zx_M} (hya : zx_me a = some y) (hCa : zx_Ca l D N0 ex nu d call) (hC : zx_Cx p R s m args meth c M d N0 ex nu) (hN : zx_Nx p l en R s m args below meth c Q D N0 ex nu ad0 M nx) (hv : ∀ q ∈ cur, zx_ve M q) (hR : zx_Rl D N0 ex nu ad0 M s row st h e hn ls vs H locs) (hk : zh_inv M call nx a np cur row st h e hn ce sl = true) :
    ∃ (d' : Nat) (av rest : List Value) (Pc : Array Value → State → Prop) (K : zx_K) (ads : List Nat), d = d' + 1 ∧ vs = av.reverse ++ rest ∧ av.length = y.2.1.2.2.1 ∧ (rest.map fun v => v.category).sum ≤ 8 ∧ Met l y.1.1 (zx_mc y :: zx_G) (zx_rm d' y) Pc (zx_Qc D N0 ex nu ads K) y.2.1.2.2.2.1 y.2.1.2.2.2.2.1 (zx_A N0) ∧
      FrameBlind Pc ∧ (∀ U : State, U.heap = H → s.WarmedH U.vm → Pc av.toArray U) ∧ (ce + y.2.1.2.2.2.1 ≤ R.cells ∧ sl + y.2.1.2.2.2.2.1 ≤ R.slots) ∧ va_S (zx_A N0) s.heap H locs ∧ ls.size = M.1.2.2.1 ∧
      (y.2.1.2.1 = 0 → ∃ b As, av = .ref b :: As ∧ ∃ cellB : Cell, H[b]? = some cellB ∧ cellB.vm.isStatics = false ∧ s.vm.findClass y.1.1.cls = some cellB.cls) ∧ (y.2.1.2.1 = 2 → ∃ b As, av = .ref b :: As) ∧
      (∀ (r : List Nat) (vs : List Value) (h : zx_H) (e hn : Nat) (tys : List (ClassId × FieldType)) (ws : va_W) (H1 : Heap) (locs1 : List Loc), vs.length ≤ 1 → zx_SR (ws.map (fun w => w.1)) ex nu r vs → zx_Wd D N0 ex nu ads s H1 h hn tys ws → zx_ev nu e → K r h e hn = true → va_S (zx_A N0) s.heap H1 locs1 → W p l en R s m args below meth c H1 locs1 (ce + y.2.1.2.2.2.1) (sl + y.2.1.2.2.2.2.1) Q (F0 m np ls (vs ++ rest))) := by
  obtain ⟨hx0, hb, hml, hown, hts, -, hN0, hX, ⟨hrf, hrl, hrc, hrs⟩, -⟩ := hC
  unfold zh_inv at hk
  obtain ⟨l1, z1, hk⟩ := zx_at_s _ _ hk
  obtain ⟨y1, z2, hk⟩ := zx_at_s _ _ hk
  have hy1 : y1 = y := by
    unfold zx_me at hya
    rw [show zx_mt[a / 16]? = some l1 from z1] at hya
    have := (show l1[a % 16]? = some y1 from z2).symm.trans hya
    exact Option.some.inj this
  subst hy1
  have hym := (zx_me_s hya).1
  obtain ⟨h1, -, -, -, -, -, -, -, -, h10⟩ := zx_head hym
  obtain ⟨tys, ws, ⟨hK, hP, hD, hn', hH, hp⟩, hS, hl, hL, hT, hE⟩ := hR
  obtain ⟨as, st', av, vs', hk, k2, k3, rfl, k5⟩ := zx_tk_s hE y1.2.1.2.2.1 (acc := []) (va := []) trivial hT hk
  rw [List.append_nil] at k2
  obtain ⟨q1, hk⟩ := zx_bft hk
  obtain ⟨q1, q2⟩ := zx_and_b q1
  obtain ⟨q2, q3⟩ := zx_and_b q2
  obtain ⟨q3, q4⟩ := zx_and_b q3
  -- the receiver
  have hrc2 : zx_fn (zx_rw as) (fun r0 => call y1 (fun r h e hn => zx_fn (Nat.add ce y1.2.1.2.2.2.1) (fun ce => zx_fn (Nat.add sl y1.2.1.2.2.2.2.1) (fun sl => nx cur np row (@List.rec Nat (fun _ => List Nat) st' (fun v _ _ => v :: st') r) h e hn ce sl))) [] 0 r0 [] h e hn 0 0) = true ∧
      (y1.2.1.2.1 = 0 → ∃ b As, av.reverse = .ref b :: As ∧ ∃ cellB : Cell, H[b]? = some cellB ∧ cellB.vm.isStatics = false ∧ s.vm.findClass y1.1.1.cls = some cellB.cls) ∧ (y1.2.1.2.1 = 2 → ∃ b As, av.reverse = .ref b :: As) := by
    unfold zx_rc at hk
    rcases zx_bif hk with ⟨w0, hk⟩ | ⟨w0, hk⟩
    · obtain ⟨r, t, rfl, hk⟩ := zx_p1_s hk
      obtain ⟨xr, rs, hav, g1, g2⟩ := zx_SR1 k2
      have w0 := zx_beq_t w0
      rcases zx_bif hk with ⟨w1, hk⟩ | ⟨-, hk⟩
      · obtain ⟨kc, g3, hk⟩ := zx_hg_s hk
        obtain ⟨w2, hk⟩ := zx_bft hk
        obtain ⟨ad, g4, rfl⟩ := zx_ref2 g1 w1
        refine ⟨hk, fun _ => ⟨ad, rs, hav, ?_⟩, fun z => by omega⟩
        have w2 : zx_hd kc = y1.2.1.1 * 16 + 7 := zx_beq_t w2
        rcases h10 w0 with z | ⟨z, z'⟩
        · exfalso
          rw [z] at w2
          obtain ⟨t7, tcn⟩ := zx_hd7 (c := kc) (x := 14) (by rw [w2]) (by decide)
          obtain ⟨ee, g5, g6⟩ := zx_HR_get hH g3 g4 (by omega)
          obtain ⟨fs, rc, rfl, g7, -, -⟩ := (zx_c7 t7).mp g6
          rw [tcn] at g7
          have := (List.getElem?_eq_some_iff.mp g7).1
          rw [zx_vwl] at this
          omega
        · obtain ⟨t7, tcn⟩ := zx_hd7 (c := kc) (x := y1.2.1.1) (by rw [w2]; omega) (by omega)
          obtain ⟨ee, g5, g6⟩ := zx_HR_get hH g3 g4 (by omega)
          obtain ⟨fs, rc, rfl, g7, -, -⟩ := (zx_c7 t7).mp g6
          rw [h1, ← z', zx_ci_of (by rw [tcn] at g7; exact g7)]
          exact va_recv hK hP g7 g5
      · obtain ⟨w1, hk⟩ := zx_bft hk
        obtain ⟨w1, w2⟩ := zx_and_b w1
        have w2 : y1.2.1.1 = 14 := zx_beq_t w2
        have hX' := hX
        obtain ⟨-, -, hX1, hX2, -⟩ := hX'
        have hstr : ∃ ad, xr = .ref ad ∧ va_O "java/lang/String" ad (zx_A N0) s s.heap := by
          rcases (Bool.or_eq_true _ _).mp w1 with z | z <;> have z := zx_beq_t z <;> subst z
          · exact ⟨ex 1, ((zx_r6 (by decide)).mp g1).2, hX1.1⟩
          · exact ⟨ex 3, ((zx_r6 (by decide)).mp g1).2, hX2.1⟩
        obtain ⟨ad, rfl, cell, o1, o2, o3, o4⟩ := hstr
        refine ⟨hk, fun _ => ⟨ad, rs, hav, cell, ?_, o2, by rw [h1, w2, zx_on14]; exact o3⟩, fun z => by omega⟩
        rw [hS.2.1 ad (Array.getElem?_eq_some_iff.mp o1).1 o4]
        exact o1
    · have w0 := zx_beq_f w0
      rcases zx_bif hk with ⟨w1, hk⟩ | ⟨w1, hk⟩
      · obtain ⟨r, t, rfl, hk⟩ := zx_p1_s hk
        obtain ⟨xr, rs, hav, g1, g2⟩ := zx_SR1 k2
        obtain ⟨w2, hk⟩ := zx_bft hk
        obtain ⟨ad, g4, rfl⟩ := zx_ref2 g1 w2
        exact ⟨hk, fun z => absurd z w0, fun _ => ⟨ad, rs, hav⟩⟩
      · exact ⟨hk, fun z => absurd z w0, fun z => absurd z (zx_beq_f w1)⟩
  obtain ⟨hcall, hr0, hr2⟩ := hrc2
  rw [zx_fn_eq] at hcall
  obtain ⟨d', hd', hM⟩ := hCa y1 _ as h e hn av.reverse tys ws hym hcall k2 (zx_ble_t q2) hD hn' hH hE
  refine ⟨d', av.reverse, vs', _, _, _, hd', by rw [List.reverse_reverse], by rw [List.length_reverse]; exact k5, zx_room k3 q1, hM, zx_Pc_blind, ?_, ⟨Nat.le_trans (zx_ble_t q3) hrc, Nat.le_trans (zx_ble_t q4) hrs⟩, hS, hl.1, hr0, hr2, ?_⟩
  · intro U hU hW
    exact ⟨rfl, by rw [hU]; exact Nat.le_trans hN0 hS.1, va_K.moved hW.alike hK, by rw [hU]; exact hP, zx_X_mv hX hN0 hW (by rw [hU]; exact hS.2.1)⟩
  · intro r vs h2 e2 hn2 tys2 ws2 H1 locs1 hlen hsr hW2 hE2 hK2 hS2
    rw [zx_fn_eq, zx_fn_eq] at hK2
    obtain ⟨v1, v2, v3, v4, v5, v6⟩ := hW2
    refine hN _ _ _ _ _ _ _ _ _ hv hK2 _ _ _ _ ⟨tys2, ws2, ⟨v1, v2, v3, v4, v5, fun i q hq => v6 i q (hp i q hq)⟩, hS2, hl, zx_LR_mono v6 hL, ?_, hE2⟩
    match r, vs, hsr, hlen with
    | [], [], _, _ => exact zx_SR_mono v6 k3
    | [v], [x], hsr, _ => exact ⟨hsr.1, zx_SR_mono v6 k3⟩
    | [], _ :: _, hsr, _ => exact hsr.elim
    | _ :: _, [], hsr, _ => exact hsr.elim
    | _ :: _ :: _, [x], hsr, _ => exact hsr.2.elim
    | _, _ :: _ :: _, _, hlen => exact absurd hlen (by simp)
theorem zs_invV {q : zx_Q} {i a : Nat} {y : zx_M} (hq : q ∈ zx_ML) (ho : q.1 = M.2.1.1) (hi : q.2.1 = i) (ha : q.2.2.1 = a) (ha2 : a < 9000) (hya : zx_me a = some y) (hk0 : y.2.1.2.1 = 0) (hd : decode M.1.2.1 pc = .ok (.invokevirtual i, 3)) (hCa : zx_Ca l D N0 ex nu d call) (hC : zx_Cx p R s m args meth c M d N0 ex nu) (hN : zx_Nx p l en R s m args below meth c Q D N0 ex nu ad0 M nx) (hv : ∀ q ∈ cur, zx_ve M q) (hR : zx_Rl D N0 ex nu ad0 M s row st h e hn ls vs H locs) (hk : zh_inv M call nx a (pc + 3) cur row st h e hn ce sl = true) :
    W p l en R s m args below meth c H locs ce sl Q (F0 m pc ls vs) := by
  obtain ⟨d', av, rest, Pc, K, ads, hd', rfl, hal, hrm, hM, hbl, hPc, hf, hS, hsz, hr0, -, kk⟩ := zx_inv_s hya hCa hC hN hv hR hk
  obtain ⟨b, As, rfl, hcell⟩ := hr0 hk0
  have hym := (zx_me_s hya).1
  obtain ⟨h1, h2, h3, h4, h5, h6, h7, h8, h9, h10⟩ := zx_head hym
  have hCC := hC
  obtain ⟨hx0, hb, hml, hown, hts, -⟩ := hCC
  have hmy : zx_my q.2.2.1 = y.1.1 := by
    unfold zx_my
    rw [ha, show Nat.beq a 9000 = false from by cases hz : Nat.beq a 9000 with | false => rfl | true => have := zx_beq_t hz; omega, show Nat.beq a 9001 = false from by cases hz : Nat.beq a 9001 with | false => rfl | true => have := zx_beq_t hz; omega, hya]
    rfl
  have hlink : (Cond.methodLink (zx_on1 M.2.1.1) i y.1.1).before args s = true := by
    have := hts _ (zx_inM hq)
    unfold zx_mw at this
    rw [ho, hi, hmy] at this
    exact this
  have hkw : (Cond.instanceMethod y.1.1).before args s = true := by
    have := hts _ (zx_inY hym (List.mem_cons_of_mem _ (List.mem_cons_of_mem _ List.mem_cons_self)))
    unfold zx_mkw at this
    rw [hk0] at this
    exact this
  have hse : (Cond.selects y.1.1.cls y.1.1 y.1.1).before args s = true := by
    refine hts _ (zx_inY hym (List.mem_cons_of_mem _ (List.mem_cons_of_mem _ (List.mem_cons_of_mem _ ?_))))
    unfold zx_ms
    rw [hk0]
    exact List.mem_cons_self
  rw [hk0] at h4
  refine zs_go (va_runV (As := As) (rest := rest) ⟨hx0, hb, hml, hown, hts⟩ hM ⟨zx_cb hC hym hd' hlink h4, hkw, hse⟩ ⟨hbl, hcell, hPc⟩ rfl ?_ hsz ?_ (lv_room hrm) hd hf) hS kk
  · rw [List.length_cons] at hal
    show As.length = y.2.1.2.2.1 - 1
    omega
  · show (Value.ref b :: As).reverse ++ rest = As.reverse ++ Value.ref b :: rest
    rw [List.reverse_cons, List.append_assoc]
    rfl
theorem zx_my_of {a : Nat} {y : zx_M} (ha2 : a < 9000) (hya : zx_me a = some y) : zx_my a = y.1.1 := by
  unfold zx_my
  rw [show Nat.beq a 9000 = false from by cases hz : Nat.beq a 9000 with | false => rfl | true => have := zx_beq_t hz; omega, show Nat.beq a 9001 = false from by cases hz : Nat.beq a 9001 with | false => rfl | true => have := zx_beq_t hz; omega, hya]
  rfl
theorem zs_invS {q : zx_Q} {i a : Nat} {y : zx_M} (hq : q ∈ zx_ML ∨ q ∈ zx_NL) (ho : q.1 = M.2.1.1) (hi : q.2.1 = i) (ha : q.2.2.1 = a) (ha2 : a < 9000) (hya : zx_me a = some y) (hk0 : y.2.1.2.1 = 1) (hd : decode M.1.2.1 pc = .ok (.invokestatic i, 3)) (hCa : zx_Ca l D N0 ex nu d call) (hC : zx_Cx p R s m args meth c M d N0 ex nu) (hN : zx_Nx p l en R s m args below meth c Q D N0 ex nu ad0 M nx) (hv : ∀ q ∈ cur, zx_ve M q) (hR : zx_Rl D N0 ex nu ad0 M s row st h e hn ls vs H locs) (hk : zh_inv M call nx a (pc + 3) cur row st h e hn ce sl = true) :
    W p l en R s m args below meth c H locs ce sl Q (F0 m pc ls vs) := by
  obtain ⟨d', av, rest, Pc, K, ads, hd', rfl, hal, hrm, hM, hbl, hPc, hf, hS, hsz, -, -, kk⟩ := zx_inv_s hya hCa hC hN hv hR hk
  have hym := (zx_me_s hya).1
  obtain ⟨h1, h2, h3, h4, h5, h6, h7, h8, h9, h10⟩ := zx_head hym
  have hCC := hC
  obtain ⟨hx0, hb, hml, hown, hts, -⟩ := hCC
  have hmy : zx_my q.2.2.1 = y.1.1 := by rw [ha]; exact zx_my_of ha2 hya
  have hkw : (Cond.static y.1.1).before args s = true := by
    have := hts _ (zx_inY hym (List.mem_cons_of_mem _ (List.mem_cons_of_mem _ List.mem_cons_self)))
    unfold zx_mkw at this
    rw [hk0] at this
    exact this
  rw [hk0] at h4
  rcases hq with hq | hq
  · have hlink : (Cond.methodLink (zx_on1 M.2.1.1) i y.1.1).before args s = true := by
      have := hts _ (zx_inM hq)
      unfold zx_mw at this
      rw [ho, hi, hmy] at this
      exact this
    exact zs_go (va_runS (As := av) (rest := rest) ⟨hx0, hb, hml, hown, hts⟩ hM ⟨zx_cb hC hym hd' hlink h4, hkw⟩ ⟨hbl, hPc⟩ rfl hal hsz rfl (lv_room hrm) hd hf) hS kk
  · exact zs_go (va_runSN (As := av) (rest := rest) ⟨hx0, hb, hml, hown, hts⟩ hM ⟨zx_cbn hC hym hd' hq ho hi hmy h4, hkw, trivial⟩ ⟨hbl, hPc⟩ rfl hal hsz rfl (lv_room hrm) hd hf) hS kk
theorem zs_invI {q : zx_Q} {i a : Nat} {y : zx_M} (hq : q ∈ zx_ML ∨ q ∈ zx_NL) (ho : q.1 = M.2.1.1) (hi : q.2.1 = i) (ha : q.2.2.1 = a) (ha2 : a < 9000) (hya : zx_me a = some y) (hk0 : y.2.1.2.1 = 2) (hd : decode M.1.2.1 pc = .ok (.invokespecial i, 3)) (hCa : zx_Ca l D N0 ex nu d call) (hC : zx_Cx p R s m args meth c M d N0 ex nu) (hN : zx_Nx p l en R s m args below meth c Q D N0 ex nu ad0 M nx) (hv : ∀ q ∈ cur, zx_ve M q) (hR : zx_Rl D N0 ex nu ad0 M s row st h e hn ls vs H locs) (hk : zh_inv M call nx a (pc + 3) cur row st h e hn ce sl = true) :
    W p l en R s m args below meth c H locs ce sl Q (F0 m pc ls vs) := by
  obtain ⟨d', av, rest, Pc, K, ads, hd', rfl, hal, hrm, hM, hbl, hPc, hf, hS, hsz, -, hr2, kk⟩ := zx_inv_s hya hCa hC hN hv hR hk
  obtain ⟨b, As, rfl⟩ := hr2 hk0
  have hym := (zx_me_s hya).1
  obtain ⟨h1, h2, h3, h4, h5, h6, h7, h8, h9, h10⟩ := zx_head hym
  have hCC := hC
  obtain ⟨hx0, hb, hml, hown, hts, -⟩ := hCC
  have hmy : zx_my q.2.2.1 = y.1.1 := by rw [ha]; exact zx_my_of ha2 hya
  have hkw : (Cond.instanceMethod y.1.1).before args s = true := by
    have := hts _ (zx_inY hym (List.mem_cons_of_mem _ (List.mem_cons_of_mem _ List.mem_cons_self)))
    unfold zx_mkw at this
    rw [hk0] at this
    exact this
  rw [hk0] at h4
  obtain ⟨hnm, hrt⟩ := h7 hk0
  have hlen : As.length = y.2.1.2.2.1 - 1 := by
    rw [List.length_cons] at hal
    omega
  have hstk : (Value.ref b :: As).reverse ++ rest = As.reverse ++ Value.ref b :: rest := by
    rw [List.reverse_cons, List.append_assoc]
    rfl
  rcases hq with hq | hq
  · have hlink : (Cond.methodLink (zx_on1 M.2.1.1) i y.1.1).before args s = true := by
      have := hts _ (zx_inM hq)
      unfold zx_mw at this
      rw [ho, hi, hmy] at this
      exact this
    have hcb := zx_cb hC hym hd' hlink h4
    rw [hrt] at hcb
    exact zs_go (va_runI (As := As) (rest := rest) ⟨hx0, hb, hml, hown, hts⟩ hM ⟨hcb, hnm, hkw⟩ ⟨hbl, hPc⟩ rfl hlen hsz hstk (lv_room hrm) hd hf) hS kk
  · have hcb := zx_cbn hC hym hd' hq ho hi hmy h4
    rw [hrt] at hcb
    exact zs_go (va_runIN (As := As) (rest := rest) ⟨hx0, hb, hml, hown, hts⟩ hM ⟨hcb, hnm, hkw⟩ ⟨hbl, hPc⟩ rfl hlen hsz hstk (lv_room hrm) hd hf) hS kk
end ZI
end
section
/-! one step of the walker is one of the machine -/
section ZZ
variable {p : Program} {l : Launch} {en : Env} {R : Room} {s : State} {m : MethodId} {args : Array Value} {below : List Frame} {meth : Method} {c : Code} {Q : State → Prop} {D : va_G} {N0 : Nat} {ex : Nat → Nat} {nu : Nat → Int32} {ad0 : List Nat} {M : zx_M} {d : Nat} {K : zx_K} {nx : zx_N} {call : zx_M → zx_K → zx_N} {cur cur0 : List zx_E} {pc row : Nat} {st : List Nat} {h : zx_H} {e hn ce sl : Nat} {ls : Array Slot} {vs : List Value} {H : Heap} {locs : List Loc}
theorem zx_nb {v : Int32} (h1 : 2147483648 ≤ zx_bz v) (h2 : zx_bz v ≤ 2147483649) : narrow .boolean (.int v) = .int v := by
  have h3 : v = nI (zx_bi (zx_bz v)) := zx_of_bz v
  rcases (show zx_bz v = 2147483648 ∨ zx_bz v = 2147483649 by omega) with q | q <;> rw [q] at h3 <;> rw [h3] <;> decide
theorem zx_nc' {v : Int32} (h1 : 2147483648 ≤ zx_bz v) (h2 : zx_bz v ≤ 2147549183) : narrow .char (.int v) = .int v := by
  have h3 : v = nI (zx_bi (zx_bz v)) := zx_of_bz v
  rw [h3]
  refine (pk_charN ?_).1
  rw [zx_bi_eq]
  omega
theorem zx_ny {v : Int32} (h1 : 2147483520 ≤ zx_bz v) (h2 : zx_bz v ≤ 2147483775) : narrow .byte (.int v) = .int v := by
  show Value.int v.toInt8.toInt32 = .int v
  congr 1
  apply Int32.toInt_inj.1
  have h3 := zx_bz_int v
  rw [Int8.toInt_toInt32, Int32.toInt_toInt8]
  show v.toInt.bmod 256 = v.toInt
  simp only [Int.bmod_def]
  split <;> omega
theorem zx_rt_s {ads : List Nat} {v : Nat} {x : Value} {ins : Instr} (hE : zx_ev nu e) (hx : zx_r ads ex nu v x) (hrk : zx_rk M.1.2.2.2 = M.2.1.2.2.2.2.2) (hk : zx_rt M.2.1.2.2.2.2.2 e v = true) (hi : (ins = .ireturn ∧ 1 ≤ M.2.1.2.2.2.2.2 ∧ M.2.1.2.2.2.2.2 ≤ 4) ∨ (ins = .lreturn ∧ M.2.1.2.2.2.2.2 = 5) ∨ (ins = .areturn ∧ M.2.1.2.2.2.2.2 = 6)) : zx_ri M.1.2.2.2 ins [x] := by
  generalize hr : M.1.2.2.2 = ret at hrk ⊢
  generalize M.2.1.2.2.2.2.2 = rk at hrk hk hi
  unfold zx_rt at hk
  rcases hi with ⟨rfl, h1, h4⟩ | ⟨rfl, rfl⟩ | ⟨rfl, rfl⟩
  · have hint : zx_ii v = true ∧ ∀ y : Int32, x = .int y → ∃ ty, ret = some ty ∧ narrow ty (.int y) = .int y := by
      rcases zx_bif hk with ⟨q, hk2⟩ | ⟨q, hk⟩
      · have q := zx_beq_t q
        subst q
        refine ⟨hk2, fun y hy => ⟨.int, ?_, rfl⟩⟩
        unfold zx_rk at hrk
        split at hrk <;> first | rfl | cases hrk
      rcases zx_bif hk with ⟨q, hk2⟩ | ⟨q, hk⟩
      · have q := zx_beq_t q
        subst q
        refine ⟨zx_iv_i hk2, fun y hy => ⟨.boolean, ?_, ?_⟩⟩
        · unfold zx_rk at hrk
          split at hrk <;> first | rfl | cases hrk
        · subst hy
          obtain ⟨lo, up, hk3, a1, a2, -, -⟩ := zx_iv_s hE hx hk2
          obtain ⟨b1, b2⟩ := zx_and_b hk3
          have b1 := zx_ble_t b1
          have b2 := zx_ble_t b2
          exact zx_nb (by omega) (by omega)
      rcases zx_bif hk with ⟨q, hk2⟩ | ⟨q, hk⟩
      · have q := zx_beq_t q
        subst q
        refine ⟨zx_iv_i hk2, fun y hy => ⟨.char, ?_, ?_⟩⟩
        · unfold zx_rk at hrk
          split at hrk <;> first | rfl | cases hrk
        · subst hy
          obtain ⟨lo, up, hk3, a1, a2, -, -⟩ := zx_iv_s hE hx hk2
          obtain ⟨b1, b2⟩ := zx_and_b hk3
          have b1 := zx_ble_t b1
          have b2 := zx_ble_t b2
          exact zx_nc' (by omega) (by omega)
      rcases zx_bif hk with ⟨q, hk2⟩ | ⟨q, hk⟩
      · have q := zx_beq_t q
        subst q
        refine ⟨zx_iv_i hk2, fun y hy => ⟨.byte, ?_, ?_⟩⟩
        · unfold zx_rk at hrk
          split at hrk <;> first | rfl | cases hrk
        · subst hy
          obtain ⟨lo, up, hk3, a1, a2, -, -⟩ := zx_iv_s hE hx hk2
          obtain ⟨b1, b2⟩ := zx_and_b hk3
          have b1 := zx_ble_t b1
          have b2 := zx_ble_t b2
          exact zx_ny (by omega) (by omega)
      rcases zx_bif hk with ⟨q, hk⟩ | ⟨q, hk⟩
      · have q := zx_beq_t q
        omega
      · obtain ⟨q, hk⟩ := zx_bft hk
        have q := zx_beq_t q
        omega
    obtain ⟨y, rfl⟩ := zx_r_i hint.1 hx
    obtain ⟨ty, t1, t2⟩ := hint.2 y rfl
    exact Or.inr (Or.inl ⟨ty, y, t1, rfl, rfl, t2⟩)
  · have hk : Nat.beq v 5 = true := hk
    obtain ⟨y, rfl⟩ := zx_r_j (by rw [zx_beq_t hk]) hx
    refine Or.inr (Or.inr (Or.inl ⟨y, ?_, rfl, rfl⟩))
    unfold zx_rk at hrk
    split at hrk <;> first | rfl | cases hrk
  · have hk : zx_kc 332 v = true := hk
    refine Or.inr (Or.inr (Or.inr ?_))
    unfold zx_rk at hrk
    split at hrk
    all_goals first | cases hrk | skip
    · exact ⟨_, x, rfl, Or.inl ⟨_, rfl⟩, rfl, rfl, zx_r_r hk hx⟩
    · exact ⟨_, x, rfl, Or.inr ⟨_, rfl⟩, rfl, rfl, zx_r_r hk hx⟩
theorem zs_ret {ins : Instr} (hRt : zx_Rt p l en R s m args below meth c Q D N0 ex nu ad0 M K) (hrk : zx_rk M.1.2.2.2 = M.2.1.2.2.2.2.2) (hi : (ins = .ireturn ∧ 1 ≤ M.2.1.2.2.2.2.2 ∧ M.2.1.2.2.2.2.2 ≤ 4) ∨ (ins = .lreturn ∧ M.2.1.2.2.2.2.2 = 5) ∨ (ins = .areturn ∧ M.2.1.2.2.2.2.2 = 6)) (hd : decode M.1.2.1 pc = .ok (ins, 1)) (hR : zx_Rl D N0 ex nu ad0 M s row st h e hn ls vs H locs) (hk : zh_ret M K st h e hn ce sl = true) :
    W p l en R s m args below meth c H locs ce sl Q (F0 m pc ls vs) := by
  unfold zh_ret at hk
  obtain ⟨v, t, rfl, hk⟩ := zx_p1_s hk
  cases t with
  | cons a b => cases hk
  | nil =>
    have hk : zx_no e v (fun v => bif zx_rt M.2.1.2.2.2.2.2 e v && (Nat.ble ce M.2.1.2.2.2.1 && Nat.ble sl M.2.1.2.2.2.2.1) then K [v] h e hn else false) = true := hk
    obtain ⟨tys, ws, hW, hS, hl, hL, hT, hE⟩ := hR
    obtain ⟨x, rs, rfl, h1, h2⟩ := zx_SR1 hT
    cases rs with
    | cons _ _ => exact h2.elim
    | nil =>
      obtain ⟨v', h3, hk⟩ := zx_no_s hE h1 hk
      obtain ⟨q, hk⟩ := zx_bft hk
      obtain ⟨q1, q2⟩ := zx_and_b q
      obtain ⟨q2, q3⟩ := zx_and_b q2
      exact hRt _ _ _ _ _ _ _ _ _ _ _ _ _ hd (zx_rt_s hE h3 hrk q1 hi) hk (zx_ble_t q2) (zx_ble_t q3) ⟨tys, ws, hW, hS, hl, hL, ⟨h3, trivial⟩, hE⟩
theorem zs_rtv (hRt : zx_Rt p l en R s m args below meth c Q D N0 ex nu ad0 M K) (hrk : zx_rk M.1.2.2.2 = M.2.1.2.2.2.2.2) (hd : decode M.1.2.1 pc = .ok (.return_, 1)) (hR : zx_Rl D N0 ex nu ad0 M s row st h e hn ls vs H locs) (hk : zh_rtv M K st h e hn ce sl = true) :
    W p l en R s m args below meth c H locs ce sl Q (F0 m pc ls vs) := by
  cases st with
  | cons a b => cases hk
  | nil =>
    have hk : (bif Nat.beq M.2.1.2.2.2.2.2 0 && (Nat.ble ce M.2.1.2.2.2.1 && Nat.ble sl M.2.1.2.2.2.2.1) then K [] h e hn else false) = true := hk
    obtain ⟨q, hk⟩ := zx_bft hk
    obtain ⟨q1, q2⟩ := zx_and_b q
    obtain ⟨q2, q3⟩ := zx_and_b q2
    obtain ⟨tys, ws, hW, hS, hl, hL, hT, hE⟩ := hR
    cases vs with
    | cons _ _ => exact hT.elim
    | nil =>
      refine hRt _ _ _ _ _ _ _ _ _ _ _ _ _ hd (Or.inl ⟨?_, rfl, rfl⟩) hk (zx_ble_t q2) (zx_ble_t q3) ⟨tys, ws, hW, hS, hl, hL, trivial, hE⟩
      rw [zx_beq_t q1] at hrk
      generalize M.1.2.2.2 = ret at hrk ⊢
      unfold zx_rk at hrk
      split at hrk <;> first | rfl | cases hrk
theorem zx_tps_off (d : Int) : ∀ (offs : List Int) (lo x : Int), (∀ (j : Nat), offs.length ≤ j → x ≠ lo + (j : Int) ∨ True) → ((x < lo ∨ lo + (offs.length : Int) ≤ x) → Op.lookupswitch.offset (zx_tps lo offs) d x = d) ∧ (lo ≤ x → x < lo + (offs.length : Int) → offs[(x - lo).toNat]? = some (Op.lookupswitch.offset (zx_tps lo offs) d x)) := by
  have key : ∀ (offs : List Int) (lo : Int), zx_tps lo offs = match offs with
      | [] => []
      | o :: r => (lo, o) :: zx_tps (lo + 1) r := by
    intro offs lo
    cases offs with
    | nil => rfl
    | cons o r =>
      unfold zx_tps
      rw [List.length_cons, List.range_succ_eq_map, List.map_cons, List.map_map]
      show (lo + ((0 : Nat) : Int), o) :: _ = (lo, o) :: _
      congr 1
      · congr 1
        omega
      · apply List.map_congr_left
        intro j _
        show (lo + ((j + 1 : Nat) : Int), (o :: r).getD (j + 1) 0) = (lo + 1 + (j : Int), r.getD j 0)
        congr 1
        omega
  intro offs
  induction offs with
  | nil =>
    intro lo x _
    rw [key]
    exact ⟨fun _ => rfl, fun h1 h2 => by simp at h2; omega⟩
  | cons o r ih =>
    intro lo x _
    rw [key]
    show _ ∧ _
    simp only
    rw [Op.lookupswitch.offset_cons]
    obtain ⟨i1, i2⟩ := ih (lo + 1) x (fun _ _ => Or.inr trivial)
    rw [List.length_cons]
    refine ⟨fun hx => ?_, fun h1 h2 => ?_⟩
    · rw [if_neg (by omega)]
      exact i1 (by omega)
    · by_cases hx : lo = x
      · rw [if_pos hx, show (x - lo).toNat = 0 by omega]
        rfl
      · rw [if_neg hx, show (x - lo).toNat = (x - (lo + 1)).toNat + 1 by omega]
        exact i2 (by omega) (by omega)
theorem zx_le1_s {b : Bool} {r r' : Nat × Nat × Nat} (h : zx_le1 b r = some r') : b = true ∧ r = r' := by
  unfold zx_le1 at h
  split at h
  · rename_i hb; exact ⟨hb, Option.some.inj h⟩
  · cases h
end ZZ
end
section
/-! one step of the walker, by the instruction (printed by program) -/
section ZW
variable {p : Program} {l : Launch} {en : Env} {R : Room} {s : State} {m : MethodId} {args : Array Value} {below : List Frame} {meth : Method} {c : Code} {Q : State → Prop} {D : va_G} {N0 : Nat} {ex : Nat → Nat} {nu : Nat → Int32} {ad0 : List Nat} {M : zx_M} {d : Nat} {K : zx_K} {nx : zx_N} {call : zx_M → zx_K → zx_N} {cur cur0 : List zx_E} {pc row : Nat} {st : List Nat} {h : zx_H} {e hn ce sl : Nat} {ls : Array Slot} {vs : List Value} {H : Heap} {locs : List Loc}
theorem zx_on3 : zx_on1 3 = "LaneDoors$Lexer" := by decide +kernel
theorem zs_gets {q : zx_Q} {i a : Nat} (hC : zx_Cx p R s m args meth c M d N0 ex nu) (hq : q ∈ zx_FL) (ho : q.1 = M.2.1.1) (hi : q.2.1 = i) (hx : (q.2.2.1 = 200 ∧ a = 20) ∨ (q.2.2.1 = 201 ∧ a = 8)) (hd : decode M.1.2.1 pc = .ok (.getstatic i, 3)) (hN : zx_Nx p l en R s m args below meth c Q D N0 ex nu ad0 M nx) (hv : ∀ q ∈ cur, zx_ve M q) (hR : zx_Rl D N0 ex nu ad0 M s row st h e hn ls vs H locs) (hk : zh_psh nx a (pc + 3) cur row st h e hn ce sl = true) : W p l en R s m args below meth c H locs ce sl Q (F0 m pc ls vs) := by
  obtain ⟨hx0, hb, hml, hown, hts, -, hN0, hX, -⟩ := hC
  have hlink := hts _ (zx_inF hq)
  unfold zx_fw at hlink
  rw [ho, hi] at hlink
  have hS : va_S (zx_A N0) s.heap H locs := by
    obtain ⟨_, _, _, h1, _⟩ := hR
    exact h1
  rcases hx with ⟨hx, rfl⟩ | ⟨hx, rfl⟩ <;> rw [hx] at hlink
  · exact va_gets (own := zx_on1 M.2.1.1) (ref := "java/lang/String") hx0 hb hX.2.2.2.2.1 hS hown hlink (fun _ z => z) hd (zs_psh hN hv hR hk (fun ads => zx_r_c (n := 1) (by decide)))
  · rcases hX.2.2.2.2.2.1 with hz | ⟨t, hz⟩
    · exact va_gets (own := zx_on1 M.2.1.1) (ref := "jdk/internal/util/Preconditions") hx0 hb hz hS hown hlink (fun _ z => z) hd (zs_psh hN hv hR hk (fun ads => (zx_r8 (by decide)).mpr ⟨by decide, Or.inl rfl⟩))
    · exact va_gets (own := zx_on1 M.2.1.1) (ref := "jdk/internal/util/Preconditions") hx0 hb hz hS hown hlink (fun _ z => z) hd (zs_psh hN hv hR hk (fun ads => (zx_r8 (by decide)).mpr ⟨by decide, Or.inr ⟨t, rfl⟩⟩))
theorem zx_cc_lt (c : ClassFile.Cond) : zx_cc c < 6 := by cases c <;> decide
theorem zs_icmpI {cd : ClassFile.Cond} {off : Int} {a : Nat} (hC : zx_Cx p R s m args meth c M d N0 ex nu) (hd : decode M.1.2.1 pc = .ok (.if_icmp cd off, 3)) (ht : (pc : Int) + off = (a : Int)) (hN : zx_Nx p l en R s m args below meth c Q D N0 ex nu ad0 M nx) (hv : ∀ q ∈ cur, zx_ve M q) (hR : zx_Rl D N0 ex nu ad0 M s row st h e hn ls vs H locs) (hk : zh_icmp M nx a (zx_cc cd) (pc + 3) cur row st h e hn ce sl = true) : W p l en R s m args below meth c H locs ce sl Q (F0 m pc ls vs) := by
  obtain ⟨hx0, hb, -, -, -, -, -, -, -, hw⟩ := hC
  obtain ⟨x, y, r, rfl, kt, kf⟩ := zs_icmp (zx_cc_lt cd) hw hN hv hR hk
  cases cd with
  | lt => exact lv_icmp_lt hx0 hb hd ht kt kf
  | ge => exact lv_icmp_ge hx0 hb hd ht (fun z => kt (zx_nle.mpr z)) (fun z => kf (fun w => z (zx_nle.mp w)))
  | gt => exact lv_icmp_gt hx0 hb hd ht kt kf
  | le => exact lv_icmp_le hx0 hb hd ht (fun z => kt (zx_nle.mpr z)) (fun z => kf (fun w => z (zx_nle.mp w)))
  | eq => exact lv_icmp_eq hx0 hb hd ht kt kf
  | ne => exact lv_icmp_ne hx0 hb hd ht kt (fun z => kf (fun w => w z))
theorem zs_ifI {cd : ClassFile.Cond} {off : Int} {a : Nat} (hC : zx_Cx p R s m args meth c M d N0 ex nu) (hd : decode M.1.2.1 pc = .ok (.ifCond cd off, 3)) (ht : (pc : Int) + off = (a : Int)) (hN : zx_Nx p l en R s m args below meth c Q D N0 ex nu ad0 M nx) (hv : ∀ q ∈ cur, zx_ve M q) (hR : zx_Rl D N0 ex nu ad0 M s row st h e hn ls vs H locs) (hk : zh_if M nx a (zx_cc cd) (pc + 3) cur row st h e hn ce sl = true) : W p l en R s m args below meth c H locs ce sl Q (F0 m pc ls vs) := by
  obtain ⟨hx0, hb, -, -, -, -, -, -, -, hw⟩ := hC
  obtain ⟨x, r, rfl, kt, kf⟩ := zs_if (zx_cc_lt cd) hw hN hv hR hk
  cases cd with
  | lt => exact lv_if_lt hx0 hb hd ht kt kf
  | ge => exact lv_if_ge hx0 hb hd ht (fun z => kt (zx_nle.mpr z)) (fun z => kf (fun w => z (zx_nle.mp w)))
  | gt => exact lv_if_gt hx0 hb hd ht kt kf
  | le => exact lv_if_le hx0 hb hd ht (fun z => kt (zx_nle.mpr z)) (fun z => kf (fun w => z (zx_nle.mp w)))
  | eq => exact lv_if_eq hx0 hb hd ht kt kf
  | ne => exact lv_if_ne hx0 hb hd ht kt (fun z => kf (fun w => w z))
theorem zx_tg1_s {off : Int} {op b op' a b' : Nat} (h : zx_tg1 pc off op b = some (op', a, b')) : (pc : Int) + off = (a : Int) ∧ op = op' ∧ b = b' := by
  unfold zx_tg1 at h
  split at h
  · rename_i h0
    have h := Option.some.inj h
    injection h with h1 h2
    injection h2 with h2 h3
    exact ⟨by rw [← h2]; exact (Int.toNat_of_nonneg h0).symm, h1, h3⟩
  · cases h
set_option maxHeartbeats 4000000 in
set_option maxRecDepth 10000 in
theorem zx_op_s {op a b np len : Nat} {ins : Instr} (hC : zx_Cx p R s m args meth c M d N0 ex nu) (hCa : zx_Ca l D N0 ex nu d call) (hRt : zx_Rt p l en R s m args below meth c Q D N0 ex nu ad0 M K) (hrk : zx_rk M.1.2.2.2 = M.2.1.2.2.2.2.2) (hN : zx_Nx p l en R s m args below meth c Q D N0 ex nu ad0 M nx) (hd : decode M.1.2.1 pc = .ok (ins, len)) (hnp : np = pc + len) (hcd : zx_cd M pc ins len = some (op, a, b)) (hre : zx_re1 M (pc, op, a, b, np) = true) (hv0 : ∀ q ∈ cur0, zx_ve M q) (hv : ∀ q ∈ cur, zx_ve M q) (hR : zx_Rl D N0 ex nu ad0 M s row st h e hn ls vs H locs) (hk : zx_op M K call nx op a b np cur0 cur pc row st h e hn ce sl = true) :
    W p l en R s m args below meth c H locs ce sl Q (F0 m pc ls vs) := by
  have hx0 := hC.1
  have hb := hC.2.1
  have hown := hC.2.2.2.1
  have hts := hC.2.2.2.2.1
  have hw : zx_tw M := hC.2.2.2.2.2.2.2.2.2
  subst hnp
  cases ins
  all_goals first | (exact absurd (show (none : Option (Nat × Nat × Nat)) = some (op, a, b) from hcd) (fun z => by cases z)) | skip
  case iload_n k =>
    obtain ⟨hl, he⟩ := zx_le1_s hcd
    have hl := zx_beq_t hl
    subst hl
    cases he
    obtain ⟨x, g1, g2, g3⟩ := zs_ld (Or.inl rfl) hN hv hR (show zh_ld nx _ 146 (pc + 1) cur row st h e hn ce sl = true from hk)
    obtain ⟨y, rfl⟩ := g2.1 rfl
    exact lv_iload_n hx0 hb hd rfl g1 g3
  case iload i =>
    obtain ⟨hl, he⟩ := zx_le1_s hcd
    have hl := zx_beq_t hl
    subst hl
    cases he
    obtain ⟨x, g1, g2, g3⟩ := zs_ld (Or.inl rfl) hN hv hR (show zh_ld nx _ 146 (pc + 2) cur row st h e hn ce sl = true from hk)
    obtain ⟨y, rfl⟩ := g2.1 rfl
    exact lv_iload hx0 hb hd g1 g3
  case aload_n k =>
    obtain ⟨hl, he⟩ := zx_le1_s hcd
    have hl := zx_beq_t hl
    subst hl
    cases he
    obtain ⟨x, g1, g2, g3⟩ := zs_ld (Or.inr (Or.inl rfl)) hN hv hR (show zh_ld nx _ 332 (pc + 1) cur row st h e hn ce sl = true from hk)
    rcases g2.2.1 rfl with rfl | ⟨y, rfl⟩
    · exact lv_aload_nN hx0 hb hd rfl g1 g3
    · exact lv_aload_n hx0 hb hd rfl g1 g3
  case aload i =>
    obtain ⟨hl, he⟩ := zx_le1_s hcd
    have hl := zx_beq_t hl
    subst hl
    cases he
    obtain ⟨x, g1, g2, g3⟩ := zs_ld (Or.inr (Or.inl rfl)) hN hv hR (show zh_ld nx _ 332 (pc + 2) cur row st h e hn ce sl = true from hk)
    rcases g2.2.1 rfl with rfl | ⟨y, rfl⟩
    · exact lv_aloadN hx0 hb hd g1 g3
    · exact lv_aload hx0 hb hd g1 g3
  case lload_n k =>
    obtain ⟨hl, he⟩ := zx_le1_s hcd
    have hl := zx_beq_t hl
    subst hl
    cases he
    obtain ⟨x, g1, g2, g3⟩ := zs_ld (Or.inr (Or.inr rfl)) hN hv hR (show zh_ld nx _ 32 (pc + 1) cur row st h e hn ce sl = true from hk)
    obtain ⟨y, rfl⟩ := g2.2.2 rfl
    exact lv_lload_n hx0 hb hd rfl g1 g3
  case lload i =>
    obtain ⟨hl, he⟩ := zx_le1_s hcd
    have hl := zx_beq_t hl
    subst hl
    cases he
    obtain ⟨x, g1, g2, g3⟩ := zs_ld (Or.inr (Or.inr rfl)) hN hv hR (show zh_ld nx _ 32 (pc + 2) cur row st h e hn ce sl = true from hk)
    obtain ⟨y, rfl⟩ := g2.2.2 rfl
    exact lv_lload hx0 hb hd g1 g3
  case istore_n k =>
    obtain ⟨hl, he⟩ := zx_le1_s hcd
    have hl := zx_beq_t hl
    subst hl
    cases he
    obtain ⟨g0, g1, x, r, rfl, g2, g3⟩ := zs_st1 hN hv hR (show zh_st1 M nx _ 146 (pc + 1) cur row st h e hn ce sl = true from hk)
    obtain ⟨y, rfl⟩ := g2.1 rfl
    exact lv_istore_n hx0 hb hd rfl g0 g1 rfl g3
  case istore i =>
    obtain ⟨hl, he⟩ := zx_le1_s hcd
    have hl := zx_beq_t hl
    subst hl
    cases he
    obtain ⟨g0, g1, x, r, rfl, g2, g3⟩ := zs_st1 hN hv hR (show zh_st1 M nx _ 146 (pc + 2) cur row st h e hn ce sl = true from hk)
    obtain ⟨y, rfl⟩ := g2.1 rfl
    exact lv_istore hx0 hb hd g0 g1 rfl g3
  case astore_n k =>
    obtain ⟨hl, he⟩ := zx_le1_s hcd
    have hl := zx_beq_t hl
    subst hl
    cases he
    obtain ⟨g0, g1, x, r, rfl, g2, g3⟩ := zs_st1 hN hv hR (show zh_st1 M nx _ 332 (pc + 1) cur row st h e hn ce sl = true from hk)
    rcases g2.2.1 rfl with rfl | ⟨y, rfl⟩
    · exact lv_astore_nN hx0 hb hd rfl g0 g1 rfl g3
    · exact lv_astore_n hx0 hb hd rfl g0 g1 rfl g3
  case astore i =>
    obtain ⟨hl, he⟩ := zx_le1_s hcd
    have hl := zx_beq_t hl
    subst hl
    cases he
    obtain ⟨g0, g1, x, r, rfl, g2, g3⟩ := zs_st1 hN hv hR (show zh_st1 M nx _ 332 (pc + 2) cur row st h e hn ce sl = true from hk)
    rcases g2.2.1 rfl with rfl | ⟨y, rfl⟩
    · exact lv_astoreN hx0 hb hd g0 g1 rfl g3
    · exact lv_astore hx0 hb hd g0 g1 rfl g3
  case lstore_n k =>
    obtain ⟨hl, he⟩ := zx_le1_s hcd
    have hl := zx_beq_t hl
    subst hl
    cases he
    obtain ⟨g0, g1, x, r, rfl, g3⟩ := zs_st2 hN hv hR (show zh_st2 M nx _ (pc + 1) cur row st h e hn ce sl = true from hk)
    exact lv_lstore_n hx0 hb hd rfl g0 g1 rfl g3
  case lstore i =>
    obtain ⟨hl, he⟩ := zx_le1_s hcd
    have hl := zx_beq_t hl
    subst hl
    cases he
    obtain ⟨g0, g1, x, r, rfl, g3⟩ := zs_st2 hN hv hR (show zh_st2 M nx _ (pc + 2) cur row st h e hn ce sl = true from hk)
    exact lv_lstore hx0 hb hd g0 g1 rfl g3
  case iinc i n =>
    obtain ⟨hl, he⟩ := zx_le1_s hcd
    have hl := zx_beq_t hl
    subst hl
    cases he
    obtain ⟨g0, g1, x, ⟨kk, g2⟩, g3⟩ := zs_inc (zx_m32_lt n) hN hv hR (show zh_inc M nx _ (zx_c (zx_m32 n)) (pc + 3) cur row st h e hn ce sl = true from hk)
    exact lv_iinc hx0 hb hd g0 g2 (by rw [zx_m32_of]) g1 rfl g3
  case iconst n =>
    obtain ⟨hl, he⟩ := zx_le1_s hcd
    have hl := zx_beq_t hl
    subst hl
    cases he
    exact lv_iconst hx0 hb hd (zx_m32_of n) (zs_psh hN hv hR (show zh_psh nx (zx_c (zx_m32 n)) (pc + 1) cur row st h e hn ce sl = true from hk) (fun ads => zx_r_c (zx_m32_lt n)))
  case bipush n =>
    obtain ⟨hl, he⟩ := zx_le1_s hcd
    obtain ⟨hl, h2⟩ := zx_and_b hl
    have hl := zx_beq_t hl
    subst hl
    cases he
    exact lv_bipush hx0 hb hd (zx_m8_of (of_decide_eq_true h2)) (zs_psh hN hv hR (show zh_psh nx (zx_c (zx_m32 n)) (pc + 2) cur row st h e hn ce sl = true from hk) (fun ads => zx_r_c (zx_m32_lt n)))
  case sipush n =>
    obtain ⟨hl, he⟩ := zx_le1_s hcd
    obtain ⟨hl, h2⟩ := zx_and_b hl
    have hl := zx_beq_t hl
    subst hl
    cases he
    exact lv_sipush hx0 hb hd (zx_m16_of (of_decide_eq_true h2)) (zs_psh hN hv hR (show zh_psh nx (zx_c (zx_m32 n)) (pc + 3) cur row st h e hn ce sl = true from hk) (fun ads => zx_r_c (zx_m32_lt n)))
  case ldc i =>
    simp only [zx_cd] at hcd
    split at hcd
    · rename_i q hz
      obtain ⟨hm, ho, hi⟩ := zx_lf_s hz
      obtain ⟨hl, he⟩ := zx_le1_s hcd
      obtain ⟨hl, h2⟩ := zx_and_b hl
      have hl := zx_beq_t hl
      subst hl
      cases he
      have hc := hts _ (zx_inK hm)
      unfold zx_kw at hc
      rw [ho, hi] at hc
      exact lv_ldc hx0 hb hown hc hd (zs_psh hN hv hR (show zh_psh nx (zx_c q.2.2.1) (pc + 2) cur row st h e hn ce sl = true from hk) (fun ads => zx_r_c (zx_blt_t h2)))
    · split at hcd
      · rename_i hz
        obtain ⟨hz1, rfl⟩ := hz
        obtain ⟨hl, he⟩ := zx_le1_s hcd
        have hl := zx_beq_t hl
        subst hl
        cases he
        refine va_ldcS hx0 hb hown (q := ex 1) (tx := zx_t1) ?_ hd (zs_psh hN hv hR (show zh_psh nx 22 (pc + 2) cur row st h e hn ce sl = true from hk) (fun ads => (zx_r6 (by decide)).mpr ⟨by decide, rfl⟩))
        rw [hz1, zx_on3]
        exact hC.2.2.2.2.2.2.2.1.1
      · split at hcd
        · rename_i hz
          obtain ⟨hz1, rfl⟩ := hz
          obtain ⟨hl, he⟩ := zx_le1_s hcd
          have hl := zx_beq_t hl
          subst hl
          cases he
          refine va_ldcS hx0 hb hown (q := ex 3) (tx := zx_t2) ?_ hd (zs_psh hN hv hR (show zh_psh nx 54 (pc + 2) cur row st h e hn ce sl = true from hk) (fun ads => (zx_r6 (by decide)).mpr ⟨by decide, rfl⟩))
          rw [hz1, zx_on3]
          exact hC.2.2.2.2.2.2.2.1.2.1
        · cases hcd
  case ldc_w i =>
    simp only [zx_cd] at hcd
    split at hcd
    · rename_i q hz
      obtain ⟨hm, ho, hi⟩ := zx_lf_s hz
      obtain ⟨hl, he⟩ := zx_le1_s hcd
      obtain ⟨hl, h2⟩ := zx_and_b hl
      have hl := zx_beq_t hl
      subst hl
      cases he
      have hc := hts _ (zx_inK hm)
      unfold zx_kw at hc
      rw [ho, hi] at hc
      exact lv_ldcw hx0 hb hown hc hd (zs_psh hN hv hR (show zh_psh nx (zx_c q.2.2.1) (pc + 3) cur row st h e hn ce sl = true from hk) (fun ads => zx_r_c (zx_blt_t h2)))
    · cases hcd
  case lconst n =>
    obtain ⟨hl, he⟩ := zx_le1_s hcd
    have hl := zx_beq_t hl
    subst hl
    cases he
    exact lv_lconst hx0 hb hd rfl (zs_psh hN hv hR (show zh_psh nx 5 (pc + 1) cur row st h e hn ce sl = true from hk) (fun ads => zx_r_l _))
  case ldc2_w i =>
    simp only [zx_cd] at hcd
    split at hcd
    · rename_i q hz
      obtain ⟨hm, ho, hi⟩ := zx_lf_s hz
      obtain ⟨hl, he⟩ := zx_le1_s hcd
      have hl := zx_beq_t hl
      subst hl
      cases he
      have hc := hts _ (zx_inJ hm)
      unfold zx_jw at hc
      rw [ho, hi] at hc
      exact lv_ldc2 hx0 hb hown hc hd (zs_psh hN hv hR (show zh_psh nx 5 (pc + 3) cur row st h e hn ce sl = true from hk) (fun ads => zx_r_l _))
    · cases hcd
  case iadd =>
    obtain ⟨hl, he⟩ := zx_le1_s hcd
    have hl := zx_beq_t hl
    subst hl
    cases he
    obtain ⟨x, y, r, rfl, g1, g2⟩ := zs_bin (P := fun _ _ => True) (F := fun x y => x + y) hN hv hR (show zh_bin nx (pc + 1) cur row st h e hn ce sl zx_ad = true from hk) (fun ads a b x y k ha hb hk => ⟨trivial, zx_ad_s ha hb hk⟩)
    exact lv_iadd hx0 hb hd g2
  case isub =>
    obtain ⟨hl, he⟩ := zx_le1_s hcd
    have hl := zx_beq_t hl
    subst hl
    cases he
    obtain ⟨x, y, r, rfl, g1, g2⟩ := zs_bin (P := fun _ _ => True) (F := fun x y => x - y) hN hv hR (show zh_bin nx (pc + 1) cur row st h e hn ce sl (zx_b2 zx_f1) = true from hk) (fun ads a b x y k ha hb hk => ⟨trivial, zx_b2_s (F := fun x y => x - y) (fun x y _ hy => ⟨zx_sub' x y hy, Nat.mod_lt _ (by decide)⟩) ha hb hk⟩)
    exact lv_isub hx0 hb hd g2
  case imul =>
    obtain ⟨hl, he⟩ := zx_le1_s hcd
    have hl := zx_beq_t hl
    subst hl
    cases he
    obtain ⟨x, y, r, rfl, g1, g2⟩ := zs_bin (P := fun _ _ => True) (F := fun x y => x * y) hN hv hR (show zh_bin nx (pc + 1) cur row st h e hn ce sl (zx_b2 zx_f2) = true from hk) (fun ads a b x y k ha hb hk => ⟨trivial, zx_b2_s (F := fun x y => x * y) (fun x y _ _ => ⟨by show nI x * nI y = nI ((x * y) % 4294967296); rw [pk_mul, zx_md], Nat.mod_lt _ (by decide)⟩) ha hb hk⟩)
    exact lv_imul hx0 hb hd g2
  case iand =>
    obtain ⟨hl, he⟩ := zx_le1_s hcd
    have hl := zx_beq_t hl
    subst hl
    cases he
    obtain ⟨x, y, r, rfl, g1, g2⟩ := zs_bin (P := fun _ _ => True) (F := fun x y => x &&& y) hN hv hR (show zh_bin nx (pc + 1) cur row st h e hn ce sl zx_an = true from hk) (fun ads a b x y k ha hb hk => ⟨trivial, zx_an_s ha hb hk⟩)
    exact lv_iand hx0 hb hd g2
  case ior =>
    obtain ⟨hl, he⟩ := zx_le1_s hcd
    have hl := zx_beq_t hl
    subst hl
    cases he
    obtain ⟨x, y, r, rfl, g1, g2⟩ := zs_bin (P := fun _ _ => True) (F := fun x y => x ||| y) hN hv hR (show zh_bin nx (pc + 1) cur row st h e hn ce sl (zx_b2 Nat.lor) = true from hk) (fun ads a b x y k ha hb hk => ⟨trivial, zx_b2_s (F := fun x y => x ||| y) (fun x y hx hy => ⟨zx_or' x y, Nat.or_lt_two_pow (n := 32) hx hy⟩) ha hb hk⟩)
    exact lv_ior hx0 hb hd g2
  case ixor =>
    obtain ⟨hl, he⟩ := zx_le1_s hcd
    have hl := zx_beq_t hl
    subst hl
    cases he
    obtain ⟨x, y, r, rfl, g1, g2⟩ := zs_bin (P := fun _ _ => True) (F := fun x y => x ^^^ y) hN hv hR (show zh_bin nx (pc + 1) cur row st h e hn ce sl (zx_b2 Nat.xor) = true from hk) (fun ads a b x y k ha hb hk => ⟨trivial, zx_b2_s (F := fun x y => x ^^^ y) (fun x y hx hy => ⟨zx_xor' x y, Nat.xor_lt_two_pow (n := 32) hx hy⟩) ha hb hk⟩)
    exact lv_ixor hx0 hb hd g2
  case ishl =>
    obtain ⟨hl, he⟩ := zx_le1_s hcd
    have hl := zx_beq_t hl
    subst hl
    cases he
    obtain ⟨x, y, r, rfl, g1, g2⟩ := zs_bin (P := fun _ _ => True) (F := fun x y => x <<< (y &&& 31)) hN hv hR (show zh_bin nx (pc + 1) cur row st h e hn ce sl (zx_sh zx_g6) = true from hk) (fun ads a b x y k ha hb hk => ⟨trivial, zx_sh_s (F := fun x y => x <<< (y &&& 31)) (fun x y hx hy => ⟨zx_shl' x y hx hy, Nat.mod_lt _ (by decide)⟩) ha hb hk⟩)
    exact lv_ishl hx0 hb hd g2
  case ishr =>
    obtain ⟨hl, he⟩ := zx_le1_s hcd
    have hl := zx_beq_t hl
    subst hl
    cases he
    obtain ⟨x, y, r, rfl, g1, g2⟩ := zs_bin (P := fun _ _ => True) (F := fun x y => x >>> (y &&& 31)) hN hv hR (show zh_bin nx (pc + 1) cur row st h e hn ce sl zx_sr = true from hk) (fun ads a b x y k ha hb hk => ⟨trivial, zx_sr_s ha hb hk⟩)
    exact lv_ishr hx0 hb hd g2
  case iushr =>
    obtain ⟨hl, he⟩ := zx_le1_s hcd
    have hl := zx_beq_t hl
    subst hl
    cases he
    obtain ⟨x, y, r, rfl, g1, g2⟩ := zs_bin (P := fun _ _ => True) (F := fun x y => (x.toUInt32 >>> (y.toUInt32 &&& Int32.toUInt32 31)).toInt32) hN hv hR (show zh_bin nx (pc + 1) cur row st h e hn ce sl (zx_sh zx_g8) = true from hk) (fun ads a b x y k ha hb hk => ⟨trivial, zx_sh_s (F := fun x y => (x.toUInt32 >>> (y.toUInt32 &&& Int32.toUInt32 31)).toInt32) (fun x y hx hy => ⟨zx_ushr' x y hx hy, zx_g8_lt x y hx⟩) ha hb hk⟩)
    exact lv_iushr hx0 hb hd rfl g2
  case idiv =>
    obtain ⟨hl, he⟩ := zx_le1_s hcd
    have hl := zx_beq_t hl
    subst hl
    cases he
    obtain ⟨x, y, r, rfl, g1, g2⟩ := zs_bin (P := fun _ y => ¬ y = 0) (F := fun x y => x / y) hN hv hR (show zh_bin nx (pc + 1) cur row st h e hn ce sl (zx_dv Nat.div) = true from hk) (fun ads a b x y k ha hb hk => zx_dv_s (F := fun x y => x / y) (fun x y hx h0 hy => ⟨pk_div hx h0 hy, Nat.lt_of_le_of_lt (Nat.div_le_self x y) (by omega)⟩) ha hb hk)
    exact lv_idiv hx0 hb hd g1 g2
  case irem =>
    obtain ⟨hl, he⟩ := zx_le1_s hcd
    have hl := zx_beq_t hl
    subst hl
    cases he
    obtain ⟨x, y, r, rfl, g1, g2⟩ := zs_bin (P := fun _ y => ¬ y = 0) (F := fun x y => x - x / y * y) hN hv hR (show zh_bin nx (pc + 1) cur row st h e hn ce sl (zx_dv Nat.mod) = true from hk) (fun ads a b x y k ha hb hk => zx_dv_s (F := fun x y => x - x / y * y) (fun x y hx h0 hy => ⟨pk_rem hx h0 hy, Nat.lt_of_le_of_lt (Nat.mod_le x y) (by omega)⟩) ha hb hk)
    exact lv_irem hx0 hb hd g1 g2
  case i2b =>
    obtain ⟨hl, he⟩ := zx_le1_s hcd
    have hl := zx_beq_t hl
    subst hl
    cases he
    obtain ⟨x, r, rfl, g2⟩ := zs_un (F := fun x => x.toInt8.toInt32) hN hv hR (show zh_un nx (pc + 1) cur row st h e hn ce sl zx_n8 = true from hk) (fun x hx => ⟨zx_n8' x hx, zx_n8_lt x⟩)
    exact lv_i2b hx0 hb hd rfl g2
  case i2c =>
    obtain ⟨hl, he⟩ := zx_le1_s hcd
    have hl := zx_beq_t hl
    subst hl
    cases he
    obtain ⟨x, r, rfl, g2⟩ := zs_un (F := fun x => (x.toUInt32 % 65536).toInt32) hN hv hR (show zh_un nx (pc + 1) cur row st h e hn ce sl zx_n16 = true from hk) (fun x hx => ⟨zx_n16' x hx, Nat.lt_of_lt_of_le (Nat.mod_lt x (by decide : 0 < 65536)) (by decide)⟩)
    exact lv_i2c hx0 hb hd rfl g2
  case i2l =>
    obtain ⟨hl, he⟩ := zx_le1_s hcd
    have hl := zx_beq_t hl
    subst hl
    cases he
    obtain ⟨x, r, rfl, g2⟩ := zs_i2l hN hv hR (show zh_i2l nx (pc + 1) cur row st h e hn ce sl = true from hk)
    exact lv_i2l hx0 hb hd rfl (g2 _)
  case ladd =>
    obtain ⟨hl, he⟩ := zx_le1_s hcd
    have hl := zx_beq_t hl
    subst hl
    cases he
    obtain ⟨x, y, r, rfl, g2⟩ := zs_lbin hN hv hR (show zh_lbin nx (pc + 1) cur row st h e hn ce sl = true from hk)
    exact lv_ladd hx0 hb hd (g2 _)
  case lsub =>
    obtain ⟨hl, he⟩ := zx_le1_s hcd
    have hl := zx_beq_t hl
    subst hl
    cases he
    obtain ⟨x, y, r, rfl, g2⟩ := zs_lbin hN hv hR (show zh_lbin nx (pc + 1) cur row st h e hn ce sl = true from hk)
    exact lv_lsub hx0 hb hd (g2 _)
  case lmul =>
    obtain ⟨hl, he⟩ := zx_le1_s hcd
    have hl := zx_beq_t hl
    subst hl
    cases he
    obtain ⟨x, y, r, rfl, g2⟩ := zs_lbin hN hv hR (show zh_lbin nx (pc + 1) cur row st h e hn ce sl = true from hk)
    exact lv_lmul hx0 hb hd (g2 _)
  case dup =>
    obtain ⟨hl, he⟩ := zx_le1_s hcd
    have hl := zx_beq_t hl
    subst hl
    cases he
    obtain ⟨x, r, rfl, g1, g2⟩ := zs_dup hN hv hR (show zh_dup nx (pc + 1) cur row st h e hn ce sl = true from hk)
    exact lv_dup hx0 hb hd g1 g2
  case pop =>
    obtain ⟨hl, he⟩ := zx_le1_s hcd
    have hl := zx_beq_t hl
    subst hl
    cases he
    obtain ⟨x, r, rfl, g1, g2⟩ := zs_pop hN hv hR (show zh_pop nx (pc + 1) cur row st h e hn ce sl = true from hk)
    exact lv_pop hx0 hb hd g1 g2
  case dup2 =>
    obtain ⟨hl, he⟩ := zx_le1_s hcd
    have hl := zx_beq_t hl
    subst hl
    cases he
    obtain ⟨x, y, r, rfl, g0, g1, g2⟩ := zs_dup2 hN hv hR (show zh_dup2 nx (pc + 1) cur row st h e hn ce sl = true from hk)
    exact lv_dup2_11 hx0 hb hd g1 g0 g2
  case goto off =>
    simp only [zx_cd] at hcd
    split at hcd
    · rename_i hl
      subst hl
      obtain ⟨ht, rfl, rfl⟩ := zx_tg1_s hcd
      exact lv_goto hx0 hb hd ht (zs_jp hw hN hR (show zx_jp M nx a row st h e hn ce sl = true from hk))
    · cases hcd
  case if_icmp cd off =>
    simp only [zx_cd] at hcd
    split at hcd
    · rename_i hl
      subst hl
      obtain ⟨ht, rfl, rfl⟩ := zx_tg1_s hcd
      exact zs_icmpI hC hd ht hN hv hR (show zh_icmp M nx a (zx_cc cd) (pc + 3) cur row st h e hn ce sl = true from hk)
    · cases hcd
  case ifCond cd off =>
    simp only [zx_cd] at hcd
    split at hcd
    · rename_i hl
      subst hl
      obtain ⟨ht, rfl, rfl⟩ := zx_tg1_s hcd
      exact zs_ifI hC hd ht hN hv hR (show zh_if M nx a (zx_cc cd) (pc + 3) cur row st h e hn ce sl = true from hk)
    · cases hcd
  case tableswitch dflt lo hi offs =>
    simp only [zx_cd] at hcd
    split at hcd
    · rename_i hhi
      have hsx : zx_sx pc dflt (zx_tps lo offs.toList) = some (26, a, 0) := by
        have hcd2 := hcd
        unfold zx_sx at hcd2
        split at hcd2
        · rw [Option.map_eq_some_iff] at hcd2
          obtain ⟨i, hi, he⟩ := hcd2
          cases he
          exact hcd
        · cases hcd2
      have hob : op = 26 := by
        rw [hsx] at hcd
        cases hcd
        rfl
      subst hob
      obtain ⟨x, r, t, rfl, g1, g2⟩ := zs_sw hsx hw hN hR (show zh_sw M nx a row st h e hn ce sl = true from hk)
      obtain ⟨o1, o2⟩ := zx_tps_off dflt offs.toList lo x.toInt (fun _ _ => Or.inr trivial)
      rw [Array.length_toList] at o1 o2
      by_cases hr : x.toInt < lo ∨ hi < x.toInt
      · rw [o1 (by omega)] at g1
        exact lv_tableOut hx0 hb hd hr g1 g2
      · have o3 := o2 (by omega) (by omega)
        rw [Array.getElem?_toList] at o3
        exact lv_tableIn hx0 hb hd (by omega) (by omega) o3 g1 g2
    · cases hcd
  case lookupswitch dflt ps =>
    simp only [zx_cd] at hcd
    split at hcd
    · rename_i hso
      have hsx : zx_sx pc dflt (ps.toList) = some (26, a, 0) := by
        have hcd2 := hcd
        unfold zx_sx at hcd2
        split at hcd2
        · rw [Option.map_eq_some_iff] at hcd2
          obtain ⟨i, hi, he⟩ := hcd2
          cases he
          exact hcd
        · cases hcd2
      have hob : op = 26 := by
        rw [hsx] at hcd
        cases hcd
        rfl
      subst hob
      obtain ⟨x, r, t, rfl, g1, g2⟩ := zs_sw hsx hw hN hR (show zh_sw M nx a row st h e hn ce sl = true from hk)
      exact lv_lookup hx0 hb hd hso rfl g1 g2
    · cases hcd
  case getfield i =>
    simp only [zx_cd] at hcd
    split at hcd
    · rename_i q hz
      obtain ⟨hm, ho, hi⟩ := zx_lf_s hz
      split at hcd
      · rename_i hl
        subst hl
        split at hcd
        · rename_i hx
          obtain ⟨h2, he⟩ := zx_le1_s hcd
          cases he
          exact zs_get hC hm ho hi hx (of_decide_eq_true h2) hd hN hv hR (show zh_get nx (7 + 16 * q.2.2.1) q.2.2.2.1 (pc + 3) cur row st h e hn ce sl = true from hk)
        · split at hcd
          · rename_i hx
            cases hcd
            exact zs_str hC hm ho hi (a := 0) hx (by decide) hd hN hv hR (show zh_str nx 0 (pc + 3) cur row st h e hn ce sl = true from hk)
          · split at hcd
            · rename_i hx
              cases hcd
              exact zs_str hC hm ho hi (a := 1) hx (by decide) hd hN hv hR (show zh_str nx 1 (pc + 3) cur row st h e hn ce sl = true from hk)
            · cases hcd
      · cases hcd
    · cases hcd
  case putfield i =>
    simp only [zx_cd] at hcd
    split at hcd
    · rename_i q hz
      obtain ⟨hm, ho, hi⟩ := zx_lf_s hz
      split at hcd
      · rename_i hl
        obtain ⟨hl, hx, hy, hf⟩ := hl
        subst hl
        cases hcd
        exact zs_put hC hm ho hi hx hy hf hd hN hv hR (show zh_put nx (7 + 16 * q.2.2.1 + 1048576 * zx_fm ((zx_ci q.2.2.1).2.1 q.2.2.2.1).2.2.1) q.2.2.2.1 (pc + 3) cur row st h e hn ce sl = true from hk)
      · cases hcd
    · cases hcd
  case getstatic i =>
    simp only [zx_cd] at hcd
    split at hcd
    · rename_i q hz
      obtain ⟨hm, ho, hi⟩ := zx_lf_s hz
      split at hcd
      · rename_i hl
        subst hl
        split at hcd
        · rename_i hx
          cases hcd
          exact zs_gets hC hm ho hi (Or.inl ⟨hx, rfl⟩) hd hN hv hR (show zh_psh nx 20 (pc + 3) cur row st h e hn ce sl = true from hk)
        · split at hcd
          · rename_i hx
            cases hcd
            exact zs_gets hC hm ho hi (Or.inr ⟨hx, rfl⟩) hd hN hv hR (show zh_psh nx 8 (pc + 3) cur row st h e hn ce sl = true from hk)
          · cases hcd
      · cases hcd
    · cases hcd
  case new i =>
    simp only [zx_cd] at hcd
    split at hcd
    · rename_i q hz
      obtain ⟨hm, ho, hi⟩ := zx_lf_s hz
      obtain ⟨hl, he⟩ := zx_le1_s hcd
      obtain ⟨hl, h2⟩ := zx_and_b hl
      have hl := zx_beq_t hl
      subst hl
      cases he
      exact zs_new hC hm ho hi (zx_blt_t h2) hd hN hv hR (show zh_new M nx (zx_nc.getD q.2.2.1 0) (zx_ci q.2.2.1).2.2 (pc + 3) cur row st h e hn ce sl = true from hk)
    · cases hcd
  case newarray t =>
    simp only [zx_cd] at hcd
    split at hcd
    · rename_i hl
      subst hl
      split at hcd
      · cases hcd
        exact zs_arr (Or.inl ⟨rfl, rfl⟩) hC hd hN hv hR (show zh_arr M nx 0 (pc + 2) cur row st h e hn ce sl = true from hk)
      · cases hcd
        exact zs_arr (Or.inr (Or.inl ⟨rfl, rfl⟩)) hC hd hN hv hR (show zh_arr M nx 1 (pc + 2) cur row st h e hn ce sl = true from hk)
      · cases hcd
        exact zs_arr (Or.inr (Or.inr (Or.inl ⟨rfl, rfl⟩))) hC hd hN hv hR (show zh_arr M nx 2 (pc + 2) cur row st h e hn ce sl = true from hk)
      · cases hcd
        exact zs_arr (Or.inr (Or.inr (Or.inr ⟨rfl, rfl⟩))) hC hd hN hv hR (show zh_arr M nx 6 (pc + 2) cur row st h e hn ce sl = true from hk)
      · cases hcd
    · cases hcd
  case anewarray i =>
    simp only [zx_cd] at hcd
    split at hcd
    · rename_i q hz
      obtain ⟨hm, ho, hi⟩ := zx_lf_s hz
      obtain ⟨hl, he⟩ := zx_le1_s hcd
      obtain ⟨hl, h2⟩ := zx_and_b hl
      have hl := zx_beq_t hl
      subst hl
      cases he
      exact zs_anew hC hm ho hi (zx_beq_t h2) hd hN hv hR (show zh_arr M nx 8 (pc + 3) cur row st h e hn ce sl = true from hk)
    · cases hcd
  case arraylength =>
    obtain ⟨hl, he⟩ := zx_le1_s hcd
    have hl := zx_beq_t hl
    subst hl
    cases he
    exact zs_len hC hd hN hv hR (show zh_len nx (pc + 1) cur row st h e hn ce sl = true from hk)
  case iaload =>
    obtain ⟨hl, he⟩ := zx_le1_s hcd
    have hl := zx_beq_t hl
    subst hl
    cases he
    exact zs_ald (Or.inl ⟨rfl, rfl⟩) hC hd hN hv0 hv hR (show zh_ald nx 9 (pc + 1) cur0 cur pc row st h e hn ce sl = true from hk)
  case baload =>
    obtain ⟨hl, he⟩ := zx_le1_s hcd
    have hl := zx_beq_t hl
    subst hl
    cases he
    exact zs_ald (Or.inr ⟨rfl, rfl⟩) hC hd hN hv0 hv hR (show zh_ald nx 54 (pc + 1) cur0 cur pc row st h e hn ce sl = true from hk)
  case iastore =>
    obtain ⟨hl, he⟩ := zx_le1_s hcd
    have hl := zx_beq_t hl
    subst hl
    cases he
    exact zs_ast (Or.inl ⟨rfl, rfl⟩) hC hd hN hv hR (show zh_ast nx 9 (pc + 1) cur row st h e hn ce sl = true from hk)
  case bastore =>
    obtain ⟨hl, he⟩ := zx_le1_s hcd
    have hl := zx_beq_t hl
    subst hl
    cases he
    exact zs_ast (Or.inr ⟨rfl, rfl⟩) hC hd hN hv hR (show zh_ast nx 54 (pc + 1) cur row st h e hn ce sl = true from hk)
  case laload =>
    obtain ⟨hl, he⟩ := zx_le1_s hcd
    have hl := zx_beq_t hl
    subst hl
    cases he
    exact zs_lald hC hd hN hv hR (show zh_lald nx (pc + 1) cur row st h e hn ce sl = true from hk)
  case lastore =>
    obtain ⟨hl, he⟩ := zx_le1_s hcd
    have hl := zx_beq_t hl
    subst hl
    cases he
    exact zs_last hC hd hN hv hR (show zh_last nx (pc + 1) cur row st h e hn ce sl = true from hk)
  case aaload =>
    obtain ⟨hl, he⟩ := zx_le1_s hcd
    have hl := zx_beq_t hl
    subst hl
    cases he
    exact zs_rald hC hd hN hv0 hv hR (show zh_rald nx (pc + 1) cur0 cur pc row st h e hn ce sl = true from hk)
  case aastore =>
    obtain ⟨hl, he⟩ := zx_le1_s hcd
    have hl := zx_beq_t hl
    subst hl
    cases he
    exact zs_rast hC hd hN hv hR (show zh_rast nx (pc + 1) cur row st h e hn ce sl = true from hk)
  case invokevirtual i =>
    simp only [zx_cd] at hcd
    split at hcd
    · rename_i q hz
      obtain ⟨hm, ho, hi⟩ := zx_lf_s hz
      split at hcd
      · rename_i y hy
        split at hcd
        · rename_i hl
          obtain ⟨hl, h0, h9⟩ := hl
          subst hl
          cases hcd
          exact zs_invV hm ho hi rfl h9 hy h0 hd hCa hC hN hv hR (show zh_inv M call nx q.2.2.1 (pc + 3) cur row st h e hn ce sl = true from hk)
        · cases hcd
      · cases hcd
    · cases hcd
  case invokestatic i =>
    simp only [zx_cd] at hcd
    split at hcd
    · rename_i q hz
      obtain ⟨hm, ho, hi⟩ := zx_lf_s hz
      split at hcd
      · rename_i hx
        obtain ⟨hl, he⟩ := zx_le1_s hcd
        have hl := zx_beq_t hl
        subst hl
        cases he
        exact zs_cpy hC hm ho hi hx hd hN hv hR (show zh_cpy nx (pc + 3) cur row st h e hn ce sl = true from hk)
      · split at hcd
        · rename_i y hy
          split at hcd
          · rename_i hl
            obtain ⟨hl, h0, h9⟩ := hl
            subst hl
            cases hcd
            exact zs_invS (Or.inl hm) ho hi rfl h9 hy h0 hd hCa hC hN hv hR (show zh_inv M call nx q.2.2.1 (pc + 3) cur row st h e hn ce sl = true from hk)
          · cases hcd
        · cases hcd
    · split at hcd
      · rename_i q hz
        obtain ⟨hm, ho, hi⟩ := zx_lf_s hz
        split at hcd
        · rename_i y hy
          split at hcd
          · rename_i hl
            obtain ⟨hl, h0, h9⟩ := hl
            subst hl
            cases hcd
            exact zs_invS (Or.inr hm) ho hi rfl h9 hy h0 hd hCa hC hN hv hR (show zh_inv M call nx q.2.2.1 (pc + 3) cur row st h e hn ce sl = true from hk)
          · cases hcd
        · cases hcd
      · cases hcd
  case invokespecial i =>
    simp only [zx_cd] at hcd
    split at hcd
    · rename_i q hz
      obtain ⟨hm, ho, hi⟩ := zx_lf_s hz
      split at hcd
      · rename_i hx
        obtain ⟨hl, he⟩ := zx_le1_s hcd
        have hl := zx_beq_t hl
        subst hl
        cases he
        exact zs_obj hC hm ho hi hx hd hN hv hR (show zh_obj nx (pc + 3) cur row st h e hn ce sl = true from hk)
      · split at hcd
        · rename_i y hy
          split at hcd
          · rename_i hl
            obtain ⟨hl, h0, h9⟩ := hl
            subst hl
            cases hcd
            exact zs_invI (Or.inl hm) ho hi rfl h9 hy h0 hd hCa hC hN hv hR (show zh_inv M call nx q.2.2.1 (pc + 3) cur row st h e hn ce sl = true from hk)
          · cases hcd
        · cases hcd
    · split at hcd
      · rename_i q hz
        obtain ⟨hm, ho, hi⟩ := zx_lf_s hz
        split at hcd
        · rename_i y hy
          split at hcd
          · rename_i hl
            obtain ⟨hl, h0, h9⟩ := hl
            subst hl
            cases hcd
            exact zs_invI (Or.inr hm) ho hi rfl h9 hy h0 hd hCa hC hN hv hR (show zh_inv M call nx q.2.2.1 (pc + 3) cur row st h e hn ce sl = true from hk)
          · cases hcd
        · cases hcd
      · cases hcd
  case lcmp =>
    obtain ⟨hl, he⟩ := zx_le1_s hcd
    have hl := zx_beq_t hl
    subst hl
    cases he
    exact absurd (show false = true from hk) (fun z => by cases z)
  case ineg =>
    obtain ⟨hl, he⟩ := zx_le1_s hcd
    have hl := zx_beq_t hl
    subst hl
    cases he
    exact absurd (show false = true from hk) (fun z => by cases z)
  case lshl =>
    obtain ⟨hl, he⟩ := zx_le1_s hcd
    have hl := zx_beq_t hl
    subst hl
    cases he
    exact absurd (show false = true from hk) (fun z => by cases z)
  case lor =>
    obtain ⟨hl, he⟩ := zx_le1_s hcd
    have hl := zx_beq_t hl
    subst hl
    cases he
    exact absurd (show false = true from hk) (fun z => by cases z)
  case ireturn =>
    obtain ⟨hl, he⟩ := zx_le1_s hcd
    have hl := zx_beq_t hl
    subst hl
    cases he
    obtain ⟨g1, g2⟩ := zx_and_b (show (Nat.ble 1 M.2.1.2.2.2.2.2 && Nat.ble M.2.1.2.2.2.2.2 4) = true from hre)
    exact zs_ret hRt hrk (Or.inl ⟨rfl, zx_ble_t g1, zx_ble_t g2⟩) hd hR (show zh_ret M K st h e hn ce sl = true from hk)
  case lreturn =>
    obtain ⟨hl, he⟩ := zx_le1_s hcd
    have hl := zx_beq_t hl
    subst hl
    cases he
    exact zs_ret hRt hrk (Or.inr (Or.inl ⟨rfl, zx_beq_t (show Nat.beq M.2.1.2.2.2.2.2 5 = true from hre)⟩)) hd hR (show zh_ret M K st h e hn ce sl = true from hk)
  case areturn =>
    obtain ⟨hl, he⟩ := zx_le1_s hcd
    have hl := zx_beq_t hl
    subst hl
    cases he
    exact zs_ret hRt hrk (Or.inr (Or.inr ⟨rfl, zx_beq_t (show Nat.beq M.2.1.2.2.2.2.2 6 = true from hre)⟩)) hd hR (show zh_ret M K st h e hn ce sl = true from hk)
  case return_ =>
    obtain ⟨hl, he⟩ := zx_le1_s hcd
    have hl := zx_beq_t hl
    subst hl
    cases he
    exact zs_rtv hRt hrk hd hR (show zh_rtv M K st h e hn ce sl = true from hk)
theorem zx_st_s (hC : zx_Cx p R s m args meth c M d N0 ex nu) (hCa : zx_Ca l D N0 ex nu d call) (hRt : zx_Rt p l en R s m args below meth c Q D N0 ex nu ad0 M K) (hrk : zx_rk M.1.2.2.2 = M.2.1.2.2.2.2.2) (hN : zx_Nx p l en R s m args below meth c Q D N0 ex nu ad0 M nx) : zx_Nx p l en R s m args below meth c Q D N0 ex nu ad0 M (zx_st M K call nx) := by
  intro cur pc row st h e hn ce sl hv hk ls vs H locs hR
  cases cur with
  | nil =>
    have hk : zx_bk M.2.2 pc (fun cur => nx cur pc row st h e hn ce sl) = true := hk
    obtain ⟨b, hb, hk⟩ := zx_bk_s _ hk
    exact hN _ _ _ _ _ _ _ _ _ (hC.2.2.2.2.2.2.2.2.2 b hb) hk _ _ _ _ hR
  | cons q cur =>
    have hk : (bif Nat.beq q.1 pc then zx_op M K call nx q.2.1 q.2.2.1 q.2.2.2.1 q.2.2.2.2 (q :: cur) cur pc row st h e hn ce sl else false) = true := hk
    obtain ⟨hpc, hk⟩ := zx_bft hk
    have hpc := zx_beq_t hpc
    subst hpc
    obtain ⟨⟨ins, len, hd, hnp, hcd⟩, hre⟩ := hv q List.mem_cons_self
    exact zx_op_s hC hCa hRt hrk hN hd hnp hcd hre hv (fun z hz => hv z (List.mem_cons_of_mem _ hz)) hR hk
end ZW
end
section
/-! a run of the walker is one of the machine -/
theorem zx_ofW {l : Launch} {y : MethodName} {ws ws' : List Cond} {rm : Room} {Pc : Array Value → State → Prop} {Qc : Array Value → State → Outcome → State → Prop} {mc ms : Nat} {free : Addr → Prop} {cc : ByteArray} {maxL : Nat} {ret : Option FieldType}
    (hy : plainFor y = true) (hw : ws = Cond.code y cc maxL ret :: ws')
    (body : ∀ p e s m args below meth c s₁, BodyLoose p l y (headSpec ws rm) cc maxL ret e s m args below meth c s₁ → c.maxLocals = maxL → Pc args s →
      W p l e (headSpec ws rm).room s m args below meth c s.heap [] 0 0 (MQ below Qc args s mc ms free) (entryFrame m args maxL)) : Met l y ws rm Pc Qc mc ms free := by
  refine MetFree.of_bodySF (code := cc) (maxLocals := maxL) (ret := ret) hy ?_ ?_
  · intro args s m h hn
    obtain ⟨meth, c, h1, h2, h3, h4, h5, h6, -, -⟩ := Cond.code_spec hn (atoms_spec (ws := ws) h _ (by rw [hw]; exact List.mem_cons_self))
    exact ⟨meth, c, h1, h2, h3, h4, h5, h6⟩
  · intro p e s m args below meth c s₁ B hml hP _
    have hh0 : s₁.heap = s.heap := by rw [B.state]; rfl
    obtain ⟨t, a1, o, b1, b2, b3⟩ := body p e s m args below meth c s₁ B hml hP s₁ hh0 (Stand.of_body B)
    exact ⟨t, o, a1, b1, b2, ⟨b3.1, b3.2⟩⟩
noncomputable def zx_cl (n d : Nat) : zx_M → zx_K → zx_N := fun M' K' => @Nat.rec (fun _ => zx_N) zx_zf (fun d' _ => zx_R n d' M' K' zx_zf) d
theorem zx_R_S (n d : Nat) (M : zx_M) (K : zx_K) (z : zx_N) : zx_R (n + 1) d M K z = zx_st M K (zx_cl n d) (zx_R n d M K z) := rfl
section ZV
variable {l : Launch} {D : va_G} {N0 : Nat} {ex : Nat → Nat} {nu : Nat → Int32}
theorem zx_run_s {p : Program} {en : Env} {R : Room} {s : State} {m : MethodId} {args : Array Value} {below : List Frame} {meth : Method} {c : Code} {Q : State → Prop} {ad0 : List Nat} {M : zx_M} {d : Nat} {K : zx_K} {z : zx_N} (hC : zx_Cx p R s m args meth c M d N0 ex nu) (hRt : zx_Rt p l en R s m args below meth c Q D N0 ex nu ad0 M K) (hrk : zx_rk M.1.2.2.2 = M.2.1.2.2.2.2.2) (hz : zx_Nx p l en R s m args below meth c Q D N0 ex nu ad0 M z) :
    ∀ n, (∀ k, k < n → zx_Ca l D N0 ex nu d (zx_cl k d)) → zx_Nx p l en R s m args below meth c Q D N0 ex nu ad0 M (zx_R n d M K z)
  | 0, _ => hz
  | n + 1, h => by
    rw [zx_R_S]
    exact zx_st_s hC (h n (Nat.lt_succ_self n)) hRt hrk (zx_run_s hC hRt hrk hz n (fun k hk => h k (Nat.lt_succ_of_lt hk)))
/-- how a method of the tables ends -/
theorem zx_ends {p : Program} {en : Env} {R : Room} {s : State} {m : MethodId} {args : Array Value} {below : List Frame} {meth : Method} {c : Code} {ad0 : List Nat} {M : zx_M} {K : zx_K} (hx : p.tables.exec = Jvm.exec) (hb : c.code = M.1.2.1) (hr : meth.sig.returnType = M.1.2.2.2) (hlocks : meth.locks = false) :
    zx_Rt p l en R s m args below meth c (MQ below (zx_Qc D N0 ex nu ad0 K) args s M.2.1.2.2.2.1 M.2.1.2.2.2.2.1 (zx_A N0)) D N0 ex nu ad0 M K := by
  intro pc row r h e hn ce sl ls vs H locs ins hd hri hK hce hsl hR
  refine W.widen hce hsl ?_
  obtain ⟨tys, ws, hW, hS, hl, hL, hT, hE⟩ := hR
  have hf : ∀ q ∈ locs, zx_A N0 q.base := hS.2.2
  have hq : vs.length ≤ 1 → ∀ t : State, t.heap = H → s.WarmedH t.vm → zx_Qc D N0 ex nu ad0 K args s (.returned vs.head?) t := by
    intro hlen t ht hWm
    obtain ⟨k1, k2, k3⟩ := hW
    exact ⟨⟨r, vs, h, e, hn, tys, ws, rfl, hlen, hT, ⟨va_K.moved hWm.alike k1, by rw [ht]; exact k2, k3⟩, hE, hK⟩, hS.F ht⟩
  rcases hri with ⟨h1, rfl, rfl⟩ | ⟨ty, v, h1, rfl, rfl, h2⟩ | ⟨v, h1, rfl, rfl⟩ | ⟨ty, v, h1, h2, rfl, rfl, h3⟩
  · exact W.vret hx hb (hr.trans h1) (hq (by decide)) hf hd
  · exact W.zret hx hb (hr.trans h1) h2 (hq (Nat.le_refl 1)) hf hd
  · exact W.lret hx hb (hr.trans h1) (hq (Nat.le_refl 1)) hf hd
  · exact W.aret hx hb (hr.trans h1) h2 h3 (hq (Nat.le_refl 1)) hf hd
theorem zx_Ca_s (n : Nat) : ∀ d, zx_Ca l D N0 ex nu d (zx_cl n d) := by
  induction n using Nat.strongRecOn with
  | _ n ih =>
    intro d y K as h e hn av tys ws hy hcall hsr hwd hD hlen hH hE
    cases d with
    | zero => cases hcall
    | succ d =>
      have hcall : zx_R n d y K zx_zf [] 0 (zx_rw as) [] h e hn 0 0 = true := hcall
      refine ⟨d, rfl, ?_⟩
      obtain ⟨h1, h2, h3, h4, h5, h6, h7, h8, h9, h10⟩ := zx_head hy
      refine zx_ofW (cc := y.1.2.1) (maxL := y.1.2.2.1) (ret := y.1.2.2.2) h2 rfl ?_
      intro p en s m args below meth c s₁ B hml hv
      obtain ⟨rfl, hN0, hK, hP, hX⟩ := hv
      have hx := B.exec
      have hb := B.bytes
      have hr := B.returns
      have hts0 := atoms_spec (ws := zx_mc y :: zx_G) B.pre
      have hown : s.vm.findClass y.1.1.cls = some m.cls := findClass_of_methodNamed B.named
      rw [h1] at hown
      have hlocks := B.notSynchronized
      have hin : meth.name = y.1.1.name := (name_of_methodNamed B.named B.method).1
      have hC : zx_Cx p (headSpec (zx_mc y :: zx_G) (zx_rm d y)).room s m av.toArray meth c y d N0 ex nu := ⟨hx, hb, hml, hown, fun w hw => hts0 w (List.mem_cons_of_mem _ hw), fun z => hin.trans (h7 z).1, hN0, hX, ⟨Nat.le_refl _, Nat.le_refl _, Nat.le_refl _, Nat.le_refl _⟩, zx_tw_in hy⟩
      have hz : zx_Nx p l en (headSpec (zx_mc y :: zx_G) (zx_rm d y)).room s m av.toArray below meth c (MQ below (zx_Qc D N0 ex nu (ws.map (fun w => w.1)) K) av.toArray s y.2.1.2.2.2.1 y.2.1.2.2.2.2.1 (zx_A N0)) D N0 ex nu (ws.map (fun w => w.1)) y zx_zf := by
        intro cur pc row st h e hn ce sl _ hk
        cases hk
      have hle : (lg_sl av).length ≤ y.1.2.2.1 := by rw [(zx_wd_s hsr).1]; exact hwd
      have hl := lv_entry av hle
      rw [lg_entry_eq]
      refine zx_run_s hC (zx_ends hx hb hr hlocks) h8 hz n (fun k hk => ih k hk d) [] 0 (zx_rw as) [] h e hn 0 0 (fun q hq => by cases hq) hcall _ _ _ _ ⟨tys, ws, ⟨hK, hP, hD, hlen, hH, fun _ _ hq => hq⟩, va_S.rf, zx_lv_none hl, fun j hj => ?_, trivial, hE⟩
      obtain ⟨v, g1, g2⟩ := zx_rw_s 0 hsr j hj
      rw [Nat.zero_add] at g1
      exact ⟨v, hl.2.2 (j, v) g1, g2⟩
/-- the law's own frame -/
theorem zx_T_s {p : Program} {en : Env} {R : Room} {s : State} {m : MethodId} {args : Array Value} {below : List Frame} {meth : Method} {c : Code} {Q : State → Prop} {ad0 : List Nat} {M : zx_M} {f d : Nat} {K : zx_K} {z : zx_N} (hC : zx_Cx p R s m args meth c M (d + 1) N0 ex nu) (hRt : zx_Rt p l en R s m args below meth c Q D N0 ex nu ad0 M K) (hrk : zx_rk M.1.2.2.2 = M.2.1.2.2.2.2.2) (hz : zx_Nx p l en R s m args below meth c Q D N0 ex nu ad0 M z) :
    ∀ n, zx_Nx p l en R s m args below meth c Q D N0 ex nu ad0 M (zx_T f d M K n z)
  | 0 => hz
  | n + 1 => zx_st_s (call := fun M' K' => zx_R f d M' K' zx_zf) hC (zx_Ca_s f (d + 1)) hRt hrk (zx_T_s hC hRt hrk hz n)
end ZV
end
section
/-! the state behind both constructors (printed by program), and that the walker comes there -/
def zx_h0 : zx_H := [[15, 15, 15, 15, 15, 15, 15, 15, 15, 15, 15, 15, 15, 15, 15, 15], [15, 15, 15, 15, 15, 15, 15, 15, 15, 15, 15, 15, 15, 15, 15, 15], [15, 15, 15, 15, 15, 15, 15, 15, 15, 15, 15, 15, 15, 15, 15, 15], [15, 15, 15, 15, 15, 15, 15, 15, 15, 15, 15, 15, 15, 15, 15, 15], [15, 15, 15, 15, 15, 15, 15, 15, 15, 15, 15, 15, 15, 15, 15, 15], [15, 15, 15, 15, 15, 15, 15, 15, 15, 15, 15, 15, 15, 15, 15, 15], [15, 15, 15, 15, 15, 15, 15, 15, 15, 15, 15, 15, 15, 15, 15, 15], [15, 15, 15, 15, 15, 15, 15, 15, 15, 15, 15, 15, 15, 15, 15, 15], [15, 15, 15, 15, 15, 15, 15, 15, 15, 15, 15, 15, 15, 15, 15, 15], [15, 15, 15, 15, 15, 15, 15, 15, 15, 15, 15, 15, 15, 15, 15, 15], [15, 15, 15, 15, 15, 15, 15, 15, 15, 15, 15, 15, 15, 15, 15, 15], [15, 15, 15, 15, 15, 15, 15, 15, 15, 15, 15, 15, 15, 15, 15, 15]]
def zx_h1 : zx_H := [[109248748468303532438750781101013471571373346019065207387142502639224380390686858588413540676788578660268572049881512030011485620351605154710112234723746416543295830344470839270351302359484172620765729193215347293762961237403215122655038257758391, 19807040628566084398421639335, 25601, 799167628741340976168932367841590253658693352546136545213928989760014069179705194997663789114379574106433238787546387447961608050383165454582546551, 70, 166, 1211642775994771984630199648991052866295722236195534977645434660765182248012404030479313682960836031484542015790981976575967565132979494068966220970335382931434395092761305287370291077882418314423773891771567833176667119386775593397020506492454489597085159991144016254679348682289945064771120448589556347143785369066301198039049251319452062857212415014158783490279183000535143, 64, 64, 160, 160, 160, 96, 96, 2085924839766513752339330096697397832999099553025209239458151457426488770081812890357954772999, 4800], [480, 58147097943648551243955755132589461368094380700935320492484238367615091938191243601042673579615865430138863598815816804879093448430321719, 406, 441711766194596082395917911290518806743636029855239210209743928729534503, 325934941269678812581764738221218534168315681574103703912977184705626718009591404261534912891377856622510429178260159629230419749620211403218694889233834079947424184968228020534185168738582081094308327606218375127220994613399461706484756282428263667429252172595782387778990018932700256570112904131805256845873855380558217072875130715217460677097795228694744116286997302560367521495882554988658511607421047543709457198107610403344578034682038414966945166684719397421197100456967676100964003300122340580522591496063400656699439954903317395956676428435186044437225004123724623832661981783950818770344928474249404470092351675648419334314917928502335099546165039549153215878588069474224008341507246919741996323717123932287850388802787820981611319807134370799245226062475999355225592557441743297840100232946206858250476386297206214382162955487815111295505531528, 4116814534410317428071379898379206781198827738778919369104325510433288640933350657791996725698408949096963232113197043212316716341665988743, 160, 4488955961249668156032633688017865102787892115450826215968448492413775956447410394535006543663855894664073643175605326314286432375516692615, 160, 4861097388089018883993887477656523424376956492122733062832571474394263271961470131278016361629302840231184054238013609416256148409367396487, 160, 5233238814928369611955141267295181745966020868794639909696694456374750587475529868021026179594749785798294465300421892518225864443218100359, 160, 5605380241767720339916395056933840067555085245466546756560817438355237902989589604764035997560196731365404876362830175620195580477068804231, 160, 5977521668607071067877648846572498389144149622138453603424940420335725218503649341507045815525643676932515287425238458722165296510919508103], [160, 6349663095446421795838902636211156710733213998810360450289063402316212534017709078250055633491090622499625698487646741824135012544770211975, 160, 6721804522285772523800156425849815032322278375482267297153186384296699849531768814993065451456537568066736109550055024926104728578620915847, 160, 7093945949125123251761410215488473353911342752154174144017309366277187165045828551736075269421984513633846520612463308028074444612471619719, 160, 7466087375964473979722664005127131675500407128826080990881432348257674480559888288479085087387431459200956931674871591130044160646322323591, 160, 7838228802803824707683917794765789997089471505497987837745555330238161796073948025222094905352878404768067342737279874232013876680173027463, 160, 8210370229643175435645171584404448318678535882169894684609678312218649111588007761965104723318325350335177753799688157333983592714023731335, 160, 8582511656482526163606425374043106640267600258841801531473801294199136427102067498708114541283772295902288164862096440435953308747874435207, 160, 8954653083321876891567679163681764961856664635513708378337924276179623742616127235451124359249219241469398575924504723537923024781725139079], [160, 9326794510161227619528932953320423283445729012185615225202047258160111058130186972194134177214666187036508986986913006639892740815575842951, 160, 9698935937000578347490186742959081605034793388857522072066170240140598373644246708937143995180113132603619398049321289741862456849426546823, 160, 10071077363839929075451440532597739926623857765529428918930293222121085689158306445680153813145560078170729809111729572843832172883277250695, 160, 10443218790679279803412694322236398248212922142201335765794416204101573004672366182423163631111007023737840220174137855945801888917127954567, 160, 10815360217518630531373948111875056569801986518873242612658539186082060320186425919166173449076453969304950631236546139047771604950978658439, 160, 11187501644357981259335201901513714891391050895545149459522662168062547635700485655909183267041900914872061042298954422149741320984829362311, 160, 11559643071197331987296455691152373212980115272217056306386785150043034951214545392652193085007347860439171453361362705251711037018680066183, 160, 11931784498036682715257709480791031534569179648888963153250908132023522266728605129395202902972794806006281864423770988353680753052530770055], [160, 12303925924876033443218963270429689856158244025560870000115031114004009582242664866138212720938241751573392275486179271455650469086381473927, 160, 12676067351715384171180217060068348177747308402232776846979154095984496897756724602881222538903688697140502686548587554557620185120232177799, 160, 13048208778554734899141470849707006499336372778904683693843277077964984213270784339624232356869135642707613097610995837659589901154082881671, 160, 13420350205394085627102724639345664820925437155576590540707400059945471528784844076367242174834582588274723508673404120761559617187933585543, 160, 13792491632233436355063978428984323142514501532248497387571523041925958844298903813110251992800029533841833919735812403863529333221784289415, 160, 14164633059072787083025232218622981464103565908920404234435646023906446159812963549853261810765476479408944330798220686965499049255634993287, 160, 14536774485912137810986486008261639785692630285592311081299769005886933475327023286596271628730923424976054741860628970067468765289485697159, 160, 14908915912751488538947739797900298107281694662264217928163891987867420790841083023339281446696370370543165152923037253169438481323336401031], [160, 15281057339590839266908993587538956428870759038936124775028014969847908106355142760082291264661817316110275563985445536271408197357187104903, 160, 15653198766430189994870247377177614750459823415608031621892137951828395421869202496825301082627264261677385975047853819373377913391037808775, 160, 16025340193269540722831501166816273072048887792279938468756260933808882737383262233568310900592711207244496386110262102475347629424888512647, 160, 16397481620108891450792754956454931393637952168951845315620383915789370052897321970311320718558158152811606797172670385577317345458739216519, 160, 16769623046948242178754008746093589715227016545623752162484506897769857368411381707054330536523605098378717208235078668679287061492589920391, 160, 17141764473787592906715262535732248036816080922295659009348629879750344683925441443797340354489052043945827619297486951781256777526440624263, 160, 17513905900626943634676516325370906358405145298967565856212752861730831999439501180540350172454498989512938030359895234883226493560291328135, 160, 17886047327466294362637770115009564679994209675639472703076875843711319314953560917283359990419945935080048441422303517985196209594142032007], [160, 18258188754305645090599023904648223001583274052311379549940998825691806630467620654026369808385392880647158852484711801087165925627992735879, 160, 18630330181144995818560277694286881323172338428983286396805121807672293945981680390769379626350839826214269263547120084189135641661843439751, 160, 19002471607984346546521531483925539644761402805655193243669244789652781261495740127512389444316286771781379674609528367291105357695694143623, 160, 51678697896020727187693080618470021807988698140115000, 9850501549098619803071845949875669965022464746340172033029626288819033091822159536196316067630205299530714235011095, 480, 480, 480, 480, 46517678354918840995166574206381388818437069068702745174994585584800826098256833925589198894560323206559791558751861009907162320792977479, 160, 160], [160, 16384, 16386, 2085924839766513752339330096697397832999143655298617336784611179822045230578912124728005099671, 1024, 1024, 1024, 19807040628566084400401350743, 1024, 1211642775994771984630199648991052866295722236195534977645434660765182248012404030479313682960836031484542015790981976575967565132979494068966220970335382931434395092761305287370291077882418314423773891771567833176768169208332715972025061470349010967910223855386260645744491665023864032017236816658510411022971208367663050089914462721458577351682572976600753742446251642716263, 64, 64, 160, 160, 160, 96], [96, 2085924839766513752339330096697397832999099553025209239458151466537727459222211713617438441479, 4800, 480, 24770663723994282829920965223324743629391900644069749370063151010350334651963666047029041622780714428071591046076856755371635956220380053639, 160, 25142805150833633557882219012963401950980965020741656216927273992330821967477725783772051440746161373638701457139265038473605672254230757511, 160, 25514946577672984285843472802602060272570029397413563063791396974311309282991785520515061258711608319205811868201673321575575388288081461383, 160, 25887088004512335013804726592240718594159093774085469910655519956291796598505845257258071076677055264772922279264081604677545104321932165255, 160, 2351663771082327825146806703824671265840027531345484522142147057656826675754012417402776827733890188265062564338209111947761303984409543714565925601940909901452570789978284794761526100495781367225724014616238563927907163197042180198305326245919353609384738458002936705797067369929150800719643268237240386529398483624012201389382139467531480027548110688301774825579105734574804304403651543971504818941903851429558173842310371349757625997863206054947081621788402772033013940752512421564168138507924232775348264052806558264934048215627405041346522646837720148792217689758162590418769365226130641207893211326150134542503347822327384411955497811495163180658783435806894211268340319000264071349582070202602777254585405947416231614319000660972212634833328351352317922400580694221695973180322400100945317575859728895220676580386384251867581233141396453843479952369285722062524509273394760054575344710037310135759928266385430370783666710021228700147294182721584902694623230262115915599325867436164117435295052530712171352451824183107800942253403285468016048714390327598401438739356304637705672213951221374195471401958551058937765792220584600602132971734503367480941975967302916909015473337140861616949055458811327201626908635864549187667743396662634578556682309327453474531014393318555707673057010250747016967215600379607702970238253321204483820665569403608923855658099486474447731736219734564738101985491228361884849755149848166190840272436740002706783594891461976848978991387548917518346390064650709852289393827372270136424262159817757655004176200916533447, 25921, 25601, 32], [32, 32, 32, 32, 32, 128, 128, 320, 320, 320, 192, 192, 192, 192, 32, 32], [32, 32, 32, 32, 32, 34, 34, 34, 134, 326, 17920, 17920, 1440, 1440, 960, 256], [160, 10496, 16384, 160, 1024, 16386, 1024, 1024, 1026, 16386, 480, 480, 480, 480, 768, 50]]
def zx_e0 : Nat := 9173994461824299011019696735107320609961733841454543365746212666504902091108334371891322518464548774608895
def zx_e1 : Nat := 522194441071324856629046615736005712891239674108899333450450329227761560265483336094779453150982506608039301320357812392283894622396596283297156384487499589859698566043557563102684163262219339342212116933712495848765637963663776411244262496788256157048745984100494431722918873665556559007173505558669186540718786482841199560339904765636553014128023207171778359278965415190561441993214925093234339921988572006115495666795798722682193336149685101803992099215343691703686072476088313505422949995543092062314356375866226530225157477059894988719943831426506628904591803897260212128394941892983529204807276567748749666227809323946942880741562377329738399484730865547225496771832513513414754936490020393970424349876591689383329566859199835742486610344347758659656980406374852759911260285843511424028879944598790316645661853791122142392917788967736905890756387995756426432349080115417397404484682101104219453924678986684138744872427236071978470724870248820701675980501762717669390525585799879482398797841012108531299286186025705572740031859647461095317004486184725570861997267504002939381895843590059278112346242699288890166900936885197491889950168888567659590365524948949114272131834249282791791341426586133140121599621797557325923335798783
def zx_w1 : Nat := 421249166674228746841670381469787386358903471414207037252942430214
noncomputable def zx_leq (l : List Nat) : List Nat → Bool := @List.rec Nat (fun _ => List Nat → Bool) (fun m => @List.rec Nat (fun _ => Bool) true (fun _ _ _ => false) m) (fun a _ ih m => @List.rec Nat (fun _ => Bool) false (fun b t _ => bif Nat.beq a b then ih t else false) m) l
noncomputable def zx_heq (l : zx_H) : zx_H → Bool := @List.rec (List Nat) (fun _ => zx_H → Bool) (fun m => @List.rec (List Nat) (fun _ => Bool) true (fun _ _ _ => false) m) (fun a _ ih m => @List.rec (List Nat) (fun _ => Bool) false (fun b t _ => bif zx_leq a b then ih t else false) m) l
theorem zx_leq_s : ∀ (l m : List Nat), zx_leq l m = true → l = m
  | [], [], _ => rfl
  | [], _ :: _, h => by cases h
  | _ :: _, [], h => by cases h
  | a :: l, b :: m, h => by
    obtain ⟨h1, h2⟩ := zx_bft (show (bif Nat.beq a b then zx_leq l m else false) = true from h)
    rw [zx_beq_t h1, zx_leq_s l m h2]
theorem zx_heq_s : ∀ (l m : zx_H), zx_heq l m = true → l = m
  | [], [], _ => rfl
  | [], _ :: _, h => by cases h
  | _ :: _, [], h => by cases h
  | a :: l, b :: m, h => by
    obtain ⟨h1, h2⟩ := zx_bft (show (bif zx_leq a b then zx_heq l m else false) = true from h)
    rw [zx_leq_s a b h1, zx_heq_s l m h2]
noncomputable def zx_z1 : zx_N := fun _ pc row st h e hn ce sl => Nat.beq pc 18 && (Nat.beq row zx_w1 && (zx_leq st [] && (zx_heq h zx_h1 && (Nat.beq e zx_e0 && (Nat.beq hn 192 && (Nat.beq ce 192 && Nat.beq sl 15906))))))
noncomputable def zx_kf : zx_K := fun r _ _ _ => zx_leq r [20]
set_option maxRecDepth 1000000 in
theorem zk_init : zx_T 20000 40 zm_law zx_kf 11 zx_z1 [] 0 6 [] zx_h0 zx_e0 0 0 0 = true := by decide +kernel
end
section
/-! A typed walker. Values: 16 * payload + kind. Kinds as in the first walker but: 1 a named int and a constant more (payload: name + 256 * constant as 32 bits), 2 a reference (payload: name, 0 for none, + 256 * group), 5 a long (payload 0: some; 2 n + 1: the long named n; 2 n + 2: the n-th long constant), 11 a named int n changed (payload: n + 256 * (s + 16 * c); s 0: 16 n + c, 1: n and (n - 1), 2: n and c, 3: not n, 4: not n and (n - 1), 5: the rest of n by c), 12 what lcmp says of a named long and a constant (payload: name + 256 * constant), 13 a named int shifted right by a constant, 14 the last bit of that, 15 a named int xor a constant below 2^31. -/
def zy_k1 (v : Nat) : Nat := Nat.mod (Nat.div v 16) 256
def zy_o1 (v : Nat) : Nat := Nat.div (Nat.div v 16) 256
def zy_mx (a b : Nat) : Nat := bif Nat.ble a b then b else a
def zy_mn (a b : Nat) : Nat := bif Nat.ble a b then a else b
def zy_c7v (l h : Nat) : Nat := Nat.add (Nat.mul (zx_bd l h) 16) 7
/-- bounds of a named int -/
noncomputable def zy_ivn (e n : Nat) (k : Nat → Nat → Bool) : Bool := zx_fn (zx_eg e n) (fun c => bif Nat.beq c 0 then false else zx_fn (Nat.div c 4294967296) (fun l => zx_fn (Nat.mod c 4294967296) (fun h => k l h)))
/-- bounds of a changed int -/
noncomputable def zy_w11 (s c l h : Nat) (k : Nat → Nat → Bool) : Bool :=
  bif Nat.beq s 0 then (bif Nat.ble 2147483648 l && (Nat.ble h 2148532224 && Nat.blt c 1048576) then zx_fn (Nat.add (Nat.add 2147483648 c) (Nat.mul 16 (Nat.sub l 2147483648))) (fun l => zx_fn (Nat.add (Nat.add 2147483648 c) (Nat.mul 16 (Nat.sub h 2147483648))) (fun h => k l h)) else k 0 4294967295) else
  bif Nat.ble s 2 then (bif Nat.ble 2147483648 l then k 2147483648 h else k 0 4294967295) else
  bif Nat.beq s 3 then zx_fn (Nat.sub 4294967295 h) (fun l' => zx_fn (Nat.sub 4294967295 l) (fun h' => k l' h')) else
  bif Nat.beq s 4 then (bif Nat.ble 2147483649 l && Nat.ble h 2147484671 then k 2147483648 2147484159 else k 0 4294967295) else
  bif Nat.blt 0 c && (Nat.blt c 2147483648 && Nat.ble 2147483648 l) then zx_fn (zy_mn h (Nat.add 2147483647 c)) (fun h => k 2147483648 h) else k 0 4294967295
/-- bounds of an int -/
noncomputable def zy_iv (e v : Nat) (k : Nat → Nat → Bool) : Bool :=
  bif Nat.beq (zx_kd v) 4 then zx_fn (zx_bi (zx_pl v)) (fun b => k b b) else
  bif Nat.beq (zx_kd v) 7 then zx_fn (zx_pl v) (fun c => zx_fn (Nat.div c 4294967296) (fun l => zx_fn (Nat.mod c 4294967296) (fun h => k l h))) else
  bif Nat.beq (zx_kd v) 1 then zy_ivn e (zy_k1 v) (fun l h => zx_fn (zy_o1 v) (fun o =>
    bif Nat.beq o 0 then k l h else
    bif Nat.blt o 2147483648 then (bif Nat.blt (Nat.add h o) 4294967296 then zx_fn (Nat.add l o) (fun l => zx_fn (Nat.add h o) (fun h => k l h)) else k 0 4294967295) else
    bif Nat.ble (Nat.sub 4294967296 o) l then zx_fn (Nat.sub l (Nat.sub 4294967296 o)) (fun l => zx_fn (Nat.sub h (Nat.sub 4294967296 o)) (fun h => k l h)) else k 0 4294967295)) else
  bif Nat.beq (zx_kd v) 14 then k 2147483648 2147483649 else
  bif Nat.beq (zx_kd v) 13 then zy_ivn e (zy_k1 v) (fun l h => bif Nat.ble 2147483648 l then zx_fn (Nat.add 2147483648 (Nat.div (Nat.sub h 2147483648) (Nat.pow 2 (zy_o1 v)))) (fun h => k 2147483648 h) else k 0 4294967295) else
  bif Nat.beq (zx_kd v) 11 then zy_ivn e (zy_k1 v) (fun l h => zx_fn (Nat.mod (zy_o1 v) 16) (fun s => zx_fn (Nat.div (zy_o1 v) 16) (fun c => zy_w11 s c l h k))) else
  bif Nat.beq (zx_kd v) 12 || Nat.beq (zx_kd v) 15 then k 0 4294967295 else false
/-- a named int is known to lie between l and h as well -/
noncomputable def zy_up (e n l h : Nat) (k : Nat → Bool) : Bool := zy_ivn e n (fun lv hv => bif Nat.ble (zy_mx l lv) (zy_mn h hv) then zx_fn (zx_es e n (zx_bd (zy_mx l lv) (zy_mn h hv))) k else true)
/-- an int is known to lie between l and h: what is known of its name then -/
noncomputable def zy_rf (e v l h : Nat) (k : Nat → Bool) : Bool :=
  bif Nat.beq (zx_kd v) 1 then zy_ivn e (zy_k1 v) (fun lv hv => zx_fn (zy_o1 v) (fun o =>
    bif Nat.beq o 0 then zy_up e (zy_k1 v) l h k else
    bif Nat.blt o 2147483648 then (bif Nat.blt (Nat.add hv o) 4294967296 then (bif Nat.ble o h then zy_up e (zy_k1 v) (Nat.sub l o) (Nat.sub h o) k else true) else k e) else
    bif Nat.ble (Nat.sub 4294967296 o) lv then zy_up e (zy_k1 v) (Nat.add l (Nat.sub 4294967296 o)) (Nat.add h (Nat.sub 4294967296 o)) k else k e)) else
  bif Nat.beq (zx_kd v) 14 && Nat.ble 2147483649 l then zy_ivn e (zy_k1 v) (fun lv _ => bif Nat.ble 2147483648 lv then zy_up e (zy_k1 v) (Nat.add 2147483648 (Nat.pow 2 (zy_o1 v))) 4294967295 k else k e) else
  bif Nat.beq (zx_kd v) 15 && Nat.ble 2147483648 l then zy_up e (zy_k1 v) 2147483648 4294967295 k else
  bif Nat.beq (zx_kd v) 15 && Nat.blt h 2147483648 then zy_up e (zy_k1 v) 0 2147483647 k else
  bif Nat.beq (zx_kd v) 11 then zx_fn (Nat.mod (zy_o1 v) 16) (fun s => zx_fn (Nat.div (zy_o1 v) 16) (fun c =>
    bif Nat.beq s 2 && (Nat.beq l 2147483648 && (Nat.beq h 2147483648 && (Nat.blt 0 (Nat.sub 4294967296 c) && (Nat.blt (Nat.sub 4294967296 c) 2147483648 && Nat.beq (Nat.pow 2 (Nat.log2 (Nat.sub 4294967296 c))) (Nat.sub 4294967296 c))))) then zy_up e (zy_k1 v) 2147483648 (Nat.add 2147483648 (Nat.sub 4294967295 c)) k else
    bif Nat.beq s 5 && (Nat.blt 0 c && Nat.blt c 2147483648) then zy_ivn e (zy_k1 v) (fun lv hv => bif Nat.ble 2147483648 lv then
      (bif Nat.ble 2147483649 l then zy_up e (zy_k1 v) 2147483649 4294967295 k else
       bif Nat.blt (Nat.succ h) (Nat.add 2147483648 c) && Nat.beq (Nat.mod (Nat.sub hv 2147483648) c) (Nat.pred c) then zy_up e (zy_k1 v) 0 (Nat.pred hv) k else k e) else k e) else k e)) else k e
/-- an int of any kind -/
def zy_ii (v : Nat) : Bool := zx_kc 63634 v
/-- a value as it is known now: known ints as such -/
noncomputable def zy_n1 (e v : Nat) (k : Nat → Bool) : Bool :=
  bif zx_kc 63618 v then zy_iv e v (fun l h => bif Nat.beq l h then zx_fn (zx_c (zx_bi l)) k else k v) else k v
/-- the same, to be kept: kinds 11 to 15 by their bounds, but n and (n - 1) -/
noncomputable def zy_no (e v : Nat) (k : Nat → Bool) : Bool :=
  bif zx_kc 63618 v then zy_iv e v (fun l h => bif Nat.beq l h then zx_fn (zx_c (zx_bi l)) k else bif zx_kc 63488 v && !(Nat.beq (zx_kd v) 11 && Nat.beq (Nat.mod (zy_o1 v) 16) 1) then zx_fn (zy_c7v l h) k else k v) else k v
/-- two ints, by their bounds -/
noncomputable def zy_w2 (e x y : Nat) (f : Nat → Nat → Nat → Nat → (Nat → Bool) → Bool) (k : Nat → Bool) : Bool := zy_iv e x (fun l1 h1 => zy_iv e y (fun l2 h2 => f l1 h1 l2 h2 k))
/-- both known: f; else by their bounds: g -/
noncomputable def zy_b2 (f : Nat → Nat → Nat) (g : Nat → Nat → Nat → Nat → (Nat → Bool) → Bool) (e x y : Nat) (k : Nat → Bool) : Bool :=
  bif Nat.beq (zx_kd x) 4 && Nat.beq (zx_kd y) 4 then zx_fn (zx_c (f (zx_pl x) (zx_pl y))) k else zy_w2 e x y g k
noncomputable def zy_wadd (l1 h1 l2 h2 : Nat) (k : Nat → Bool) : Bool := bif Nat.ble 2147483648 (Nat.add l1 l2) && Nat.blt (Nat.add h1 h2) 6442450944 then zx_fn (zy_c7v (Nat.sub (Nat.add l1 l2) 2147483648) (Nat.sub (Nat.add h1 h2) 2147483648)) k else k zx_un
noncomputable def zy_wsub (l1 h1 l2 h2 : Nat) (k : Nat → Bool) : Bool := bif Nat.ble h2 (Nat.add l1 2147483648) && Nat.blt (Nat.add h1 2147483648) (Nat.add 4294967296 l2) then zx_fn (zy_c7v (Nat.sub (Nat.add l1 2147483648) h2) (Nat.sub (Nat.add h1 2147483648) l2)) k else k zx_un
noncomputable def zy_wmul (l1 h1 l2 h2 : Nat) (k : Nat → Bool) : Bool := bif Nat.ble 2147483648 l1 && (Nat.ble 2147483648 l2 && Nat.blt (Nat.mul (Nat.sub h1 2147483648) (Nat.sub h2 2147483648)) 2147483648) then zx_fn (zy_c7v (Nat.add 2147483648 (Nat.mul (Nat.sub l1 2147483648) (Nat.sub l2 2147483648))) (Nat.add 2147483648 (Nat.mul (Nat.sub h1 2147483648) (Nat.sub h2 2147483648)))) k else k zx_un
noncomputable def zy_wand (l1 h1 l2 h2 : Nat) (k : Nat → Bool) : Bool := bif Nat.ble 2147483648 l1 then (bif Nat.ble 2147483648 l2 then zx_fn (zy_c7v 2147483648 (zy_mn h1 h2)) k else zx_fn (zy_c7v 2147483648 h1) k) else bif Nat.ble 2147483648 l2 then zx_fn (zy_c7v 2147483648 h2) k else k zx_un
def zy_pw (n : Nat) : Nat := Nat.sub (Nat.pow 2 (Nat.succ (Nat.log2 n))) 1
noncomputable def zy_wor (l1 h1 l2 h2 : Nat) (k : Nat → Bool) : Bool := bif Nat.ble 2147483648 l1 && Nat.ble 2147483648 l2 then zx_fn (zy_c7v 2147483648 (Nat.add 2147483648 (zy_pw (zy_mx (Nat.sub h1 2147483648) (Nat.sub h2 2147483648))))) k else k zx_un
noncomputable def zy_wshl (l1 h1 l2 h2 : Nat) (k : Nat → Bool) : Bool := bif Nat.ble 2147483648 l1 && (Nat.ble 2147483648 l2 && (Nat.blt h2 2147483680 && Nat.blt (Nat.mul (Nat.sub h1 2147483648) (Nat.pow 2 (Nat.sub h2 2147483648))) 2147483648)) then zx_fn (zy_c7v (Nat.add 2147483648 (Nat.mul (Nat.sub l1 2147483648) (Nat.pow 2 (Nat.sub l2 2147483648)))) (Nat.add 2147483648 (Nat.mul (Nat.sub h1 2147483648) (Nat.pow 2 (Nat.sub h2 2147483648))))) k else k zx_un
noncomputable def zy_wshr (l1 h1 _ _ : Nat) (k : Nat → Bool) : Bool := bif Nat.ble 2147483648 l1 then zx_fn (zy_c7v 2147483648 h1) k else k zx_un
noncomputable def zy_wxor (l1 h1 l2 _ : Nat) (k : Nat → Bool) : Bool := bif Nat.ble 2147483648 l2 then (bif Nat.ble 2147483648 l1 then zx_fn (zy_c7v 2147483648 4294967295) k else bif Nat.blt h1 2147483648 then zx_fn (zy_c7v 0 2147483647) k else k zx_un) else k zx_un
noncomputable def zy_wushr (l1 h1 l2 h2 : Nat) (k : Nat → Bool) : Bool := bif Nat.ble 2147483648 l1 && (Nat.beq l2 h2 && (Nat.ble 2147483648 l2 && Nat.blt l2 2147483680)) then zx_fn (zy_c7v (Nat.add 2147483648 (Nat.div (Nat.sub l1 2147483648) (Nat.pow 2 (Nat.sub l2 2147483648)))) (Nat.add 2147483648 (Nat.div (Nat.sub h1 2147483648) (Nat.pow 2 (Nat.sub l2 2147483648))))) k else k zx_un
noncomputable def zy_wun (_ _ _ _ : Nat) (k : Nat → Bool) : Bool := k zx_un
/-- a divisor that is not 0 -/
def zy_nz (l h : Nat) : Bool := Nat.blt 2147483648 l || Nat.blt h 2147483648
noncomputable def zy_wdiv (l1 h1 l2 h2 : Nat) (k : Nat → Bool) : Bool := bif zy_nz l2 h2 then (bif Nat.ble 2147483648 l1 && (Nat.beq l2 h2 && Nat.blt 2147483648 l2) then zx_fn (zy_c7v (Nat.add 2147483648 (Nat.div (Nat.sub l1 2147483648) (Nat.sub l2 2147483648))) (Nat.add 2147483648 (Nat.div (Nat.sub h1 2147483648) (Nat.sub l2 2147483648)))) k else k zx_un) else false
noncomputable def zy_wrem (l1 h1 l2 h2 : Nat) (k : Nat → Bool) : Bool := bif zy_nz l2 h2 then (bif Nat.beq l2 h2 && Nat.blt 2147483648 l2 then (bif Nat.ble 2147483648 l1 then zx_fn (zy_c7v 2147483648 (zy_mn h1 (Nat.pred l2))) k else bif Nat.ble h1 2147483648 then zx_fn (zy_c7v (Nat.sub 4294967297 l2) 2147483648) k else zx_fn (zy_c7v (Nat.sub 4294967297 l2) (Nat.pred l2)) k) else k zx_un) else false
/-- a changed int -/
def zy_ch (n s c : Nat) : Nat := Nat.add (Nat.mul (Nat.add n (Nat.mul 256 (Nat.add s (Nat.mul 16 c)))) 16) 11
def zy_nm (n o : Nat) : Nat := Nat.add (Nat.mul (Nat.add n (Nat.mul 256 o)) 16) 1
/-- a named int and a known one -/
noncomputable def zy_ad (e x y : Nat) (k : Nat → Bool) : Bool :=
  bif Nat.beq (zx_kd x) 1 && Nat.beq (zx_kd y) 4 then zx_fn (zy_nm (zy_k1 x) (zx_f0 (zy_o1 x) (zx_pl y))) k else
  bif Nat.beq (zx_kd y) 1 && Nat.beq (zx_kd x) 4 then zx_fn (zy_nm (zy_k1 y) (zx_f0 (zy_o1 y) (zx_pl x))) k else
  bif Nat.beq (zx_kd x) 11 && (Nat.beq (Nat.mod (zy_o1 x) 16) 0 && (Nat.beq (zx_kd y) 4 && Nat.blt (zx_pl y) 65536)) then zx_fn (zy_ch (zy_k1 x) 0 (zx_f0 (Nat.div (zy_o1 x) 16) (zx_pl y))) k else zy_b2 zx_f0 zy_wadd e x y k
noncomputable def zy_sb (e x y : Nat) (k : Nat → Bool) : Bool :=
  bif Nat.beq (zx_kd x) 1 && Nat.beq (zx_kd y) 4 then zx_fn (zy_nm (zy_k1 x) (zx_f1 (zy_o1 x) (zx_pl y))) k else zy_b2 zx_f1 zy_wsub e x y k
/-- 16 times a named int -/
noncomputable def zy_ml (e x y : Nat) (k : Nat → Bool) : Bool := bif Nat.beq x 260 && (Nat.beq (zx_kd y) 1 && Nat.beq (zy_o1 y) 0) then zx_fn (zy_ch (zy_k1 y) 0 0) k else zy_b2 zx_f2 zy_wmul e x y k
noncomputable def zy_an (e x y : Nat) (k : Nat → Bool) : Bool :=
  bif Nat.beq (zx_kd x) 13 && Nat.beq y 20 then k (Nat.succ x) else
  bif Nat.beq (zx_kd x) 1 && (Nat.beq (zy_o1 x) 0 && (Nat.beq (zx_kd y) 4 && (Nat.blt 2147483648 (zx_pl y) && Nat.blt (zx_pl y) 4294967295))) then zx_fn (zy_ch (zy_k1 x) 2 (zx_pl y)) k else
  bif Nat.beq (zx_kd x) 1 && (Nat.beq (zy_o1 x) 0 && Nat.beq y (zy_nm (zy_k1 x) 4294967295)) then zx_fn (zy_ch (zy_k1 x) 1 0) k else
  bif Nat.beq (zx_kd x) 11 && (Nat.beq (Nat.mod (zy_o1 x) 16) 3 && Nat.beq y (zy_nm (zy_k1 x) 4294967295)) then zx_fn (zy_ch (zy_k1 x) 4 0) k else
  bif Nat.beq y 68719476724 && zx_kc 146 x then k x else bif Nat.beq x 68719476724 && zx_kc 146 y then k y else zy_b2 Nat.land zy_wand e x y k
noncomputable def zy_xr (e x y : Nat) (k : Nat → Bool) : Bool :=
  bif Nat.beq (zx_kd x) 1 && (Nat.beq (zy_o1 x) 0 && Nat.beq y 68719476724) then zx_fn (zy_ch (zy_k1 x) 3 0) k else
  bif Nat.beq (zx_kd x) 1 && (Nat.beq (zy_o1 x) 0 && (Nat.beq (zx_kd y) 4 && Nat.blt (zx_pl y) 2147483648)) then zx_fn (Nat.add (Nat.mul (Nat.add (zy_k1 x) (Nat.mul 256 (zx_pl y))) 16) 15) k else zy_b2 Nat.xor zy_wxor e x y k
noncomputable def zy_sh (f : Nat → Nat → Nat) (g : Nat → Nat → Nat → Nat → (Nat → Bool) → Bool) (e x y : Nat) (k : Nat → Bool) : Bool :=
  bif Nat.beq (zx_kd x) 4 && (Nat.beq (zx_kd y) 4 && Nat.blt (zx_pl y) 32) then zx_fn (zx_c (f (zx_pl x) (zx_pl y))) k else zy_w2 e x y g k
noncomputable def zy_sr (e x y : Nat) (k : Nat → Bool) : Bool :=
  bif Nat.beq (zx_kd x) 1 && (Nat.beq (zy_o1 x) 0 && (Nat.beq (zx_kd y) 4 && Nat.blt (zx_pl y) 31)) then zx_fn (Nat.add (Nat.mul (Nat.add (zy_k1 x) (Nat.mul 256 (zx_pl y))) 16) 13) k else zy_sh zx_g7 zy_wshr e x y k
noncomputable def zy_dv (f : Nat → Nat → Nat) (g : Nat → Nat → Nat → Nat → (Nat → Bool) → Bool) (e x y : Nat) (k : Nat → Bool) : Bool :=
  bif Nat.beq (zx_kd x) 4 && (Nat.beq (zx_kd y) 4 && (Nat.blt (zx_pl x) 2147483648 && (Nat.blt 0 (zx_pl y) && Nat.blt (zx_pl y) 2147483648))) then zx_fn (zx_c (f (zx_pl x) (zx_pl y))) k else zy_w2 e x y g k
/-- the rest by a constant -/
noncomputable def zy_rm (e x y : Nat) (k : Nat → Bool) : Bool :=
  bif Nat.beq (zx_kd x) 1 && (Nat.beq (zy_o1 x) 0 && (Nat.beq (zx_kd y) 4 && (Nat.blt 0 (zx_pl y) && Nat.blt (zx_pl y) 2147483648))) then zy_iv e x (fun l _ => bif Nat.ble 2147483648 l then zx_fn (zy_ch (zy_k1 x) 5 (zx_pl y)) k else zy_dv Nat.mod zy_wrem e x y k) else zy_dv Nat.mod zy_wrem e x y k
/-- a byte, a char: as it is, if it fits -/
noncomputable def zy_u1 (f : Nat → Nat) (lo hi : Nat) (e x : Nat) (k : Nat → Bool) : Bool := bif Nat.beq (zx_kd x) 4 then zx_fn (zx_c (f (zx_pl x))) k else zy_iv e x (fun l h => bif Nat.ble lo l && Nat.ble h hi then k x else zx_fn (zy_c7v lo hi) k)
noncomputable def zy_ng (e x : Nat) (k : Nat → Bool) : Bool := zy_iv e x (fun l h => bif Nat.ble 1 l then zx_fn (zy_c7v (Nat.sub 4294967296 h) (Nat.sub 4294967296 l)) k else k zx_un)
/-- which way a comparison goes, with what is known then -/
noncomputable def zy_lt (e x y : Nat) (kt kf : Nat → Bool) : Bool := zy_iv e x (fun l1 h1 => zy_iv e y (fun l2 h2 =>
  bif Nat.blt h1 l2 then kt e else bif Nat.ble h2 l1 then kf e else
  (zy_rf e x l1 (zy_mn h1 (Nat.pred h2)) (fun e => zy_rf e y (zy_mx l2 (Nat.succ l1)) h2 kt)) && (zy_rf e x (zy_mx l1 l2) h1 (fun e => zy_rf e y l2 (zy_mn h2 h1) kf))))
noncomputable def zy_eq (e x y : Nat) (kt kf : Nat → Bool) : Bool := zy_iv e x (fun l1 h1 => zy_iv e y (fun l2 h2 =>
  bif Nat.blt h1 l2 || Nat.blt h2 l1 then kf e else bif Nat.beq l1 h1 && Nat.beq l2 h2 then kt e else
  bif zx_kc 2 x && Nat.beq x y then kt e else
  (zy_rf e x (zy_mx l1 l2) (zy_mn h1 h2) (fun e => zy_rf e y (zy_mx l1 l2) (zy_mn h1 h2) kt)) &&
  (bif Nat.beq l2 h2 then (bif Nat.blt l1 l2 then zy_rf e x l1 (Nat.pred l2) kf else true) && (bif Nat.blt l2 h1 then zy_rf e x (Nat.succ l2) h1 kf else true) else
   bif Nat.beq l1 h1 then (bif Nat.blt l2 l1 then zy_rf e y l2 (Nat.pred l1) kf else true) && (bif Nat.blt l1 h2 then zy_rf e y (Nat.succ l1) h2 kf else true) else kf e)))
/-- conditions: 0 lt, 1 ge, 2 gt, 3 le, 4 eq, 5 ne -/
noncomputable def zy_cm (c e x y : Nat) (kt kf : Nat → Bool) : Bool :=
  bif Nat.ble c 1 then (bif Nat.beq c 0 then zy_lt e x y kt kf else zy_lt e x y kf kt) else
  bif Nat.ble c 3 then (bif Nat.beq c 2 then zy_lt e y x kt kf else zy_lt e y x kf kt) else
  (bif Nat.beq c 4 then zy_eq e x y kt kf else zy_eq e x y kf kt)
/-- a place of an array of n: surely within -/
noncomputable def zy_in (e i n : Nat) : Bool := zy_iv e i (fun l h => Nat.ble 2147483648 l && Nat.blt h (Nat.add n 2147483648))
/-- one of few (64 at most): each by itself -/
noncomputable def zy_sn (e i l : Nat) (k : Nat → Bool) (n : Nat) : Bool := @Nat.rec (fun _ => Bool) true (fun d ih => zx_fn (Nat.add l d) (fun v => zy_rf e i v v k) && ih) n
noncomputable def zy_sp (e i : Nat) (k : Nat → Bool) : Bool := zy_iv e i (fun l h => bif Nat.beq (zx_kd i) 1 && Nat.blt h (Nat.add l 64) then zy_sn e i l k (Nat.sub (Nat.succ h) l) else false)
/-! sums and their like, where nothing wraps -/
theorem zy_ti_add {x y : Int32} (h1 : -2147483648 ≤ x.toInt + y.toInt) (h2 : x.toInt + y.toInt < 2147483648) : (x + y).toInt = x.toInt + y.toInt := by
  rw [Int32.toInt_add]
  show Int.bmod (x.toInt + y.toInt) 4294967296 = _
  simp only [Int.bmod_def]
  split <;> omega
theorem zy_ti_sub {x y : Int32} (h1 : -2147483648 ≤ x.toInt - y.toInt) (h2 : x.toInt - y.toInt < 2147483648) : (x - y).toInt = x.toInt - y.toInt := by
  rw [Int32.toInt_sub]
  show Int.bmod (x.toInt - y.toInt) 4294967296 = _
  simp only [Int.bmod_def]
  split <;> omega
theorem zy_ti_mul {x y : Int32} (h1 : -2147483648 ≤ x.toInt * y.toInt) (h2 : x.toInt * y.toInt < 2147483648) : (x * y).toInt = x.toInt * y.toInt := by
  rw [Int32.toInt_mul]
  show Int.bmod (x.toInt * y.toInt) 4294967296 = _
  simp only [Int.bmod_def]
  split <;> omega
theorem zy_ti_neg {x : Int32} (h1 : -2147483648 < x.toInt) : (-x).toInt = -x.toInt := by
  have := zx_rg x
  rw [Int32.toInt_neg]
  show Int.bmod (-x.toInt) 4294967296 = _
  simp only [Int.bmod_def]
  split <;> omega
/-- an int that is not below 0, as a number -/
theorem zy_nn {x : Int32} (h : 2147483648 ≤ zx_bz x) : ∃ n, n < 2147483648 ∧ x = nI n ∧ zx_bz x = n + 2147483648 := by
  have hl := zx_bz_lt x
  refine ⟨zx_bz x - 2147483648, by omega, ?_, by omega⟩
  have h1 := zx_of_bz x
  rw [zx_bi_eq] at h1
  rw [show (zx_bz x + 2147483648) % 4294967296 = zx_bz x - 2147483648 by omega] at h1
  exact h1
theorem zy_bz_n {n : Nat} (h : n < 2147483648) : zx_bz (nI n) = n + 2147483648 := by
  rw [zx_bz_nI _ (by omega), zx_bi_eq]
  omega
theorem zy_any (x : Int32) : ∃ n, n < 4294967296 ∧ x = nI n := ⟨_, zx_bi_lt _, zx_of_bz x⟩
/-- a constant more -/
theorem zy_bz_off (x : Int32) {o : Nat} (ho : o < 4294967296) : zx_bz (x + nI o) = (zx_bz x + o) % 4294967296 := by
  have h1 := zx_bz_int x
  have h2 := zx_bz_int (x + nI o)
  have h3 := zx_rg x
  have h4 := zx_rg (x + nI o)
  rw [Int32.toInt_add, zx_nI_int o ho] at h2
  have h5 : Int.bmod (x.toInt + if o < 2147483648 then (o : Int) else (o : Int) - 4294967296) 4294967296 = (x + nI o).toInt := by rw [Int32.toInt_add, zx_nI_int o ho]
  have h2 : (zx_bz (x + nI o) : Int) = Int.bmod (x.toInt + if o < 2147483648 then (o : Int) else (o : Int) - 4294967296) 4294967296 + 2147483648 := h2
  simp only [Int.bmod_def] at h2
  split at h2 <;> split at h2 <;> omega
end
section
/-! what the typed walker's values stand for -/
/-- the long constants of the reference -/
def zy_lc (n : Nat) : Int64 := lN (zy_lcs.getD n 0)
/-- what is fixed (addresses, groups, what is outside), what the names stand for (references, ints, longs), and the first names that are free (ints, longs, references) -/
abbrev zy_V : Type := (List Nat × List Nat × (Nat → Nat)) × ((Nat → Nat) × (Nat → Int32) × (Nat → Int64)) × (Nat × Nat × Nat)
def zy_ads (A : zy_V) : List Nat := A.1.1
def zy_gl (A : zy_V) : List Nat := A.1.2.1
def zy_ex (A : zy_V) : Nat → Nat := A.1.2.2
def zy_ru (A : zy_V) : Nat → Nat := A.2.1.1
def zy_nu (A : zy_V) : Nat → Int32 := A.2.1.2.1
def zy_lu (A : zy_V) : Nat → Int64 := A.2.1.2.2
def zy_fi (A : zy_V) : Nat := A.2.2.1
def zy_fl (A : zy_V) : Nat := A.2.2.2.1
def zy_fr (A : zy_V) : Nat := A.2.2.2.2
/-- a name that is given -/
def zy_nb (A : zy_V) (k : Nat) : Prop := 0 < k ∧ k < zy_fi A
def zy_sf (s c : Nat) (x : Int32) : Int32 := match s with
  | 0 => nI 16 * x + nI c
  | 1 => x &&& (x + nI 4294967295)
  | 2 => x &&& nI c
  | 3 => x ^^^ nI 4294967295
  | 4 => (x ^^^ nI 4294967295) &&& (x + nI 4294967295)
  | _ => x - x / nI c * nI c
def zy_r (A : zy_V) (v : Nat) (x : Value) : Prop := v < 4722366482869645213696 ∧ match v % 16 with
  | 1 => x = .int (zy_nu A (v / 16 % 256) + nI (v / 16 / 256)) ∧ v / 16 / 256 < 4294967296 ∧ zy_nb A (v / 16 % 256)
  | 2 => ∃ i q, (zy_ads A)[i]? = some q ∧ (zy_gl A)[i]? = some (v / 16 / 256) ∧ x = .ref q ∧ (v / 16 % 256 ≠ 0 → zy_ru A (v / 16 % 256) = i ∧ v / 16 % 256 < zy_fr A)
  | 3 => x = .null
  | 4 => x = .int (nI (v / 16)) ∧ v / 16 < 4294967296
  | 5 => ∃ y, x = .long y ∧ (v / 16 % 2 = 1 → y = zy_lu A (v / 16 / 2) ∧ v / 16 / 2 < zy_fl A) ∧ (v / 16 % 2 = 0 → v / 16 ≠ 0 → y = zy_lc (v / 16 / 2 - 1))
  | 6 => x = .ref (zy_ex A (v / 16))
  | 7 => ∃ y, x = .int y ∧ v / 16 / 4294967296 ≤ zx_bz y ∧ zx_bz y ≤ v / 16 % 4294967296
  | 8 => x = .null ∨ ∃ q, x = .ref q
  | 11 => x = .int (zy_sf (v / 16 / 256 % 16) (v / 16 / 256 / 16) (zy_nu A (v / 16 % 256))) ∧ v / 16 / 256 / 16 < 4294967296 ∧ zy_nb A (v / 16 % 256)
  | 12 => x = .int (lg_cmp (zy_lu A (v / 16 % 256)) (zy_lc (v / 16 / 256))) ∧ v / 16 % 256 < zy_fl A ∧ v / 16 / 256 < 25
  | 13 => x = .int (zy_nu A (v / 16 % 256) >>> (nI (v / 16 / 256) &&& 31)) ∧ v / 16 / 256 < 31 ∧ zy_nb A (v / 16 % 256)
  | 14 => x = .int (zy_nu A (v / 16 % 256) >>> (nI (v / 16 / 256) &&& 31) &&& 1) ∧ v / 16 / 256 < 31 ∧ zy_nb A (v / 16 % 256)
  | 15 => x = .int (zy_nu A (v / 16 % 256) ^^^ nI (v / 16 / 256)) ∧ v / 16 / 256 < 2147483648 ∧ zy_nb A (v / 16 % 256)
  | _ => False
/-- what is known: bounds of named ints (192 of them), which constant a named long is or is not (from place 192 on) -/
def zy_ev (A : zy_V) (e : Nat) : Prop := (∀ k : Nat, zy_nb A k → zx_eg e k = 0 ∨ (zx_eg e k / 4294967296 ≤ zx_bz (zy_nu A k) ∧ zx_bz (zy_nu A k) ≤ zx_eg e k % 4294967296)) ∧
  (∀ k : Nat, k < 64 → (zx_eg e (192 + k) % 4294967296 ≠ 0 → zy_lu A k = zy_lc (zx_eg e (192 + k) % 4294967296 - 1)) ∧ ∀ n, n < 32 → (zx_eg e (192 + k) / 4294967296).testBit n = true → zy_lu A k ≠ zy_lc n) ∧
  (zx_eg e 0 = zy_fi A + 65536 * zy_fl A + 4294967296 * zy_fr A ∧ 0 < zy_fi A ∧ zy_fi A ≤ 192 ∧ zy_fl A ≤ 64 ∧ 100 ≤ zy_fr A ∧ zy_fr A ≤ 256)
theorem zy_kci {v : Nat} (h : zy_ii v = true) : v % 16 = 1 ∨ v % 16 = 4 ∨ v % 16 = 7 ∨ v % 16 = 11 ∨ v % 16 = 12 ∨ v % 16 = 13 ∨ v % 16 = 14 ∨ v % 16 = 15 := by
  have q : ∀ t, t < 16 → Nat.beq (Nat.mod (Nat.shiftRight 63634 t) 2) 1 = true → t = 1 ∨ t = 4 ∨ t = 7 ∨ t = 11 ∨ t = 12 ∨ t = 13 ∨ t = 14 ∨ t = 15 := by decide
  exact q _ (Nat.mod_lt _ (by decide)) h
theorem zy_kc2 {v : Nat} (h : zx_kc 2 v = true) : v % 16 = 1 := by
  have q : ∀ t, t < 16 → Nat.beq (Nat.mod (Nat.shiftRight 2 t) 2) 1 = true → t = 1 := by decide
  exact q _ (Nat.mod_lt _ (by decide)) h
section ZYR
variable {A : zy_V} {e : Nat}
theorem zy_r1 {v : Nat} {x : Value} (h : v % 16 = 1) : zy_r A v x ↔ v < 4722366482869645213696 ∧ (x = .int (zy_nu A (v / 16 % 256) + nI (v / 16 / 256)) ∧ v / 16 / 256 < 4294967296 ∧ zy_nb A (v / 16 % 256)) := by unfold zy_r; rw [h]; exact Iff.rfl
theorem zy_r2 {v : Nat} {x : Value} (h : v % 16 = 2) : zy_r A v x ↔ v < 4722366482869645213696 ∧ ∃ i q, (zy_ads A)[i]? = some q ∧ (zy_gl A)[i]? = some (v / 16 / 256) ∧ x = .ref q ∧ (v / 16 % 256 ≠ 0 → zy_ru A (v / 16 % 256) = i ∧ v / 16 % 256 < zy_fr A) := by unfold zy_r; rw [h]; exact Iff.rfl
theorem zy_r3 {v : Nat} {x : Value} (h : v % 16 = 3) : zy_r A v x ↔ v < 4722366482869645213696 ∧ x = .null := by unfold zy_r; rw [h]; exact Iff.rfl
theorem zy_r4 {v : Nat} {x : Value} (h : v % 16 = 4) : zy_r A v x ↔ v < 4722366482869645213696 ∧ (x = .int (nI (v / 16)) ∧ v / 16 < 4294967296) := by unfold zy_r; rw [h]; exact Iff.rfl
theorem zy_r5 {v : Nat} {x : Value} (h : v % 16 = 5) : zy_r A v x ↔ v < 4722366482869645213696 ∧ ∃ y, x = .long y ∧ (v / 16 % 2 = 1 → y = zy_lu A (v / 16 / 2) ∧ v / 16 / 2 < zy_fl A) ∧ (v / 16 % 2 = 0 → v / 16 ≠ 0 → y = zy_lc (v / 16 / 2 - 1)) := by unfold zy_r; rw [h]; exact Iff.rfl
theorem zy_r6 {v : Nat} {x : Value} (h : v % 16 = 6) : zy_r A v x ↔ v < 4722366482869645213696 ∧ x = .ref (zy_ex A (v / 16)) := by unfold zy_r; rw [h]; exact Iff.rfl
theorem zy_r7 {v : Nat} {x : Value} (h : v % 16 = 7) : zy_r A v x ↔ v < 4722366482869645213696 ∧ ∃ y, x = .int y ∧ v / 16 / 4294967296 ≤ zx_bz y ∧ zx_bz y ≤ v / 16 % 4294967296 := by unfold zy_r; rw [h]; exact Iff.rfl
theorem zy_r8 {v : Nat} {x : Value} (h : v % 16 = 8) : zy_r A v x ↔ v < 4722366482869645213696 ∧ (x = .null ∨ ∃ q, x = .ref q) := by unfold zy_r; rw [h]; exact Iff.rfl
theorem zy_r11 {v : Nat} {x : Value} (h : v % 16 = 11) : zy_r A v x ↔ v < 4722366482869645213696 ∧ (x = .int (zy_sf (v / 16 / 256 % 16) (v / 16 / 256 / 16) (zy_nu A (v / 16 % 256))) ∧ v / 16 / 256 / 16 < 4294967296 ∧ zy_nb A (v / 16 % 256)) := by unfold zy_r; rw [h]; exact Iff.rfl
theorem zy_r12 {v : Nat} {x : Value} (h : v % 16 = 12) : zy_r A v x ↔ v < 4722366482869645213696 ∧ (x = .int (lg_cmp (zy_lu A (v / 16 % 256)) (zy_lc (v / 16 / 256))) ∧ v / 16 % 256 < zy_fl A ∧ v / 16 / 256 < 25) := by unfold zy_r; rw [h]; exact Iff.rfl
theorem zy_r13 {v : Nat} {x : Value} (h : v % 16 = 13) : zy_r A v x ↔ v < 4722366482869645213696 ∧ (x = .int (zy_nu A (v / 16 % 256) >>> (nI (v / 16 / 256) &&& 31)) ∧ v / 16 / 256 < 31 ∧ zy_nb A (v / 16 % 256)) := by unfold zy_r; rw [h]; exact Iff.rfl
theorem zy_r14 {v : Nat} {x : Value} (h : v % 16 = 14) : zy_r A v x ↔ v < 4722366482869645213696 ∧ (x = .int (zy_nu A (v / 16 % 256) >>> (nI (v / 16 / 256) &&& 31) &&& 1) ∧ v / 16 / 256 < 31 ∧ zy_nb A (v / 16 % 256)) := by unfold zy_r; rw [h]; exact Iff.rfl
theorem zy_r15 {v : Nat} {x : Value} (h : v % 16 = 15) : zy_r A v x ↔ v < 4722366482869645213696 ∧ (x = .int (zy_nu A (v / 16 % 256) ^^^ nI (v / 16 / 256)) ∧ v / 16 / 256 < 2147483648 ∧ zy_nb A (v / 16 % 256)) := by unfold zy_r; rw [h]; exact Iff.rfl
theorem zy_r_lt {v : Nat} {x : Value} (h : zy_r A v x) : v < 4722366482869645213696 := h.1
theorem zy_r_kd {v : Nat} {x : Value} (h : zy_r A v x) : v % 16 = 1 ∨ v % 16 = 2 ∨ v % 16 = 3 ∨ v % 16 = 4 ∨ v % 16 = 5 ∨ v % 16 = 6 ∨ v % 16 = 7 ∨ v % 16 = 8 ∨ v % 16 = 11 ∨ v % 16 = 12 ∨ v % 16 = 13 ∨ v % 16 = 14 ∨ v % 16 = 15 := by
  obtain ⟨-, h⟩ := h
  have hl : v % 16 < 16 := Nat.mod_lt _ (by decide)
  generalize v % 16 = t at h hl
  match t, h, hl with
  | 0, h, _ => exact h.elim
  | 1, _, _ => omega
  | 2, _, _ => omega
  | 3, _, _ => omega
  | 4, _, _ => omega
  | 5, _, _ => omega
  | 6, _, _ => omega
  | 7, _, _ => omega
  | 8, _, _ => omega
  | 9, h, _ => exact h.elim
  | 10, h, _ => exact h.elim
  | 11, _, _ => omega
  | 12, _, _ => omega
  | 13, _, _ => omega
  | 14, _, _ => omega
  | 15, _, _ => omega
  | (k + 16), _, hl => omega
theorem zy_r_c {n : Nat} (h : n < 4294967296) : zy_r A (zx_c n) (.int (nI n)) := by
  rw [zy_r4 (zx_c_kd n), zx_c_pl]
  exact ⟨by rw [zx_c_eq]; omega, rfl, h⟩
theorem zy_r_0 : zy_r A 4 (.int 0) := by
  have h := zy_r_c (A := A) (n := 0) (by decide)
  rw [nI_0] at h
  exact h
/-- an int between bounds -/
theorem zy_r_7 {l u : Nat} {x : Int32} (h1 : l ≤ zx_bz x) (h2 : zx_bz x ≤ u) (hu : u < 4294967296) : zy_r A (zy_c7v l u) (.int x) := by
  have hb := zx_bz_lt x
  have e0 : zy_c7v l u = (l * 4294967296 + u) * 16 + 7 := rfl
  have e1 : ((l * 4294967296 + u) * 16 + 7) / 16 = l * 4294967296 + u := by omega
  rw [e0, zy_r7 (by omega), e1]
  exact ⟨by omega, x, rfl, by omega, by omega⟩
theorem zy_r_un (x : Int32) : zy_r A zx_un (.int x) := by
  rw [zy_r7 (by decide)]
  refine ⟨by decide, x, rfl, ?_, ?_⟩
  · exact Nat.zero_le _
  · have := zx_bz_lt x
    show _ ≤ 4294967295
    omega
theorem zy_r_i {v : Nat} {x : Value} (hi : zy_ii v = true) (h : zy_r A v x) : ∃ y : Int32, x = .int y := by
  rcases zy_kci hi with q | q | q | q | q | q | q | q
  · exact ⟨_, ((zy_r1 q).mp h).2.1⟩
  · exact ⟨_, ((zy_r4 q).mp h).2.1⟩
  · obtain ⟨-, y, hy, -⟩ := (zy_r7 q).mp h
    exact ⟨y, hy⟩
  · exact ⟨_, ((zy_r11 q).mp h).2.1⟩
  · exact ⟨_, ((zy_r12 q).mp h).2.1⟩
  · exact ⟨_, ((zy_r13 q).mp h).2.1⟩
  · exact ⟨_, ((zy_r14 q).mp h).2.1⟩
  · exact ⟨_, ((zy_r15 q).mp h).2.1⟩
theorem zy_r_r {v : Nat} {x : Value} (hi : zx_kc 332 v = true) (h : zy_r A v x) : x = .null ∨ ∃ q, x = .ref q := by
  rcases zx_kc332 hi with q | q | q | q
  · obtain ⟨-, i, y, -, -, hy, -⟩ := (zy_r2 q).mp h
    exact Or.inr ⟨y, hy⟩
  · exact Or.inl ((zy_r3 q).mp h).2
  · exact Or.inr ⟨_, ((zy_r6 q).mp h).2⟩
  · exact ((zy_r8 q).mp h).2
theorem zy_r_j {v : Nat} {x : Value} (hi : v % 16 = 5) (h : zy_r A v x) : ∃ y : Int64, x = .long y := by
  obtain ⟨-, y, hy, -⟩ := (zy_r5 hi).mp h
  exact ⟨y, hy⟩
theorem zy_r_l (y : Int64) : zy_r A 5 (.long y) := (zy_r5 (by decide)).mpr ⟨by decide, y, rfl, fun h => absurd h (by decide), fun _ h => absurd rfl h⟩
theorem zy_r_cat {v : Nat} {x : Value} (h : zy_r A v x) : x.category = bif Nat.beq (zx_kd v) 5 then 2 else 1 := by
  have e : zx_kd v = v % 16 := rfl
  rw [e]
  rcases zy_r_kd h with q | q | q | q | q | q | q | q | q | q | q | q | q <;> rw [q]
  · rw [((zy_r1 q).mp h).2.1]; rfl
  · obtain ⟨-, i, y, -, -, rfl, -⟩ := (zy_r2 q).mp h; rfl
  · rw [((zy_r3 q).mp h).2]; rfl
  · rw [((zy_r4 q).mp h).2.1]; rfl
  · obtain ⟨-, y, rfl, -⟩ := (zy_r5 q).mp h; rfl
  · rw [((zy_r6 q).mp h).2]; rfl
  · obtain ⟨-, y, rfl, -⟩ := (zy_r7 q).mp h; rfl
  · rcases ((zy_r8 q).mp h).2 with rfl | ⟨y, rfl⟩ <;> rfl
  · rw [((zy_r11 q).mp h).2.1]; rfl
  · rw [((zy_r12 q).mp h).2.1]; rfl
  · rw [((zy_r13 q).mp h).2.1]; rfl
  · rw [((zy_r14 q).mp h).2.1]; rfl
  · rw [((zy_r15 q).mp h).2.1]; rfl
/-- bounds of a named int -/
theorem zy_ivn_s (he : zy_ev A e) {n : Nat} (hn : zy_nb A n) {k : Nat → Nat → Bool} (hk : zy_ivn e n k = true) :
    ∃ l u, k l u = true ∧ l ≤ zx_bz (zy_nu A n) ∧ zx_bz (zy_nu A n) ≤ u ∧ u < 4294967296 := by
  unfold zy_ivn at hk
  rw [zx_fn_eq] at hk
  rcases zx_bif hk with ⟨-, hk⟩ | ⟨q0, hk⟩
  · cases hk
  rw [zx_fn_eq, zx_fn_eq] at hk
  rcases he.1 n hn with h2 | h2
  · exact absurd h2 (zx_beq_f q0)
  · exact ⟨_, _, hk, h2.1, h2.2, Nat.mod_lt _ (by decide)⟩
theorem zy_w11_k {s c l h : Nat} {k : Nat → Nat → Bool} (hk : zy_w11 s c l h k = true) : ∃ l u, k l u = true := by
  unfold zy_w11 at hk
  rcases zx_bif hk with ⟨q1, hk⟩ | ⟨-, hk⟩
  · rcases zx_bif hk with ⟨-, hk⟩ | ⟨-, hk⟩
    · rw [zx_fn_eq, zx_fn_eq] at hk; exact ⟨_, _, hk⟩
    · exact ⟨_, _, hk⟩
  rcases zx_bif hk with ⟨q1, hk⟩ | ⟨-, hk⟩
  · rcases zx_bif hk with ⟨-, hk⟩ | ⟨-, hk⟩ <;> exact ⟨_, _, hk⟩
  rcases zx_bif hk with ⟨q1, hk⟩ | ⟨-, hk⟩
  · rw [zx_fn_eq, zx_fn_eq] at hk; exact ⟨_, _, hk⟩
  rcases zx_bif hk with ⟨q1, hk⟩ | ⟨-, hk⟩
  · rcases zx_bif hk with ⟨-, hk⟩ | ⟨-, hk⟩ <;> exact ⟨_, _, hk⟩
  rcases zx_bif hk with ⟨q1, hk⟩ | ⟨-, hk⟩
  · rw [zx_fn_eq] at hk; exact ⟨_, _, hk⟩
  · exact ⟨_, _, hk⟩
theorem zy_mn_le (a b : Nat) : zy_mn a b ≤ a ∧ zy_mn a b ≤ b ∧ (zy_mn a b = a ∨ zy_mn a b = b) := by
  unfold zy_mn
  cases h : Nat.ble a b
  · have := zx_ble_f h; rw [cond_false]; omega
  · have := zx_ble_t h; rw [cond_true]; omega
/-- all bits turned -/
theorem zy_not_bz (x : Int32) : zx_bz (x ^^^ nI 4294967295) = 4294967295 - zx_bz x := by
  have h0 : x ^^^ nI 4294967295 = ~~~x := by rw [show nI 4294967295 = -1 from by decide +kernel]; exact Int32.xor_neg_one
  have h1 := zx_bz_int x
  have h2 := zx_bz_int (~~~x)
  have h3 := zx_rg x
  have h4 : (~~~x).toInt = Int.bmod (-x.toInt - 1) 4294967296 := Int32.toInt_not x
  simp only [Int.bmod_def] at h4
  rw [h0]
  split at h4 <;> omega
theorem zy_not_n {n : Nat} (hn : n < 4294967296) : n ^^^ 4294967295 = 4294967295 - n := by
  have h := zy_not_bz (nI n)
  have h2 : n ^^^ 4294967295 < 4294967296 := Nat.xor_lt_two_pow (n := 32) hn (by decide)
  rw [zx_xor', zx_bz_nI _ h2, zx_bz_nI _ hn, zx_bi_eq, zx_bi_eq] at h
  omega
theorem zy_tz_ok : ((List.range 1024).all (fun n => Nat.beq n 0 || Nat.ble (Nat.land (Nat.sub 4294967295 n) (Nat.sub n 1)) 511)) = true := by decide +kernel
theorem zy_rem_nn {n c : Nat} (hn : n < 2147483648) (hc : 0 < c) (hc2 : c < 2147483648) : nI n - nI n / nI c * nI c = nI (n % c) := by
  exact pk_rem hn hc hc2
theorem zy_w11_s {s c l u : Nat} {x : Int32} {k : Nat → Nat → Bool} (hc : c < 4294967296) (h1 : l ≤ zx_bz x) (h2 : zx_bz x ≤ u) (hu : u < 4294967296) (hk : zy_w11 s c l u k = true) : ∃ l' u', k l' u' = true ∧ l' ≤ zx_bz (zy_sf s c x) ∧ zx_bz (zy_sf s c x) ≤ u' ∧ u' < 4294967296 := by
  have full : ∀ z : Int32, 0 ≤ zx_bz z ∧ zx_bz z ≤ 4294967295 := fun z => by have := zx_bz_lt z; omega
  unfold zy_w11 at hk
  rcases zx_bif hk with ⟨q, hk⟩ | ⟨q, hk⟩
  · rw [zx_beq_t q]
    rcases zx_bif hk with ⟨q1, hk⟩ | ⟨-, hk⟩
    · obtain ⟨q1, q2⟩ := zx_and_b q1
      obtain ⟨q2, q3⟩ := zx_and_b q2
      have q1 := zx_ble_t q1
      have q2 := zx_ble_t q2
      have q3 := zx_blt_t q3
      rw [zx_fn_eq, zx_fn_eq] at hk
      obtain ⟨n, n1, rfl, n3⟩ := zy_nn (x := x) (by omega)
      have e1 : zy_sf 0 c (nI n) = nI (16 * n + c) := by
        show nI 16 * nI n + nI c = _
        rw [pk_mul, nI_add]
      rw [e1, zy_bz_n (by omega)]
      exact ⟨_, _, hk, (show 2147483648 + c + 16 * (l - 2147483648) ≤ _ by omega), (show _ ≤ 2147483648 + c + 16 * (u - 2147483648) by omega), (show 2147483648 + c + 16 * (u - 2147483648) < _ by omega)⟩
    · exact ⟨_, _, hk, (full _).1, (full _).2, by decide⟩
  rcases zx_bif hk with ⟨q1, hk⟩ | ⟨q1, hk⟩
  · have q := zx_beq_f q
    have q1 := zx_ble_t q1
    rcases zx_bif hk with ⟨q2, hk⟩ | ⟨-, hk⟩
    · have q2 := zx_ble_t q2
      have land : ∀ z : Int32, 2147483648 ≤ zx_bz (x &&& z) ∧ zx_bz (x &&& z) ≤ zx_bz x := fun z => by
        obtain ⟨n, n1, rfl, n3⟩ := zy_nn (x := x) (by omega)
        obtain ⟨m, m1, rfl⟩ := zy_any z
        have h3 : n &&& m ≤ n := Nat.and_le_left
        rw [zx_and', zy_bz_n (by omega), zy_bz_n n1]
        omega
      have hs : s = 1 ∨ s = 2 := by omega
      rcases hs with hs | hs <;> rw [hs]
      · have := land (x + nI 4294967295)
        exact ⟨_, _, hk, this.1, Nat.le_trans this.2 h2, hu⟩
      · have := land (nI c)
        exact ⟨_, _, hk, this.1, Nat.le_trans this.2 h2, hu⟩
    · exact ⟨_, _, hk, (full _).1, (full _).2, by decide⟩
  rcases zx_bif hk with ⟨q2, hk⟩ | ⟨q2, hk⟩
  · rw [zx_beq_t q2]
    rw [zx_fn_eq, zx_fn_eq] at hk
    have e1 : zx_bz (zy_sf 3 c x) = 4294967295 - zx_bz x := zy_not_bz x
    rw [e1]
    exact ⟨_, _, hk, (show 4294967295 - u ≤ _ by omega), (show _ ≤ 4294967295 - l by omega), (show 4294967295 - l < _ by omega)⟩
  rcases zx_bif hk with ⟨q3, hk⟩ | ⟨q3, hk⟩
  · rw [zx_beq_t q3]
    rcases zx_bif hk with ⟨q4, hk⟩ | ⟨-, hk⟩
    · obtain ⟨q4, q5⟩ := zx_and_b q4
      have q4 := zx_ble_t q4
      have q5 := zx_ble_t q5
      obtain ⟨n, n1, rfl, n3⟩ := zy_nn (x := x) (by omega)
      have hn : n < 1024 := by omega
      have t1 := List.all_eq_true.mp zy_tz_ok n (List.mem_range.mpr hn)
      have t2 : (4294967295 - n) &&& (n - 1) ≤ 511 := by
        rcases (Bool.or_eq_true _ _).mp t1 with z | z
        · have := zx_beq_t z
          omega
        · exact zx_ble_t z
      have e0 : n ^^^ 4294967295 = 4294967295 - n := zy_not_n (by omega)
      have e2 : nI n + nI 4294967295 = nI (n - 1) := by
        rw [nI_add, show n + 4294967295 = (n - 1) + 4294967296 by omega, ← zx_md (n - 1 + 4294967296), ← zx_md (n - 1), Nat.add_mod_right]
      have e1 : zy_sf 4 c (nI n) = nI ((4294967295 - n) &&& (n - 1)) := by
        show (nI n ^^^ nI 4294967295) &&& (nI n + nI 4294967295) = _
        rw [zx_xor', e0, e2, zx_and']
      rw [e1, zy_bz_n (by omega)]
      exact ⟨_, _, hk, by omega, by omega, by decide⟩
    · exact ⟨_, _, hk, (full _).1, (full _).2, by decide⟩
  rcases zx_bif hk with ⟨q4, hk⟩ | ⟨q4, hk⟩
  · obtain ⟨q4, q5⟩ := zx_and_b q4
    obtain ⟨q5, q6⟩ := zx_and_b q5
    have q4 := zx_blt_t q4
    have q5 := zx_blt_t q5
    have q6 := zx_ble_t q6
    have a0 := zx_beq_f q
    have a1 := zx_ble_f q1
    have a2 := zx_beq_f q2
    have a3 := zx_beq_f q3
    obtain ⟨n, n1, rfl, n3⟩ := zy_nn (x := x) (by omega)
    have e1 : zy_sf s c (nI n) = nI (n % c) := by
      unfold zy_sf
      split
      · omega
      · omega
      · omega
      · omega
      · omega
      · exact zy_rem_nn n1 q4 q5
    have r1 : n % c < c := Nat.mod_lt _ q4
    have r2 : n % c ≤ n := Nat.mod_le _ _
    rw [zx_fn_eq] at hk
    obtain ⟨m1, m2, m3⟩ := zy_mn_le u (Nat.add 2147483647 c)
    have m2' : zy_mn u (Nat.add 2147483647 c) ≤ 2147483647 + c := m2
    have m3' : zy_mn u (Nat.add 2147483647 c) = u ∨ zy_mn u (Nat.add 2147483647 c) = 2147483647 + c := m3
    rw [e1, zy_bz_n (by omega)]
    exact ⟨_, _, hk, by omega, by omega, by omega⟩
  · exact ⟨_, _, hk, (full _).1, (full _).2, by decide⟩
/-- an int shifted right -/
theorem zy_shr_n {n c : Nat} (hn : n < 2147483648) (hc : c < 32) : nI n >>> (nI c &&& 31) = nI (n / 2 ^ c) := by
  rw [zx_shr' n c (by omega) hc]
  unfold zx_g7
  rw [show Nat.blt n 2147483648 = true from Nat.ble_eq_true_of_le (show n + 1 ≤ 2147483648 by omega)]
  rfl
theorem zy_iv_s (he : zy_ev A e) {v : Nat} {y : Int32} (h : zy_r A v (.int y)) {k : Nat → Nat → Bool} (hk : zy_iv e v k = true) :
    ∃ l u, k l u = true ∧ l ≤ zx_bz y ∧ zx_bz y ≤ u ∧ u < 4294967296 := by
  have hyl := zx_bz_lt y
  unfold zy_iv at hk
  rcases zx_bif hk with ⟨q, hk⟩ | ⟨-, hk⟩
  · have q : v % 16 = 4 := zx_beq_t q
    rw [zx_fn_eq] at hk
    obtain ⟨-, h1, h2⟩ := (zy_r4 q).mp h
    cases h1
    have e1 := zx_bz_nI (v / 16) h2
    have e2 : zx_bi (zx_pl v) = zx_bi (v / 16) := rfl
    exact ⟨_, _, hk, by rw [e1, e2]; exact Nat.le_refl _, by rw [e1, e2]; exact Nat.le_refl _, zx_bi_lt _⟩
  rcases zx_bif hk with ⟨q, hk⟩ | ⟨-, hk⟩
  · have q : v % 16 = 7 := zx_beq_t q
    rw [zx_fn_eq, zx_fn_eq, zx_fn_eq] at hk
    obtain ⟨-, y', h1, h2, h3⟩ := (zy_r7 q).mp h
    cases h1
    exact ⟨_, _, hk, h2, h3, Nat.mod_lt _ (by decide)⟩
  rcases zx_bif hk with ⟨q, hk⟩ | ⟨-, hk⟩
  · have q : v % 16 = 1 := zx_beq_t q
    obtain ⟨-, h1, ho, hn⟩ := (zy_r1 q).mp h
    cases h1
    obtain ⟨lo, up, hk, g1, g2, hup⟩ := zy_ivn_s (n := zy_k1 v) he hn hk
    have g1 : lo ≤ zx_bz (zy_nu A (v / 16 % 256)) := g1
    have g2 : zx_bz (zy_nu A (v / 16 % 256)) ≤ up := g2
    rw [zx_fn_eq] at hk
    have hb := zy_bz_off (zy_nu A (v / 16 % 256)) ho
    have hk1 : (bif Nat.beq (v / 16 / 256) 0 then k lo up else
      bif Nat.blt (v / 16 / 256) 2147483648 then (bif Nat.blt (Nat.add up (v / 16 / 256)) 4294967296 then zx_fn (Nat.add lo (v / 16 / 256)) (fun l => zx_fn (Nat.add up (v / 16 / 256)) (fun h => k l h)) else k 0 4294967295) else
      bif Nat.ble (Nat.sub 4294967296 (v / 16 / 256)) lo then zx_fn (Nat.sub lo (Nat.sub 4294967296 (v / 16 / 256))) (fun l => zx_fn (Nat.sub up (Nat.sub 4294967296 (v / 16 / 256))) (fun h => k l h)) else k 0 4294967295) = true := hk
    generalize v / 16 / 256 = o at hk1 ho hb hyl ⊢
    have hlt := zx_bz_lt (zy_nu A (v / 16 % 256))
    rw [hb]
    rcases zx_bif hk1 with ⟨q1, hk⟩ | ⟨q1, hk⟩
    · have q1 := zx_beq_t q1
      subst q1
      exact ⟨lo, up, hk, by omega, by omega, hup⟩
    rcases zx_bif hk with ⟨q2, hk⟩ | ⟨q2, hk⟩
    · have q2 := zx_blt_t q2
      rcases zx_bif hk with ⟨q3, hk⟩ | ⟨q3, hk⟩
      · have q3 : up + o < 4294967296 := zx_blt_t q3
        rw [zx_fn_eq, zx_fn_eq] at hk
        exact ⟨lo + o, up + o, hk, by omega, by omega, q3⟩
      · exact ⟨_, _, hk, Nat.zero_le _, by omega, by decide⟩
    · have q2 := zx_blt_f q2
      rcases zx_bif hk with ⟨q3, hk⟩ | ⟨q3, hk⟩
      · have q3 : 4294967296 - o ≤ lo := zx_ble_t q3
        rw [zx_fn_eq, zx_fn_eq] at hk
        exact ⟨lo - (4294967296 - o), up - (4294967296 - o), hk, by omega, by omega, by omega⟩
      · exact ⟨_, _, hk, Nat.zero_le _, by omega, by decide⟩
  rcases zx_bif hk with ⟨q, hk⟩ | ⟨-, hk⟩
  · have q : v % 16 = 14 := zx_beq_t q
    obtain ⟨-, h1, ho, hn⟩ := (zy_r14 q).mp h
    cases h1
    have := zx_and_le (zy_nu A (v / 16 % 256) >>> (nI (v / 16 / 256) &&& 31)) 1 (by decide)
    exact ⟨_, _, hk, this.1, this.2, by decide⟩
  rcases zx_bif hk with ⟨q, hk⟩ | ⟨-, hk⟩
  · have q : v % 16 = 13 := zx_beq_t q
    obtain ⟨-, h1, ho, hn⟩ := (zy_r13 q).mp h
    cases h1
    obtain ⟨lo, up, hk, g1, g2, hup⟩ := zy_ivn_s (n := zy_k1 v) he hn hk
    have g1 : lo ≤ zx_bz (zy_nu A (v / 16 % 256)) := g1
    have g2 : zx_bz (zy_nu A (v / 16 % 256)) ≤ up := g2
    rcases zx_bif hk with ⟨q3, hk⟩ | ⟨q3, hk⟩
    · have q3 := zx_ble_t q3
      rw [zx_fn_eq] at hk
      obtain ⟨n, n1, n2, n3⟩ := zy_nn (x := zy_nu A (v / 16 % 256)) (by omega)
      refine ⟨_, _, hk, ?_, ?_, ?_⟩
      · rw [n2, zy_shr_n n1 (by omega), zy_bz_n (Nat.lt_of_le_of_lt (Nat.div_le_self _ _) n1)]
        exact Nat.le_add_left _ _
      · rw [n2, zy_shr_n n1 (by omega), zy_bz_n (Nat.lt_of_le_of_lt (Nat.div_le_self _ _) n1)]
        have : n / 2 ^ (v / 16 / 256) ≤ (up - 2147483648) / 2 ^ (v / 16 / 256) := Nat.div_le_div_right (by omega)
        show n / 2 ^ (v / 16 / 256) + 2147483648 ≤ 2147483648 + (up - 2147483648) / 2 ^ (v / 16 / 256)
        omega
      · have : (up - 2147483648) / 2 ^ (v / 16 / 256) ≤ up - 2147483648 := Nat.div_le_self _ _
        show 2147483648 + (up - 2147483648) / 2 ^ (v / 16 / 256) < 4294967296
        omega
    · exact ⟨_, _, hk, Nat.zero_le _, by omega, by decide⟩
  rcases zx_bif hk with ⟨q, hk⟩ | ⟨-, hk⟩
  · have q : v % 16 = 11 := zx_beq_t q
    obtain ⟨-, h1, ho, hn⟩ := (zy_r11 q).mp h
    cases h1
    obtain ⟨lo, up, hk, g1, g2, hup⟩ := zy_ivn_s (n := zy_k1 v) he hn hk
    rw [zx_fn_eq, zx_fn_eq] at hk
    exact zy_w11_s ho g1 g2 hup hk
  obtain ⟨-, hk⟩ := zx_bft hk
  exact ⟨_, _, hk, Nat.zero_le _, by omega, by decide⟩
theorem zy_iv_i {v : Nat} {k : Nat → Nat → Bool} (hk : zy_iv e v k = true) : zy_ii v = true := by
  unfold zy_iv at hk
  have q : ∀ t, t = 1 ∨ t = 4 ∨ t = 7 ∨ t = 11 ∨ t = 12 ∨ t = 13 ∨ t = 14 ∨ t = 15 → Nat.beq (Nat.mod (Nat.shiftRight 63634 t) 2) 1 = true := by rintro t (rfl | rfl | rfl | rfl | rfl | rfl | rfl | rfl) <;> decide
  have q' : ∀ c, Nat.beq (zx_kd v) c = true → v % 16 = c := fun c h => zx_beq_t h
  rcases zx_bif hk with ⟨q1, hk⟩ | ⟨-, hk⟩
  · exact q (v % 16) (by have := q' _ q1; omega)
  rcases zx_bif hk with ⟨q1, hk⟩ | ⟨-, hk⟩
  · exact q (v % 16) (by have := q' _ q1; omega)
  rcases zx_bif hk with ⟨q1, hk⟩ | ⟨-, hk⟩
  · exact q (v % 16) (by have := q' _ q1; omega)
  rcases zx_bif hk with ⟨q1, hk⟩ | ⟨-, hk⟩
  · exact q (v % 16) (by have := q' _ q1; omega)
  rcases zx_bif hk with ⟨q1, hk⟩ | ⟨-, hk⟩
  · exact q (v % 16) (by have := q' _ q1; omega)
  rcases zx_bif hk with ⟨q1, hk⟩ | ⟨-, hk⟩
  · exact q (v % 16) (by have := q' _ q1; omega)
  obtain ⟨q1, -⟩ := zx_bft hk
  rcases (Bool.or_eq_true _ _).mp q1 with q1 | q1
  · exact q (v % 16) (by have := q' _ q1; omega)
  · exact q (v % 16) (by have := q' _ q1; omega)
theorem zy_ivn_k {n : Nat} {k : Nat → Nat → Bool} (hk : zy_ivn e n k = true) : ∃ l u, k l u = true := by
  unfold zy_ivn at hk
  rw [zx_fn_eq] at hk
  rcases zx_bif hk with ⟨-, hk⟩ | ⟨q0, hk⟩
  · cases hk
  rw [zx_fn_eq, zx_fn_eq] at hk
  exact ⟨_, _, hk⟩
theorem zy_iv_k {v : Nat} {k : Nat → Nat → Bool} (hk : zy_iv e v k = true) : ∃ l u, k l u = true := by
  unfold zy_iv at hk
  rcases zx_bif hk with ⟨q1, hk⟩ | ⟨-, hk⟩
  · rw [zx_fn_eq] at hk; exact ⟨_, _, hk⟩
  rcases zx_bif hk with ⟨q1, hk⟩ | ⟨-, hk⟩
  · rw [zx_fn_eq, zx_fn_eq, zx_fn_eq] at hk; exact ⟨_, _, hk⟩
  rcases zx_bif hk with ⟨q1, hk⟩ | ⟨-, hk⟩
  · obtain ⟨l, u, hk⟩ := zy_ivn_k hk
    rw [zx_fn_eq] at hk
    rcases zx_bif hk with ⟨-, hk⟩ | ⟨-, hk⟩
    · exact ⟨_, _, hk⟩
    rcases zx_bif hk with ⟨-, hk⟩ | ⟨-, hk⟩
    · rcases zx_bif hk with ⟨-, hk⟩ | ⟨-, hk⟩
      · rw [zx_fn_eq, zx_fn_eq] at hk; exact ⟨_, _, hk⟩
      · exact ⟨_, _, hk⟩
    · rcases zx_bif hk with ⟨-, hk⟩ | ⟨-, hk⟩
      · rw [zx_fn_eq, zx_fn_eq] at hk; exact ⟨_, _, hk⟩
      · exact ⟨_, _, hk⟩
  rcases zx_bif hk with ⟨q1, hk⟩ | ⟨-, hk⟩
  · exact ⟨_, _, hk⟩
  rcases zx_bif hk with ⟨q1, hk⟩ | ⟨-, hk⟩
  · obtain ⟨l, u, hk⟩ := zy_ivn_k hk
    rcases zx_bif hk with ⟨-, hk⟩ | ⟨-, hk⟩
    · rw [zx_fn_eq] at hk; exact ⟨_, _, hk⟩
    · exact ⟨_, _, hk⟩
  rcases zx_bif hk with ⟨q1, hk⟩ | ⟨-, hk⟩
  · obtain ⟨l, u, hk⟩ := zy_ivn_k hk
    rw [zx_fn_eq, zx_fn_eq] at hk
    exact zy_w11_k hk
  obtain ⟨-, hk⟩ := zx_bft hk
  exact ⟨_, _, hk⟩
theorem zy_mx_eq (a b : Nat) : zy_mx a b = max a b := by
  unfold zy_mx
  cases h : Nat.ble a b
  · have := zx_ble_f h; rw [cond_false]; omega
  · have := zx_ble_t h; rw [cond_true]; omega
theorem zy_mn_eq (a b : Nat) : zy_mn a b = min a b := by
  unfold zy_mn
  cases h : Nat.ble a b
  · have := zx_ble_f h; rw [cond_false]; omega
  · have := zx_ble_t h; rw [cond_true]; omega
theorem zy_ev_set {i l u : Nat} (he : zy_ev A e) (hi : zy_nb A i) (h1 : l ≤ zx_bz (zy_nu A i)) (h2 : zx_bz (zy_nu A i) ≤ u) (hu : u < 4294967296) : zy_ev A (zx_es e i (zx_bd l u)) := by
  have hb := zx_bz_lt (zy_nu A i)
  have hlt : zx_bd l u < 18446744073709551616 := by rw [zx_bd_eq]; omega
  have hi2 : 0 < i ∧ i < 192 := ⟨hi.1, Nat.lt_of_lt_of_le hi.2 he.2.2.2.2.1⟩
  refine ⟨fun k hk => ?_, fun k hk => ?_, ?_⟩
  · by_cases hki : k = i
    · subst hki
      rw [show zx_eg (zx_es e k (zx_bd l u)) k = zx_bd l u from zx_sd_same (by decide) e k _ hlt, zx_bd_eq]
      right
      constructor <;> omega
    · rw [show zx_eg (zx_es e i (zx_bd l u)) k = zx_eg e k from zx_sd_other (by decide) e i _ k hlt hki]
      exact he.1 k hk
  · rw [show zx_eg (zx_es e i (zx_bd l u)) (192 + k) = zx_eg e (192 + k) from zx_sd_other (by decide) e i _ (192 + k) hlt (by omega)]
    exact he.2.1 k hk
  · rw [show zx_eg (zx_es e i (zx_bd l u)) 0 = zx_eg e 0 from zx_sd_other (by decide) e i _ 0 hlt (by omega)]
    exact he.2.2
theorem zy_up_s (he : zy_ev A e) {n l u : Nat} (hn : zy_nb A n) (h1 : l ≤ zx_bz (zy_nu A n)) (h2 : zx_bz (zy_nu A n) ≤ u) {k : Nat → Bool} (hk : zy_up e n l u k = true) : ∃ e', zy_ev A e' ∧ k e' = true := by
  unfold zy_up at hk
  obtain ⟨lv, hv, hk, g1, g2, g3⟩ := zy_ivn_s he hn hk
  rw [zy_mx_eq, zy_mn_eq] at hk
  rcases zx_bif hk with ⟨-, hk⟩ | ⟨q, -⟩
  · rw [zx_fn_eq] at hk
    exact ⟨_, zy_ev_set he hn (by omega) (by omega) (by omega), hk⟩
  · have q := zx_ble_f q
    omega
end ZYR
end
section
/-! what tests and sums say of the typed walker's ints -/
section ZYA
variable {A : zy_V} {e : Nat}
theorem zy_xor_sign (x : Int32) {c : Nat} (hc : c < 2147483648) : 2147483648 ≤ zx_bz (x ^^^ nI c) ↔ 2147483648 ≤ zx_bz x := by
  obtain ⟨n, hn, rfl⟩ := zy_any x
  have h1 : ∀ m, m < 2147483648 → m ^^^ c < 2147483648 := fun m hm => Nat.xor_lt_two_pow (n := 31) hm hc
  have h2 : n ^^^ c < 4294967296 := Nat.xor_lt_two_pow (n := 32) hn (by omega)
  rw [zx_xor', zx_bz_nI _ h2, zx_bz_nI _ hn, zx_bi_eq, zx_bi_eq]
  have h3 : n ^^^ c < 2147483648 ↔ n < 2147483648 := by
    constructor
    · intro h
      have := h1 _ h
      rw [Nat.xor_assoc, Nat.xor_self, Nat.xor_zero] at this
      exact this
    · exact h1 n
  omega
theorem zy_bit_ge {x : Int32} {c : Nat} (hc : c < 31) (hx : 2147483648 ≤ zx_bz x) (h : 2147483649 ≤ zx_bz (x >>> (nI c &&& 31) &&& 1)) : 2147483648 + 2 ^ c ≤ zx_bz x := by
  obtain ⟨n, n1, rfl, n3⟩ := zy_nn hx
  rw [zy_shr_n n1 (by omega), show (1 : Int32) = nI 1 from by decide, zx_and', Nat.and_one_is_mod] at h
  have hd : n / 2 ^ c < 2147483648 := Nat.lt_of_le_of_lt (Nat.div_le_self _ _) n1
  rw [zy_bz_n (by omega)] at h
  have h1 : 1 ≤ n / 2 ^ c := by
    rcases Nat.eq_zero_or_pos (n / 2 ^ c) with z | z
    · rw [z] at h; omega
    · exact z
  have h2 : 2 ^ c ≤ n := by
    have := (Nat.le_div_iff_mul_le (Nat.pow_pos (by decide : 0 < 2))).mp h1
    omega
  omega
/-- no bit above -/
theorem zy_hm {x : Int32} {c : Nat} (hp : 2 ^ (4294967296 - c).log2 = 4294967296 - c) (h1 : 4294967296 - c < 2147483648) (hc : c < 4294967296) (h : zx_bz (x &&& nI c) = 2147483648) : 2147483648 ≤ zx_bz x ∧ zx_bz x ≤ 2147483648 + (4294967295 - c) := by
  obtain ⟨n, hn, rfl⟩ := zy_any x
  have h3 : n &&& c < 4294967296 := Nat.and_lt_two_pow (n := 32) n hc
  rw [zx_and', zx_bz_nI _ h3, zx_bi_eq] at h
  have h0 : n &&& c = 0 := by omega
  generalize hj : (4294967296 - c).log2 = j at hp
  have hj31 : j < 31 := by
    rcases Nat.lt_or_ge j 31 with z | z
    · exact z
    · have : 2 ^ 31 ≤ 2 ^ j := Nat.pow_le_pow_right (by decide) z
      omega
  have hcj : c = 2 ^ 32 - 2 ^ j := by
    have : (2 : Nat) ^ 32 = 4294967296 := by decide
    omega
  have hnj : n < 2 ^ j := by
    rcases Nat.lt_or_ge n (2 ^ j) with z | z
    · exact z
    · exfalso
      obtain ⟨i, hi1, hi2⟩ := Nat.exists_ge_and_testBit_of_ge_two_pow z
      have p32 : (2 : Nat) ^ 32 = 4294967296 := by decide
      have p31 : (2 : Nat) ^ 31 = 2147483648 := by decide
      have hi3 : i < 32 := by
        rcases Nat.lt_or_ge i 32 with y | y
        · exact y
        · have hp2 : (2 : Nat) ^ 32 ≤ 2 ^ i := Nat.pow_le_pow_right (by decide) y
          have := Nat.testBit_lt_two_pow (x := n) (i := i) (by omega)
          rw [this] at hi2
          cases hi2
      have hj0 : 0 < 2 ^ j := Nat.pow_pos (by decide)
      have hj1 : (2 : Nat) ^ j ≤ 2 ^ 31 := Nat.pow_le_pow_right (by decide) (by omega)
      have hj2 : (2 : Nat) ^ j ≤ 2 ^ i := Nat.pow_le_pow_right (by decide) hi1
      have hc2 : c.testBit i = true := by
        rw [hcj, show 2 ^ 32 - 2 ^ j = 2 ^ 32 - ((2 ^ j - 1) + 1) by omega]
        rw [Nat.testBit_two_pow_sub_succ (by omega)]
        have : (2 ^ j - 1).testBit i = false := Nat.testBit_lt_two_pow (by omega)
        rw [this]
        simp [hi3]
      have h4 : (n &&& c).testBit i = true := by rw [Nat.testBit_and, hi2, hc2]; rfl
      rw [h0, Nat.zero_testBit] at h4
      cases h4
  have h5 : 2 ^ j ≤ 2 ^ 30 := Nat.pow_le_pow_right (by decide) (by omega)
  have h6 : (2 : Nat) ^ 30 = 1073741824 := by decide
  rw [zy_bz_n (by omega)]
  omega
theorem zy_rf_s (he : zy_ev A e) {v l u : Nat} {y : Int32} (h : zy_r A v (.int y)) (hl : l ≤ zx_bz y) (hu : zx_bz y ≤ u) {k : Nat → Bool} (hk : zy_rf e v l u k = true) : ∃ e', zy_ev A e' ∧ k e' = true := by
  unfold zy_rf at hk
  rcases zx_bif hk with ⟨q, hk⟩ | ⟨-, hk⟩
  · have q : v % 16 = 1 := zx_beq_t q
    obtain ⟨-, h1, ho, hn⟩ := (zy_r1 q).mp h
    cases h1
    obtain ⟨lo, up, hk, g1, g2, hup⟩ := zy_ivn_s (n := zy_k1 v) he hn hk
    have g1 : lo ≤ zx_bz (zy_nu A (v / 16 % 256)) := g1
    have g2 : zx_bz (zy_nu A (v / 16 % 256)) ≤ up := g2
    rw [zx_fn_eq] at hk
    have hb := zy_bz_off (zy_nu A (v / 16 % 256)) ho
    have hk1 : (bif Nat.beq (v / 16 / 256) 0 then zy_up e (v / 16 % 256) l u k else
      bif Nat.blt (v / 16 / 256) 2147483648 then (bif Nat.blt (Nat.add up (v / 16 / 256)) 4294967296 then (bif Nat.ble (v / 16 / 256) u then zy_up e (v / 16 % 256) (Nat.sub l (v / 16 / 256)) (Nat.sub u (v / 16 / 256)) k else true) else k e) else
      bif Nat.ble (Nat.sub 4294967296 (v / 16 / 256)) lo then zy_up e (v / 16 % 256) (Nat.add l (Nat.sub 4294967296 (v / 16 / 256))) (Nat.add u (Nat.sub 4294967296 (v / 16 / 256))) k else k e) = true := hk
    generalize v / 16 / 256 = o at hk1 ho hb hl hu
    have hlt := zx_bz_lt (zy_nu A (v / 16 % 256))
    rw [hb] at hl hu
    rcases zx_bif hk1 with ⟨q1, hk⟩ | ⟨q1, hk⟩
    · have q1 := zx_beq_t q1
      subst q1
      exact zy_up_s he hn (by omega) (by omega) hk
    rcases zx_bif hk with ⟨q2, hk⟩ | ⟨q2, hk⟩
    · have q2 := zx_blt_t q2
      rcases zx_bif hk with ⟨q3, hk⟩ | ⟨q3, hk⟩
      · have q3 : up + o < 4294967296 := zx_blt_t q3
        rcases zx_bif hk with ⟨q4, hk⟩ | ⟨q4, -⟩
        · exact zy_up_s he hn (show l - o ≤ _ by omega) (show _ ≤ u - o by omega) hk
        · have q4 := zx_ble_f q4
          omega
      · exact ⟨e, he, hk⟩
    · have q2 := zx_blt_f q2
      rcases zx_bif hk with ⟨q3, hk⟩ | ⟨q3, hk⟩
      · have q3 : 4294967296 - o ≤ lo := zx_ble_t q3
        exact zy_up_s he hn (show l + (4294967296 - o) ≤ _ by omega) (show _ ≤ u + (4294967296 - o) by omega) hk
      · exact ⟨e, he, hk⟩
  rcases zx_bif hk with ⟨q, hk⟩ | ⟨-, hk⟩
  · obtain ⟨q, q2⟩ := zx_and_b q
    have q : v % 16 = 14 := zx_beq_t q
    have q2 := zx_ble_t q2
    obtain ⟨-, h1, ho, hn⟩ := (zy_r14 q).mp h
    cases h1
    obtain ⟨lo, up, hk, g1, g2, hup⟩ := zy_ivn_s (n := zy_k1 v) he hn hk
    rcases zx_bif hk with ⟨q3, hk⟩ | ⟨q3, hk⟩
    · have q3 := zx_ble_t q3
      have := zy_bit_ge (x := zy_nu A (v / 16 % 256)) ho (Nat.le_trans q3 g1) (by omega)
      have hlt := zx_bz_lt (zy_nu A (v / 16 % 256))
      exact zy_up_s (n := zy_k1 v) he hn this (show zx_bz (zy_nu A (v / 16 % 256)) ≤ 4294967295 by omega) hk
    · exact ⟨e, he, hk⟩
  rcases zx_bif hk with ⟨q, hk⟩ | ⟨-, hk⟩
  · obtain ⟨q, q2⟩ := zx_and_b q
    have q : v % 16 = 15 := zx_beq_t q
    have q2 := zx_ble_t q2
    obtain ⟨-, h1, ho, hn⟩ := (zy_r15 q).mp h
    cases h1
    have := (zy_xor_sign (zy_nu A (v / 16 % 256)) ho).mp (by omega)
    have hlt := zx_bz_lt (zy_nu A (v / 16 % 256))
    exact zy_up_s (n := zy_k1 v) he hn this (show zx_bz (zy_nu A (v / 16 % 256)) ≤ 4294967295 by omega) hk
  rcases zx_bif hk with ⟨q, hk⟩ | ⟨-, hk⟩
  · obtain ⟨q, q2⟩ := zx_and_b q
    have q : v % 16 = 15 := zx_beq_t q
    have q2 := zx_blt_t q2
    obtain ⟨-, h1, ho, hn⟩ := (zy_r15 q).mp h
    cases h1
    have h3 : ¬ 2147483648 ≤ zx_bz (zy_nu A (v / 16 % 256)) := fun z => by
      have := (zy_xor_sign (zy_nu A (v / 16 % 256)) ho).mpr z
      omega
    exact zy_up_s (n := zy_k1 v) he hn (Nat.zero_le _) (show zx_bz (zy_nu A (v / 16 % 256)) ≤ 2147483647 by omega) hk
  rcases zx_bif hk with ⟨q, hk⟩ | ⟨-, hk⟩
  · have q : v % 16 = 11 := zx_beq_t q
    obtain ⟨-, h1, ho, hn⟩ := (zy_r11 q).mp h
    cases h1
    rw [zx_fn_eq, zx_fn_eq] at hk
    have hk : (bif Nat.beq (v / 16 / 256 % 16) 2 && (Nat.beq l 2147483648 && (Nat.beq u 2147483648 && (Nat.blt 0 (Nat.sub 4294967296 (v / 16 / 256 / 16)) && (Nat.blt (Nat.sub 4294967296 (v / 16 / 256 / 16)) 2147483648 && Nat.beq (Nat.pow 2 (Nat.log2 (Nat.sub 4294967296 (v / 16 / 256 / 16)))) (Nat.sub 4294967296 (v / 16 / 256 / 16)))))) then zy_up e (v / 16 % 256) 2147483648 (Nat.add 2147483648 (Nat.sub 4294967295 (v / 16 / 256 / 16))) k else
      bif Nat.beq (v / 16 / 256 % 16) 5 && (Nat.blt 0 (v / 16 / 256 / 16) && Nat.blt (v / 16 / 256 / 16) 2147483648) then zy_ivn e (v / 16 % 256) (fun lv hv => bif Nat.ble 2147483648 lv then
        (bif Nat.ble 2147483649 l then zy_up e (v / 16 % 256) 2147483649 4294967295 k else
         bif Nat.blt (Nat.succ u) (Nat.add 2147483648 (v / 16 / 256 / 16)) && Nat.beq (Nat.mod (Nat.sub hv 2147483648) (v / 16 / 256 / 16)) (Nat.pred (v / 16 / 256 / 16)) then zy_up e (v / 16 % 256) 0 (Nat.pred hv) k else k e) else k e) else k e) = true := hk
    generalize v / 16 / 256 / 16 = c at hk ho hl hu
    generalize v / 16 / 256 % 16 = s at hk hl hu
    generalize v / 16 % 256 = n at hk hl hu hn
    have hx := zx_bz_lt (zy_nu A n)
    rcases zx_bif hk with ⟨q, hk⟩ | ⟨-, hk⟩
    · obtain ⟨q1, q2⟩ := zx_and_b q
      obtain ⟨q2, q3⟩ := zx_and_b q2
      obtain ⟨q3, q4⟩ := zx_and_b q3
      obtain ⟨q4, q5⟩ := zx_and_b q4
      obtain ⟨q5, q6⟩ := zx_and_b q5
      have q1 := zx_beq_t q1
      have q2 := zx_beq_t q2
      have q3 := zx_beq_t q3
      have q4 : 0 < 4294967296 - c := zx_blt_t q4
      have q5 : 4294967296 - c < 2147483648 := zx_blt_t q5
      have q6 : 2 ^ (4294967296 - c).log2 = 4294967296 - c := zx_beq_t q6
      rw [q1] at hl hu
      have h0 : zx_bz (zy_nu A n &&& nI c) = 2147483648 := by
        have : zx_bz (zy_sf 2 c (zy_nu A n)) = 2147483648 := by omega
        exact this
      have h1 := zy_hm (x := zy_nu A n) q6 q5 ho h0
      exact zy_up_s he hn h1.1 (show _ ≤ 2147483648 + (4294967295 - c) by omega) hk
    rcases zx_bif hk with ⟨q, hk⟩ | ⟨-, hk⟩
    · obtain ⟨q1, q2⟩ := zx_and_b q
      obtain ⟨q2, q3⟩ := zx_and_b q2
      have q1 := zx_beq_t q1
      have q2 := zx_blt_t q2
      have q3 := zx_blt_t q3
      rw [q1] at hl hu
      obtain ⟨lo, up, hk, g1, g2, hup⟩ := zy_ivn_s he hn hk
      rcases zx_bif hk with ⟨q4, hk⟩ | ⟨-, hk⟩
      · have q4 := zx_ble_t q4
        obtain ⟨m, m1, m2, m3⟩ := zy_nn (x := zy_nu A n) (by omega)
        have e1 : zx_bz (zy_sf 5 c (zy_nu A n)) = m % c + 2147483648 := by
          rw [m2]
          have r1 : m % c ≤ m := Nat.mod_le _ _
          rw [show zy_sf 5 c (nI m) = nI (m % c) from zy_rem_nn m1 q2 q3, zy_bz_n (by omega)]
        rw [e1] at hl hu
        rcases zx_bif hk with ⟨q5, hk⟩ | ⟨-, hk⟩
        · have q5 := zx_ble_t q5
          have r1 : m % c ≤ m := Nat.mod_le _ _
          exact zy_up_s he hn (show 2147483649 ≤ _ by omega) (show _ ≤ 4294967295 by omega) hk
        rcases zx_bif hk with ⟨q5, hk⟩ | ⟨-, hk⟩
        · obtain ⟨q5, q6⟩ := zx_and_b q5
          have q5 : u + 1 < 2147483648 + c := zx_blt_t q5
          have q6 : (up - 2147483648) % c = c - 1 := zx_beq_t q6
          refine zy_up_s he hn (Nat.zero_le _) (show zx_bz (zy_nu A n) ≤ up - 1 from ?_) hk
          rcases Nat.lt_or_ge (zx_bz (zy_nu A n)) up with z | z
          · omega
          · have : m = up - 2147483648 := by omega
            rw [this, q6] at hu
            omega
        · exact ⟨e, he, hk⟩
      · exact ⟨e, he, hk⟩
    · exact ⟨e, he, hk⟩
  · exact ⟨e, he, hk⟩
theorem zy_const {l : Nat} {y : Int32} (h : zx_bz y = l) : zy_r A (zx_c (zx_bi l)) (.int y) := by
  have := zy_r_c (A := A) (zx_bi_lt l)
  rw [← h, ← zx_of_bz y] at this
  rw [← h]
  exact this
/-- a value as it is known now -/
theorem zy_n1_s (he : zy_ev A e) {v : Nat} {x : Value} (h : zy_r A v x) {k : Nat → Bool} (hk : zy_n1 e v k = true) : ∃ v' : Nat, zy_r A v' x ∧ k v' = true := by
  unfold zy_n1 at hk
  rcases zx_bif hk with ⟨q, hk⟩ | ⟨-, hk⟩
  · have hi := zy_iv_i hk
    obtain ⟨y, rfl⟩ := zy_r_i hi h
    obtain ⟨l, u, hk, h1, h2, h3⟩ := zy_iv_s he h hk
    rcases zx_bif hk with ⟨q1, hk2⟩ | ⟨-, hk⟩
    · have q1 := zx_beq_t q1
      rw [zx_fn_eq] at hk2
      exact ⟨_, zy_const (by omega), hk2⟩
    · exact ⟨_, h, hk⟩
  · exact ⟨_, h, hk⟩
/-- what a kept value may be: 1, 4, 7, a reference or a long, or n and (n - 1) -/
def zy_kp (v : Nat) : Prop := zx_kc 63488 v = false ∨ (v % 16 = 11 ∧ v / 16 / 256 % 16 = 1)
theorem zy_no_s (he : zy_ev A e) {v : Nat} {x : Value} (h : zy_r A v x) {k : Nat → Bool} (hk : zy_no e v k = true) : ∃ v' : Nat, zy_r A v' x ∧ k v' = true ∧ zy_kp v' := by
  have hc : ∀ n, zx_kc 63488 (zx_c n) = false := fun n => by
    unfold zx_kc
    rw [show Nat.mod (zx_c n) 16 = 4 from zx_c_kd n]
    rfl
  have h7 : ∀ l u, zx_kc 63488 (zy_c7v l u) = false := fun l u => by
    unfold zx_kc
    rw [show Nat.mod (zy_c7v l u) 16 = 7 from by show (zx_bd l u * 16 + 7) % 16 = 7; omega]
    rfl
  unfold zy_no at hk
  rcases zx_bif hk with ⟨q, hk⟩ | ⟨q, hk⟩
  · have hi := zy_iv_i hk
    obtain ⟨y, rfl⟩ := zy_r_i hi h
    obtain ⟨l, u, hk, h1, h2, h3⟩ := zy_iv_s he h hk
    rcases zx_bif hk with ⟨q1, hk2⟩ | ⟨-, hk⟩
    · have q1 := zx_beq_t q1
      rw [zx_fn_eq] at hk2
      exact ⟨_, zy_const (by omega), hk2, Or.inl (hc _)⟩
    rcases zx_bif hk with ⟨q1, hk2⟩ | ⟨q1, hk⟩
    · rw [zx_fn_eq] at hk2
      exact ⟨_, zy_r_7 h1 h2 h3, hk2, Or.inl (h7 _ _)⟩
    · refine ⟨_, h, hk, ?_⟩
      cases q2 : zx_kc 63488 v
      · exact Or.inl q2
      · rw [q2] at q1
        have q1 : (Nat.beq (zx_kd v) 11 && Nat.beq (Nat.mod (zy_o1 v) 16) 1) = true := by simpa using q1
        obtain ⟨a, b⟩ := zx_and_b q1
        exact Or.inr ⟨zx_beq_t a, zx_beq_t b⟩
  · refine ⟨_, h, hk, Or.inl ?_⟩
    have q9 : ∀ t, t < 16 → Nat.beq (Nat.mod (Nat.shiftRight 63618 t) 2) 1 = false → Nat.beq (Nat.mod (Nat.shiftRight 63488 t) 2) 1 = false := by decide
    exact q9 _ (Nat.mod_lt _ (by decide)) q
/-- two ints by their bounds -/
theorem zy_w2_s (he : zy_ev A e) {g : Nat → Nat → Nat → Nat → (Nat → Bool) → Bool} {F : Int32 → Int32 → Int32} {P : Int32 → Int32 → Prop} (hg : ∀ (l1 h1 l2 h2 : Nat) (x y : Int32) (k : Nat → Bool), l1 ≤ zx_bz x → zx_bz x ≤ h1 → h1 < 4294967296 → l2 ≤ zx_bz y → zx_bz y ≤ h2 → h2 < 4294967296 → g l1 h1 l2 h2 k = true → P x y ∧ ∃ c, zy_r A c (.int (F x y)) ∧ k c = true) {a b : Nat} {x y : Int32} (ha : zy_r A a (.int x)) (hb : zy_r A b (.int y)) {k : Nat → Bool} (hk : zy_w2 e a b g k = true) :
    P x y ∧ ∃ c : Nat, zy_r A c (.int (F x y)) ∧ k c = true := by
  unfold zy_w2 at hk
  obtain ⟨l1, h1, hk, p1, p2, p3⟩ := zy_iv_s he ha hk
  obtain ⟨l2, h2, hk, p4, p5, p6⟩ := zy_iv_s he hb hk
  exact hg _ _ _ _ _ _ _ p1 p2 p3 p4 p5 p6 hk
theorem zy_b2_s (he : zy_ev A e) {f : Nat → Nat → Nat} {g : Nat → Nat → Nat → Nat → (Nat → Bool) → Bool} {F : Int32 → Int32 → Int32} (hf : ∀ x y : Nat, x < 4294967296 → y < 4294967296 → F (nI x) (nI y) = nI (f x y) ∧ f x y < 4294967296)
    (hg : ∀ (l1 h1 l2 h2 : Nat) (x y : Int32) (k : Nat → Bool), l1 ≤ zx_bz x → zx_bz x ≤ h1 → h1 < 4294967296 → l2 ≤ zx_bz y → zx_bz y ≤ h2 → h2 < 4294967296 → g l1 h1 l2 h2 k = true → ∃ c, zy_r A c (.int (F x y)) ∧ k c = true) {a b : Nat} {x y : Int32} (ha : zy_r A a (.int x)) (hb : zy_r A b (.int y)) {k : Nat → Bool} (hk : zy_b2 f g e a b k = true) :
    ∃ c : Nat, zy_r A c (.int (F x y)) ∧ k c = true := by
  unfold zy_b2 at hk
  rcases zx_bif hk with ⟨q, hk⟩ | ⟨-, hk⟩
  · obtain ⟨q1, q2⟩ := zx_and_b q
    have q1 : a % 16 = 4 := zx_beq_t q1
    have q2 : b % 16 = 4 := zx_beq_t q2
    rw [zx_fn_eq] at hk
    obtain ⟨-, h1, h2⟩ := (zy_r4 q1).mp ha
    obtain ⟨-, h3, h4⟩ := (zy_r4 q2).mp hb
    cases h1
    cases h3
    obtain ⟨e1, e2⟩ := hf _ _ h2 h4
    refine ⟨_, ?_, hk⟩
    rw [e1]
    exact zy_r_c e2
  · exact (zy_w2_s (P := fun _ _ => True) he (fun l1 h1 l2 h2 x y k a1 a2 a3 a4 a5 a6 hk => ⟨trivial, hg l1 h1 l2 h2 x y k a1 a2 a3 a4 a5 a6 hk⟩) ha hb hk).2
theorem zy_wadd_s (l1 h1 l2 h2 : Nat) (x y : Int32) (k : Nat → Bool) (a1 : l1 ≤ zx_bz x) (a2 : zx_bz x ≤ h1) (_ : h1 < 4294967296) (b1 : l2 ≤ zx_bz y) (b2 : zx_bz y ≤ h2) (_ : h2 < 4294967296) (hk : zy_wadd l1 h1 l2 h2 k = true) : ∃ c, zy_r A c (.int (x + y)) ∧ k c = true := by
  unfold zy_wadd at hk
  rcases zx_bif hk with ⟨q, hk⟩ | ⟨-, hk⟩
  · obtain ⟨q1, q2⟩ := zx_and_b q
    have q1 : 2147483648 ≤ l1 + l2 := zx_ble_t q1
    have q2 : h1 + h2 < 6442450944 := zx_blt_t q2
    rw [zx_fn_eq] at hk
    have e1 := zx_bz_int x
    have e2 := zx_bz_int y
    have e3 := zx_bz_int (x + y)
    have e4 := zy_ti_add (x := x) (y := y) (by omega) (by omega)
    exact ⟨_, zy_r_7 (show l1 + l2 - 2147483648 ≤ _ by omega) (show _ ≤ h1 + h2 - 2147483648 by omega) (show h1 + h2 - 2147483648 < _ by omega), hk⟩
  · exact ⟨_, zy_r_un _, hk⟩
theorem zy_wsub_s (l1 h1 l2 h2 : Nat) (x y : Int32) (k : Nat → Bool) (a1 : l1 ≤ zx_bz x) (a2 : zx_bz x ≤ h1) (_ : h1 < 4294967296) (b1 : l2 ≤ zx_bz y) (b2 : zx_bz y ≤ h2) (_ : h2 < 4294967296) (hk : zy_wsub l1 h1 l2 h2 k = true) : ∃ c, zy_r A c (.int (x - y)) ∧ k c = true := by
  unfold zy_wsub at hk
  rcases zx_bif hk with ⟨q, hk⟩ | ⟨-, hk⟩
  · obtain ⟨q1, q2⟩ := zx_and_b q
    have q1 : h2 ≤ l1 + 2147483648 := zx_ble_t q1
    have q2 : h1 + 2147483648 < 4294967296 + l2 := zx_blt_t q2
    rw [zx_fn_eq] at hk
    have e1 := zx_bz_int x
    have e2 := zx_bz_int y
    have e3 := zx_bz_int (x - y)
    have e4 := zy_ti_sub (x := x) (y := y) (by omega) (by omega)
    exact ⟨_, zy_r_7 (show l1 + 2147483648 - h2 ≤ _ by omega) (show _ ≤ h1 + 2147483648 - l2 by omega) (show h1 + 2147483648 - l2 < _ by omega), hk⟩
  · exact ⟨_, zy_r_un _, hk⟩
theorem zy_wmul_s (l1 h1 l2 h2 : Nat) (x y : Int32) (k : Nat → Bool) (a1 : l1 ≤ zx_bz x) (a2 : zx_bz x ≤ h1) (_ : h1 < 4294967296) (b1 : l2 ≤ zx_bz y) (b2 : zx_bz y ≤ h2) (_ : h2 < 4294967296) (hk : zy_wmul l1 h1 l2 h2 k = true) : ∃ c, zy_r A c (.int (x * y)) ∧ k c = true := by
  unfold zy_wmul at hk
  rcases zx_bif hk with ⟨q, hk⟩ | ⟨-, hk⟩
  · obtain ⟨q1, q2⟩ := zx_and_b q
    obtain ⟨q2, q3⟩ := zx_and_b q2
    have q1 := zx_ble_t q1
    have q2 := zx_ble_t q2
    have q3 : (h1 - 2147483648) * (h2 - 2147483648) < 2147483648 := zx_blt_t q3
    rw [zx_fn_eq] at hk
    obtain ⟨n, n1, rfl, n3⟩ := zy_nn (x := x) (by omega)
    obtain ⟨m, m1, rfl, m3⟩ := zy_nn (x := y) (by omega)
    have e1 : n * m ≤ (h1 - 2147483648) * (h2 - 2147483648) := Nat.mul_le_mul (by omega) (by omega)
    have e2 : (l1 - 2147483648) * (l2 - 2147483648) ≤ n * m := Nat.mul_le_mul (by omega) (by omega)
    have e3 : nI n * nI m = nI (n * m) := by rw [pk_mul]
    refine ⟨_, ?_, hk⟩
    rw [e3]
    have e4 := zy_bz_n (n := n * m) (by omega)
    exact zy_r_7 (show 2147483648 + (l1 - 2147483648) * (l2 - 2147483648) ≤ _ by omega) (show _ ≤ 2147483648 + (h1 - 2147483648) * (h2 - 2147483648) by omega) (show 2147483648 + (h1 - 2147483648) * (h2 - 2147483648) < _ by omega)
  · exact ⟨_, zy_r_un _, hk⟩
theorem zy_and_l (x : Int32) {y : Int32} (h : 2147483648 ≤ zx_bz y) : 2147483648 ≤ zx_bz (x &&& y) ∧ zx_bz (x &&& y) ≤ zx_bz y := by
  obtain ⟨n, n1, rfl, n3⟩ := zy_nn h
  have := zx_and_le x n n1
  omega
theorem zy_wand_s (l1 h1 l2 h2 : Nat) (x y : Int32) (k : Nat → Bool) (a1 : l1 ≤ zx_bz x) (a2 : zx_bz x ≤ h1) (a3 : h1 < 4294967296) (b1 : l2 ≤ zx_bz y) (b2 : zx_bz y ≤ h2) (b3 : h2 < 4294967296) (hk : zy_wand l1 h1 l2 h2 k = true) : ∃ c, zy_r A c (.int (x &&& y)) ∧ k c = true := by
  unfold zy_wand at hk
  have hc : x &&& y = y &&& x := Int32.and_comm x y
  rcases zx_bif hk with ⟨q, hk⟩ | ⟨-, hk⟩
  · have q := zx_ble_t q
    have hx := zy_and_l y (y := x) (by omega)
    rw [← hc] at hx
    rcases zx_bif hk with ⟨q2, hk⟩ | ⟨-, hk⟩
    · have q2 := zx_ble_t q2
      have hy := zy_and_l x (y := y) (by omega)
      rw [zx_fn_eq, zy_mn_eq] at hk
      exact ⟨_, zy_r_7 (by omega) (show _ ≤ min h1 h2 by omega) (by omega), hk⟩
    · rw [zx_fn_eq] at hk
      exact ⟨_, zy_r_7 (by omega) (by omega) a3, hk⟩
  rcases zx_bif hk with ⟨q, hk⟩ | ⟨-, hk⟩
  · have q := zx_ble_t q
    have hy := zy_and_l x (y := y) (by omega)
    rw [zx_fn_eq] at hk
    exact ⟨_, zy_r_7 (by omega) (by omega) b3, hk⟩
  · exact ⟨_, zy_r_un _, hk⟩
theorem zy_wor_s (l1 h1 l2 h2 : Nat) (x y : Int32) (k : Nat → Bool) (a1 : l1 ≤ zx_bz x) (a2 : zx_bz x ≤ h1) (a3 : h1 < 4294967296) (b1 : l2 ≤ zx_bz y) (b2 : zx_bz y ≤ h2) (b3 : h2 < 4294967296) (hk : zy_wor l1 h1 l2 h2 k = true) : ∃ c, zy_r A c (.int (x ||| y)) ∧ k c = true := by
  unfold zy_wor at hk
  rcases zx_bif hk with ⟨q, hk⟩ | ⟨-, hk⟩
  · obtain ⟨q1, q2⟩ := zx_and_b q
    have q1 := zx_ble_t q1
    have q2 := zx_ble_t q2
    obtain ⟨n, n1, rfl, n3⟩ := zy_nn (x := x) (by omega)
    obtain ⟨m, m1, rfl, m3⟩ := zy_nn (x := y) (by omega)
    rw [zx_fn_eq, zy_mx_eq] at hk
    have eM : max (Nat.sub h1 2147483648) (Nat.sub h2 2147483648) = max (h1 - 2147483648) (h2 - 2147483648) := rfl
    rw [eM] at hk
    generalize hw : max (h1 - 2147483648) (h2 - 2147483648) = w at hk
    have hp : w < 2 ^ (Nat.log2 w + 1) := Nat.lt_log2_self
    have hp2 : 2 ^ (Nat.log2 w + 1) ≤ 2147483648 := by
      rcases Nat.eq_zero_or_pos w with z | z
      · rw [z]; decide
      · have h4 : Nat.log2 w < 31 := (Nat.log2_lt (by omega)).mpr (by omega)
        exact Nat.pow_le_pow_right (by decide) (by omega : Nat.log2 w + 1 ≤ 31)
    have h5 : n ||| m < 2 ^ (Nat.log2 w + 1) := Nat.or_lt_two_pow (by omega) (by omega)
    refine ⟨_, ?_, hk⟩
    rw [zx_or']
    have e4 := zy_bz_n (n := n ||| m) (by omega)
    exact zy_r_7 (by omega) (show _ ≤ 2147483648 + (2 ^ (Nat.log2 w + 1) - 1) by omega) (show 2147483648 + (2 ^ (Nat.log2 w + 1) - 1) < _ by omega)
  · exact ⟨_, zy_r_un _, hk⟩
theorem zy_wxor_s (l1 h1 l2 h2 : Nat) (x y : Int32) (k : Nat → Bool) (a1 : l1 ≤ zx_bz x) (a2 : zx_bz x ≤ h1) (_ : h1 < 4294967296) (b1 : l2 ≤ zx_bz y) (_ : zx_bz y ≤ h2) (_ : h2 < 4294967296) (hk : zy_wxor l1 h1 l2 h2 k = true) : ∃ c, zy_r A c (.int (x ^^^ y)) ∧ k c = true := by
  have hx := zx_bz_lt (x ^^^ y)
  unfold zy_wxor at hk
  rcases zx_bif hk with ⟨q, hk⟩ | ⟨-, hk⟩
  · have q := zx_ble_t q
    obtain ⟨m, m1, rfl, m3⟩ := zy_nn (x := y) (by omega)
    have hs := zy_xor_sign x m1
    rcases zx_bif hk with ⟨q2, hk⟩ | ⟨-, hk⟩
    · have q2 := zx_ble_t q2
      rw [zx_fn_eq] at hk
      exact ⟨_, zy_r_7 (hs.mpr (by omega)) (by omega) (by decide), hk⟩
    rcases zx_bif hk with ⟨q2, hk⟩ | ⟨-, hk⟩
    · have q2 := zx_blt_t q2
      rw [zx_fn_eq] at hk
      refine ⟨_, zy_r_7 (Nat.zero_le _) ?_ (by decide), hk⟩
      rcases Nat.lt_or_ge (zx_bz (x ^^^ nI m)) 2147483648 with z | z
      · omega
      · have := hs.mp z
        omega
    · exact ⟨_, zy_r_un _, hk⟩
  · exact ⟨_, zy_r_un _, hk⟩
theorem zy_wushr_s (l1 h1 l2 h2 : Nat) (x y : Int32) (k : Nat → Bool) (a1 : l1 ≤ zx_bz x) (a2 : zx_bz x ≤ h1) (a3 : h1 < 4294967296) (b1 : l2 ≤ zx_bz y) (b2 : zx_bz y ≤ h2) (_ : h2 < 4294967296) (hk : zy_wushr l1 h1 l2 h2 k = true) : ∃ c, zy_r A c (.int ((x.toUInt32 >>> (y.toUInt32 &&& Int32.toUInt32 31)).toInt32)) ∧ k c = true := by
  unfold zy_wushr at hk
  rcases zx_bif hk with ⟨q, hk⟩ | ⟨-, hk⟩
  · obtain ⟨q1, q2⟩ := zx_and_b q
    obtain ⟨q2, q3⟩ := zx_and_b q2
    obtain ⟨q3, q4⟩ := zx_and_b q3
    have q1 := zx_ble_t q1
    have q2 := zx_beq_t q2
    have q3 := zx_ble_t q3
    have q4 := zx_blt_t q4
    obtain ⟨n, n1, rfl, n3⟩ := zy_nn (x := x) (by omega)
    obtain ⟨m, m1, rfl, m3⟩ := zy_nn (x := y) (by omega)
    have em : l2 - 2147483648 = m := by omega
    have d1 : n / 2 ^ m ≤ n := Nat.div_le_self _ _
    have d2 : (l1 - 2147483648) / 2 ^ m ≤ n / 2 ^ m := Nat.div_le_div_right (by omega)
    have d3 : n / 2 ^ m ≤ (h1 - 2147483648) / 2 ^ m := Nat.div_le_div_right (by omega)
    have d4 : (h1 - 2147483648) / 2 ^ m ≤ h1 - 2147483648 := Nat.div_le_self _ _
    rw [zx_fn_eq] at hk
    have hk : k (zy_c7v (2147483648 + (l1 - 2147483648) / 2 ^ (l2 - 2147483648)) (2147483648 + (h1 - 2147483648) / 2 ^ (l2 - 2147483648))) = true := hk
    rw [em] at hk
    rw [zx_ushr' n m (by omega) (by omega), show zx_g8 n m = n / 2 ^ m from rfl]
    exact ⟨_, zy_r_7 (by rw [zy_bz_n (by omega)]; omega) (by rw [zy_bz_n (by omega)]; omega) (by omega), hk⟩
  · exact ⟨_, zy_r_un _, hk⟩
theorem zy_wun_s {F : Int32 → Int32 → Int32} (l1 h1 l2 h2 : Nat) (x y : Int32) (k : Nat → Bool) (hk : zy_wun l1 h1 l2 h2 k = true) : ∃ c, zy_r A c (.int (F x y)) ∧ k c = true := ⟨_, zy_r_un _, hk⟩
theorem zy_wshl_s (l1 h1 l2 h2 : Nat) (x y : Int32) (k : Nat → Bool) (a1 : l1 ≤ zx_bz x) (a2 : zx_bz x ≤ h1) (_ : h1 < 4294967296) (b1 : l2 ≤ zx_bz y) (b2 : zx_bz y ≤ h2) (_ : h2 < 4294967296) (hk : zy_wshl l1 h1 l2 h2 k = true) : ∃ c, zy_r A c (.int (x <<< (y &&& 31))) ∧ k c = true := by
  unfold zy_wshl at hk
  rcases zx_bif hk with ⟨q, hk⟩ | ⟨-, hk⟩
  · obtain ⟨q1, q2⟩ := zx_and_b q
    obtain ⟨q2, q3⟩ := zx_and_b q2
    obtain ⟨q3, q4⟩ := zx_and_b q3
    have q1 := zx_ble_t q1
    have q2 := zx_ble_t q2
    have q3 := zx_blt_t q3
    have q4 : (h1 - 2147483648) * 2 ^ (h2 - 2147483648) < 2147483648 := zx_blt_t q4
    rw [zx_fn_eq] at hk
    obtain ⟨n, n1, rfl, n3⟩ := zy_nn (x := x) (by omega)
    obtain ⟨m, m1, rfl, m3⟩ := zy_nn (x := y) (by omega)
    have e1 : n * 2 ^ m ≤ (h1 - 2147483648) * 2 ^ (h2 - 2147483648) := Nat.mul_le_mul (by omega) (Nat.pow_le_pow_right (by decide) (by omega))
    have e2 : (l1 - 2147483648) * 2 ^ (l2 - 2147483648) ≤ n * 2 ^ m := Nat.mul_le_mul (by omega) (Nat.pow_le_pow_right (by decide) (by omega))
    refine ⟨_, ?_, hk⟩
    rw [zx_shl' n m (by omega) (by omega), show zx_g6 n m = n * 2 ^ m % 4294967296 from rfl, Nat.mod_eq_of_lt (by omega)]
    have e4 := zy_bz_n (n := n * 2 ^ m) (by omega)
    exact zy_r_7 (show 2147483648 + (l1 - 2147483648) * 2 ^ (l2 - 2147483648) ≤ _ by omega) (show _ ≤ 2147483648 + (h1 - 2147483648) * 2 ^ (h2 - 2147483648) by omega) (show 2147483648 + (h1 - 2147483648) * 2 ^ (h2 - 2147483648) < _ by omega)
  · exact ⟨_, zy_r_un _, hk⟩
theorem zy_m31 (m : Nat) : nI m &&& 31 = nI (m % 32) &&& 31 := by
  rw [show (31 : Int32) = nI 31 from by decide, zx_and', zx_and', show (31 : Nat) = 2 ^ 5 - 1 from rfl, Nat.and_two_pow_sub_one_eq_mod, Nat.and_two_pow_sub_one_eq_mod, show (2 : Nat) ^ 5 = 32 from rfl, Nat.mod_mod]
theorem zy_wshr_s (l1 h1 l2 h2 : Nat) (x y : Int32) (k : Nat → Bool) (a1 : l1 ≤ zx_bz x) (a2 : zx_bz x ≤ h1) (a3 : h1 < 4294967296) (_ : l2 ≤ zx_bz y) (_ : zx_bz y ≤ h2) (_ : h2 < 4294967296) (hk : zy_wshr l1 h1 l2 h2 k = true) : ∃ c, zy_r A c (.int (x >>> (y &&& 31))) ∧ k c = true := by
  unfold zy_wshr at hk
  rcases zx_bif hk with ⟨q, hk⟩ | ⟨-, hk⟩
  · have q := zx_ble_t q
    rw [zx_fn_eq] at hk
    obtain ⟨n, n1, rfl, n3⟩ := zy_nn (x := x) (by omega)
    obtain ⟨m, m1, rfl⟩ := zy_any y
    refine ⟨_, ?_, hk⟩
    have hd : n / 2 ^ (m % 32) ≤ n := Nat.div_le_self _ _
    rw [zy_m31, zy_shr_n n1 (Nat.mod_lt _ (by decide))]
    generalize n / 2 ^ (m % 32) = z at hd ⊢
    have e4 := zy_bz_n (n := z) (by omega)
    exact zy_r_7 (by omega) (by omega) a3
  · exact ⟨_, zy_r_un _, hk⟩
theorem zy_sh_s (he : zy_ev A e) {f : Nat → Nat → Nat} {g : Nat → Nat → Nat → Nat → (Nat → Bool) → Bool} {F : Int32 → Int32 → Int32} (hf : ∀ x y : Nat, x < 4294967296 → y < 32 → F (nI x) (nI y) = nI (f x y) ∧ f x y < 4294967296)
    (hg : ∀ (l1 h1 l2 h2 : Nat) (x y : Int32) (k : Nat → Bool), l1 ≤ zx_bz x → zx_bz x ≤ h1 → h1 < 4294967296 → l2 ≤ zx_bz y → zx_bz y ≤ h2 → h2 < 4294967296 → g l1 h1 l2 h2 k = true → ∃ c, zy_r A c (.int (F x y)) ∧ k c = true) {a b : Nat} {x y : Int32} (ha : zy_r A a (.int x)) (hb : zy_r A b (.int y)) {k : Nat → Bool} (hk : zy_sh f g e a b k = true) :
    ∃ c : Nat, zy_r A c (.int (F x y)) ∧ k c = true := by
  unfold zy_sh at hk
  rcases zx_bif hk with ⟨q, hk⟩ | ⟨-, hk⟩
  · obtain ⟨q1, q2⟩ := zx_and_b q
    obtain ⟨q2, q3⟩ := zx_and_b q2
    have q1 : a % 16 = 4 := zx_beq_t q1
    have q2 : b % 16 = 4 := zx_beq_t q2
    have q3 : b / 16 < 32 := zx_blt_t q3
    rw [zx_fn_eq] at hk
    obtain ⟨-, h1, h2⟩ := (zy_r4 q1).mp ha
    obtain ⟨-, h3, h4⟩ := (zy_r4 q2).mp hb
    cases h1
    cases h3
    obtain ⟨e1, e2⟩ := hf _ _ h2 q3
    refine ⟨_, ?_, hk⟩
    rw [e1]
    exact zy_r_c e2
  · exact (zy_w2_s (P := fun _ _ => True) he (fun l1 h1 l2 h2 x y k a1 a2 a3 a4 a5 a6 hk => ⟨trivial, hg l1 h1 l2 h2 x y k a1 a2 a3 a4 a5 a6 hk⟩) ha hb hk).2
theorem zy_rem_neg {x : Int32} {m : Nat} (hx : x.toInt < 0) (h0 : 0 < m) (hm : m < 2147483648) : -(m : Int) < (x - x / nI m * nI m).toInt ∧ (x - x / nI m * nI m).toInt ≤ 0 := by
  have hmi : (nI m).toInt = (m : Int) := by rw [zx_nI_int m (by omega), if_pos hm]
  have hr := zx_rg x
  have hq0 : 0 ≤ (-x.toInt) / (m : Int) := Int.ediv_nonneg (by omega) (by omega)
  have hq1 : (-x.toInt) / (m : Int) ≤ -x.toInt := Int.ediv_le_self _ (by omega)
  have hd : (x / nI m).toInt = -((-x.toInt) / (m : Int)) := by
    have h := Int.neg_tdiv (-x.toInt) (m : Int)
    have h2 : (-x.toInt).tdiv (m : Int) = (-x.toInt) / (m : Int) := Int.tdiv_eq_ediv_of_nonneg (by omega)
    rw [Int.neg_neg, h2] at h
    rw [Int32.toInt_div, hmi, h]
    show Int.bmod _ 4294967296 = _
    simp only [Int.bmod_def]
    split <;> omega
  have e1 := Int.mul_ediv_add_emod (-x.toInt) (m : Int)
  have r1 : 0 ≤ (-x.toInt) % (m : Int) := Int.emod_nonneg _ (by omega)
  have r2 : (-x.toInt) % (m : Int) < (m : Int) := Int.emod_lt_of_pos _ (by omega)
  have hp0 : -((-x.toInt) / (m : Int)) * (m : Int) = -((m : Int) * ((-x.toInt) / (m : Int))) := by rw [Int.neg_mul, Int.mul_comm]
  generalize (m : Int) * ((-x.toInt) / (m : Int)) = w at e1 hp0
  have hp : (x / nI m * nI m).toInt = -w := by
    rw [zy_ti_mul (by rw [hd, hmi, hp0]; omega) (by rw [hd, hmi, hp0]; omega), hd, hmi, hp0]
  rw [zy_ti_sub (by rw [hp]; omega) (by rw [hp]; omega), hp]
  omega
theorem zy_nz_s {l h : Nat} {y : Int32} (hz : zy_nz l h = true) (b1 : l ≤ zx_bz y) (b2 : zx_bz y ≤ h) : ¬ y = 0 := by
  intro e
  subst e
  have h0 : zx_bz 0 = 2147483648 := by decide
  rw [h0] at b1 b2
  rcases (Bool.or_eq_true _ _).mp hz with q | q <;> have q := zx_blt_t q <;> omega
theorem zy_wdiv_s (l1 h1 l2 h2 : Nat) (x y : Int32) (k : Nat → Bool) (a1 : l1 ≤ zx_bz x) (a2 : zx_bz x ≤ h1) (a3 : h1 < 4294967296) (b1 : l2 ≤ zx_bz y) (b2 : zx_bz y ≤ h2) (b3 : h2 < 4294967296) (hk : zy_wdiv l1 h1 l2 h2 k = true) : ¬ y = 0 ∧ ∃ c, zy_r A c (.int (x / y)) ∧ k c = true := by
  unfold zy_wdiv at hk
  obtain ⟨hz, hk⟩ := zx_bft hk
  refine ⟨zy_nz_s hz b1 b2, ?_⟩
  rcases zx_bif hk with ⟨q, hk⟩ | ⟨-, hk⟩
  · obtain ⟨q1, q2⟩ := zx_and_b q
    obtain ⟨q2, q3⟩ := zx_and_b q2
    have q1 := zx_ble_t q1
    have q2 := zx_beq_t q2
    have q3 := zx_blt_t q3
    rw [zx_fn_eq] at hk
    obtain ⟨n, n1, rfl, n3⟩ := zy_nn (x := x) (by omega)
    obtain ⟨m, m1, rfl, m3⟩ := zy_nn (x := y) (by omega)
    have em : l2 - 2147483648 = m := by omega
    refine ⟨_, ?_, hk⟩
    have hd : n / m ≤ n := Nat.div_le_self _ _
    rw [pk_div n1 (by omega) m1]
    have e4 := zy_bz_n (n := n / m) (by omega)
    have e5 : (l1 - 2147483648) / m ≤ n / m := Nat.div_le_div_right (by omega)
    have e6 : n / m ≤ (h1 - 2147483648) / m := Nat.div_le_div_right (by omega)
    have e7 : (h1 - 2147483648) / m ≤ h1 - 2147483648 := Nat.div_le_self _ _
    exact zy_r_7 (show 2147483648 + (l1 - 2147483648) / (l2 - 2147483648) ≤ _ by rw [em]; omega) (show _ ≤ 2147483648 + (h1 - 2147483648) / (l2 - 2147483648) by rw [em]; omega) (show 2147483648 + (h1 - 2147483648) / (l2 - 2147483648) < _ by rw [em]; omega)
  · exact ⟨_, zy_r_un _, hk⟩
theorem zy_wrem_s (l1 h1 l2 h2 : Nat) (x y : Int32) (k : Nat → Bool) (a1 : l1 ≤ zx_bz x) (a2 : zx_bz x ≤ h1) (a3 : h1 < 4294967296) (b1 : l2 ≤ zx_bz y) (b2 : zx_bz y ≤ h2) (b3 : h2 < 4294967296) (hk : zy_wrem l1 h1 l2 h2 k = true) : ¬ y = 0 ∧ ∃ c, zy_r A c (.int (x - x / y * y)) ∧ k c = true := by
  unfold zy_wrem at hk
  obtain ⟨hz, hk⟩ := zx_bft hk
  refine ⟨zy_nz_s hz b1 b2, ?_⟩
  rcases zx_bif hk with ⟨q, hk⟩ | ⟨-, hk⟩
  · obtain ⟨q2, q3⟩ := zx_and_b q
    have q2 := zx_beq_t q2
    have q3 := zx_blt_t q3
    obtain ⟨m, m1, rfl, m3⟩ := zy_nn (x := y) (by omega)
    have ep : Nat.pred l2 = l2 - 1 := rfl
    have pos : ∀ {x : Int32}, 2147483648 ≤ zx_bz x → 2147483648 ≤ zx_bz (x - x / nI m * nI m) ∧ zx_bz (x - x / nI m * nI m) ≤ zx_bz x ∧ zx_bz (x - x / nI m * nI m) ≤ l2 - 1 := by
      intro x hx
      obtain ⟨n, n1, rfl, n3⟩ := zy_nn hx
      have r1 : n % m < m := Nat.mod_lt _ (by omega)
      have r2 : n % m ≤ n := Nat.mod_le _ _
      rw [pk_rem n1 (by omega) m1, zy_bz_n (by omega)]
      omega
    rcases zx_bif hk with ⟨q, hk⟩ | ⟨q, hk⟩
    · have q := zx_ble_t q
      rw [zx_fn_eq, zy_mn_eq, ep] at hk
      obtain ⟨p1, p2, p3⟩ := pos (x := x) (by omega)
      exact ⟨_, zy_r_7 p1 (show _ ≤ min h1 (l2 - 1) by omega) (by omega), hk⟩
    rcases zx_bif hk with ⟨q, hk⟩ | ⟨q, hk⟩
    · have q := zx_ble_t q
      rw [zx_fn_eq] at hk
      refine ⟨_, zy_r_7 (show 4294967297 - l2 ≤ _ from ?_) (show _ ≤ 2147483648 from ?_) (by omega), hk⟩
      · rcases Nat.lt_or_ge (zx_bz x) 2147483648 with z | z
        · have e1 := zx_bz_int x
          have e2 := zx_bz_int (x - x / nI m * nI m)
          have := zy_rem_neg (x := x) (m := m) (by omega) (by omega) m1
          omega
        · have := pos z
          omega
      · rcases Nat.lt_or_ge (zx_bz x) 2147483648 with z | z
        · have e1 := zx_bz_int x
          have e2 := zx_bz_int (x - x / nI m * nI m)
          have := zy_rem_neg (x := x) (m := m) (by omega) (by omega) m1
          omega
        · have := pos z
          omega
    · rw [zx_fn_eq, ep] at hk
      refine ⟨_, zy_r_7 (show 4294967297 - l2 ≤ _ from ?_) (show _ ≤ l2 - 1 from ?_) (by omega), hk⟩
      · rcases Nat.lt_or_ge (zx_bz x) 2147483648 with z | z
        · have e1 := zx_bz_int x
          have e2 := zx_bz_int (x - x / nI m * nI m)
          have := zy_rem_neg (x := x) (m := m) (by omega) (by omega) m1
          omega
        · have := pos z
          omega
      · rcases Nat.lt_or_ge (zx_bz x) 2147483648 with z | z
        · have e1 := zx_bz_int x
          have e2 := zx_bz_int (x - x / nI m * nI m)
          have := zy_rem_neg (x := x) (m := m) (by omega) (by omega) m1
          omega
        · have := pos z
          omega
  · exact ⟨_, zy_r_un _, hk⟩
theorem zy_dv_s (he : zy_ev A e) {f : Nat → Nat → Nat} {g : Nat → Nat → Nat → Nat → (Nat → Bool) → Bool} {F : Int32 → Int32 → Int32} (hf : ∀ x y : Nat, x < 2147483648 → 0 < y → y < 2147483648 → F (nI x) (nI y) = nI (f x y) ∧ f x y < 4294967296)
    (hg : ∀ (l1 h1 l2 h2 : Nat) (x y : Int32) (k : Nat → Bool), l1 ≤ zx_bz x → zx_bz x ≤ h1 → h1 < 4294967296 → l2 ≤ zx_bz y → zx_bz y ≤ h2 → h2 < 4294967296 → g l1 h1 l2 h2 k = true → ¬ y = 0 ∧ ∃ c, zy_r A c (.int (F x y)) ∧ k c = true) {a b : Nat} {x y : Int32} (ha : zy_r A a (.int x)) (hb : zy_r A b (.int y)) {k : Nat → Bool} (hk : zy_dv f g e a b k = true) :
    ¬ y = 0 ∧ ∃ c : Nat, zy_r A c (.int (F x y)) ∧ k c = true := by
  unfold zy_dv at hk
  rcases zx_bif hk with ⟨q, hk⟩ | ⟨-, hk⟩
  · obtain ⟨q1, q2⟩ := zx_and_b q
    obtain ⟨q2, q3⟩ := zx_and_b q2
    obtain ⟨q3, q4⟩ := zx_and_b q3
    obtain ⟨q4, q5⟩ := zx_and_b q4
    have q1 : a % 16 = 4 := zx_beq_t q1
    have q2 : b % 16 = 4 := zx_beq_t q2
    have q3 : a / 16 < 2147483648 := zx_blt_t q3
    have q4 : 0 < b / 16 := zx_blt_t q4
    have q5 : b / 16 < 2147483648 := zx_blt_t q5
    rw [zx_fn_eq] at hk
    obtain ⟨-, h1, -⟩ := (zy_r4 q1).mp ha
    obtain ⟨-, h3, -⟩ := (zy_r4 q2).mp hb
    cases h1
    cases h3
    obtain ⟨e1, e2⟩ := hf _ _ q3 q4 q5
    refine ⟨fun z => ?_, _, ?_, hk⟩
    · have h5 := zy_bz_n q5
      rw [z] at h5
      have h0 : zx_bz 0 = 2147483648 := by decide
      omega
    · rw [e1]
      exact zy_r_c e2
  · exact zy_w2_s (P := fun _ y => ¬ y = 0) he hg ha hb hk
end ZYA
end
section
/-! sums, tests and places -/
section ZYB
variable {A : zy_V} {e : Nat}
theorem zy_r_nm {n o : Nat} {x : Int32} (hn : zy_nb A (n % 256)) (ho : o < 4294967296) (hx : x = zy_nu A (n % 256) + nI o) : zy_r A (zy_nm (n % 256) o) (.int x) := by
  have e0 : zy_nm (n % 256) o = (n % 256 + 256 * o) * 16 + 1 := rfl
  have e1 : ((n % 256 + 256 * o) * 16 + 1) / 16 = n % 256 + 256 * o := by omega
  have e2 : (n % 256 + 256 * o) % 256 = n % 256 := by omega
  have e3 : (n % 256 + 256 * o) / 256 = o := by omega
  rw [e0, zy_r1 (by omega), e1, e2, e3]
  exact ⟨by omega, by rw [hx], ho, hn⟩
theorem zy_r_ch {n s c : Nat} {x : Int32} (hn : zy_nb A (n % 256)) (hs : s < 16) (hc : c < 4294967296) (hx : x = zy_sf s c (zy_nu A (n % 256))) : zy_r A (zy_ch (n % 256) s c) (.int x) := by
  have e0 : zy_ch (n % 256) s c = (n % 256 + 256 * (s + 16 * c)) * 16 + 11 := rfl
  have e1 : ((n % 256 + 256 * (s + 16 * c)) * 16 + 11) / 16 = n % 256 + 256 * (s + 16 * c) := by omega
  have e2 : (n % 256 + 256 * (s + 16 * c)) % 256 = n % 256 := by omega
  have e3 : (n % 256 + 256 * (s + 16 * c)) / 256 = s + 16 * c := by omega
  have e4 : (s + 16 * c) % 16 = s := by omega
  have e5 : (s + 16 * c) / 16 = c := by omega
  rw [e0, zy_r11 (by omega), e1, e2, e3, e4, e5]
  exact ⟨by omega, by rw [hx], hc, hn⟩
theorem zy_ad_s (he : zy_ev A e) {a b : Nat} {x y : Int32} (ha : zy_r A a (.int x)) (hb : zy_r A b (.int y)) {k : Nat → Bool} (hk : zy_ad e a b k = true) : ∃ c : Nat, zy_r A c (.int (x + y)) ∧ k c = true := by
  unfold zy_ad at hk
  have key : ∀ o c : Nat, nI o + nI c = nI (zx_f0 o c) ∧ zx_f0 o c < 4294967296 := fun o c => ⟨by show nI o + nI c = nI ((o + c) % 4294967296); rw [nI_add, zx_md], Nat.mod_lt _ (by decide)⟩
  rcases zx_bif hk with ⟨q, hk⟩ | ⟨-, hk⟩
  · obtain ⟨q1, q2⟩ := zx_and_b q
    have q1 : a % 16 = 1 := zx_beq_t q1
    have q2 : b % 16 = 4 := zx_beq_t q2
    rw [zx_fn_eq] at hk
    obtain ⟨-, h1, ho, hn⟩ := (zy_r1 q1).mp ha
    obtain ⟨-, h3, -⟩ := (zy_r4 q2).mp hb
    cases h1
    cases h3
    obtain ⟨k1, k2⟩ := key (a / 16 / 256) (b / 16)
    exact ⟨_, zy_r_nm (n := a / 16) hn k2 (by show _ = zy_nu A (a / 16 % 256) + nI (zx_f0 (a / 16 / 256) (b / 16)); rw [← k1, Int32.add_assoc]), hk⟩
  rcases zx_bif hk with ⟨q, hk⟩ | ⟨-, hk⟩
  · obtain ⟨q1, q2⟩ := zx_and_b q
    have q1 : b % 16 = 1 := zx_beq_t q1
    have q2 : a % 16 = 4 := zx_beq_t q2
    rw [zx_fn_eq] at hk
    obtain ⟨-, h1, ho, hn⟩ := (zy_r1 q1).mp hb
    obtain ⟨-, h3, -⟩ := (zy_r4 q2).mp ha
    cases h1
    cases h3
    obtain ⟨k1, k2⟩ := key (b / 16 / 256) (a / 16)
    exact ⟨_, zy_r_nm (n := b / 16) hn k2 (by show _ = zy_nu A (b / 16 % 256) + nI (zx_f0 (b / 16 / 256) (a / 16)); rw [← k1, Int32.add_comm, Int32.add_assoc]), hk⟩
  rcases zx_bif hk with ⟨q, hk⟩ | ⟨-, hk⟩
  · obtain ⟨q1, q2⟩ := zx_and_b q
    obtain ⟨q2, q3⟩ := zx_and_b q2
    obtain ⟨q3, q4⟩ := zx_and_b q3
    have q1 : a % 16 = 11 := zx_beq_t q1
    have q2 : a / 16 / 256 % 16 = 0 := zx_beq_t q2
    have q3 : b % 16 = 4 := zx_beq_t q3
    rw [zx_fn_eq] at hk
    obtain ⟨-, h1, ho, hn⟩ := (zy_r11 q1).mp ha
    obtain ⟨-, h3, -⟩ := (zy_r4 q3).mp hb
    cases h1
    cases h3
    obtain ⟨k1, k2⟩ := key (a / 16 / 256 / 16) (b / 16)
    refine ⟨_, zy_r_ch (s := 0) hn (by decide) k2 ?_, hk⟩
    rw [q2]
    show nI 16 * zy_nu A (a / 16 % 256) + nI (a / 16 / 256 / 16) + nI (b / 16) = nI 16 * zy_nu A (a / 16 % 256) + nI (zx_f0 (a / 16 / 256 / 16) (b / 16))
    rw [← k1, Int32.add_assoc]
  · exact zy_b2_s (F := fun x y => x + y) he (fun x y _ _ => key x y) zy_wadd_s ha hb hk
theorem zy_sb_s (he : zy_ev A e) {a b : Nat} {x y : Int32} (ha : zy_r A a (.int x)) (hb : zy_r A b (.int y)) {k : Nat → Bool} (hk : zy_sb e a b k = true) : ∃ c : Nat, zy_r A c (.int (x - y)) ∧ k c = true := by
  unfold zy_sb at hk
  rcases zx_bif hk with ⟨q, hk⟩ | ⟨-, hk⟩
  · obtain ⟨q1, q2⟩ := zx_and_b q
    have q1 : a % 16 = 1 := zx_beq_t q1
    have q2 : b % 16 = 4 := zx_beq_t q2
    rw [zx_fn_eq] at hk
    obtain ⟨-, h1, ho, hn⟩ := (zy_r1 q1).mp ha
    obtain ⟨-, h3, h4⟩ := (zy_r4 q2).mp hb
    cases h1
    cases h3
    have k1 := zx_sub' (a / 16 / 256) (b / 16) h4
    exact ⟨_, zy_r_nm (n := a / 16) hn (Nat.mod_lt _ (by decide)) (by show _ = zy_nu A (a / 16 % 256) + nI (zx_f1 (a / 16 / 256) (b / 16)); rw [← k1, Int32.sub_eq_add_neg, Int32.sub_eq_add_neg, Int32.add_assoc]), hk⟩
  · exact zy_b2_s (F := fun x y => x - y) he (fun x y _ hy => ⟨zx_sub' x y hy, Nat.mod_lt _ (by decide)⟩) zy_wsub_s ha hb hk
theorem zy_nm_r {b n : Nat} {y : Int32} (hb : zy_r A b (.int y)) (h : b = zy_nm (zy_k1 n) 4294967295) : y = zy_nu A (n / 16 % 256) + nI 4294967295 := by
  have e0 : b = (n / 16 % 256 + 256 * 4294967295) * 16 + 1 := h
  have e1 : b / 16 = n / 16 % 256 + 256 * 4294967295 := by omega
  have e2 : b / 16 % 256 = n / 16 % 256 := by omega
  have e3 : b / 16 / 256 = 4294967295 := by omega
  obtain ⟨-, h1, -⟩ := (zy_r1 (by omega)).mp hb
  rw [e2, e3] at h1
  injection h1
theorem zy_ml_s (he : zy_ev A e) {a b : Nat} {x y : Int32} (ha : zy_r A a (.int x)) (hb : zy_r A b (.int y)) {k : Nat → Bool} (hk : zy_ml e a b k = true) : ∃ c : Nat, zy_r A c (.int (x * y)) ∧ k c = true := by
  unfold zy_ml at hk
  rcases zx_bif hk with ⟨q, hk⟩ | ⟨-, hk⟩
  · obtain ⟨q1, q2⟩ := zx_and_b q
    obtain ⟨q2, q3⟩ := zx_and_b q2
    have q1 := zx_beq_t q1
    have q2 : b % 16 = 1 := zx_beq_t q2
    have q3 : b / 16 / 256 = 0 := zx_beq_t q3
    rw [q1] at ha
    rw [zx_fn_eq] at hk
    obtain ⟨-, h3, -⟩ := (zy_r4 (by decide)).mp ha
    obtain ⟨-, h1, ho, hn⟩ := (zy_r1 q2).mp hb
    cases h1
    have h3 : x = nI 16 := by injection h3
    rw [h3]
    refine ⟨_, zy_r_ch (s := 0) (c := 0) (n := b / 16) hn (by decide) (by decide) ?_, hk⟩
    rw [q3]
    show nI 16 * (zy_nu A (b / 16 % 256) + nI 0) = nI 16 * zy_nu A (b / 16 % 256) + nI 0
    rw [nI_0, Int32.add_zero, Int32.add_zero]
  · exact zy_b2_s (F := fun x y => x * y) he (fun x y _ _ => ⟨by show nI x * nI y = nI ((x * y) % 4294967296); rw [pk_mul, zx_md], Nat.mod_lt _ (by decide)⟩) zy_wmul_s ha hb hk
theorem zy_rm_s (he : zy_ev A e) {a b : Nat} {x y : Int32} (ha : zy_r A a (.int x)) (hb : zy_r A b (.int y)) {k : Nat → Bool} (hk : zy_rm e a b k = true) : ¬ y = 0 ∧ ∃ c : Nat, zy_r A c (.int (x - x / y * y)) ∧ k c = true := by
  have gen : zy_dv Nat.mod zy_wrem e a b k = true → ¬ y = 0 ∧ ∃ c : Nat, zy_r A c (.int (x - x / y * y)) ∧ k c = true := fun hk =>
    zy_dv_s (F := fun x y => x - x / y * y) he (fun x y hx h0 hy => ⟨pk_rem hx h0 hy, Nat.lt_of_le_of_lt (Nat.mod_le _ _) (by omega)⟩) zy_wrem_s ha hb hk
  unfold zy_rm at hk
  rcases zx_bif hk with ⟨q, hk⟩ | ⟨-, hk⟩
  · obtain ⟨q1, q2⟩ := zx_and_b q
    obtain ⟨q2, q3⟩ := zx_and_b q2
    obtain ⟨q3, q4⟩ := zx_and_b q3
    obtain ⟨q4, q5⟩ := zx_and_b q4
    have q1 : a % 16 = 1 := zx_beq_t q1
    have q2 : a / 16 / 256 = 0 := zx_beq_t q2
    have q3 : b % 16 = 4 := zx_beq_t q3
    have q4 : 0 < b / 16 := zx_blt_t q4
    have q5 : b / 16 < 2147483648 := zx_blt_t q5
    obtain ⟨l, u, hk, g1, g2, g3⟩ := zy_iv_s he ha hk
    rcases zx_bif hk with ⟨-, hk⟩ | ⟨-, hk⟩
    · rw [zx_fn_eq] at hk
      obtain ⟨-, h1, ho, hn⟩ := (zy_r1 q1).mp ha
      obtain ⟨-, h3, h4⟩ := (zy_r4 q3).mp hb
      cases h1
      cases h3
      refine ⟨fun z => ?_, _, zy_r_ch (s := 5) (n := a / 16) hn (by decide) h4 ?_, hk⟩
      · have := zy_bz_n q5
        rw [z] at this
        have h0 : zx_bz 0 = 2147483648 := by decide +kernel
        omega
      · rw [q2, nI_0, Int32.add_zero]
        rfl
    · exact gen hk
  · exact gen hk
theorem zy_an_s (he : zy_ev A e) {a b : Nat} {x y : Int32} (ha : zy_r A a (.int x)) (hb : zy_r A b (.int y)) {k : Nat → Bool} (hk : zy_an e a b k = true) : ∃ c : Nat, zy_r A c (.int (x &&& y)) ∧ k c = true := by
  unfold zy_an at hk
  have hm : nI (68719476724 / 16) = -1 := by decide +kernel
  rcases zx_bif hk with ⟨q, hk2⟩ | ⟨-, hk⟩
  · obtain ⟨q1, q2⟩ := zx_and_b q
    have q1 : a % 16 = 13 := zx_beq_t q1
    have q2 := zx_beq_t q2
    subst q2
    obtain ⟨h0, h1, ho, hn⟩ := (zy_r13 q1).mp ha
    obtain ⟨-, h3, -⟩ := (zy_r4 (by decide)).mp hb
    cases h1
    have h3 : y = 1 := by
      injection h3 with h3
    subst h3
    have e1 : (a + 1) / 16 = a / 16 := by omega
    refine ⟨_, ?_, hk2⟩
    show zy_r A (a + 1) _
    rw [zy_r14 (by omega), e1]
    exact ⟨by omega, rfl, ho, hn⟩
  rcases zx_bif hk with ⟨q, hk⟩ | ⟨-, hk⟩
  · obtain ⟨q1, q2⟩ := zx_and_b q
    obtain ⟨q2, q3⟩ := zx_and_b q2
    obtain ⟨q3, q4⟩ := zx_and_b q3
    have q1 : a % 16 = 1 := zx_beq_t q1
    have q2 : a / 16 / 256 = 0 := zx_beq_t q2
    have q3 : b % 16 = 4 := zx_beq_t q3
    rw [zx_fn_eq] at hk
    obtain ⟨-, h1, ho, hn⟩ := (zy_r1 q1).mp ha
    obtain ⟨-, h3, h4⟩ := (zy_r4 q3).mp hb
    cases h1
    cases h3
    refine ⟨_, zy_r_ch (s := 2) (n := a / 16) hn (by decide) h4 ?_, hk⟩
    rw [q2, nI_0, Int32.add_zero]
    rfl
  rcases zx_bif hk with ⟨q, hk⟩ | ⟨-, hk⟩
  · obtain ⟨q1, q2⟩ := zx_and_b q
    obtain ⟨q2, q3⟩ := zx_and_b q2
    have q1 : a % 16 = 1 := zx_beq_t q1
    have q2 : a / 16 / 256 = 0 := zx_beq_t q2
    have q3 := zx_beq_t q3
    rw [zx_fn_eq] at hk
    obtain ⟨-, h1, ho, hn⟩ := (zy_r1 q1).mp ha
    cases h1
    have h5 := zy_nm_r hb q3
    refine ⟨_, zy_r_ch (s := 1) (c := 0) (n := a / 16) hn (by decide) (by decide) ?_, hk⟩
    rw [q2, nI_0, Int32.add_zero, h5]
    rfl
  rcases zx_bif hk with ⟨q, hk⟩ | ⟨-, hk⟩
  · obtain ⟨q1, q2⟩ := zx_and_b q
    obtain ⟨q2, q3⟩ := zx_and_b q2
    have q1 : a % 16 = 11 := zx_beq_t q1
    have q2 : a / 16 / 256 % 16 = 3 := zx_beq_t q2
    have q3 := zx_beq_t q3
    rw [zx_fn_eq] at hk
    obtain ⟨-, h1, ho, hn⟩ := (zy_r11 q1).mp ha
    cases h1
    have h5 := zy_nm_r hb q3
    refine ⟨_, zy_r_ch (s := 4) (c := 0) (n := a / 16) hn (by decide) (by decide) ?_, hk⟩
    rw [q2, h5]
    rfl
  rcases zx_bif hk with ⟨q, hk2⟩ | ⟨-, hk⟩
  · have q := zx_beq_t (zx_and_b q).1
    subst q
    obtain ⟨-, h1, -⟩ := (zy_r4 (by decide)).mp hb
    cases h1
    refine ⟨_, ?_, hk2⟩
    rw [hm, Int32.and_neg_one]
    exact ha
  rcases zx_bif hk with ⟨q, hk2⟩ | ⟨-, hk⟩
  · have q := zx_beq_t (zx_and_b q).1
    subst q
    obtain ⟨-, h1, -⟩ := (zy_r4 (by decide)).mp ha
    cases h1
    refine ⟨_, ?_, hk2⟩
    rw [hm, Int32.and_comm, Int32.and_neg_one]
    exact hb
  · exact zy_b2_s (F := fun x y => x &&& y) he (fun x y _ hy => ⟨zx_and' x y, Nat.and_lt_two_pow (n := 32) x hy⟩) zy_wand_s ha hb hk
theorem zy_xr_s (he : zy_ev A e) {a b : Nat} {x y : Int32} (ha : zy_r A a (.int x)) (hb : zy_r A b (.int y)) {k : Nat → Bool} (hk : zy_xr e a b k = true) : ∃ c : Nat, zy_r A c (.int (x ^^^ y)) ∧ k c = true := by
  unfold zy_xr at hk
  rcases zx_bif hk with ⟨q, hk⟩ | ⟨-, hk⟩
  · obtain ⟨q1, q2⟩ := zx_and_b q
    obtain ⟨q2, q3⟩ := zx_and_b q2
    have q1 : a % 16 = 1 := zx_beq_t q1
    have q2 : a / 16 / 256 = 0 := zx_beq_t q2
    have q3 := zx_beq_t q3
    rw [q3] at hb
    rw [zx_fn_eq] at hk
    obtain ⟨-, h1, ho, hn⟩ := (zy_r1 q1).mp ha
    obtain ⟨-, h3, -⟩ := (zy_r4 (by decide)).mp hb
    cases h1
    have h3 : y = nI 4294967295 := by injection h3
    rw [h3]
    refine ⟨_, zy_r_ch (s := 3) (c := 0) (n := a / 16) hn (by decide) (by decide) ?_, hk⟩
    rw [q2, nI_0, Int32.add_zero]
    rfl
  rcases zx_bif hk with ⟨q, hk⟩ | ⟨-, hk⟩
  · obtain ⟨q1, q2⟩ := zx_and_b q
    obtain ⟨q2, q3⟩ := zx_and_b q2
    obtain ⟨q3, q4⟩ := zx_and_b q3
    have q1 : a % 16 = 1 := zx_beq_t q1
    have q2 : a / 16 / 256 = 0 := zx_beq_t q2
    have q3 : b % 16 = 4 := zx_beq_t q3
    have q4 : b / 16 < 2147483648 := zx_blt_t q4
    rw [zx_fn_eq] at hk
    obtain ⟨-, h1, ho, hn⟩ := (zy_r1 q1).mp ha
    obtain ⟨-, h3, -⟩ := (zy_r4 q3).mp hb
    cases h1
    cases h3
    refine ⟨_, ?_, hk⟩
    show zy_r A ((a / 16 % 256 + 256 * (b / 16)) * 16 + 15) _
    have e1 : ((a / 16 % 256 + 256 * (b / 16)) * 16 + 15) / 16 = a / 16 % 256 + 256 * (b / 16) := by omega
    have e2 : (a / 16 % 256 + 256 * (b / 16)) % 256 = a / 16 % 256 := by omega
    have e3 : (a / 16 % 256 + 256 * (b / 16)) / 256 = b / 16 := by omega
    rw [zy_r15 (by omega), e1, e2, e3, q2, nI_0, Int32.add_zero]
    exact ⟨by omega, rfl, q4, hn⟩
  · exact zy_b2_s (F := fun x y => x ^^^ y) he (fun x y hx hy => ⟨zx_xor' x y, Nat.xor_lt_two_pow (n := 32) hx hy⟩) zy_wxor_s ha hb hk
theorem zy_sr_s (he : zy_ev A e) {a b : Nat} {x y : Int32} (ha : zy_r A a (.int x)) (hb : zy_r A b (.int y)) {k : Nat → Bool} (hk : zy_sr e a b k = true) : ∃ c : Nat, zy_r A c (.int (x >>> (y &&& 31))) ∧ k c = true := by
  unfold zy_sr at hk
  rcases zx_bif hk with ⟨q, hk⟩ | ⟨-, hk⟩
  · obtain ⟨q1, q2⟩ := zx_and_b q
    obtain ⟨q2, q3⟩ := zx_and_b q2
    obtain ⟨q3, q4⟩ := zx_and_b q3
    have q1 : a % 16 = 1 := zx_beq_t q1
    have q2 : a / 16 / 256 = 0 := zx_beq_t q2
    have q3 : b % 16 = 4 := zx_beq_t q3
    have q4 : b / 16 < 31 := zx_blt_t q4
    rw [zx_fn_eq] at hk
    obtain ⟨-, h1, ho, hn⟩ := (zy_r1 q1).mp ha
    obtain ⟨-, h3, -⟩ := (zy_r4 q3).mp hb
    cases h1
    cases h3
    refine ⟨_, ?_, hk⟩
    show zy_r A ((a / 16 % 256 + 256 * (b / 16)) * 16 + 13) _
    have e1 : ((a / 16 % 256 + 256 * (b / 16)) * 16 + 13) / 16 = a / 16 % 256 + 256 * (b / 16) := by omega
    have e2 : (a / 16 % 256 + 256 * (b / 16)) % 256 = a / 16 % 256 := by omega
    have e3 : (a / 16 % 256 + 256 * (b / 16)) / 256 = b / 16 := by omega
    rw [zy_r13 (by omega), e1, e2, e3, q2, nI_0, Int32.add_zero]
    exact ⟨by omega, rfl, q4, hn⟩
  · exact zy_sh_s (F := fun x y => x >>> (y &&& 31)) he (fun x y hx hy => ⟨zx_shr' x y hx hy, zx_g7_lt x y hx⟩) zy_wshr_s ha hb hk
theorem zy_u1_s (he : zy_ev A e) {f : Nat → Nat} {F : Int32 → Int32} {lo hi : Nat} (hf : ∀ x : Nat, x < 4294967296 → F (nI x) = nI (f x) ∧ f x < 4294967296) (hF : ∀ x : Int32, lo ≤ zx_bz (F x) ∧ zx_bz (F x) ≤ hi) (hi2 : hi < 4294967296) (hid : ∀ x : Int32, lo ≤ zx_bz x → zx_bz x ≤ hi → F x = x) {a : Nat} {x : Int32} (ha : zy_r A a (.int x)) {k : Nat → Bool} (hk : zy_u1 f lo hi e a k = true) :
    ∃ c : Nat, zy_r A c (.int (F x)) ∧ k c = true := by
  unfold zy_u1 at hk
  rcases zx_bif hk with ⟨q, hk⟩ | ⟨-, hk⟩
  · have q1 : a % 16 = 4 := zx_beq_t q
    rw [zx_fn_eq] at hk
    obtain ⟨-, h1, h2⟩ := (zy_r4 q1).mp ha
    cases h1
    obtain ⟨e1, e2⟩ := hf _ h2
    refine ⟨_, ?_, hk⟩
    rw [e1]
    exact zy_r_c e2
  · obtain ⟨l, u, hk, p1, p2, p3⟩ := zy_iv_s he ha hk
    rcases zx_bif hk with ⟨q, hk⟩ | ⟨-, hk⟩
    · obtain ⟨q1, q2⟩ := zx_and_b q
      have q1 := zx_ble_t q1
      have q2 := zx_ble_t q2
      exact ⟨_, by rw [hid x (by omega) (by omega)]; exact ha, hk⟩
    · rw [zx_fn_eq] at hk
      exact ⟨_, zy_r_7 (hF x).1 (hF x).2 hi2, hk⟩
theorem zy_ng_s (he : zy_ev A e) {a : Nat} {x : Int32} (ha : zy_r A a (.int x)) {k : Nat → Bool} (hk : zy_ng e a k = true) : ∃ c : Nat, zy_r A c (.int (-x)) ∧ k c = true := by
  unfold zy_ng at hk
  obtain ⟨l, u, hk, p1, p2, p3⟩ := zy_iv_s he ha hk
  rcases zx_bif hk with ⟨q, hk⟩ | ⟨-, hk⟩
  · have q := zx_ble_t q
    rw [zx_fn_eq] at hk
    have e1 := zx_bz_int x
    have e2 := zx_bz_int (-x)
    have e3 := zy_ti_neg (x := x) (by omega)
    exact ⟨_, zy_r_7 (show 4294967296 - u ≤ _ by omega) (show _ ≤ 4294967296 - l by omega) (show 4294967296 - l < _ by omega), hk⟩
  · exact ⟨_, zy_r_un _, hk⟩
theorem zy_lt_s (he : zy_ev A e) {a b : Nat} {x y : Int32} (ha : zy_r A a (.int x)) (hb : zy_r A b (.int y)) {kt kf : Nat → Bool} (hk : zy_lt e a b kt kf = true) :
    (x < y → ∃ e' : Nat, zy_ev A e' ∧ kt e' = true) ∧ (¬ x < y → ∃ e' : Nat, zy_ev A e' ∧ kf e' = true) := by
  unfold zy_lt at hk
  obtain ⟨l1, u1, hk, a1, a2, a3⟩ := zy_iv_s he ha hk
  obtain ⟨l2, u2, hk, b1, b2, b3⟩ := zy_iv_s he hb hk
  rw [zx_lt']
  rcases zx_bif hk with ⟨q, hk⟩ | ⟨q, hk⟩
  · have q := zx_blt_t q
    exact ⟨fun _ => ⟨e, he, hk⟩, fun z => absurd (by omega) z⟩
  rcases zx_bif hk with ⟨q2, hk⟩ | ⟨q2, hk⟩
  · have q2 := zx_ble_t q2
    exact ⟨fun z => absurd z (by omega), fun _ => ⟨e, he, hk⟩⟩
  obtain ⟨k1, k2⟩ := zx_and_b hk
  rw [zy_mn_eq, zy_mx_eq] at k1 k2
  have ep : Nat.pred u2 = u2 - 1 := rfl
  have es : Nat.succ l1 = l1 + 1 := rfl
  refine ⟨fun z => ?_, fun z => ?_⟩
  · obtain ⟨e', he', k1⟩ := zy_rf_s he ha a1 (by omega) k1
    exact zy_rf_s he' hb (by omega) b2 k1
  · obtain ⟨e', he', k2⟩ := zy_rf_s he ha (by omega) a2 k2
    exact zy_rf_s he' hb b1 (by omega) k2
theorem zy_eq_s (he : zy_ev A e) {a b : Nat} {x y : Int32} (ha : zy_r A a (.int x)) (hb : zy_r A b (.int y)) {kt kf : Nat → Bool} (hk : zy_eq e a b kt kf = true) :
    (x = y → ∃ e' : Nat, zy_ev A e' ∧ kt e' = true) ∧ (¬ x = y → ∃ e' : Nat, zy_ev A e' ∧ kf e' = true) := by
  unfold zy_eq at hk
  obtain ⟨l1, u1, hk, a1, a2, a3⟩ := zy_iv_s he ha hk
  obtain ⟨l2, u2, hk, b1, b2, b3⟩ := zy_iv_s he hb hk
  rcases zx_bif hk with ⟨q, hk⟩ | ⟨q, hk⟩
  · rw [zx_eq']
    refine ⟨fun z => absurd z ?_, fun _ => ⟨e, he, hk⟩⟩
    rcases (Bool.or_eq_true _ _).mp q with q | q <;> have q := zx_blt_t q <;> omega
  rcases zx_bif hk with ⟨q2, hk⟩ | ⟨q2, hk⟩
  · rw [zx_eq']
    obtain ⟨q3, q4⟩ := zx_and_b q2
    have q3 := zx_beq_t q3
    have q4 := zx_beq_t q4
    obtain ⟨q5, q6⟩ := (Bool.or_eq_false_iff).mp q
    have q5 := zx_blt_f q5
    have q6 := zx_blt_f q6
    exact ⟨fun _ => ⟨e, he, hk⟩, fun z => absurd (by omega) z⟩
  rcases zx_bif hk with ⟨q3, hk2⟩ | ⟨q3, hk⟩
  · obtain ⟨q6, q7⟩ := zx_and_b q3
    have q8 := zy_kc2 q6
    have q9 := zx_beq_t q7
    obtain ⟨-, h1, -⟩ := (zy_r1 q8).mp ha
    rw [← q9] at hb
    obtain ⟨-, h2, -⟩ := (zy_r1 q8).mp hb
    injection h1 with h1
    injection h2 with h2
    exact ⟨fun _ => ⟨e, he, hk2⟩, fun z => absurd (by rw [h1, h2]) z⟩
  obtain ⟨k1, k2⟩ := zx_and_b hk
  rw [zx_eq']
  rw [zy_mn_eq, zy_mx_eq] at k1
  have pp : ∀ n : Nat, Nat.pred n = n - 1 := fun _ => rfl
  have ps : ∀ n : Nat, Nat.succ n = n + 1 := fun _ => rfl
  refine ⟨fun z => ?_, fun z => ?_⟩
  · obtain ⟨e', he', k1⟩ := zy_rf_s he ha (by omega) (by omega) k1
    exact zy_rf_s he' hb (by omega) (by omega) k1
  · rcases zx_bif k2 with ⟨q5, k2⟩ | ⟨-, k2⟩
    · have q5 := zx_beq_t q5
      obtain ⟨k3, k4⟩ := zx_and_b k2
      rw [pp] at k3
      rw [ps] at k4
      by_cases hlt : zx_bz x < l2
      · rw [show Nat.blt l1 l2 = true from Nat.ble_eq_true_of_le (show l1 + 1 ≤ l2 by omega), cond_true] at k3
        exact zy_rf_s he ha a1 (by omega) k3
      · rw [show Nat.blt l2 u1 = true from Nat.ble_eq_true_of_le (show l2 + 1 ≤ u1 by omega), cond_true] at k4
        exact zy_rf_s he ha (by omega) a2 k4
    rcases zx_bif k2 with ⟨q5, k2⟩ | ⟨-, k2⟩
    · have q5 := zx_beq_t q5
      obtain ⟨k3, k4⟩ := zx_and_b k2
      rw [pp] at k3
      rw [ps] at k4
      by_cases hlt : zx_bz y < l1
      · rw [show Nat.blt l2 l1 = true from Nat.ble_eq_true_of_le (show l2 + 1 ≤ l1 by omega), cond_true] at k3
        exact zy_rf_s he hb b1 (by omega) k3
      · rw [show Nat.blt l1 u2 = true from Nat.ble_eq_true_of_le (show l1 + 1 ≤ u2 by omega), cond_true] at k4
        exact zy_rf_s he hb (by omega) b2 k4
    · exact ⟨e, he, k2⟩
theorem zy_cm_s (he : zy_ev A e) {a b c : Nat} {x y : Int32} (ha : zy_r A a (.int x)) (hb : zy_r A b (.int y)) {kt kf : Nat → Bool} (hk : zy_cm c e a b kt kf = true) (hc : c < 6) :
    (zx_cv c x y → ∃ e' : Nat, zy_ev A e' ∧ kt e' = true) ∧ (¬ zx_cv c x y → ∃ e' : Nat, zy_ev A e' ∧ kf e' = true) := by
  match c, hc, hk with
  | 0, _, hk => exact zy_lt_s he ha hb hk
  | 1, _, hk =>
    obtain ⟨h2, h3⟩ := zy_lt_s he ha hb (kt := kf) (kf := kt) hk
    exact ⟨h3, fun z => h2 (Classical.not_not.mp z)⟩
  | 2, _, hk => exact zy_lt_s he hb ha hk
  | 3, _, hk =>
    obtain ⟨h2, h3⟩ := zy_lt_s he hb ha (kt := kf) (kf := kt) hk
    exact ⟨h3, fun z => h2 (Classical.not_not.mp z)⟩
  | 4, _, hk => exact zy_eq_s he ha hb hk
  | 5, _, hk =>
    obtain ⟨h2, h3⟩ := zy_eq_s he ha hb (kt := kf) (kf := kt) hk
    exact ⟨h3, fun z => h2 (Classical.not_not.mp z)⟩
theorem zy_cm_i {c a b : Nat} {kt kf : Nat → Bool} (hk : zy_cm c e a b kt kf = true) : zy_ii a = true ∧ zy_ii b = true := by
  have hl : ∀ {a b : Nat} {kt kf : Nat → Bool}, zy_lt e a b kt kf = true → zy_ii a = true ∧ zy_ii b = true := fun h => ⟨zy_iv_i h, by
    obtain ⟨l, u, h⟩ := zy_iv_k h
    exact zy_iv_i h⟩
  have hq : ∀ {a b : Nat} {kt kf : Nat → Bool}, zy_eq e a b kt kf = true → zy_ii a = true ∧ zy_ii b = true := fun h => ⟨zy_iv_i h, by
    obtain ⟨l, u, h⟩ := zy_iv_k h
    exact zy_iv_i h⟩
  unfold zy_cm at hk
  rcases zx_bif hk with ⟨-, hk⟩ | ⟨-, hk⟩
  · rcases zx_bif hk with ⟨-, hk⟩ | ⟨-, hk⟩ <;> exact hl hk
  rcases zx_bif hk with ⟨-, hk⟩ | ⟨-, hk⟩
  · rcases zx_bif hk with ⟨-, hk⟩ | ⟨-, hk⟩ <;> exact (hl hk).symm
  · rcases zx_bif hk with ⟨-, hk⟩ | ⟨-, hk⟩ <;> exact hq hk
theorem zy_in_s (he : zy_ev A e) {i : Nat} {x : Int32} {n : Nat} (hi : zy_r A i (.int x)) (hn : zy_in e i n = true) : vp_in x n := by
  unfold zy_in at hn
  obtain ⟨l, u, hk, a1, a2, -⟩ := zy_iv_s he hi hn
  obtain ⟨q1, q2⟩ := zx_and_b hk
  have q1 := zx_ble_t q1
  have q2 : u < n + 2147483648 := zx_blt_t q2
  have hz := zx_bz_int x
  rw [vp_in_iff]
  omega
theorem zy_sn_s (he : zy_ev A e) {i l : Nat} {x : Int32} (hi : zy_r A i (.int x)) {k : Nat → Bool} : ∀ n, zy_sn e i l k n = true → l ≤ zx_bz x → zx_bz x < l + n → ∃ e', zy_ev A e' ∧ k e' = true
  | 0, _, h1, h2 => absurd h2 (by omega)
  | n + 1, hk, h1, h2 => by
    have hk : (zx_fn (Nat.add l n) (fun v => zy_rf e i v v k) && zy_sn e i l k n) = true := hk
    obtain ⟨k1, k2⟩ := zx_and_b hk
    rw [zx_fn_eq] at k1
    by_cases h : zx_bz x = l + n
    · exact zy_rf_s he hi (show l + n ≤ _ by omega) (show _ ≤ l + n by omega) k1
    · exact zy_sn_s he hi n k2 h1 (by omega)
theorem zy_sp_s (he : zy_ev A e) {i : Nat} {x : Int32} (hi : zy_r A i (.int x)) {k : Nat → Bool} (hk : zy_sp e i k = true) : ∃ e', zy_ev A e' ∧ k e' = true := by
  unfold zy_sp at hk
  obtain ⟨l, u, hk, a1, a2, a3⟩ := zy_iv_s he hi hk
  obtain ⟨-, hk⟩ := zx_bft hk
  exact zy_sn_s he hi _ hk a1 (show zx_bz x < l + (u + 1 - l) by omega)
end ZYB
end
section
/-! names that are given on the way -/
def zy_le (A B : zy_V) : Prop := A.1 = B.1 ∧ (zy_fi A ≤ zy_fi B ∧ zy_fl A ≤ zy_fl B ∧ zy_fr A ≤ zy_fr B) ∧ (∀ k, k < zy_fi A → zy_nu B k = zy_nu A k) ∧ (∀ k, k < zy_fl A → zy_lu B k = zy_lu A k) ∧ ∀ k, k < zy_fr A → zy_ru B k = zy_ru A k
theorem zy_le_rf (A : zy_V) : zy_le A A := ⟨rfl, ⟨Nat.le_refl _, Nat.le_refl _, Nat.le_refl _⟩, fun _ _ => rfl, fun _ _ => rfl, fun _ _ => rfl⟩
theorem zy_le_tr {A B C : zy_V} (h1 : zy_le A B) (h2 : zy_le B C) : zy_le A C :=
  ⟨h1.1.trans h2.1, ⟨Nat.le_trans h1.2.1.1 h2.2.1.1, Nat.le_trans h1.2.1.2.1 h2.2.1.2.1, Nat.le_trans h1.2.1.2.2 h2.2.1.2.2⟩,
   fun k hk => (h2.2.2.1 k (Nat.lt_of_lt_of_le hk h1.2.1.1)).trans (h1.2.2.1 k hk), fun k hk => (h2.2.2.2.1 k (Nat.lt_of_lt_of_le hk h1.2.1.2.1)).trans (h1.2.2.2.1 k hk), fun k hk => (h2.2.2.2.2 k (Nat.lt_of_lt_of_le hk h1.2.1.2.2)).trans (h1.2.2.2.2 k hk)⟩
theorem zy_nb_le {A B : zy_V} (h : zy_le A B) {k : Nat} (hk : zy_nb A k) : zy_nb B k ∧ zy_nu B k = zy_nu A k := ⟨⟨hk.1, Nat.lt_of_lt_of_le hk.2 h.2.1.1⟩, h.2.2.1 k hk.2⟩
theorem zy_r_le {A B : zy_V} (h : zy_le A B) {v : Nat} {x : Value} (hr : zy_r A v x) : zy_r B v x := by
  have hads : zy_ads B = zy_ads A := by unfold zy_ads; rw [h.1]
  have hgl : zy_gl B = zy_gl A := by unfold zy_gl; rw [h.1]
  have hex : zy_ex B = zy_ex A := by unfold zy_ex; rw [h.1]
  rcases zy_r_kd hr with q | q | q | q | q | q | q | q | q | q | q | q | q
  · obtain ⟨g0, g1, g2, g3⟩ := (zy_r1 q).mp hr
    obtain ⟨h1, h2⟩ := zy_nb_le h g3
    exact (zy_r1 q).mpr ⟨g0, by rw [h2]; exact g1, g2, h1⟩
  · obtain ⟨g0, i, a, g1, g2, g3, g4⟩ := (zy_r2 q).mp hr
    refine (zy_r2 q).mpr ⟨g0, i, a, by rw [hads]; exact g1, by rw [hgl]; exact g2, g3, fun z => ?_⟩
    obtain ⟨g5, g6⟩ := g4 z
    exact ⟨by rw [h.2.2.2.2 _ g6]; exact g5, Nat.lt_of_lt_of_le g6 h.2.1.2.2⟩
  · exact (zy_r3 q).mpr ((zy_r3 q).mp hr)
  · exact (zy_r4 q).mpr ((zy_r4 q).mp hr)
  · obtain ⟨g0, y, g1, g2, g3⟩ := (zy_r5 q).mp hr
    refine (zy_r5 q).mpr ⟨g0, y, g1, fun z => ?_, g3⟩
    obtain ⟨g5, g6⟩ := g2 z
    exact ⟨by rw [h.2.2.2.1 _ g6]; exact g5, Nat.lt_of_lt_of_le g6 h.2.1.2.1⟩
  · obtain ⟨g0, g1⟩ := (zy_r6 q).mp hr
    exact (zy_r6 q).mpr ⟨g0, by rw [hex]; exact g1⟩
  · exact (zy_r7 q).mpr ((zy_r7 q).mp hr)
  · exact (zy_r8 q).mpr ((zy_r8 q).mp hr)
  · obtain ⟨g0, g1, g2, g3⟩ := (zy_r11 q).mp hr
    obtain ⟨h1, h2⟩ := zy_nb_le h g3
    exact (zy_r11 q).mpr ⟨g0, by rw [h2]; exact g1, g2, h1⟩
  · obtain ⟨g0, g1, g2, g3⟩ := (zy_r12 q).mp hr
    exact (zy_r12 q).mpr ⟨g0, by rw [h.2.2.2.1 _ g2]; exact g1, Nat.lt_of_lt_of_le g2 h.2.1.2.1, g3⟩
  · obtain ⟨g0, g1, g2, g3⟩ := (zy_r13 q).mp hr
    obtain ⟨h1, h2⟩ := zy_nb_le h g3
    exact (zy_r13 q).mpr ⟨g0, by rw [h2]; exact g1, g2, h1⟩
  · obtain ⟨g0, g1, g2, g3⟩ := (zy_r14 q).mp hr
    obtain ⟨h1, h2⟩ := zy_nb_le h g3
    exact (zy_r14 q).mpr ⟨g0, by rw [h2]; exact g1, g2, h1⟩
  · obtain ⟨g0, g1, g2, g3⟩ := (zy_r15 q).mp hr
    obtain ⟨h1, h2⟩ := zy_nb_le h g3
    exact (zy_r15 q).mpr ⟨g0, by rw [h2]; exact g1, g2, h1⟩
/-- one name more -/
def zy_xi (A : zy_V) (y : Int32) : zy_V := (A.1, (zy_ru A, fun k => if k = zy_fi A then y else zy_nu A k, zy_lu A), (zy_fi A + 1, zy_fl A, zy_fr A))
def zy_xl (A : zy_V) (y : Int64) : zy_V := (A.1, (zy_ru A, zy_nu A, fun k => if k = zy_fl A then y else zy_lu A k), (zy_fi A, zy_fl A + 1, zy_fr A))
def zy_xr1 (A : zy_V) (y : Nat) : zy_V := (A.1, (fun k => if k = zy_fr A then y else zy_ru A k, zy_nu A, zy_lu A), (zy_fi A, zy_fl A, zy_fr A + 1))
theorem zy_xi_le (A : zy_V) (y : Int32) : zy_le A (zy_xi A y) := ⟨rfl, ⟨Nat.le_succ _, Nat.le_refl _, Nat.le_refl _⟩, fun k hk => if_neg (by omega), fun _ _ => rfl, fun _ _ => rfl⟩
theorem zy_xl_le (A : zy_V) (y : Int64) : zy_le A (zy_xl A y) := ⟨rfl, ⟨Nat.le_refl _, Nat.le_succ _, Nat.le_refl _⟩, fun _ _ => rfl, fun k hk => if_neg (by omega), fun _ _ => rfl⟩
theorem zy_xr_le (A : zy_V) (y : Nat) : zy_le A (zy_xr1 A y) := ⟨rfl, ⟨Nat.le_refl _, Nat.le_refl _, Nat.le_succ _⟩, fun _ _ => rfl, fun _ _ => rfl, fun k hk => if_neg (by omega)⟩
theorem zy_eg_same (e i v : Nat) (h : v < 18446744073709551616) : zx_eg (zx_es e i v) i = v := zx_sd_same (by decide) e i v h
theorem zy_eg_other (e i v k : Nat) (h : v < 18446744073709551616) (hk : k ≠ i) : zx_eg (zx_es e i v) k = zx_eg e k := zx_sd_other (by decide) e i v k h hk
/-- what is known, with one name more -/
theorem zy_ev_xi {A : zy_V} {e l u : Nat} {y : Int32} (he : zy_ev A e) (h1 : l ≤ zx_bz y) (h2 : zx_bz y ≤ u) (hu : u < 4294967296) (hf : zy_fi A < 192) : zy_ev (zy_xi A y) (zx_es (zx_es e (zy_fi A) (zx_bd l u)) 0 (zx_eg e 0 + 1)) := by
  obtain ⟨g1, g2, g3, g4, g5, g6, g7, g8⟩ := he
  have hy := zx_bz_lt y
  have hb : zx_bd l u < 18446744073709551616 := by rw [zx_bd_eq]; omega
  have h0 : zx_eg e 0 + 1 < 18446744073709551616 := by omega
  refine ⟨fun k hk => ?_, fun k hk => ?_, ?_, ?_, ?_, g6, g7, g8⟩
  · obtain ⟨k1, k2⟩ := hk
    have k2 : k < zy_fi A + 1 := k2
    rw [zy_eg_other _ _ _ _ h0 (by omega)]
    by_cases q : k = zy_fi A
    · subst q
      rw [zy_eg_same _ _ _ hb, zx_bd_eq, show zy_nu (zy_xi A y) (zy_fi A) = y from if_pos rfl]
      right
      constructor <;> omega
    · rw [zy_eg_other _ _ _ _ hb q, show zy_nu (zy_xi A y) k = zy_nu A k from if_neg q]
      exact g1 k ⟨k1, by omega⟩
  · rw [zy_eg_other _ _ _ _ h0 (by omega), zy_eg_other _ _ _ _ hb (by omega)]
    exact g2 k hk
  · rw [zy_eg_same _ _ _ h0, g3]
    show zy_fi A + 65536 * zy_fl A + 4294967296 * zy_fr A + 1 = (zy_fi A + 1) + 65536 * zy_fl A + 4294967296 * zy_fr A
    omega
  · show 0 < zy_fi A + 1
    omega
  · show zy_fi A + 1 ≤ 192
    omega
theorem zy_ev_xl {A : zy_V} {e : Nat} {y : Int64} (he : zy_ev A e) (hf : zy_fl A < 64) : zy_ev (zy_xl A y) (zx_es (zx_es e (192 + zy_fl A) 0) 0 (zx_eg e 0 + 65536)) := by
  obtain ⟨g1, g2, g3, g4, g5, g6, g7, g8⟩ := he
  have hb : 0 < 18446744073709551616 := by decide
  have h0 : zx_eg e 0 + 65536 < 18446744073709551616 := by omega
  refine ⟨fun k hk => ?_, fun k hk => ?_, ?_, g4, g5, ?_, g7, g8⟩
  · obtain ⟨k1, k2⟩ := hk
    have k2 : k < zy_fi A := k2
    rw [zy_eg_other _ _ _ _ h0 (by omega), zy_eg_other _ _ _ _ hb (by omega)]
    exact g1 k ⟨k1, k2⟩
  · rw [zy_eg_other _ _ _ _ h0 (by omega)]
    by_cases q : k = zy_fl A
    · subst q
      rw [zy_eg_same _ _ _ hb]
      refine ⟨fun z => absurd rfl z, fun n _ hn => ?_⟩
      rw [Nat.zero_div, Nat.zero_testBit] at hn
      cases hn
    · rw [zy_eg_other _ _ _ _ hb (by omega), show zy_lu (zy_xl A y) k = zy_lu A k from if_neg q]
      exact g2 k hk
  · rw [zy_eg_same _ _ _ h0, g3]
    show zy_fi A + 65536 * zy_fl A + 4294967296 * zy_fr A + 65536 = zy_fi A + 65536 * (zy_fl A + 1) + 4294967296 * zy_fr A
    omega
  · show zy_fl A + 1 ≤ 64
    omega
theorem zy_ev_xr {A : zy_V} {e y : Nat} (he : zy_ev A e) (hf : zy_fr A < 256) : zy_ev (zy_xr1 A y) (zx_es e 0 (zx_eg e 0 + 4294967296)) := by
  obtain ⟨g1, g2, g3, g4, g5, g6, g7, g8⟩ := he
  have h0 : zx_eg e 0 + 4294967296 < 18446744073709551616 := by omega
  refine ⟨fun k hk => ?_, fun k hk => ?_, ?_, g4, g5, g6, ?_, ?_⟩
  · obtain ⟨k1, k2⟩ := hk
    rw [zy_eg_other _ _ _ _ h0 (by omega)]
    exact g1 k ⟨k1, k2⟩
  · rw [zy_eg_other _ _ _ _ h0 (by omega)]
    exact g2 k hk
  · rw [zy_eg_same _ _ _ h0, g3]
    show zy_fi A + 65536 * zy_fl A + 4294967296 * zy_fr A + 4294967296 = zy_fi A + 65536 * zy_fl A + 4294967296 * (zy_fr A + 1)
    omega
  · show 100 ≤ zy_fr A + 1
    omega
  · show zy_fr A + 1 ≤ 256
    omega
/-- an int between bounds gets a name; a known one needs none -/
noncomputable def zy_ni (e l h : Nat) (k : Nat → Nat → Bool) : Bool := bif Nat.beq l h then zx_fn (zx_c (zx_bi l)) (fun v => k v e) else
  zx_fn (zx_eg e 0) (fun F => zx_fn (Nat.mod F 65536) (fun f => bif Nat.blt f 190 then zx_fn (zx_es (zx_es e f (zx_bd l h)) 0 (Nat.succ F)) (fun e => zx_fn (zy_nm f 0) (fun v => k v e)) else false))
noncomputable def zy_nl (e : Nat) (k : Nat → Nat → Bool) : Bool :=
  zx_fn (zx_eg e 0) (fun F => zx_fn (Nat.mod (Nat.div F 65536) 65536) (fun f => bif Nat.blt f 60 then zx_fn (zx_es (zx_es e (Nat.add 192 f) 0) 0 (Nat.add F 65536)) (fun e => zx_fn (Nat.add (Nat.mul (Nat.succ (Nat.mul 2 f)) 16) 5) (fun v => k v e)) else false))
noncomputable def zy_nr (e g : Nat) (k : Nat → Nat → Bool) : Bool :=
  zx_fn (zx_eg e 0) (fun F => zx_fn (Nat.div F 4294967296) (fun f => bif Nat.blt f 250 && Nat.blt g 65536 then zx_fn (zx_es e 0 (Nat.add F 4294967296)) (fun e => zx_fn (Nat.add (Nat.mul (Nat.add f (Nat.mul 256 g)) 16) 2) (fun v => k v e)) else false))
section ZYN
variable {A : zy_V} {e : Nat}
theorem zy_ni_s (he : zy_ev A e) {l u : Nat} {y : Int32} (h1 : l ≤ zx_bz y) (h2 : zx_bz y ≤ u) (hu : u < 4294967296) {k : Nat → Nat → Bool} (hk : zy_ni e l u k = true) :
    ∃ (B : zy_V) (v e' : Nat), zy_le A B ∧ zy_ev B e' ∧ zy_r B v (.int y) ∧ (v % 16 = 1 ∨ v % 16 = 4) ∧ k v e' = true := by
  unfold zy_ni at hk
  rcases zx_bif hk with ⟨q, hk⟩ | ⟨-, hk⟩
  · have q := zx_beq_t q
    rw [zx_fn_eq] at hk
    exact ⟨A, _, e, zy_le_rf A, he, zy_const (by omega), Or.inr (zx_c_kd _), hk⟩
  · rw [zx_fn_eq, zx_fn_eq] at hk
    obtain ⟨q, hk⟩ := zx_bft hk
    rw [zx_fn_eq, zx_fn_eq] at hk
    have hF := he.2.2.1
    have hl := he.2.2.2.2.2.1
    have hi := he.2.2.2.2.1
    have e1 : Nat.mod (zx_eg e 0) 65536 = zy_fi A := by
      show zx_eg e 0 % 65536 = zy_fi A
      omega
    rw [e1] at q hk
    have q := zx_blt_t q
    have e2 : zy_fi A % 256 = zy_fi A := by omega
    have hr : zy_r (zy_xi A y) (zy_nm (zy_fi A % 256) 0) (.int y) := by
      refine zy_r_nm ?_ (by decide) ?_
      · rw [e2]
        exact ⟨he.2.2.2.1, Nat.lt_succ_self _⟩
      · rw [e2, show zy_nu (zy_xi A y) (zy_fi A) = y from if_pos rfl, nI_0, Int32.add_zero]
    rw [e2] at hr
    refine ⟨zy_xi A y, _, _, zy_xi_le A y, zy_ev_xi he h1 h2 hu (by omega), hr, Or.inl ?_, hk⟩
    show ((zy_fi A + 256 * 0) * 16 + 1) % 16 = 1
    omega
theorem zy_nl_s (he : zy_ev A e) (y : Int64) {k : Nat → Nat → Bool} (hk : zy_nl e k = true) :
    ∃ (B : zy_V) (v e' : Nat), zy_le A B ∧ zy_ev B e' ∧ zy_r B v (.long y) ∧ v % 16 = 5 ∧ k v e' = true := by
  unfold zy_nl at hk
  rw [zx_fn_eq, zx_fn_eq] at hk
  obtain ⟨q, hk⟩ := zx_bft hk
  rw [zx_fn_eq, zx_fn_eq] at hk
  have hF := he.2.2.1
  have hl := he.2.2.2.2.2.1
  have hi := he.2.2.2.2.1
  have e1 : Nat.mod (Nat.div (zx_eg e 0) 65536) 65536 = zy_fl A := by
    show zx_eg e 0 / 65536 % 65536 = zy_fl A
    omega
  rw [e1] at q hk
  have q := zx_blt_t q
  have em : ((2 * zy_fl A + 1) * 16 + 5) % 16 = 5 := by omega
  refine ⟨zy_xl A y, _, _, zy_xl_le A y, zy_ev_xl he (by omega), ?_, em, hk⟩
  show zy_r (zy_xl A y) ((2 * zy_fl A + 1) * 16 + 5) (.long y)
  have e3 : ((2 * zy_fl A + 1) * 16 + 5) / 16 = 2 * zy_fl A + 1 := by omega
  have e4 : (2 * zy_fl A + 1) / 2 = zy_fl A := by omega
  rw [zy_r5 em, e3, e4]
  refine ⟨by omega, y, rfl, fun _ => ⟨(if_pos rfl).symm, Nat.lt_succ_self _⟩, fun z => by omega⟩
theorem zy_nr_s (he : zy_ev A e) {g i q : Nat} (h1 : (zy_ads A)[i]? = some q) (h2 : (zy_gl A)[i]? = some g) {k : Nat → Nat → Bool} (hk : zy_nr e g k = true) :
    ∃ (B : zy_V) (v e' : Nat), zy_le A B ∧ zy_ev B e' ∧ zy_r B v (.ref q) ∧ v % 16 = 2 ∧ v / 16 / 256 = g ∧ k v e' = true := by
  unfold zy_nr at hk
  rw [zx_fn_eq, zx_fn_eq] at hk
  obtain ⟨q0, hk⟩ := zx_bft hk
  rw [zx_fn_eq, zx_fn_eq] at hk
  have hF := he.2.2.1
  have hl := he.2.2.2.2.2.1
  have hi := he.2.2.2.2.1
  have e1 : Nat.div (zx_eg e 0) 4294967296 = zy_fr A := by
    show zx_eg e 0 / 4294967296 = zy_fr A
    omega
  rw [e1] at q0 hk
  obtain ⟨q0, q1⟩ := zx_and_b q0
  have q0 := zx_blt_t q0
  have q1 := zx_blt_t q1
  have em : ((zy_fr A + 256 * g) * 16 + 2) % 16 = 2 := by omega
  have e3 : ((zy_fr A + 256 * g) * 16 + 2) / 16 = zy_fr A + 256 * g := by omega
  have e4 : (zy_fr A + 256 * g) % 256 = zy_fr A := by omega
  have e5 : (zy_fr A + 256 * g) / 256 = g := by omega
  refine ⟨zy_xr1 A i, _, _, zy_xr_le A i, zy_ev_xr he (by omega), ?_, em, (show ((zy_fr A + 256 * g) * 16 + 2) / 16 / 256 = g by rw [e3, e5]), hk⟩
  show zy_r (zy_xr1 A i) ((zy_fr A + 256 * g) * 16 + 2) (.ref q)
  rw [zy_r2 em, e3, e4, e5]
  exact ⟨by omega, i, q, h1, h2, rfl, fun _ => ⟨if_pos rfl, Nat.lt_succ_self _⟩⟩
end ZYN
end
section
/-! groups of cells, their templates, and the world that keeps them -/
/-- the same with no names but those that are fixed -/
def zy_fz (A : zy_V) : zy_V := (A.1, (fun k => if k < 100 then zy_ru A k else 0, fun _ => 0, fun _ => 0), (0, 0, 100))
theorem zy_fz_le {A : zy_V} (h : 100 ≤ zy_fr A) : zy_le (zy_fz A) A := ⟨rfl, ⟨Nat.zero_le _, Nat.zero_le _, h⟩, fun _ hk => absurd hk (Nat.not_lt_zero _), fun _ hk => absurd hk (Nat.not_lt_zero _), fun _ hk => (if_pos hk).symm⟩
theorem zy_fz_eq {A B : zy_V} (h : zy_le A B) (hf : 100 ≤ zy_fr A) : zy_fz A = zy_fz B := by
  unfold zy_fz
  rw [h.1]
  have : (fun k => if k < 100 then zy_ru A k else 0) = fun k => if k < 100 then zy_ru B k else 0 := by
    funext k
    by_cases hk : k < 100
    · rw [if_pos hk, if_pos hk, h.2.2.2.2 k (by omega)]
    · rw [if_neg hk, if_neg hk]
  rw [this]
def zy_SR (A : zy_V) : List Nat → List Value → Prop
  | [], [] => True
  | a :: l, b :: m => zy_r A a b ∧ zy_SR A l m
  | [], _ :: _ => False
  | _ :: _, [] => False
def zy_LR (A : zy_V) (row : Nat) (ls : Array Slot) : Prop := ∀ i : Nat, zx_lg row i % 16 ≠ 0 → ∃ v, ls[i]? = some (.val v) ∧ zy_r A (zx_lg row i) v
theorem zy_SR_le {A B : zy_V} (h : zy_le A B) : ∀ (l : List Nat) (m : List Value), zy_SR A l m → zy_SR B l m
  | [], [], _ => trivial
  | _ :: l, _ :: m, h1 => ⟨zy_r_le h h1.1, zy_SR_le h l m h1.2⟩
  | [], _ :: _, h1 => h1.elim
  | _ :: _, [], h1 => h1.elim
theorem zy_LR_le {A B : zy_V} (h : zy_le A B) {row : Nat} {ls : Array Slot} (hl : zy_LR A row ls) : zy_LR B row ls := fun i hi => by
  obtain ⟨v, h1, h2⟩ := hl i hi
  exact ⟨v, h1, zy_r_le h h2⟩
def zy_lo (c : Nat) : Nat := Nat.div (Nat.mod (Nat.shiftRight c 20) 18446744073709551616) 4294967296
def zy_hi (c : Nat) : Nat := Nat.mod (Nat.mod (Nat.shiftRight c 20) 18446744073709551616) 4294967296
theorem zy_hi_lt (c : Nat) : zy_hi c < 4294967296 := Nat.mod_lt _ (by decide)
def zy_cr (A : zy_V) (tys : List (ClassId × FieldType)) (c : Nat) (e : va_E) : Prop := match c % 16 with
  | 3 => ∃ (cA : ClassId) (f : Nat → Int32), (cA, zx_ty 0) ∈ tys ∧ e = .inl (cA, zx_cn c, .inl f) ∧ ∀ j, j < zx_cn c → zy_lo c ≤ zx_bz (f j) ∧ zx_bz (f j) ≤ zy_hi c
  | 4 => ∃ (cA : ClassId) (f : Nat → Int32), (cA, zx_ty 1) ∈ tys ∧ e = .inl (cA, zx_cn c, .inl f) ∧ ∀ j, j < zx_cn c → zy_lo c ≤ zx_bz (f j) ∧ zx_bz (f j) ≤ zy_hi c
  | 5 => ∃ (cA : ClassId) (f : Nat → Int32), (cA, zx_ty 2) ∈ tys ∧ e = .inl (cA, zx_cn c, .inl f) ∧ ∀ j, j < zx_cn c → zy_lo c ≤ zx_bz (f j) ∧ zx_bz (f j) ≤ zy_hi c
  | 6 => ∃ (cA : ClassId) (f : Nat → Int64), (cA, FieldType.long) ∈ tys ∧ e = .inl (cA, zx_cn c, .inr (.inl f))
  | 7 => ∃ (fs : List Value) (r : vw_C), e = .inr (zx_cn c, fs) ∧ vwCl[zx_cn c]? = some r ∧ fs.length = r.2.2 ∧ ∀ (k : Nat) (v : Value), fs[k]? = some v → zy_r A (zx_og c k) v
  | 8 => ∃ (cA : ClassId) (f : Nat → Option Nat), (cA, FieldType.object RX8) ∈ tys ∧ e = .inl (cA, zx_cn c, .inr (.inr (.inr (.inr f)))) ∧ ∀ j, j < zx_cn c → zy_r A (zx_og c 0) (va_rf (f j))
  | 9 => ∃ (cA : ClassId) (f : Nat → Int32), (cA, zx_ty 0) ∈ tys ∧ e = .inl (cA, zx_cn c, .inl f) ∧ ∀ j, j < zx_cn c → zy_r A (zx_og c (j % 16)) (.int (f j))
  | _ => False
section ZYC
variable {A : zy_V} {tys : List (ClassId × FieldType)}
theorem zy_c7 {c : Nat} {e : va_E} (h : c % 16 = 7) : zy_cr A tys c e ↔ ∃ (fs : List Value) (r : vw_C), e = .inr (zx_cn c, fs) ∧ vwCl[zx_cn c]? = some r ∧ fs.length = r.2.2 ∧ ∀ (k : Nat) (v : Value), fs[k]? = some v → zy_r A (zx_og c k) v := by unfold zy_cr; rw [h]; exact Iff.rfl
theorem zy_c8 {c : Nat} {e : va_E} (h : c % 16 = 8) : zy_cr A tys c e ↔ ∃ (cA : ClassId) (f : Nat → Option Nat), (cA, FieldType.object RX8) ∈ tys ∧ e = .inl (cA, zx_cn c, .inr (.inr (.inr (.inr f)))) ∧ ∀ j, j < zx_cn c → zy_r A (zx_og c 0) (va_rf (f j)) := by unfold zy_cr; rw [h]; exact Iff.rfl
theorem zy_c6 {c : Nat} {e : va_E} (h : c % 16 = 6) : zy_cr A tys c e ↔ ∃ (cA : ClassId) (f : Nat → Int64), (cA, FieldType.long) ∈ tys ∧ e = .inl (cA, zx_cn c, .inr (.inl f)) := by unfold zy_cr; rw [h]; exact Iff.rfl
theorem zy_c9 {c : Nat} {e : va_E} (h : c % 16 = 9) : zy_cr A tys c e ↔ ∃ (cA : ClassId) (f : Nat → Int32), (cA, zx_ty 0) ∈ tys ∧ e = .inl (cA, zx_cn c, .inl f) ∧ ∀ j, j < zx_cn c → zy_r A (zx_og c (j % 16)) (.int (f j)) := by unfold zy_cr; rw [h]; exact Iff.rfl
theorem zy_cu {c t : Nat} {e : va_E} (h : c % 16 = t + 3) (ht : t < 3) : zy_cr A tys c e ↔ ∃ (cA : ClassId) (f : Nat → Int32), (cA, zx_ty t) ∈ tys ∧ e = .inl (cA, zx_cn c, .inl f) ∧ ∀ j, j < zx_cn c → zy_lo c ≤ zx_bz (f j) ∧ zx_bz (f j) ≤ zy_hi c := by
  unfold zy_cr
  rw [h]
  match t, ht with
  | 0, _ => exact Iff.rfl
  | 1, _ => exact Iff.rfl
  | 2, _ => exact Iff.rfl
theorem zy_cr_tg {c : Nat} {e : va_E} (h : zy_cr A tys c e) : 3 ≤ c % 16 ∧ c % 16 < 10 := by
  unfold zy_cr at h
  have hl : c % 16 < 16 := Nat.mod_lt _ (by decide)
  generalize c % 16 = t at h hl
  match t, h with
  | 0, h => exact h.elim
  | 1, h => exact h.elim
  | 2, h => exact h.elim
  | 3, _ => omega
  | 4, _ => omega
  | 5, _ => omega
  | 6, _ => omega
  | 7, _ => omega
  | 8, _ => omega
  | 9, _ => omega
  | (k + 10), h => exact h.elim
/-- an array of ints: tags 3, 4, 5, 9; the type of each element -/
def zy_et (c i : Nat) : Nat := bif Nat.beq (zx_tg c) 9 then zx_og c (Nat.mod i 16) else zy_c7v (zy_lo c) (zy_hi c)
theorem zy_cr_int {c : Nat} {e : va_E} (h : zy_cr A tys c e) (ht : c % 16 < 6 ∨ c % 16 = 9) : ∃ (cA : ClassId) (f : Nat → Int32), (cA, zx_ty (c % 16 % 3)) ∈ tys ∧ e = .inl (cA, zx_cn c, .inl f) ∧ ∀ j, j < zx_cn c → zy_r A (zy_et c j) (.int (f j)) := by
  obtain ⟨h3, -⟩ := zy_cr_tg h
  have eb : Nat.beq (zx_tg c) 9 = Nat.beq (c % 16) 9 := rfl
  rcases ht with ht | ht
  · have e1 : c % 16 = (c % 16 - 3) + 3 := by omega
    obtain ⟨cA, f, h1, h2, h4⟩ := (zy_cu e1 (by omega)).mp h
    refine ⟨cA, f, by rw [show c % 16 % 3 = c % 16 - 3 by omega]; exact h1, h2, fun j hj => ?_⟩
    have e2 : zy_et c j = zy_c7v (zy_lo c) (zy_hi c) := by
      unfold zy_et
      rw [eb, show Nat.beq (c % 16) 9 = false from by
        cases q : Nat.beq (c % 16) 9
        · rfl
        · have := zx_beq_t q; omega]
      rfl
    rw [e2]
    exact zy_r_7 (h4 j hj).1 (h4 j hj).2 (zy_hi_lt c)
  · obtain ⟨cA, f, h1, h2, h4⟩ := (zy_c9 ht).mp h
    refine ⟨cA, f, by rw [ht]; exact h1, h2, fun j hj => ?_⟩
    have e2 : zy_et c j = zx_og c (j % 16) := by
      unfold zy_et
      rw [eb, ht]
      rfl
    rw [e2]
    exact h4 j hj
theorem zy_7_r {l u : Nat} {x : Int32} (hl : l < 4294967296) (hu : u < 4294967296) (h : zy_r A (zy_c7v l u) (.int x)) : l ≤ zx_bz x ∧ zx_bz x ≤ u := by
  have e0 : zy_c7v l u = (l * 4294967296 + u) * 16 + 7 := rfl
  rw [e0] at h
  obtain ⟨-, y, h1, h2, h3⟩ := (zy_r7 (by omega)).mp h
  injection h1 with h1
  subst h1
  rw [show ((l * 4294967296 + u) * 16 + 7) / 16 = l * 4294967296 + u by omega] at h2 h3
  omega
theorem zy_lo_lt (c : Nat) : zy_lo c < 4294967296 := by
  have : Nat.mod (Nat.shiftRight c 20) 18446744073709551616 < 18446744073709551616 := Nat.mod_lt _ (by decide)
  show Nat.mod (Nat.shiftRight c 20) 18446744073709551616 / 4294967296 < 4294967296
  omega
/-- and back: an array of ints whose elements fit -/
theorem zy_cr_int' {c : Nat} {cA : ClassId} {f : Nat → Int32} (ht : (3 ≤ c % 16 ∧ c % 16 < 6) ∨ c % 16 = 9) (h1 : (cA, zx_ty (c % 16 % 3)) ∈ tys) (h4 : ∀ j, j < zx_cn c → zy_r A (zy_et c j) (.int (f j))) : zy_cr A tys c (.inl (cA, zx_cn c, .inl f)) := by
  have eb : Nat.beq (zx_tg c) 9 = Nat.beq (c % 16) 9 := rfl
  rcases ht with ht | ht
  · have e1 : c % 16 = (c % 16 - 3) + 3 := by omega
    refine (zy_cu e1 (by omega)).mpr ⟨cA, f, by rw [show c % 16 - 3 = c % 16 % 3 by omega]; exact h1, rfl, fun j hj => ?_⟩
    have e2 : zy_et c j = zy_c7v (zy_lo c) (zy_hi c) := by
      unfold zy_et
      rw [eb, show Nat.beq (c % 16) 9 = false from by
        cases q : Nat.beq (c % 16) 9
        · rfl
        · have := zx_beq_t q; omega]
      rfl
    have h5 := h4 j hj
    rw [e2] at h5
    exact zy_7_r (zy_lo_lt c) (zy_hi_lt c) h5
  · refine (zy_c9 ht).mpr ⟨cA, f, by rw [ht] at h1; exact h1, rfl, fun j hj => ?_⟩
    have e2 : zy_et c j = zx_og c (j % 16) := by
      unfold zy_et
      rw [eb, ht]
      rfl
    have h5 := h4 j hj
    rw [e2] at h5
    exact h5
end ZYC
/-- what a place of a cell holds: field f of an object, element a of an array -/
def zy_re (e : va_E) (f a : Nat) : Option Value := match e with
  | .inr (_, fs) => fs[f]?
  | .inl (_, n, .inl g) => if f = 0 ∧ a < n then some (.int (g a)) else none
  | .inl (_, n, .inr (.inl g)) => if f = 0 ∧ a < n then some (.long (g a)) else none
  | .inl (_, n, .inr (.inr (.inr (.inr g)))) => if f = 0 ∧ a < n then some (va_rf (g a)) else none
  | .inl (_, _, .inr (.inr (.inl _))) => none
  | .inl (_, _, .inr (.inr (.inr (.inl _)))) => none
def zy_rd (ws : va_W) (i f a : Nat) : Option Value := (ws[i]?).bind (fun w => zy_re w.2 f a)
/-- templates, by group -/
def zy_tm (T : List Nat) (g : Nat) : Nat := T.getD g 0
/-- every cell keeps its group's template -/
def zy_HR (A : zy_V) (T : List Nat) (tys : List (ClassId × FieldType)) (ws : va_W) : Prop := ws.map (fun w => w.1) = zy_ads A ∧ ∀ (i g : Nat) (w : Nat × va_E), ws[i]? = some w → (zy_gl A)[i]? = some g → zy_cr (zy_fz A) tys (zy_tm T g) w.2
/-- what is remembered of places: rho + 256 * (128 * group + field) + 2^24 * element -/
abbrev zy_C : Type := List (Nat × Nat)
def zy_CR (A : zy_V) (ws : va_W) (C : zy_C) : Prop := ∀ q ∈ C, (q.1 % 256 < zy_fr A ∧ (zy_gl A)[zy_ru A (q.1 % 256)]? = some (q.1 / 256 % 65536 / 128)) ∧ ∃ x, zy_rd ws (zy_ru A (q.1 % 256)) (q.1 / 256 % 128) (q.1 / 16777216) = some x ∧ zy_r A q.2 x
/-- what is outside a mask of places is as it was -/
def zy_UN (gl : List Nat) (K : Nat) (ws0 ws : va_W) : Prop := ws.map (fun w => w.1) = ws0.map (fun w => w.1) ∧ ∀ (i g f a : Nat), gl[i]? = some g → f < 128 → K.testBit (128 * g + f) = false → zy_rd ws i f a = zy_rd ws0 i f a
theorem zy_UN_rf {gl : List Nat} {K : Nat} {ws : va_W} : zy_UN gl K ws ws := ⟨rfl, fun _ _ _ _ _ _ _ => rfl⟩
theorem zy_UN_tr {gl : List Nat} {K : Nat} {ws0 ws1 ws2 : va_W} (h1 : zy_UN gl K ws0 ws1) (h2 : zy_UN gl K ws1 ws2) : zy_UN gl K ws0 ws2 := ⟨h2.1.trans h1.1, fun i g f a hg hf hK => (h2.2 i g f a hg hf hK).trans (h1.2 i g f a hg hf hK)⟩
theorem zy_HR_le {A B : zy_V} (h : zy_le A B) (hf : 100 ≤ zy_fr A) {T : List Nat} {tys : List (ClassId × FieldType)} {ws : va_W} (hh : zy_HR A T tys ws) : zy_HR B T tys ws := by
  unfold zy_HR zy_ads zy_gl
  rw [← h.1, ← zy_fz_eq h hf]
  exact hh
theorem zy_CR_le {A B : zy_V} (h : zy_le A B) {ws : va_W} {C : zy_C} (hc : zy_CR A ws C) : zy_CR B ws C := fun q hq => by
  obtain ⟨⟨h1, h2⟩, x, h3, h4⟩ := hc q hq
  have e1 := h.2.2.2.2 _ h1
  have e2 : zy_gl B = zy_gl A := by unfold zy_gl; rw [h.1]
  refine ⟨⟨Nat.lt_of_lt_of_le h1 h.2.1.2.2, by rw [e1, e2]; exact h2⟩, x, by rw [e1]; exact h3, zy_r_le h h4⟩
/-- a reference's cell -/
theorem zy_HR_get {A : zy_V} {T : List Nat} {tys : List (ClassId × FieldType)} {ws : va_W} (hh : zy_HR A T tys ws) {r c : Nat} {x : Value} (hr : zy_r A r x) (hk : r % 16 = 2) (hT : T[r / 16 / 256]? = some c) :
    ∃ (i ad : Nat) (ee : va_E), x = .ref ad ∧ ws[i]? = some (ad, ee) ∧ (zy_gl A)[i]? = some (r / 16 / 256) ∧ zy_cr (zy_fz A) tys c ee ∧ (r / 16 % 256 ≠ 0 → zy_ru A (r / 16 % 256) = i ∧ r / 16 % 256 < zy_fr A) := by
  obtain ⟨-, i, ad, h1, h2, h3, h4⟩ := (zy_r2 hk).mp hr
  rw [← hh.1, List.getElem?_map] at h1
  cases h5 : ws[i]? with
  | none => rw [h5] at h1; cases h1
  | some w =>
    rw [h5] at h1
    have h1 : w.1 = ad := Option.some.inj h1
    have h6 := hh.2 i _ w h5 h2
    rw [show zy_tm T (r / 16 / 256) = c from by unfold zy_tm; rw [List.getD_eq_getElem?_getD, hT]; rfl] at h6
    exact ⟨i, ad, w.2, h3, by rw [← h1]; exact h5, h2, h6, h4⟩
/-- a cell is changed -/
theorem zy_HR_set {A : zy_V} {T : List Nat} {tys : List (ClassId × FieldType)} {ws : va_W} (hh : zy_HR A T tys ws) {i ad g c : Nat} {e0 e1 : va_E} (h0 : ws[i]? = some (ad, e0)) (hg : (zy_gl A)[i]? = some g) (hT : T[g]? = some c) (h1 : zy_cr (zy_fz A) tys c e1) : zy_HR A T tys (ws.set i (ad, e1)) := by
  refine ⟨(zx_ads_set (e' := e1) h0).trans hh.1, fun j g' w hj hg' => ?_⟩
  by_cases q : j = i
  · subst q
    rw [hg] at hg'
    cases hg'
    rw [List.getElem?_set_self (List.getElem?_eq_some_iff.mp h0).1] at hj
    cases hj
    rw [show zy_tm T g = c from by unfold zy_tm; rw [List.getD_eq_getElem?_getD, hT]; rfl]
    exact h1
  · rw [List.getElem?_set_ne (Ne.symm q)] at hj
    exact hh.2 j g' w hj hg'
theorem zy_rd_set {ws : va_W} {i ad : Nat} {e0 e1 : va_E} (h0 : ws[i]? = some (ad, e0)) (f a : Nat) : zy_rd (ws.set i (ad, e1)) i f a = zy_re e1 f a := by
  unfold zy_rd
  rw [List.getElem?_set_self (List.getElem?_eq_some_iff.mp h0).1]
  rfl
theorem zy_rd_ne {ws : va_W} {i j ad : Nat} {e1 : va_E} (h : j ≠ i) (f a : Nat) : zy_rd (ws.set i (ad, e1)) j f a = zy_rd ws j f a := by
  unfold zy_rd
  rw [List.getElem?_set_ne (Ne.symm h)]
theorem zy_rd_at {ws : va_W} {i ad : Nat} {e0 : va_E} (h0 : ws[i]? = some (ad, e0)) (f a : Nat) : zy_rd ws i f a = zy_re e0 f a := by
  unfold zy_rd
  rw [h0]
  rfl
/-- what a change of a cell leaves: places elsewhere, and those of the cell that P does not name -/
theorem zy_CR_set {A : zy_V} {ws : va_W} {C C' : zy_C} (hc : zy_CR A ws C) {i ad g f : Nat} {e0 e1 : va_E} {P : Nat → Prop} (h0 : ws[i]? = some (ad, e0)) (hg : (zy_gl A)[i]? = some g) (hd : ∀ f' a, f' ≠ f ∨ ¬ P a → zy_re e1 f' a = zy_re e0 f' a) (hC : ∀ q ∈ C', q ∈ C ∧ (q.1 / 256 % 65536 = 128 * g + f → ¬ P (q.1 / 16777216))) : zy_CR A (ws.set i (ad, e1)) C' := fun q hq => by
  obtain ⟨h1, h2⟩ := hC q hq
  obtain ⟨⟨h3, h4⟩, x, h5, h6⟩ := hc q h1
  refine ⟨⟨h3, h4⟩, x, ?_, h6⟩
  by_cases hj : zy_ru A (q.1 % 256) = i
  · rw [hj] at h4 h5 ⊢
    rw [hg] at h4
    have h4 : g = q.1 / 256 % 65536 / 128 := Option.some.inj h4
    rw [zy_rd_set h0, hd _ _ ?_]
    · rw [zy_rd_at h0] at h5
      exact h5
    · by_cases hf : q.1 / 256 % 128 = f
      · right
        exact h2 (by omega)
      · exact Or.inl hf
  · rw [zy_rd_ne hj]
    exact h5
theorem zy_UN_set {gl : List Nat} {K : Nat} {ws0 ws : va_W} (hu : zy_UN gl K ws0 ws) {i ad g f : Nat} {e0 e1 : va_E} (h0 : ws[i]? = some (ad, e0)) (hg : gl[i]? = some g) (hd : ∀ f' a, f' ≠ f → zy_re e1 f' a = zy_re e0 f' a) (hK : K.testBit (128 * g + f) = true) : zy_UN gl K ws0 (ws.set i (ad, e1)) := by
  refine ⟨(zx_ads_set (e' := e1) h0).trans hu.1, fun j g' f' a hg' hf' hb => ?_⟩
  rw [← hu.2 j g' f' a hg' hf' hb]
  by_cases hj : j = i
  · subst hj
    rw [hg] at hg'
    cases hg'
    have : f' ≠ f := fun z => by rw [z, hK] at hb; cases hb
    rw [zy_rd_set h0, zy_rd_at h0, hd _ _ this]
  · exact zy_rd_ne hj f' a
end
section
/-! the instructions of the typed walker -/
abbrev zy_N : Type := List zx_E → Nat → Nat → List Nat → zy_C → Nat → Bool
abbrev zy_K : Type := List Nat → zy_C → Nat → Bool
/-- what is remembered of a place; d where nothing is -/
noncomputable def zy_cg (C : zy_C) (key : Nat) (k : Nat → Bool) (d : Bool) : Bool := @List.rec (Nat × Nat) (fun _ => Bool) d (fun q _ ih => bif Nat.beq q.1 key then k q.2 else ih) C
/-- all but what p names -/
noncomputable def zy_kl (p : Nat → Bool) (C : zy_C) : (zy_C → Bool) → Bool := @List.rec (Nat × Nat) (fun _ => (zy_C → Bool) → Bool) (fun k => k []) (fun q _ ih k => bif p q.1 then ih k else ih (fun t => k (q :: t))) C
def zy_tb (K n : Nat) : Bool := Nat.beq (Nat.mod (Nat.shiftRight K n) 2) 1
/-- does a value fit a type? -/
noncomputable def zy_ft (e v t : Nat) : Bool :=
  bif Nat.beq (zx_kd t) 7 then zy_iv e v (fun l h => Nat.ble (Nat.div (zx_pl t) 4294967296) l && Nat.ble h (Nat.mod (zx_pl t) 4294967296)) else
  bif Nat.beq (zx_kd t) 2 then Nat.beq (zx_kd v) 2 && (Nat.beq (zy_o1 v) (zy_o1 t) && (Nat.beq (zy_k1 t) 0 || (Nat.beq (zy_k1 t) (zy_k1 v) && Nat.blt (zy_k1 t) 100))) else
  bif Nat.beq t 5 then Nat.beq (zx_kd v) 5 else zx_kc 344 t && Nat.beq v t
/-- a value of a type: it gets a name -/
noncomputable def zy_vt (e t : Nat) (k : Nat → Nat → Bool) : Bool :=
  bif Nat.beq (zx_kd t) 7 then zx_fn (zx_pl t) (fun c => zx_fn (Nat.div c 4294967296) (fun l => zx_fn (Nat.mod c 4294967296) (fun h => zy_ni e l h k))) else
  bif Nat.beq (zx_kd t) 5 then zy_nl e k else
  bif Nat.beq (zx_kd t) 2 && Nat.beq (zy_k1 t) 0 then zy_nr e (zy_o1 t) k else k t e
/-- an int between bounds gets a name -/
noncomputable def zy_nv (e v : Nat) (k : Nat → Nat → Bool) : Bool := bif Nat.beq (zx_kd v) 7 then zx_fn (zx_pl v) (fun c => zx_fn (Nat.div c 4294967296) (fun l => zx_fn (Nat.mod c 4294967296) (fun h => zy_ni e l h k))) else k v e
/-- a place's key: name r, place w, element i -/
def zy_ky (r w i : Nat) : Nat := Nat.add r (Nat.add (Nat.mul 256 w) (Nat.mul 16777216 i))
/-- the place that a key names -/
def zy_kw (q : Nat) : Nat := Nat.mod (Nat.div q 256) 65536
/-- bounds that a place of ints of tag 9 has: those of 1 to 15 are alike -/
noncomputable def zy_al15 (c : Nat) : Bool := @Nat.rec (fun _ => Bool) true (fun d ih => Nat.beq (zx_og c (Nat.succ d)) (zx_og c 1) && ih) 15
/-- a: the tags that the instruction reads (520: 3, 9; 48: 4, 5) -/
def zy_ta (a : Nat) : Nat := bif Nat.beq a 9 then 520 else 48
/-- does it fit an element, as the array keeps it? -/
noncomputable def zy_fe (e v c t : Nat) : Bool := bif Nat.beq (zx_tg c) 4 then Nat.ble (zy_lo c) 2147483520 && Nat.ble 2147483775 (zy_hi c) else bif Nat.beq (zx_tg c) 5 then Nat.ble (zy_lo c) 2147483648 && Nat.ble 2147483649 (zy_hi c) else zy_ft e v t
/-- the type at an index that is not known: 16 n + c, or between 1 and 15, or in an array of one type -/
noncomputable def zy_ex1 (e i c : Nat) (k : Nat → Bool) : Bool :=
  bif Nat.beq (zx_tg c) 9 then
    (bif Nat.beq (zx_kd i) 11 && Nat.beq (Nat.mod (zy_o1 i) 16) 0 then zx_fn (zx_og c (Nat.mod (Nat.div (zy_o1 i) 16) 16)) k else
     zy_iv e i (fun l h => bif Nat.blt 2147483648 l && (Nat.blt h 2147483664 && zy_al15 c) then zx_fn (zx_og c 1) k else false))
  else zx_fn (zy_c7v (zy_lo c) (zy_hi c)) k
section ZYH
variable (T : List Nat) (W : Nat) (M : zx_M) (K : zy_K) (call : Nat → zx_M → zy_K → zy_N) (nx : zy_N) (a b np : Nat) (cur0 cur : List zx_E) (pc row : Nat) (st : List Nat) (C : zy_C) (e : Nat)
noncomputable def zy_jp : Bool := zx_bk M.2.2 a (fun _ => nx [] a row st C e)
noncomputable def zyh_ld : Bool := zx_fn (zx_lg row a) (fun v => bif zx_kc b v || (Nat.beq b 146 && zy_ii v) then nx cur np row (v :: st) C e else false)
noncomputable def zyh_st1 : Bool := zx_p1 st (fun v st => bif zx_kc b v || (Nat.beq b 146 && zy_ii v) then zy_no e v (fun v => zy_nv e v (fun v e => bif Nat.blt a M.1.2.2.1 && !Nat.beq (zx_kd (zx_lg row (Nat.pred a))) 5 then zx_fn (zx_ls row a v) (fun row => nx cur np row st C e) else false)) else false)
noncomputable def zyh_st2 : Bool := zx_p1 st (fun v st => bif Nat.beq (zx_kd v) 5 && (Nat.blt (Nat.succ a) M.1.2.2.1 && !Nat.beq (zx_kd (zx_lg row (Nat.pred a))) 5) then zx_fn (zx_ls (zx_ls row a v) (Nat.succ a) 0) (fun row => nx cur np row st C e) else false)
noncomputable def zyh_inc : Bool := bif Nat.blt a M.1.2.2.1 && !Nat.beq (zx_kd (zx_lg row (Nat.pred a))) 5 then zx_fn (zx_lg row a) (fun v => bif zy_ii v then (bif Nat.beq (zx_kd v) 1 then zy_ad e v b (fun v => zx_fn (zx_ls row a v) (fun row => nx cur np row st C e)) else zy_n1 e v (fun v => zy_ad e v b (fun v => zx_fn (zx_ls row a v) (fun row => nx cur np row st C e)))) else false) else false
noncomputable def zyh_psh : Bool := bif Nat.beq a 5 && Nat.blt b 25 then zx_fn (Nat.add 5 (Nat.mul 16 (Nat.add 2 (Nat.mul 2 b)))) (fun v => nx cur np row (v :: st) C e) else nx cur np row (a :: st) C e
noncomputable def zyh_bin (f : Nat → Nat → Nat → (Nat → Bool) → Bool) : Bool := zx_p2 st (fun y x st => bif zy_ii x && zy_ii y then zy_n1 e y (fun y => zy_n1 e x (fun x => f e x y (fun v => nx cur np row (v :: st) C e))) else false)
/-- the rest: an int of either sign is looked at for each -/
noncomputable def zyh_rem : Bool := zx_p2 st (fun y0 x0 st' => bif zy_ii x0 && zy_ii y0 then zy_n1 e y0 (fun y => zy_n1 e x0 (fun x => zy_iv e x (fun l h =>
  bif Nat.beq (zx_kd x) 1 && (Nat.beq (zx_kd y) 4 && (Nat.blt l 2147483648 && (Nat.ble 2147483648 h && (Nat.beq (zy_o1 x) 0 || Nat.blt 0 l)))) then zy_rf e x l 2147483647 (fun e => nx cur0 pc row st C e) && zy_rf e x 2147483648 h (fun e => nx cur0 pc row st C e)
  else zy_rm e x y (fun v => nx cur np row (v :: st') C e)))) else false)
noncomputable def zyh_un (f : Nat → Nat → (Nat → Bool) → Bool) : Bool := zx_p1 st (fun x st => bif zy_ii x then zy_n1 e x (fun x => f e x (fun v => nx cur np row (v :: st) C e)) else false)
noncomputable def zyh_i2l : Bool := zx_p1 st (fun x st => bif zy_ii x then nx cur np row (5 :: st) C e else false)
noncomputable def zyh_lbin : Bool := zx_p2 st (fun y x st => bif Nat.beq (zx_kd x) 5 && Nat.beq (zx_kd y) 5 then nx cur np row (5 :: st) C e else false)
noncomputable def zyh_lshl : Bool := zx_p2 st (fun y x st => bif Nat.beq (zx_kd x) 5 && zy_ii y then nx cur np row (5 :: st) C e else false)
/-- lcmp: of a named long and a constant it is remembered -/
noncomputable def zyh_lcmp : Bool := zx_p2 st (fun y x st => bif Nat.beq (zx_kd x) 5 && Nat.beq (zx_kd y) 5 then
  (bif Nat.beq (Nat.mod (zx_pl x) 2) 1 && (Nat.blt (Nat.div (zx_pl x) 2) 64 && (Nat.beq (Nat.mod (zx_pl y) 2) 0 && (Nat.blt 0 (zx_pl y) && Nat.blt (zx_pl y) 52))) then zx_fn (Nat.add (Nat.mul (Nat.add (Nat.div (zx_pl x) 2) (Nat.mul 256 (Nat.pred (Nat.div (zx_pl y) 2)))) 16) 12) (fun v => nx cur np row (v :: st) C e) else nx cur np row (zx_un :: st) C e) else false)
noncomputable def zyh_dup : Bool := zx_p1 st (fun x st => bif Nat.beq (zx_kd x) 5 then false else nx cur np row (x :: x :: st) C e)
noncomputable def zyh_pop : Bool := zx_p1 st (fun x st => bif Nat.beq (zx_kd x) 5 then false else nx cur np row st C e)
noncomputable def zyh_dup2 : Bool := zx_p2 st (fun y x st => bif Nat.beq (zx_kd x) 5 || Nat.beq (zx_kd y) 5 then false else nx cur np row (y :: x :: y :: x :: st) C e)
noncomputable def zyh_icmp : Bool := zx_p2 st (fun y x st => zy_cm b e x y (fun e => zy_jp M nx a row st C e) (fun e => nx cur np row st C e))
/-- is the long named n the constant c? -/
noncomputable def zy_lq (e n c : Nat) (kt kf : Nat → Bool) : Bool := zx_fn (zx_eg e (Nat.add 192 n)) (fun F => bif Nat.beq (Nat.mod F 4294967296) 0 then
    (bif zy_tb (Nat.div F 4294967296) c then kf e else (zx_fn (zx_es e (Nat.add 192 n) (Nat.add F (Nat.succ c))) kt && zx_fn (zx_es e (Nat.add 192 n) (Nat.lor F (Nat.pow 2 (Nat.add 32 c)))) kf)) else
  bif Nat.beq (Nat.mod F 4294967296) (Nat.succ c) then kt e else bif Nat.blt (Nat.mod F 4294967296) 26 then kf e else false)
noncomputable def zyh_if : Bool := zx_p1 st (fun x st => bif Nat.beq (zx_kd x) 12 && Nat.ble 4 b then (bif Nat.beq b 4 then zy_lq e (zy_k1 x) (zy_o1 x) (fun e => zy_jp M nx a row st C e) (fun e => nx cur np row st C e) else zy_lq e (zy_k1 x) (zy_o1 x) (fun e => nx cur np row st C e) (fun e => zy_jp M nx a row st C e)) else
  zy_cm b e x 4 (fun e => zy_jp M nx a row st C e) (fun e => nx cur np row st C e))
noncomputable def zy_sw (l : List (Nat × Nat)) (d v : Nat) (st : List Nat) : Nat → Bool := @List.rec (Nat × Nat) (fun _ => Nat → Bool) (fun e => zy_jp M nx d row st C e) (fun q _ ih e => zy_eq e v (zx_c q.1) (fun e => zy_jp M nx q.2 row st C e) ih) l
noncomputable def zyh_sw : Bool := zx_p1 st (fun v st => bif zy_ii v then zx_at zx_SW a (fun q => zy_sw M nx row C q.2 q.1 v st e) else false)
/-- a place is read: what is remembered, or a new name for it -/
noncomputable def zy_gt (r w i t : Nat) (k : Nat → zy_C → Nat → Bool) : Bool :=
  bif Nat.beq r 0 then zy_vt e t (fun v e => k v C e) else
  zx_fn (zy_ky r w i) (fun key => zy_cg C key (fun v => k v C e) (zy_vt e t (fun v e => bif Nat.beq v t then k v C e else k v ((key, v) :: C) e)))
noncomputable def zyh_get : Bool := zx_p1 st (fun r st => bif Nat.beq (zx_kd r) 2 then zx_at T (zy_o1 r) (fun c => bif Nat.beq (zx_hd c) a && (Nat.blt b 128 && Nat.blt (zy_o1 r) 512) then
    zy_gt C e (zy_k1 r) (Nat.add (Nat.mul 128 (zy_o1 r)) b) 0 (zx_og c b) (fun v C e => nx cur np row (v :: st) C e) else false) else false)
noncomputable def zyh_put : Bool := zx_p2 st (fun v r st => bif Nat.beq (zx_kd r) 2 && (zx_kc (Nat.shiftRight a 20) v || (Nat.beq (Nat.shiftRight a 20) 146 && zy_ii v)) then zy_no e v (fun v => zx_at T (zy_o1 r) (fun c => bif Nat.beq (zx_hd c) (zx_hd a) && (Nat.blt b 128 && (Nat.blt (zy_o1 r) 512 && zy_ft e v (zx_og c b))) then
    zx_fn (Nat.add (Nat.mul 128 (zy_o1 r)) b) (fun w => bif zy_tb W w then zy_kl (fun q => Nat.beq (zy_kw q) w) C (fun C => bif Nat.beq (zy_k1 r) 0 then nx cur np row st C e else zx_fn (zy_ky (zy_k1 r) w 0) (fun key => zy_nv e v (fun v e => nx cur np row st ((key, v) :: C) e))) else false) else false)) else false)
noncomputable def zyh_str : Bool := zx_p1 st (fun r st => bif Nat.beq r 22 || Nat.beq r 54 then (bif Nat.beq a 0 then nx cur np row (Nat.add r 16 :: st) C e else nx cur np row (4 :: st) C e) else false)
noncomputable def zyh_len : Bool := zx_p1 st (fun r st => bif Nat.beq (zx_kd r) 2 then zx_at T (zy_o1 r) (fun c => bif Nat.beq (zx_tg c) 7 then false else zx_fn (zx_c (zx_cn c)) (fun v => nx cur np row (v :: st) C e)) else
  bif Nat.beq r 38 || Nat.beq r 70 then zx_fn (zx_c (zx_xl (zx_pl r))) (fun v => nx cur np row (v :: st) C e) else false)
noncomputable def zyh_ald : Bool := zx_p2 st (fun i0 r st' => bif zy_ii i0 then zy_n1 e i0 (fun i =>
  bif Nat.beq (zx_kd r) 2 then zx_at T (zy_o1 r) (fun c =>
    bif zx_kc (zy_ta a) (zx_tg c) && Nat.blt (zy_o1 r) 512 then
      (bif Nat.beq (zx_kd i) 4 then (bif Nat.blt (zx_pl i) (zx_cn c) then
          zx_fn (zy_et c (zx_pl i)) (fun t => bif Nat.blt 16 (zx_cn c) then nx cur np row (t :: st') C e else
            zy_gt C e (zy_k1 r) (Nat.mul 128 (zy_o1 r)) (zx_pl i) t (fun v C e => nx cur np row (v :: st') C e)) else false) else
      bif Nat.beq (zx_kd i) 1 && Nat.ble (zx_cn c) 3 then zy_sp e i (fun e => nx cur0 pc row st C e) else
      bif zy_in e i (zx_cn c) then zy_ex1 e i c (fun t => nx cur np row (t :: st') C e) else false) else false) else
  bif Nat.beq r 38 || Nat.beq r 70 then (bif Nat.beq a 54 && zy_in e i (zx_xl (zx_pl r)) then nx cur np row (zy_c7v 2147483520 2147483775 :: st') C e else false) else false) else false)
noncomputable def zyh_ast : Bool := zx_p3 st (fun v i0 r st' => bif zy_ii v && (zy_ii i0 && Nat.beq (zx_kd r) 2) then zy_no e v (fun v => zy_n1 e i0 (fun i => zx_at T (zy_o1 r) (fun c =>
    bif zx_kc (zy_ta a) (zx_tg c) && (Nat.blt (zy_o1 r) 512 && zy_tb W (Nat.mul 128 (zy_o1 r))) then
      (bif Nat.beq (zx_kd i) 4 then (bif Nat.blt (zx_pl i) (zx_cn c) && zy_fe e v c (zy_et c (zx_pl i)) then
          zy_kl (fun q => Nat.beq (zy_kw q) (Nat.mul 128 (zy_o1 r)) && Nat.beq (Nat.div q 16777216) (zx_pl i)) C (fun C =>
            bif Nat.beq (zy_k1 r) 0 || (Nat.blt 16 (zx_cn c) || Nat.beq (zx_tg c) 4) then nx cur np row st' C e else
            bif Nat.beq (zx_tg c) 5 && !zy_iv e v (fun l h => Nat.ble 2147483648 l && Nat.ble h 2147483649) then nx cur np row st' C e else
            zx_fn (zy_ky (zy_k1 r) (Nat.mul 128 (zy_o1 r)) (zx_pl i)) (fun key => zy_nv e v (fun v e => nx cur np row st' ((key, v) :: C) e))) else false) else
      bif Nat.beq (zx_kd i) 1 && Nat.ble (zx_cn c) 3 then zy_sp e i (fun e => nx cur0 pc row st C e) else
      bif zy_in e i (zx_cn c) then zy_ex1 e i c (fun t => bif zy_fe e v c t then zy_iv e i (fun l h => zy_kl (fun q => Nat.beq (zy_kw q) (Nat.mul 128 (zy_o1 r)) && (Nat.ble l (Nat.add 2147483648 (Nat.div q 16777216)) && Nat.ble (Nat.add 2147483648 (Nat.div q 16777216)) h)) C (fun C => nx cur np row st' C e)) else false) else false) else false))) else false)
noncomputable def zyh_lald : Bool := zx_p2 st (fun i r st => bif zy_ii i && Nat.beq (zx_kd r) 2 then zx_at T (zy_o1 r) (fun c => bif Nat.beq (zx_tg c) 6 && zy_in e i (zx_cn c) then nx cur np row (5 :: st) C e else false) else false)
noncomputable def zyh_last : Bool := zx_p3 st (fun v i r st => bif Nat.beq (zx_kd v) 5 && (zy_ii i && Nat.beq (zx_kd r) 2) then zx_at T (zy_o1 r) (fun c => bif Nat.beq (zx_tg c) 6 && (zy_in e i (zx_cn c) && zy_tb W (Nat.mul 128 (zy_o1 r))) then zy_kl (fun q => Nat.beq (zy_kw q) (Nat.mul 128 (zy_o1 r))) C (fun C => nx cur np row st C e) else false) else false)
noncomputable def zyh_rald : Bool := zx_p2 st (fun i r st => bif zy_ii i && Nat.beq (zx_kd r) 2 then zx_at T (zy_o1 r) (fun c => bif Nat.beq (zx_tg c) 8 && zy_in e i (zx_cn c) then zy_vt e (zx_og c 0) (fun v e => nx cur np row (v :: st) C e) else false) else false)
noncomputable def zyh_rast : Bool := zx_p3 st (fun v i r st => bif Nat.beq (zx_kd v) 2 && (zy_ii i && Nat.beq (zx_kd r) 2) then zx_at T (zy_o1 r) (fun c => zx_at T (zy_o1 v) (fun cv => bif Nat.beq (zx_tg c) 8 && (Nat.beq (zx_hd cv) 135 && (zy_in e i (zx_cn c) && (zy_ft e v (zx_og c 0) && zy_tb W (Nat.mul 128 (zy_o1 r))))) then zy_kl (fun q => Nat.beq (zy_kw q) (Nat.mul 128 (zy_o1 r))) C (fun C => nx cur np row st C e) else false)) else false)
/-- an array of ints copied whole or in part onto one of its group -/
noncomputable def zyh_cpy : Bool := zx_p3 st (fun n dp dst st => zx_p2 st (fun sp src st => zy_n1 e n (fun n => zy_n1 e dp (fun dp => zy_n1 e sp (fun sp =>
  bif Nat.beq (zx_kd src) 2 && (Nat.beq (zx_kd dst) 2 && (Nat.beq (zy_o1 src) (zy_o1 dst) && (Nat.beq (zx_kd n) 4 && (Nat.beq dp 4 && Nat.beq sp 4)))) then
  zx_at T (zy_o1 dst) (fun c => bif Nat.beq (zx_tg c) 3 && (Nat.beq (zx_pl n) (zx_cn c) && (zy_tb W (Nat.mul 128 (zy_o1 dst)) && (Nat.blt (zy_o1 dst) 512 && Nat.ble (zx_wd st) 8))) then zy_kl (fun q => Nat.beq (zy_kw q) (Nat.mul 128 (zy_o1 dst))) C (fun C => nx cur np row st C e) else false) else false)))))
/-- the arguments, the last first -/
noncomputable def zy_tk (n : Nat) : Nat → List Nat → List Nat → (List Nat → List Nat → Nat → Bool) → Bool := @Nat.rec (fun _ => Nat → List Nat → List Nat → (List Nat → List Nat → Nat → Bool) → Bool) (fun e as st k => k as st e) (fun _ ih e as st k => zx_p1 st (fun v st => zy_no e v (fun v => zy_nv e v (fun v e => ih e (v :: as) st k)))) n
noncomputable def zy_rc (y : zx_M) (l : List Nat) (k : Bool) : Bool := bif Nat.beq y.2.1.2.1 0 then zx_p1 l (fun r _ => bif Nat.beq (zx_kd r) 2 then zx_at T (zy_o1 r) (fun c => bif Nat.beq (zx_hd c) (Nat.add (Nat.mul y.2.1.1 16) 7) then k else false) else bif (Nat.beq r 22 || Nat.beq r 54) && Nat.beq y.2.1.1 14 then k else false) else
  bif Nat.beq y.2.1.2.1 2 then false else k
noncomputable def zyh_inv : Bool := zx_at zx_mt (Nat.div a 16) (fun l => zx_at l (Nat.mod a 16) (fun y => zy_tk y.2.1.2.2.1 e [] st (fun as st e =>
  bif Nat.ble (zx_wd st) 8 && (Nat.ble (zx_wd as) y.1.2.2.1 && (Nat.beq y.2.1.2.2.2.1 0 && Nat.beq y.2.1.2.2.2.2.1 0)) then
  zy_rc T y as (zx_fn (zx_rw as) (fun r0 => call a y (fun r C e => nx cur np row (@List.rec Nat (fun _ => List Nat) st (fun v _ _ => v :: st) r) C e) [] 0 r0 [] C e)) else false)))
/-- what may be given back: 0 nothing, 1 an int, 2 a boolean, 3 a char, 4 a byte, 5 a long, 6 a reference -/
noncomputable def zy_rt (r e v : Nat) : Bool := bif Nat.beq r 1 then zy_ii v else bif Nat.beq r 2 then zy_iv e v (fun l h => Nat.ble 2147483648 l && Nat.ble h 2147483649) else bif Nat.beq r 3 then zy_iv e v (fun l h => Nat.ble 2147483648 l && Nat.ble h 2147549183) else
  bif Nat.beq r 4 then zy_iv e v (fun l h => Nat.ble 2147483520 l && Nat.ble h 2147483775) else bif Nat.beq r 5 then Nat.beq (zx_kd v) 5 else bif Nat.beq r 6 then zx_kc 332 v else false
noncomputable def zyh_ret : Bool := zx_p1 st (fun v st => @List.rec Nat (fun _ => Bool) (zy_no e v (fun v => bif zy_rt M.2.1.2.2.2.2.2 e v then K [v] C e else false)) (fun _ _ _ => false) st)
noncomputable def zyh_rtv : Bool := @List.rec Nat (fun _ => Bool) (bif Nat.beq M.2.1.2.2.2.2.2 0 then K [] C e else false) (fun _ _ _ => false) st
end ZYH
end
section
/-! the machine at a place of a method, and the typed walker there -/
def zy_n0 : Nat → Int32 := fun _ => 0
def zy_Wd (D : va_G) (N0 : Nat) (T : List Nat) (A : zy_V) (U : State) (H : Heap) (tys : List (ClassId × FieldType)) (ws : va_W) : Prop := va_K D vwCl tys U ∧ va_P D vwCl ws H ∧ va_D (zx_A N0) ws ∧ zy_HR A T tys ws
def zy_Rl (D : va_G) (N0 : Nat) (T : List Nat) (Wm : Nat) (ws0 : va_W) (A : zy_V) (M : zx_M) (s : State) (row : Nat) (st : List Nat) (C : zy_C) (e : Nat) (ls : Array Slot) (vs : List Value) (H : Heap) (locs : List Loc) : Prop :=
  ∃ (tys : List (ClassId × FieldType)) (ws : va_W), zy_Wd D N0 T A s H tys ws ∧ va_S (zx_A N0) s.heap H locs ∧ lv_has ls M.1.2.2.1 [] ∧ zy_LR A row ls ∧ zy_SR A st vs ∧ zy_CR A ws C ∧ zy_ev A e ∧ zy_UN (zy_gl A) Wm ws0 ws
/-- where the walker goes on, the machine comes to Q -/
def zy_Nx (p : Program) (l : Launch) (en : Env) (R : Room) (s : State) (m : MethodId) (args : Array Value) (below : List Frame) (meth : Method) (c : Code) (Q : State → Prop) (D : va_G) (N0 : Nat) (T : List Nat) (Wm : Nat) (ws0 : va_W) (A0 : zy_V) (M : zx_M) (nx : zy_N) : Prop :=
  ∀ (A : zy_V) (cur : List zx_E) (pc row : Nat) (st : List Nat) (C : zy_C) (e : Nat), zy_le A0 A → (∀ q ∈ cur, zx_ve M q) → nx cur pc row st C e = true → ∀ (ls : Array Slot) (vs : List Value) (H : Heap) (locs : List Loc), zy_Rl D N0 T Wm ws0 A M s row st C e ls vs H locs → W p l en R s m args below meth c H locs 0 0 Q (F0 m pc ls vs)
def zy_Rt (p : Program) (l : Launch) (en : Env) (R : Room) (s : State) (m : MethodId) (args : Array Value) (below : List Frame) (meth : Method) (c : Code) (Q : State → Prop) (D : va_G) (N0 : Nat) (T : List Nat) (Wm : Nat) (ws0 : va_W) (A0 : zy_V) (M : zx_M) (K : zy_K) : Prop :=
  ∀ (A : zy_V) (pc row : Nat) (r : List Nat) (C : zy_C) (e : Nat) (ls : Array Slot) (vs : List Value) (H : Heap) (locs : List Loc) (ins : Instr), zy_le A0 A → decode M.1.2.1 pc = .ok (ins, 1) → zx_ri M.1.2.2.2 ins vs → K r C e = true → zy_Rl D N0 T Wm ws0 A M s row r C e ls vs H locs → W p l en R s m args below meth c H locs 0 0 Q (F0 m pc ls vs)
def zy_Qc (D : va_G) (N0 : Nat) (T : List Nat) (Wm : Nat) (ws0 : va_W) (A0 : zy_V) (K : zy_K) : Array Value → State → Outcome → State → Prop := fun _ st o t =>
  (∃ (A : zy_V) (r : List Nat) (vs : List Value) (C : zy_C) (e : Nat) (tys : List (ClassId × FieldType)) (ws : va_W), zy_le A0 A ∧ o = .returned vs.head? ∧ vs.length ≤ 1 ∧ zy_SR A r vs ∧ zy_Wd D N0 T A t t.heap tys ws ∧ zy_CR A ws C ∧ zy_ev A e ∧ zy_UN (zy_gl A) Wm ws0 ws ∧ K r C e = true) ∧ va_F (zx_A N0) st t
/-- a call is as the walker's -/
def zy_Ca (l : Launch) (D : va_G) (N0 : Nat) (T : List Nat) (Wm : Nat) (d : Nat) (call : Nat → zx_M → zy_K → zy_N) : Prop :=
  ∀ (a : Nat) (y : zx_M) (K : zy_K) (A : zy_V) (as : List Nat) (C : zy_C) (e : Nat) (av : List Value) (tys : List (ClassId × FieldType)) (ws : va_W), zx_me a = some y → y.2.1.2.2.2.1 = 0 → y.2.1.2.2.2.2.1 = 0 → call a y K [] 0 (zx_rw as) [] C e = true → zy_SR A as av → zx_wd as ≤ y.1.2.2.1 → va_D (zx_A N0) ws → zy_HR A T tys ws → zy_CR A ws C → zy_ev A e →
    ∃ d', d = d' + 1 ∧ Met l y.1.1 (zx_mc y :: zx_G) (zx_rm d' y) (zx_Pc D N0 (zy_ex A) zy_n0 av tys ws) (zy_Qc D N0 T Wm ws A K) 0 0 (zx_A N0)
theorem zy_SR1 {A : zy_V} {a : Nat} {t : List Nat} {vs : List Value} (h : zy_SR A (a :: t) vs) : ∃ x r, vs = x :: r ∧ zy_r A a x ∧ zy_SR A t r := by
  cases vs with
  | nil => exact h.elim
  | cons x r => exact ⟨x, r, rfl, h.1, h.2⟩
theorem zy_SR2 {A : zy_V} {a b : Nat} {t : List Nat} {vs : List Value} (h : zy_SR A (a :: b :: t) vs) : ∃ x y r, vs = x :: y :: r ∧ zy_r A a x ∧ zy_r A b y ∧ zy_SR A t r := by
  obtain ⟨x, r, rfl, h1, h2⟩ := zy_SR1 h
  obtain ⟨y, r, rfl, h3, h4⟩ := zy_SR1 h2
  exact ⟨x, y, r, rfl, h1, h3, h4⟩
theorem zy_SR3 {A : zy_V} {a b k : Nat} {t : List Nat} {vs : List Value} (h : zy_SR A (a :: b :: k :: t) vs) : ∃ x y z r, vs = x :: y :: z :: r ∧ zy_r A a x ∧ zy_r A b y ∧ zy_r A k z ∧ zy_SR A t r := by
  obtain ⟨x, y, r, rfl, h1, h2, h3⟩ := zy_SR2 h
  obtain ⟨z, r, rfl, h4, h5⟩ := zy_SR1 h3
  exact ⟨x, y, z, r, rfl, h1, h2, h4, h5⟩
/-- more names: all stays -/
theorem zy_up_all {D : va_G} {N0 : Nat} {T : List Nat} {A B : zy_V} {U : State} {H : Heap} {tys : List (ClassId × FieldType)} {ws : va_W} (h : zy_le A B) (hf : 100 ≤ zy_fr A) (hW : zy_Wd D N0 T A U H tys ws) : zy_Wd D N0 T B U H tys ws := ⟨hW.1, hW.2.1, hW.2.2.1, zy_HR_le h hf hW.2.2.2⟩
theorem zy_gl_le {A B : zy_V} (h : zy_le A B) : zy_gl B = zy_gl A := by unfold zy_gl; rw [h.1]
theorem zy_cat_ne {A : zy_V} {d : Nat} {w : Value} (h : zy_r A d w) (hk : Nat.beq (zx_kd d) 5 = false) : (w.category == 2) = false := by
  rw [zy_r_cat h, hk]; rfl
theorem zy_LR_st1 {A : zy_V} {row i v n : Nat} {x : Value} {ls ls' : Array Slot} (hL : zy_LR A row ls) (h5 : Nat.beq (zx_kd (zx_lg row (Nat.pred i))) 5 = false) (hv : zy_r A v x) (h' : lv_has ls' n ((i, x) :: (zx_lv ls).filter (fun q => !(q.1 == i) && !(q.1 + 1 == i && q.2.category == 2)))) : zy_LR A (zx_ls row i v) ls' := by
  intro j hj
  by_cases hji : j = i
  · subst hji
    rw [show zx_lg (zx_ls row j v) j = v from zx_sd_same (by decide) row j v hv.1] at hj ⊢
    exact ⟨x, h'.2.2 (j, x) List.mem_cons_self, hv⟩
  · rw [show zx_lg (zx_ls row i v) j = zx_lg row j from zx_sd_other (by decide) row i v j hv.1 hji] at hj ⊢
    obtain ⟨w, h1, h2⟩ := hL j hj
    refine ⟨w, h'.2.2 (j, w) (List.mem_cons_of_mem _ (List.mem_filter.mpr ⟨zx_lv_mem.mpr h1, ?_⟩)), h2⟩
    show (!(j == i) && !(j + 1 == i && w.category == 2)) = true
    rw [show (j == i) = false from by simpa using hji]
    by_cases hp : j + 1 = i
    · subst hp
      rw [zy_cat_ne h2 h5]
      simp
    · rw [show (j + 1 == i) = false from by simpa using hp]
      rfl
theorem zy_LR_st2 {A : zy_V} {row i v n : Nat} {x : Value} {ls ls' : Array Slot} (hL : zy_LR A row ls) (h5 : Nat.beq (zx_kd (zx_lg row (Nat.pred i))) 5 = false) (hv : zy_r A v x) (h' : lv_has ls' n ((i, x) :: (zx_lv ls).filter (fun q => !(q.1 == i) && (!(q.1 == i + 1) && !(q.1 + 1 == i && q.2.category == 2))))) : zy_LR A (zx_ls (zx_ls row i v) (i + 1) 0) ls' := by
  intro j hj
  by_cases hj1 : j = i + 1
  · subst hj1
    rw [show zx_lg (zx_ls (zx_ls row i v) (i + 1) 0) (i + 1) = 0 from zx_sd_same (by decide) _ _ 0 (by decide)] at hj
    exact absurd rfl hj
  rw [show zx_lg (zx_ls (zx_ls row i v) (i + 1) 0) j = zx_lg (zx_ls row i v) j from zx_sd_other (by decide) _ _ 0 j (by decide) hj1] at hj ⊢
  by_cases hji : j = i
  · subst hji
    rw [show zx_lg (zx_ls row j v) j = v from zx_sd_same (by decide) row j v hv.1] at hj ⊢
    exact ⟨x, h'.2.2 (j, x) List.mem_cons_self, hv⟩
  · rw [show zx_lg (zx_ls row i v) j = zx_lg row j from zx_sd_other (by decide) row i v j hv.1 hji] at hj ⊢
    obtain ⟨w, h1, h2⟩ := hL j hj
    refine ⟨w, h'.2.2 (j, w) (List.mem_cons_of_mem _ (List.mem_filter.mpr ⟨zx_lv_mem.mpr h1, ?_⟩)), h2⟩
    show (!(j == i) && (!(j == i + 1) && !(j + 1 == i && w.category == 2))) = true
    rw [show (j == i) = false from by simpa using hji, show (j == i + 1) = false from by simpa using hj1]
    by_cases hp : j + 1 = i
    · subst hp
      rw [zy_cat_ne h2 h5]
      simp
    · rw [show (j + 1 == i) = false from by simpa using hp]
      rfl
/-! calls -/
end
section
/-! one step of the typed walker: loads, stores, numbers, jumps -/
section ZYS
variable {p : Program} {l : Launch} {en : Env} {R : Room} {s : State} {m : MethodId} {args : Array Value} {below : List Frame} {meth : Method} {c : Code} {Q : State → Prop} {D : va_G} {N0 : Nat} {T : List Nat} {Wm : Nat} {ws0 : va_W} {A0 A : zy_V} {M : zx_M} {d : Nat} {nx : zy_N} {cur cur0 : List zx_E} {pc row : Nat} {st : List Nat} {C : zy_C} {e : Nat} {ls : Array Slot} {vs : List Value} {H : Heap} {locs : List Loc}
theorem zy_kc_or {b v : Nat} (h : (zx_kc b v || (Nat.beq b 146 && zy_ii v)) = true) : zx_kc b v = true ∨ (b = 146 ∧ zy_ii v = true) := by
  rcases (Bool.or_eq_true _ _).mp h with q | q
  · exact Or.inl q
  · obtain ⟨q1, q2⟩ := zx_and_b q
    exact Or.inr ⟨zx_beq_t q1, q2⟩
theorem zy_ii_of {v : Nat} (h : zx_kc 146 v = true) : zy_ii v = true := by
  have q : ∀ t, t < 16 → Nat.beq (Nat.mod (Nat.shiftRight 146 t) 2) 1 = true → Nat.beq (Nat.mod (Nat.shiftRight 63634 t) 2) 1 = true := by decide
  exact q _ (Nat.mod_lt _ (by decide)) h
theorem zy_kp_of {b v : Nat} {x : Value} (h : (zx_kc b v || (Nat.beq b 146 && zy_ii v)) = true) (hr : zy_r A v x) : zx_kp b x := by
  refine ⟨fun e => ?_, fun e => ?_, fun e => ?_⟩
  · subst e
    rcases zy_kc_or h with q | ⟨-, q⟩
    · exact zy_r_i (zy_ii_of q) hr
    · exact zy_r_i q hr
  · subst e
    rcases zy_kc_or h with q | ⟨q, -⟩
    · exact zy_r_r q hr
    · cases q
  · subst e
    rcases zy_kc_or h with q | ⟨q, -⟩
    · exact zy_r_j (zx_kc32 q) hr
    · cases q
theorem zy_kc0 {b v : Nat} (hb : b = 146 ∨ b = 332 ∨ b = 32) (h : (zx_kc b v || (Nat.beq b 146 && zy_ii v)) = true) : v % 16 ≠ 0 := by
  rcases zy_kc_or h with q | ⟨-, q⟩
  · exact zx_kc0 hb q
  · rcases zy_kci q with q | q | q | q | q | q | q | q <;> omega
theorem zz_ld {a b np : Nat} (hb : b = 146 ∨ b = 332 ∨ b = 32) (hN : zy_Nx p l en R s m args below meth c Q D N0 T Wm ws0 A0 M nx) (hA : zy_le A0 A) (hv : ∀ q ∈ cur, zx_ve M q) (hR : zy_Rl D N0 T Wm ws0 A M s row st C e ls vs H locs) (hk : zyh_ld nx a b np cur row st C e = true) :
    ∃ x, ls[a]? = some (.val x) ∧ zx_kp b x ∧ W p l en R s m args below meth c H locs 0 0 Q (F0 m np ls (x :: vs)) := by
  unfold zyh_ld at hk
  rw [zx_fn_eq] at hk
  obtain ⟨q, hk⟩ := zx_bft hk
  obtain ⟨tys, ws, hW, hS, hl, hL, hT, hCR, hE, hU⟩ := hR
  obtain ⟨x, h1, h2⟩ := hL a (zy_kc0 hb q)
  exact ⟨x, h1, zy_kp_of q h2, hN _ _ _ _ _ _ _ hA hv hk _ _ _ _ ⟨tys, ws, hW, hS, hl, hL, ⟨h2, hT⟩, hCR, hE, hU⟩⟩
/-- an int between bounds gets a name -/
theorem zy_nv_s (he : zy_ev A e) {v : Nat} {x : Value} (hr : zy_r A v x) {k : Nat → Nat → Bool} (hk : zy_nv e v k = true) : ∃ (B : zy_V) (v' e' : Nat), zy_le A B ∧ zy_ev B e' ∧ zy_r B v' x ∧ k v' e' = true := by
  unfold zy_nv at hk
  rcases zx_bif hk with ⟨q, hk⟩ | ⟨-, hk⟩
  · have q : v % 16 = 7 := zx_beq_t q
    rw [zx_fn_eq, zx_fn_eq, zx_fn_eq] at hk
    obtain ⟨-, y, rfl, h2, h3⟩ := (zy_r7 q).mp hr
    obtain ⟨B, v', e', g1, g2, g3, -, g4⟩ := zy_ni_s he h2 h3 (Nat.mod_lt _ (by decide)) hk
    exact ⟨B, v', e', g1, g2, g3, g4⟩
  · exact ⟨A, v, e, zy_le_rf A, he, hr, hk⟩
theorem zy_f100 (he : zy_ev A e) : 100 ≤ zy_fr A := he.2.2.2.2.2.2.1
/-- a value of a type gets a name -/
theorem zy_vt_s (he : zy_ev A e) {t : Nat} {x : Value} (hr : zy_r (zy_fz A) t x) {k : Nat → Nat → Bool} (hk : zy_vt e t k = true) : ∃ (B : zy_V) (v' e' : Nat), zy_le A B ∧ zy_ev B e' ∧ zy_r B v' x ∧ k v' e' = true := by
  have hr' := zy_r_le (zy_fz_le (zy_f100 he)) hr
  unfold zy_vt at hk
  rcases zx_bif hk with ⟨q, hk⟩ | ⟨-, hk⟩
  · have q : t % 16 = 7 := zx_beq_t q
    rw [zx_fn_eq, zx_fn_eq, zx_fn_eq] at hk
    obtain ⟨-, y, rfl, h2, h3⟩ := (zy_r7 q).mp hr
    obtain ⟨B, v', e', g1, g2, g3, -, g4⟩ := zy_ni_s he h2 h3 (Nat.mod_lt _ (by decide)) hk
    exact ⟨B, v', e', g1, g2, g3, g4⟩
  rcases zx_bif hk with ⟨q, hk⟩ | ⟨-, hk⟩
  · have q : t % 16 = 5 := zx_beq_t q
    obtain ⟨y, rfl⟩ := zy_r_j q hr
    obtain ⟨B, v', e', g1, g2, g3, -, g4⟩ := zy_nl_s he y hk
    exact ⟨B, v', e', g1, g2, g3, g4⟩
  rcases zx_bif hk with ⟨q, hk⟩ | ⟨-, hk⟩
  · obtain ⟨q, -⟩ := zx_and_b q
    have q : t % 16 = 2 := zx_beq_t q
    obtain ⟨-, i, a, h1, h2, rfl, -⟩ := (zy_r2 q).mp hr'
    obtain ⟨B, v', e', g1, g2, g3, -, -, g4⟩ := zy_nr_s he h1 h2 hk
    exact ⟨B, v', e', g1, g2, g3, g4⟩
  · exact ⟨A, t, e, zy_le_rf A, he, hr', hk⟩
/-- all that is known, with more names -/
theorem zy_Rl_le {B : zy_V} {e' : Nat} {tys : List (ClassId × FieldType)} {ws : va_W} {vs' : List Value} {st' : List Nat} (h : zy_le A B) (hE : zy_ev A e) (hW : zy_Wd D N0 T A s H tys ws) (hL : zy_LR A row ls) (hT : zy_SR A st' vs') (hCR : zy_CR A ws C) (hU : zy_UN (zy_gl A) Wm ws0 ws) : zy_Wd D N0 T B s H tys ws ∧ zy_LR B row ls ∧ zy_SR B st' vs' ∧ zy_CR B ws C ∧ zy_UN (zy_gl B) Wm ws0 ws :=
  ⟨zy_up_all h (zy_f100 hE) hW, zy_LR_le h hL, zy_SR_le h _ _ hT, zy_CR_le h hCR, by rw [zy_gl_le h]; exact hU⟩
theorem zz_st1 {a b np : Nat} (hN : zy_Nx p l en R s m args below meth c Q D N0 T Wm ws0 A0 M nx) (hA : zy_le A0 A) (hv : ∀ q ∈ cur, zx_ve M q) (hR : zy_Rl D N0 T Wm ws0 A M s row st C e ls vs H locs) (hk : zyh_st1 M nx a b np cur row st C e = true) :
    lv_has ls M.1.2.2.1 (zx_lv ls) ∧ a < M.1.2.2.1 ∧ ∃ x r, vs = x :: r ∧ zx_kp b x ∧ ∀ ls' : Array Slot, lv_has ls' M.1.2.2.1 ((a, x) :: (zx_lv ls).filter (fun q => !(q.1 == a) && !(q.1 + 1 == a && q.2.category == 2))) → W p l en R s m args below meth c H locs 0 0 Q (F0 m np ls' r) := by
  unfold zyh_st1 at hk
  obtain ⟨v, st, rfl, hk⟩ := zx_p1_s hk
  obtain ⟨q1, hk⟩ := zx_bft hk
  obtain ⟨tys, ws, hW, hS, hl, hL, hT, hCR, hE, hU⟩ := hR
  obtain ⟨x, r, rfl, h1, h2⟩ := zy_SR1 hT
  obtain ⟨v', h3, hk, -⟩ := zy_no_s hE h1 hk
  obtain ⟨B, v'', e', hAB, hE', h4, hk⟩ := zy_nv_s hE h3 hk
  obtain ⟨q, hk⟩ := zx_bft hk
  obtain ⟨q2, q3⟩ := zx_and_b q
  rw [zx_fn_eq] at hk
  obtain ⟨hW', hL', h2', hCR', hU'⟩ := zy_Rl_le (e' := e') hAB hE hW hL h2 hCR hU
  refine ⟨zx_lv_has hl, zx_blt_t q2, x, r, rfl, zy_kp_of q1 h1, fun ls' hl' => ?_⟩
  exact hN _ _ _ _ _ _ _ (zy_le_tr hA hAB) hv hk _ _ _ _ ⟨tys, ws, hW', hS, zx_lv_none hl', zy_LR_st1 hL' (by simpa using q3) h4 hl', h2', hCR', hE', hU'⟩
theorem zz_st2 {a np : Nat} (hN : zy_Nx p l en R s m args below meth c Q D N0 T Wm ws0 A0 M nx) (hA : zy_le A0 A) (hv : ∀ q ∈ cur, zx_ve M q) (hR : zy_Rl D N0 T Wm ws0 A M s row st C e ls vs H locs) (hk : zyh_st2 M nx a np cur row st C e = true) :
    lv_has ls M.1.2.2.1 (zx_lv ls) ∧ a + 1 < M.1.2.2.1 ∧ ∃ x r, vs = .long x :: r ∧ ∀ ls' : Array Slot, lv_has ls' M.1.2.2.1 ((a, .long x) :: (zx_lv ls).filter (fun q => !(q.1 == a) && (!(q.1 == a + 1) && !(q.1 + 1 == a && q.2.category == 2)))) → W p l en R s m args below meth c H locs 0 0 Q (F0 m np ls' r) := by
  unfold zyh_st2 at hk
  obtain ⟨v, st, rfl, hk⟩ := zx_p1_s hk
  obtain ⟨q, hk⟩ := zx_bft hk
  obtain ⟨q1, q2⟩ := zx_and_b q
  obtain ⟨q2, q3⟩ := zx_and_b q2
  rw [zx_fn_eq] at hk
  obtain ⟨tys, ws, hW, hS, hl, hL, hT, hCR, hE, hU⟩ := hR
  obtain ⟨x, r, rfl, h1, h2⟩ := zy_SR1 hT
  obtain ⟨y, rfl⟩ := zy_r_j (zx_beq_t q1) h1
  refine ⟨zx_lv_has hl, zx_blt_t q2, y, r, rfl, fun ls' hl' => ?_⟩
  exact hN _ _ _ _ _ _ _ hA hv hk _ _ _ _ ⟨tys, ws, hW, hS, zx_lv_none hl', zy_LR_st2 hL (by simpa using q3) h1 hl', h2, hCR, hE, hU⟩
theorem zz_psh1 {v np : Nat} {x : Value} (hN : zy_Nx p l en R s m args below meth c Q D N0 T Wm ws0 A0 M nx) (hA : zy_le A0 A) (hv : ∀ q ∈ cur, zx_ve M q) (hR : zy_Rl D N0 T Wm ws0 A M s row st C e ls vs H locs) (hk : nx cur np row (v :: st) C e = true) (hx : zy_r A v x) :
    W p l en R s m args below meth c H locs 0 0 Q (F0 m np ls (x :: vs)) := by
  obtain ⟨tys, ws, hW, hS, hl, hL, hT, hCR, hE, hU⟩ := hR
  exact hN _ _ _ _ _ _ _ hA hv hk _ _ _ _ ⟨tys, ws, hW, hS, hl, hL, ⟨hx, hT⟩, hCR, hE, hU⟩
theorem zz_psh {a np : Nat} {x : Value} (ha : a ≠ 5) (hN : zy_Nx p l en R s m args below meth c Q D N0 T Wm ws0 A0 M nx) (hA : zy_le A0 A) (hv : ∀ q ∈ cur, zx_ve M q) (hR : zy_Rl D N0 T Wm ws0 A M s row st C e ls vs H locs) {b : Nat} (hk : zyh_psh nx a b np cur row st C e = true) (hx : zy_r A a x) :
    W p l en R s m args below meth c H locs 0 0 Q (F0 m np ls (x :: vs)) := by
  unfold zyh_psh at hk
  rcases zx_bif hk with ⟨q, -⟩ | ⟨-, hk⟩
  · exact absurd (zx_beq_t (zx_and_b q).1) ha
  · exact zz_psh1 hN hA hv hR hk hx
/-- a long constant: which one of the reference's, if it is one -/
theorem zz_pshl {b np : Nat} {x : Int64} (hN : zy_Nx p l en R s m args below meth c Q D N0 T Wm ws0 A0 M nx) (hA : zy_le A0 A) (hv : ∀ q ∈ cur, zx_ve M q) (hR : zy_Rl D N0 T Wm ws0 A M s row st C e ls vs H locs) (hk : zyh_psh nx 5 b np cur row st C e = true) (hx : b < 25 → x = zy_lc b) :
    W p l en R s m args below meth c H locs 0 0 Q (F0 m np ls (.long x :: vs)) := by
  unfold zyh_psh at hk
  rcases zx_bif hk with ⟨q, hk⟩ | ⟨-, hk⟩
  · rw [zx_fn_eq] at hk
    have q := zx_blt_t (zx_and_b q).2
    refine zz_psh1 hN hA hv hR hk ?_
    show zy_r A (5 + 16 * (2 + 2 * b)) (.long x)
    rw [zy_r5 (by omega), show (5 + 16 * (2 + 2 * b)) / 16 = 2 + 2 * b by omega]
    exact ⟨by omega, x, rfl, fun z => by omega, fun _ _ => by rw [show (2 + 2 * b) / 2 - 1 = b by omega]; exact hx q⟩
  · exact zz_psh1 hN hA hv hR hk (zy_r_l x)
theorem zz_inc {a n np : Nat} (hn' : n < 4294967296) (hN : zy_Nx p l en R s m args below meth c Q D N0 T Wm ws0 A0 M nx) (hA : zy_le A0 A) (hv : ∀ q ∈ cur, zx_ve M q) (hR : zy_Rl D N0 T Wm ws0 A M s row st C e ls vs H locs) (hk : zyh_inc M nx a (zx_c n) np cur row st C e = true) :
    lv_has ls M.1.2.2.1 (zx_lv ls) ∧ a < M.1.2.2.1 ∧ ∃ x, (∃ k : Nat, (zx_lv ls)[k]? = some (a, .int x)) ∧ ∀ ls' : Array Slot, lv_has ls' M.1.2.2.1 ((a, .int (x + nI n)) :: (zx_lv ls).filter (fun q => !(q.1 == a) && !(q.1 + 1 == a && q.2.category == 2))) → W p l en R s m args below meth c H locs 0 0 Q (F0 m np ls' vs) := by
  unfold zyh_inc at hk
  obtain ⟨q, hk⟩ := zx_bft hk
  obtain ⟨q2, q3⟩ := zx_and_b q
  rw [zx_fn_eq] at hk
  obtain ⟨q1, hk⟩ := zx_bft hk
  obtain ⟨tys, ws, hW, hS, hl, hL, hT, hCR, hE, hU⟩ := hR
  obtain ⟨x, h1, h2⟩ := hL a (zy_kc0 (b := 146) (Or.inl rfl) (by rw [q1]; cases zx_kc 146 (zx_lg row a) <;> rfl))
  obtain ⟨y, rfl⟩ := zy_r_i q1 h2
  obtain ⟨k, hk1⟩ := List.getElem?_of_mem (zx_lv_mem.mpr h1)
  have fin : ∀ v : Nat, zy_r A v (.int y) → zy_ad e v (zx_c n) (fun v => zx_fn (zx_ls row a v) (fun row => nx cur np row st C e)) = true → ∀ ls' : Array Slot, lv_has ls' M.1.2.2.1 ((a, .int (y + nI n)) :: (zx_lv ls).filter (fun q => !(q.1 == a) && !(q.1 + 1 == a && q.2.category == 2))) → W p l en R s m args below meth c H locs 0 0 Q (F0 m np ls' vs) := by
    intro v h3 hk ls' hl'
    obtain ⟨w, h4, hk⟩ := zy_ad_s hE h3 (zy_r_c hn') hk
    rw [zx_fn_eq] at hk
    exact hN _ _ _ _ _ _ _ hA hv hk _ _ _ _ ⟨tys, ws, hW, hS, zx_lv_none hl', zy_LR_st1 hL (by simpa using q3) h4 hl', hT, hCR, hE, hU⟩
  refine ⟨zx_lv_has hl, zx_blt_t q2, y, ⟨k, hk1⟩, ?_⟩
  rcases zx_bif hk with ⟨-, hk⟩ | ⟨-, hk⟩
  · exact fin _ h2 hk
  · obtain ⟨v', h3, hk⟩ := zy_n1_s hE h2 hk
    exact fin _ h3 hk
theorem zz_bin {np : Nat} {f : Nat → Nat → Nat → (Nat → Bool) → Bool} (hN : zy_Nx p l en R s m args below meth c Q D N0 T Wm ws0 A0 M nx) (hA : zy_le A0 A) (hv : ∀ q ∈ cur, zx_ve M q) (hR : zy_Rl D N0 T Wm ws0 A M s row st C e ls vs H locs) (hk : zyh_bin nx np cur row st C e f = true)
    {P : Int32 → Int32 → Prop} {F : Int32 → Int32 → Int32} (hf : ∀ (a b : Nat) (x y : Int32) (k : Nat → Bool), zy_ev A e → zy_r A a (.int x) → zy_r A b (.int y) → f e a b k = true → P x y ∧ ∃ c : Nat, zy_r A c (.int (F x y)) ∧ k c = true) :
    ∃ x y r, vs = .int y :: .int x :: r ∧ P x y ∧ W p l en R s m args below meth c H locs 0 0 Q (F0 m np ls (.int (F x y) :: r)) := by
  unfold zyh_bin at hk
  obtain ⟨b, a, st, rfl, hk⟩ := zx_p2_s hk
  obtain ⟨q, hk⟩ := zx_bft hk
  obtain ⟨q1, q2⟩ := zx_and_b q
  obtain ⟨tys, ws, hW, hS, hl, hL, hT, hCR, hE, hU⟩ := hR
  obtain ⟨y, x, r, rfl, h1, h2, h3⟩ := zy_SR2 hT
  obtain ⟨y, rfl⟩ := zy_r_i q2 h1
  obtain ⟨x, rfl⟩ := zy_r_i q1 h2
  obtain ⟨b', h4, hk⟩ := zy_n1_s hE h1 hk
  obtain ⟨a', h5, hk⟩ := zy_n1_s hE h2 hk
  obtain ⟨hp, v, h6, hk⟩ := hf _ _ _ _ _ hE h5 h4 hk
  exact ⟨x, y, r, rfl, hp, hN _ _ _ _ _ _ _ hA hv hk _ _ _ _ ⟨tys, ws, hW, hS, hl, hL, ⟨h6, h3⟩, hCR, hE, hU⟩⟩
/-- the rest: or the same instruction once more, with its number's sign known -/
theorem zz_rem {np : Nat} (hN : zy_Nx p l en R s m args below meth c Q D N0 T Wm ws0 A0 M nx) (hA : zy_le A0 A) (hv0 : ∀ q ∈ cur0, zx_ve M q) (hv : ∀ q ∈ cur, zx_ve M q) (hR : zy_Rl D N0 T Wm ws0 A M s row st C e ls vs H locs) (hk : zyh_rem nx np cur0 cur pc row st C e = true) :
    W p l en R s m args below meth c H locs 0 0 Q (F0 m pc ls vs) ∨ ∃ x y r, vs = .int y :: .int x :: r ∧ ¬ y = 0 ∧ W p l en R s m args below meth c H locs 0 0 Q (F0 m np ls (.int (x - x / y * y) :: r)) := by
  unfold zyh_rem at hk
  obtain ⟨b, a, st', rfl, hk⟩ := zx_p2_s hk
  obtain ⟨q, hk⟩ := zx_bft hk
  obtain ⟨q1, q2⟩ := zx_and_b q
  obtain ⟨tys, ws, hW, hS, hl, hL, hT, hCR, hE, hU⟩ := hR
  obtain ⟨y, x, r, rfl, h1, h2, h3⟩ := zy_SR2 hT
  obtain ⟨y, rfl⟩ := zy_r_i q2 h1
  obtain ⟨x, rfl⟩ := zy_r_i q1 h2
  obtain ⟨b', h4, hk⟩ := zy_n1_s hE h1 hk
  obtain ⟨a', h5, hk⟩ := zy_n1_s hE h2 hk
  obtain ⟨lo, up, hk, g1, g2, g3⟩ := zy_iv_s hE h5 hk
  rcases zx_bif hk with ⟨-, hk⟩ | ⟨-, hk⟩
  · obtain ⟨k1, k2⟩ := zx_and_b hk
    left
    rcases Nat.lt_or_ge (zx_bz x) 2147483648 with z | z
    · obtain ⟨e', hE', hk⟩ := zy_rf_s hE h5 g1 (by omega) k1
      exact hN _ _ _ _ _ _ _ hA hv0 hk _ _ _ _ ⟨tys, ws, hW, hS, hl, hL, ⟨h1, h2, h3⟩, hCR, hE', hU⟩
    · obtain ⟨e', hE', hk⟩ := zy_rf_s hE h5 z g2 k2
      exact hN _ _ _ _ _ _ _ hA hv0 hk _ _ _ _ ⟨tys, ws, hW, hS, hl, hL, ⟨h1, h2, h3⟩, hCR, hE', hU⟩
  · right
    obtain ⟨hp, v, h6, hk⟩ := zy_rm_s hE h5 h4 hk
    exact ⟨x, y, r, rfl, hp, hN _ _ _ _ _ _ _ hA hv hk _ _ _ _ ⟨tys, ws, hW, hS, hl, hL, ⟨h6, h3⟩, hCR, hE, hU⟩⟩
theorem zz_un {np : Nat} {f : Nat → Nat → (Nat → Bool) → Bool} {F : Int32 → Int32} (hN : zy_Nx p l en R s m args below meth c Q D N0 T Wm ws0 A0 M nx) (hA : zy_le A0 A) (hv : ∀ q ∈ cur, zx_ve M q) (hR : zy_Rl D N0 T Wm ws0 A M s row st C e ls vs H locs) (hk : zyh_un nx np cur row st C e f = true) (hf : ∀ (a : Nat) (x : Int32) (k : Nat → Bool), zy_ev A e → zy_r A a (.int x) → f e a k = true → ∃ c : Nat, zy_r A c (.int (F x)) ∧ k c = true) :
    ∃ x r, vs = .int x :: r ∧ W p l en R s m args below meth c H locs 0 0 Q (F0 m np ls (.int (F x) :: r)) := by
  unfold zyh_un at hk
  obtain ⟨a, st, rfl, hk⟩ := zx_p1_s hk
  obtain ⟨q, hk⟩ := zx_bft hk
  obtain ⟨tys, ws, hW, hS, hl, hL, hT, hCR, hE, hU⟩ := hR
  obtain ⟨x, r, rfl, h1, h2⟩ := zy_SR1 hT
  obtain ⟨x, rfl⟩ := zy_r_i q h1
  obtain ⟨a', h4, hk⟩ := zy_n1_s hE h1 hk
  obtain ⟨v, h6, hk⟩ := hf _ _ _ hE h4 hk
  exact ⟨x, r, rfl, hN _ _ _ _ _ _ _ hA hv hk _ _ _ _ ⟨tys, ws, hW, hS, hl, hL, ⟨h6, h2⟩, hCR, hE, hU⟩⟩
theorem zz_i2l {np : Nat} (hN : zy_Nx p l en R s m args below meth c Q D N0 T Wm ws0 A0 M nx) (hA : zy_le A0 A) (hv : ∀ q ∈ cur, zx_ve M q) (hR : zy_Rl D N0 T Wm ws0 A M s row st C e ls vs H locs) (hk : zyh_i2l nx np cur row st C e = true) :
    ∃ x r, vs = .int x :: r ∧ ∀ y : Int64, W p l en R s m args below meth c H locs 0 0 Q (F0 m np ls (.long y :: r)) := by
  unfold zyh_i2l at hk
  obtain ⟨a, st, rfl, hk⟩ := zx_p1_s hk
  obtain ⟨q, hk⟩ := zx_bft hk
  obtain ⟨tys, ws, hW, hS, hl, hL, hT, hCR, hE, hU⟩ := hR
  obtain ⟨x, r, rfl, h1, h2⟩ := zy_SR1 hT
  obtain ⟨x, rfl⟩ := zy_r_i q h1
  exact ⟨x, r, rfl, fun y => hN _ _ _ _ _ _ _ hA hv hk _ _ _ _ ⟨tys, ws, hW, hS, hl, hL, ⟨zy_r_l y, h2⟩, hCR, hE, hU⟩⟩
theorem zz_lbin {np : Nat} (hN : zy_Nx p l en R s m args below meth c Q D N0 T Wm ws0 A0 M nx) (hA : zy_le A0 A) (hv : ∀ q ∈ cur, zx_ve M q) (hR : zy_Rl D N0 T Wm ws0 A M s row st C e ls vs H locs) (hk : zyh_lbin nx np cur row st C e = true) :
    ∃ x y r, vs = .long y :: .long x :: r ∧ ∀ z : Int64, W p l en R s m args below meth c H locs 0 0 Q (F0 m np ls (.long z :: r)) := by
  unfold zyh_lbin at hk
  obtain ⟨b, a, st, rfl, hk⟩ := zx_p2_s hk
  obtain ⟨q, hk⟩ := zx_bft hk
  obtain ⟨q1, q2⟩ := zx_and_b q
  obtain ⟨tys, ws, hW, hS, hl, hL, hT, hCR, hE, hU⟩ := hR
  obtain ⟨y, x, r, rfl, h1, h2, h3⟩ := zy_SR2 hT
  obtain ⟨y, rfl⟩ := zy_r_j (zx_beq_t q2) h1
  obtain ⟨x, rfl⟩ := zy_r_j (zx_beq_t q1) h2
  exact ⟨x, y, r, rfl, fun z => hN _ _ _ _ _ _ _ hA hv hk _ _ _ _ ⟨tys, ws, hW, hS, hl, hL, ⟨zy_r_l z, h3⟩, hCR, hE, hU⟩⟩
theorem zz_lshl {np : Nat} (hN : zy_Nx p l en R s m args below meth c Q D N0 T Wm ws0 A0 M nx) (hA : zy_le A0 A) (hv : ∀ q ∈ cur, zx_ve M q) (hR : zy_Rl D N0 T Wm ws0 A M s row st C e ls vs H locs) (hk : zyh_lshl nx np cur row st C e = true) :
    ∃ x y r, vs = .int y :: .long x :: r ∧ ∀ z : Int64, W p l en R s m args below meth c H locs 0 0 Q (F0 m np ls (.long z :: r)) := by
  unfold zyh_lshl at hk
  obtain ⟨b, a, st, rfl, hk⟩ := zx_p2_s hk
  obtain ⟨q, hk⟩ := zx_bft hk
  obtain ⟨q1, q2⟩ := zx_and_b q
  obtain ⟨tys, ws, hW, hS, hl, hL, hT, hCR, hE, hU⟩ := hR
  obtain ⟨y, x, r, rfl, h1, h2, h3⟩ := zy_SR2 hT
  obtain ⟨y, rfl⟩ := zy_r_i q2 h1
  obtain ⟨x, rfl⟩ := zy_r_j (zx_beq_t q1) h2
  exact ⟨x, y, r, rfl, fun z => hN _ _ _ _ _ _ _ hA hv hk _ _ _ _ ⟨tys, ws, hW, hS, hl, hL, ⟨zy_r_l z, h3⟩, hCR, hE, hU⟩⟩
theorem zz_lcmp {np : Nat} (hN : zy_Nx p l en R s m args below meth c Q D N0 T Wm ws0 A0 M nx) (hA : zy_le A0 A) (hv : ∀ q ∈ cur, zx_ve M q) (hR : zy_Rl D N0 T Wm ws0 A M s row st C e ls vs H locs) (hk : zyh_lcmp nx np cur row st C e = true) :
    ∃ x y r, vs = .long y :: .long x :: r ∧ W p l en R s m args below meth c H locs 0 0 Q (F0 m np ls (.int (lg_cmp x y) :: r)) := by
  unfold zyh_lcmp at hk
  obtain ⟨b, a, st, rfl, hk⟩ := zx_p2_s hk
  obtain ⟨q, hk⟩ := zx_bft hk
  obtain ⟨q1, q2⟩ := zx_and_b q
  have q1 : a % 16 = 5 := zx_beq_t q1
  have q2 : b % 16 = 5 := zx_beq_t q2
  obtain ⟨tys, ws, hW, hS, hl, hL, hT, hCR, hE, hU⟩ := hR
  obtain ⟨y, x, r, rfl, h1, h2, h3⟩ := zy_SR2 hT
  obtain ⟨-, y, rfl, -, h1c⟩ := (zy_r5 q2).mp h1
  obtain ⟨-, x, rfl, h2n, -⟩ := (zy_r5 q1).mp h2
  refine ⟨x, y, r, rfl, ?_⟩
  rcases zx_bif hk with ⟨q, hk⟩ | ⟨-, hk⟩
  · obtain ⟨g1, g2⟩ := zx_and_b q
    obtain ⟨g2, g3⟩ := zx_and_b g2
    obtain ⟨g3, g4⟩ := zx_and_b g3
    obtain ⟨g4, g5⟩ := zx_and_b g4
    have g1 : a / 16 % 2 = 1 := zx_beq_t g1
    have g2 : a / 16 / 2 < 64 := zx_blt_t g2
    have g3 : b / 16 % 2 = 0 := zx_beq_t g3
    have g4 : 0 < b / 16 := zx_blt_t g4
    have g5 : b / 16 < 52 := zx_blt_t g5
    rw [zx_fn_eq] at hk
    obtain ⟨ex1, ex2⟩ := h2n g1
    have ey := h1c g3 (by omega)
    refine hN _ _ _ _ _ _ _ hA hv hk _ _ _ _ ⟨tys, ws, hW, hS, hl, hL, ⟨?_, h3⟩, hCR, hE, hU⟩
    show zy_r A ((a / 16 / 2 + 256 * (b / 16 / 2 - 1)) * 16 + 12) _
    have e1 : ((a / 16 / 2 + 256 * (b / 16 / 2 - 1)) * 16 + 12) / 16 = a / 16 / 2 + 256 * (b / 16 / 2 - 1) := by omega
    have e2 : (a / 16 / 2 + 256 * (b / 16 / 2 - 1)) % 256 = a / 16 / 2 := by omega
    have e3 : (a / 16 / 2 + 256 * (b / 16 / 2 - 1)) / 256 = b / 16 / 2 - 1 := by omega
    rw [zy_r12 (by omega), e1, e2, e3, ← ex1, ← ey]
    exact ⟨by omega, rfl, ex2, by omega⟩
  · exact hN _ _ _ _ _ _ _ hA hv hk _ _ _ _ ⟨tys, ws, hW, hS, hl, hL, ⟨zy_r_un _, h3⟩, hCR, hE, hU⟩
theorem zy_cat1 {v : Nat} {x : Value} (h : zy_r A v x) (hk : Nat.beq (zx_kd v) 5 = false) : x.category = 1 := by rw [zy_r_cat h, hk]; rfl
theorem zz_dup {np : Nat} (hN : zy_Nx p l en R s m args below meth c Q D N0 T Wm ws0 A0 M nx) (hA : zy_le A0 A) (hv : ∀ q ∈ cur, zx_ve M q) (hR : zy_Rl D N0 T Wm ws0 A M s row st C e ls vs H locs) (hk : zyh_dup nx np cur row st C e = true) :
    ∃ x r, vs = x :: r ∧ x.category = 1 ∧ W p l en R s m args below meth c H locs 0 0 Q (F0 m np ls (x :: x :: r)) := by
  unfold zyh_dup at hk
  obtain ⟨a, st, rfl, hk⟩ := zx_p1_s hk
  rcases zx_bif hk with ⟨-, hk⟩ | ⟨q, hk⟩
  · cases hk
  obtain ⟨tys, ws, hW, hS, hl, hL, hT, hCR, hE, hU⟩ := hR
  obtain ⟨x, r, rfl, h1, h2⟩ := zy_SR1 hT
  exact ⟨x, r, rfl, zy_cat1 h1 q, hN _ _ _ _ _ _ _ hA hv hk _ _ _ _ ⟨tys, ws, hW, hS, hl, hL, ⟨h1, h1, h2⟩, hCR, hE, hU⟩⟩
theorem zz_pop {np : Nat} (hN : zy_Nx p l en R s m args below meth c Q D N0 T Wm ws0 A0 M nx) (hA : zy_le A0 A) (hv : ∀ q ∈ cur, zx_ve M q) (hR : zy_Rl D N0 T Wm ws0 A M s row st C e ls vs H locs) (hk : zyh_pop nx np cur row st C e = true) :
    ∃ x r, vs = x :: r ∧ x.category = 1 ∧ W p l en R s m args below meth c H locs 0 0 Q (F0 m np ls r) := by
  unfold zyh_pop at hk
  obtain ⟨a, st, rfl, hk⟩ := zx_p1_s hk
  rcases zx_bif hk with ⟨-, hk⟩ | ⟨q, hk⟩
  · cases hk
  obtain ⟨tys, ws, hW, hS, hl, hL, hT, hCR, hE, hU⟩ := hR
  obtain ⟨x, r, rfl, h1, h2⟩ := zy_SR1 hT
  exact ⟨x, r, rfl, zy_cat1 h1 q, hN _ _ _ _ _ _ _ hA hv hk _ _ _ _ ⟨tys, ws, hW, hS, hl, hL, h2, hCR, hE, hU⟩⟩
theorem zz_dup2 {np : Nat} (hN : zy_Nx p l en R s m args below meth c Q D N0 T Wm ws0 A0 M nx) (hA : zy_le A0 A) (hv : ∀ q ∈ cur, zx_ve M q) (hR : zy_Rl D N0 T Wm ws0 A M s row st C e ls vs H locs) (hk : zyh_dup2 nx np cur row st C e = true) :
    ∃ x y r, vs = y :: x :: r ∧ x.category = 1 ∧ y.category = 1 ∧ W p l en R s m args below meth c H locs 0 0 Q (F0 m np ls (y :: x :: y :: x :: r)) := by
  unfold zyh_dup2 at hk
  obtain ⟨b, a, st, rfl, hk⟩ := zx_p2_s hk
  rcases zx_bif hk with ⟨-, hk⟩ | ⟨q, hk⟩
  · cases hk
  obtain ⟨q1, q2⟩ := (Bool.or_eq_false_iff).mp q
  obtain ⟨tys, ws, hW, hS, hl, hL, hT, hCR, hE, hU⟩ := hR
  obtain ⟨y, x, r, rfl, h1, h2, h3⟩ := zy_SR2 hT
  exact ⟨x, y, r, rfl, zy_cat1 h2 q1, zy_cat1 h1 q2, hN _ _ _ _ _ _ _ hA hv hk _ _ _ _ ⟨tys, ws, hW, hS, hl, hL, ⟨h1, h2, h1, h2, h3⟩, hCR, hE, hU⟩⟩
/-- a jump -/
theorem zz_jp {a : Nat} (hN : zy_Nx p l en R s m args below meth c Q D N0 T Wm ws0 A0 M nx) (hA : zy_le A0 A) (hR : zy_Rl D N0 T Wm ws0 A M s row st C e ls vs H locs) (hk : zy_jp M nx a row st C e = true) :
    W p l en R s m args below meth c H locs 0 0 Q (F0 m a ls vs) := by
  obtain ⟨b, hb, hk⟩ := zx_bk_s _ hk
  exact hN _ _ _ _ _ _ _ hA (fun q hq => by cases hq) hk _ _ _ _ hR
theorem zz_icmp {a b np : Nat} (hb : b < 6) (hN : zy_Nx p l en R s m args below meth c Q D N0 T Wm ws0 A0 M nx) (hA : zy_le A0 A) (hv : ∀ q ∈ cur, zx_ve M q) (hR : zy_Rl D N0 T Wm ws0 A M s row st C e ls vs H locs) (hk : zyh_icmp M nx a b np cur row st C e = true) :
    ∃ x y r, vs = .int y :: .int x :: r ∧ (zx_cv b x y → W p l en R s m args below meth c H locs 0 0 Q (F0 m a ls r)) ∧ (¬ zx_cv b x y → W p l en R s m args below meth c H locs 0 0 Q (F0 m np ls r)) := by
  unfold zyh_icmp at hk
  obtain ⟨y0, x0, st, rfl, hk⟩ := zx_p2_s hk
  obtain ⟨q1, q2⟩ := zy_cm_i hk
  obtain ⟨tys, ws, hW, hS, hl, hL, hT, hCR, hE, hU⟩ := hR
  obtain ⟨y, x, r, rfl, h1, h2, h3⟩ := zy_SR2 hT
  obtain ⟨y, rfl⟩ := zy_r_i q2 h1
  obtain ⟨x, rfl⟩ := zy_r_i q1 h2
  obtain ⟨kt, kf⟩ := zy_cm_s hE h2 h1 hk hb
  refine ⟨x, y, r, rfl, fun z => ?_, fun z => ?_⟩
  · obtain ⟨e', hE', kt⟩ := kt z
    exact zz_jp hN hA ⟨tys, ws, hW, hS, hl, hL, h3, hCR, hE', hU⟩ kt
  · obtain ⟨e', hE', kf⟩ := kf z
    exact hN _ _ _ _ _ _ _ hA hv kf _ _ _ _ ⟨tys, ws, hW, hS, hl, hL, h3, hCR, hE', hU⟩
theorem zy_tb_s (K n : Nat) : zy_tb K n = K.testBit n := by
  unfold zy_tb
  rw [Nat.testBit_eq_decide_div_mod_eq]
  show Nat.beq ((K >>> n) % 2) 1 = _
  rw [Nat.shiftRight_eq_div_pow]
  cases h : Nat.beq (K / 2 ^ n % 2) 1
  · have := zx_beq_f h
    exact (decide_eq_false this).symm
  · have := zx_beq_t h
    exact (decide_eq_true this).symm
theorem zy_ev_lg {n F : Nat} (he : zy_ev A e) (hn : n < 64) (hF : F < 18446744073709551616) (h1 : F % 4294967296 ≠ 0 → zy_lu A n = zy_lc (F % 4294967296 - 1)) (h2 : ∀ j, j < 32 → (F / 4294967296).testBit j = true → zy_lu A n ≠ zy_lc j) : zy_ev A (zx_es e (192 + n) F) := by
  obtain ⟨g1, g2, g3, g4, g5, g6, g7, g8⟩ := he
  refine ⟨fun k hk => ?_, fun k hk => ?_, ?_, g4, g5, g6, g7, g8⟩
  · have := hk.2
    rw [zy_eg_other _ _ _ _ hF (by omega)]
    exact g1 k hk
  · by_cases q : k = n
    · subst q
      rw [zy_eg_same _ _ _ hF]
      exact ⟨h1, h2⟩
    · rw [zy_eg_other _ _ _ _ hF (by omega)]
      exact g2 k hk
  · rw [zy_eg_other _ _ _ _ hF (by omega)]
    exact g3
theorem zy_lcs_ok : ((List.range 25).all (fun i => (List.range 25).all (fun j => Nat.beq i j || decide (zy_lc i ≠ zy_lc j)))) = true := by decide +kernel
theorem zy_lc_inj {i j : Nat} (hi : i < 25) (hj : j < 25) (h : zy_lc i = zy_lc j) : i = j := by
  have h1 := List.all_eq_true.mp (List.all_eq_true.mp zy_lcs_ok i (List.mem_range.mpr hi)) j (List.mem_range.mpr hj)
  rcases (Bool.or_eq_true _ _).mp h1 with q | q
  · exact zx_beq_t q
  · exact absurd h (of_decide_eq_true q)
theorem zy_lq_s {n k : Nat} {kt kf : Nat → Bool} (he : zy_ev A e) (hn : n < zy_fl A) (hk25 : k < 25) (hk : zy_lq e n k kt kf = true) : ∃ e', zy_ev A e' ∧ (zy_lu A n = zy_lc k → kt e' = true) ∧ (zy_lu A n ≠ zy_lc k → kf e' = true) := by
  have hn64 : n < 64 := Nat.lt_of_lt_of_le hn he.2.2.2.2.2.1
  obtain ⟨f1, f2⟩ := he.2.1 n hn64
  unfold zy_lq at hk
  rw [zx_fn_eq] at hk
  have hF : zx_eg e (192 + n) < 18446744073709551616 := zx_dg_lt (by decide)
  have hk : (bif Nat.beq (zx_eg e (192 + n) % 4294967296) 0 then
    (bif zy_tb (zx_eg e (192 + n) / 4294967296) k then kf e else (zx_fn (zx_es e (192 + n) (zx_eg e (192 + n) + (k + 1))) kt && zx_fn (zx_es e (192 + n) (zx_eg e (192 + n) ||| 2 ^ (32 + k))) kf)) else
    bif Nat.beq (zx_eg e (192 + n) % 4294967296) (k + 1) then kt e else bif Nat.blt (zx_eg e (192 + n) % 4294967296) 26 then kf e else false) = true := hk
  generalize zx_eg e (192 + n) = F at hk f1 f2 hF
  rcases zx_bif hk with ⟨q, hk⟩ | ⟨q, hk⟩
  · have q := zx_beq_t q
    rcases zx_bif hk with ⟨q1, hk⟩ | ⟨q1, hk⟩
    · rw [zy_tb_s] at q1
      exact ⟨e, he, fun z => absurd z (f2 k (by omega) q1), fun _ => hk⟩
    · obtain ⟨k1, k2⟩ := zx_and_b hk
      rw [zx_fn_eq] at k1 k2
      rw [zy_tb_s] at q1
      by_cases z : zy_lu A n = zy_lc k
      · refine ⟨_, zy_ev_lg he hn64 (F := F + (k + 1)) (by omega) (fun _ => ?_) (fun j hj hb => ?_), fun _ => k1, fun y => absurd z y⟩
        · rw [show (F + (k + 1)) % 4294967296 - 1 = k by omega]
          exact z
        · rw [show (F + (k + 1)) / 4294967296 = F / 4294967296 by omega] at hb
          exact f2 j hj hb
      · have p32 : (4294967296 : Nat) = 2 ^ 32 := by decide
        have p64 : (18446744073709551616 : Nat) = 2 ^ 64 := by decide
        have hdiv : (F ||| 2 ^ (32 + k)) / 4294967296 = F / 4294967296 ||| 2 ^ k := by
          rw [p32, Nat.or_div_two_pow, Nat.pow_add, Nat.mul_div_cancel_left _ (Nat.pow_pos (by decide))]
        have hmod : (F ||| 2 ^ (32 + k)) % 4294967296 = 0 := by
          rw [p32, Nat.or_mod_two_pow, ← p32, q, p32, Nat.pow_add, Nat.mul_mod_right]
          rfl
        have hlt : F ||| 2 ^ (32 + k) < 18446744073709551616 := by
          rw [p64]
          exact Nat.or_lt_two_pow (by rw [← p64]; exact hF) (Nat.pow_lt_pow_right (by decide) (by omega))
        refine ⟨_, zy_ev_lg he hn64 (F := F ||| 2 ^ (32 + k)) hlt (fun y => absurd hmod y) (fun j hj hb => ?_), fun y => absurd y z, fun _ => k2⟩
        rw [hdiv, Nat.testBit_or, Nat.testBit_two_pow] at hb
        rcases (Bool.or_eq_true _ _).mp hb with w | w
        · exact f2 j hj w
        · have w := of_decide_eq_true w
          rw [← w]
          exact z
  · have q := zx_beq_f q
    have f1 := f1 q
    rcases zx_bif hk with ⟨q1, hk⟩ | ⟨q1, hk⟩
    · have q1 := zx_beq_t q1
      rw [q1] at f1
      exact ⟨e, he, fun _ => hk, fun z => absurd (by rw [f1]; rfl) z⟩
    · have q1 := zx_beq_f q1
      obtain ⟨q2, hk⟩ := zx_bft hk
      have q2 := zx_blt_t q2
      refine ⟨e, he, fun z => ?_, fun _ => hk⟩
      exfalso
      have := zy_lc_inj (by omega) hk25 (f1.symm.trans z)
      omega
end ZYS
end
