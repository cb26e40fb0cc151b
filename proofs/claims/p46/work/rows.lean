section
-- ===== PART A: goes FIRST, ahead of the names: the tables' words, and 'selects' of the private methods out of them =====
/-- a private method of a class that the tables say can be made, by its rows of tables_1 -/
def lw_okq (q : MethodName × Nat) : Prop := (q.1.cls ≠ "java/lang/invoke/MethodHandle" ∧ q.1.cls ≠ "java/lang/invoke/VarHandle") ∧ Cond.instantiable q.1.cls q.2 ∈ tables_1 ∧ Cond.privateMethod q.1 ∈ tables_1 ∧ Cond.instanceMethod q.1 ∈ tables_1
theorem lw_p0 : lw_okq (⟨"LaneDoors$Lexer", "takeWord", "()V"⟩, 7) := ⟨⟨by decide +kernel, by decide +kernel⟩, List.mem_of_getElem? (i := 181) (by decide +kernel), List.mem_of_getElem? (i := 525) (by decide +kernel), List.mem_of_getElem? (i := 526) (by decide +kernel)⟩
theorem lw_p1 : lw_okq (⟨"LaneDoors$Lexer", "wordKind", "()I"⟩, 7) := ⟨⟨by decide +kernel, by decide +kernel⟩, List.mem_of_getElem? (i := 181) (by decide +kernel), List.mem_of_getElem? (i := 529) (by decide +kernel), List.mem_of_getElem? (i := 530) (by decide +kernel)⟩
theorem lw_p2 : lw_okq (⟨"LaneDoors$Lexer", "takeNumber", "()V"⟩, 7) := ⟨⟨by decide +kernel, by decide +kernel⟩, List.mem_of_getElem? (i := 181) (by decide +kernel), List.mem_of_getElem? (i := 536) (by decide +kernel), List.mem_of_getElem? (i := 537) (by decide +kernel)⟩
theorem lw_p3 : lw_okq (⟨"LaneDoors$Reader", "readLine", "()Z"⟩, 7) := ⟨⟨by decide +kernel, by decide +kernel⟩, List.mem_of_getElem? (i := 48) (by decide +kernel), List.mem_of_getElem? (i := 600) (by decide +kernel), List.mem_of_getElem? (i := 601) (by decide +kernel)⟩
theorem lw_p4 : lw_okq (⟨"LaneDoors$Reader", "readLane", "()Z"⟩, 7) := ⟨⟨by decide +kernel, by decide +kernel⟩, List.mem_of_getElem? (i := 48) (by decide +kernel), List.mem_of_getElem? (i := 604) (by decide +kernel), List.mem_of_getElem? (i := 605) (by decide +kernel)⟩
theorem lw_p5 : lw_okq (⟨"LaneDoors$Reader", "readNewName", "([JI)Z"⟩, 7) := ⟨⟨by decide +kernel, by decide +kernel⟩, List.mem_of_getElem? (i := 48) (by decide +kernel), List.mem_of_getElem? (i := 609) (by decide +kernel), List.mem_of_getElem? (i := 610) (by decide +kernel)⟩
theorem lw_p6 : lw_okq (⟨"LaneDoors$Reader", "refuse", "(I)Z"⟩, 7) := ⟨⟨by decide +kernel, by decide +kernel⟩, List.mem_of_getElem? (i := 48) (by decide +kernel), List.mem_of_getElem? (i := 613) (by decide +kernel), List.mem_of_getElem? (i := 614) (by decide +kernel)⟩
theorem lw_p7 : lw_okq (⟨"LaneDoors$Reader", "expect", "(I)Z"⟩, 7) := ⟨⟨by decide +kernel, by decide +kernel⟩, List.mem_of_getElem? (i := 48) (by decide +kernel), List.mem_of_getElem? (i := 617) (by decide +kernel), List.mem_of_getElem? (i := 618) (by decide +kernel)⟩
theorem lw_p8 : lw_okq (⟨"LaneDoors$Reader", "readNumber", "(II)I"⟩, 7) := ⟨⟨by decide +kernel, by decide +kernel⟩, List.mem_of_getElem? (i := 48) (by decide +kernel), List.mem_of_getElem? (i := 621) (by decide +kernel), List.mem_of_getElem? (i := 622) (by decide +kernel)⟩
theorem lw_p9 : lw_okq (⟨"LaneDoors$Reader", "readDoor", "()Z"⟩, 7) := ⟨⟨by decide +kernel, by decide +kernel⟩, List.mem_of_getElem? (i := 48) (by decide +kernel), List.mem_of_getElem? (i := 629) (by decide +kernel), List.mem_of_getElem? (i := 630) (by decide +kernel)⟩
theorem lw_p10 : lw_okq (⟨"LaneDoors$Reader", "readLaneName", "()I"⟩, 7) := ⟨⟨by decide +kernel, by decide +kernel⟩, List.mem_of_getElem? (i := 48) (by decide +kernel), List.mem_of_getElem? (i := 633) (by decide +kernel), List.mem_of_getElem? (i := 634) (by decide +kernel)⟩
theorem lw_p11 : lw_okq (⟨"LaneDoors$Reader", "laneOfName", "()I"⟩, 7) := ⟨⟨by decide +kernel, by decide +kernel⟩, List.mem_of_getElem? (i := 48) (by decide +kernel), List.mem_of_getElem? (i := 637) (by decide +kernel), List.mem_of_getElem? (i := 638) (by decide +kernel)⟩
theorem lw_p12 : lw_okq (⟨"LaneDoors$Reader", "readHinge", "()Z"⟩, 7) := ⟨⟨by decide +kernel, by decide +kernel⟩, List.mem_of_getElem? (i := 48) (by decide +kernel), List.mem_of_getElem? (i := 650) (by decide +kernel), List.mem_of_getElem? (i := 651) (by decide +kernel)⟩
theorem lw_p13 : lw_okq (⟨"LaneDoors$Reader", "readSide", "()Z"⟩, 7) := ⟨⟨by decide +kernel, by decide +kernel⟩, List.mem_of_getElem? (i := 48) (by decide +kernel), List.mem_of_getElem? (i := 654) (by decide +kernel), List.mem_of_getElem? (i := 655) (by decide +kernel)⟩
theorem lw_p14 : lw_okq (⟨"LaneDoors$Reader", "readDoorWords", "()V"⟩, 7) := ⟨⟨by decide +kernel, by decide +kernel⟩, List.mem_of_getElem? (i := 48) (by decide +kernel), List.mem_of_getElem? (i := 665) (by decide +kernel), List.mem_of_getElem? (i := 666) (by decide +kernel)⟩
theorem lw_p15 : lw_okq (⟨"LaneDoors$Reader", "readCorner", "()Z"⟩, 7) := ⟨⟨by decide +kernel, by decide +kernel⟩, List.mem_of_getElem? (i := 48) (by decide +kernel), List.mem_of_getElem? (i := 669) (by decide +kernel), List.mem_of_getElem? (i := 670) (by decide +kernel)⟩
def lw_privs_1 : List (MethodName × Nat) := [(⟨"LaneDoors$Lexer", "takeWord", "()V"⟩, 7), (⟨"LaneDoors$Lexer", "wordKind", "()I"⟩, 7), (⟨"LaneDoors$Lexer", "takeNumber", "()V"⟩, 7), (⟨"LaneDoors$Reader", "readLine", "()Z"⟩, 7), (⟨"LaneDoors$Reader", "readLane", "()Z"⟩, 7), (⟨"LaneDoors$Reader", "readNewName", "([JI)Z"⟩, 7), (⟨"LaneDoors$Reader", "refuse", "(I)Z"⟩, 7), (⟨"LaneDoors$Reader", "expect", "(I)Z"⟩, 7), (⟨"LaneDoors$Reader", "readNumber", "(II)I"⟩, 7), (⟨"LaneDoors$Reader", "readDoor", "()Z"⟩, 7), (⟨"LaneDoors$Reader", "readLaneName", "()I"⟩, 7), (⟨"LaneDoors$Reader", "laneOfName", "()I"⟩, 7), (⟨"LaneDoors$Reader", "readHinge", "()Z"⟩, 7), (⟨"LaneDoors$Reader", "readSide", "()Z"⟩, 7), (⟨"LaneDoors$Reader", "readDoorWords", "()V"⟩, 7), (⟨"LaneDoors$Reader", "readCorner", "()Z"⟩, 7)]
theorem lw_r1 : ∀ q ∈ lw_privs_1, lw_okq q := List.forall_mem_cons.mpr ⟨lw_p0, List.forall_mem_cons.mpr ⟨lw_p1, List.forall_mem_cons.mpr ⟨lw_p2, List.forall_mem_cons.mpr ⟨lw_p3, List.forall_mem_cons.mpr ⟨lw_p4, List.forall_mem_cons.mpr ⟨lw_p5, List.forall_mem_cons.mpr ⟨lw_p6, List.forall_mem_cons.mpr ⟨lw_p7, List.forall_mem_cons.mpr ⟨lw_p8, List.forall_mem_cons.mpr ⟨lw_p9, List.forall_mem_cons.mpr ⟨lw_p10, List.forall_mem_cons.mpr ⟨lw_p11, List.forall_mem_cons.mpr ⟨lw_p12, List.forall_mem_cons.mpr ⟨lw_p13, List.forall_mem_cons.mpr ⟨lw_p14, List.forall_mem_cons.mpr ⟨lw_p15, fun _ h => absurd h List.not_mem_nil⟩⟩⟩⟩⟩⟩⟩⟩⟩⟩⟩⟩⟩⟩⟩⟩
theorem lw_p16 : lw_okq (⟨"LaneDoors$Reader", "beginOnce", "(I)Z"⟩, 7) := ⟨⟨by decide +kernel, by decide +kernel⟩, List.mem_of_getElem? (i := 48) (by decide +kernel), List.mem_of_getElem? (i := 682) (by decide +kernel), List.mem_of_getElem? (i := 683) (by decide +kernel)⟩
theorem lw_p17 : lw_okq (⟨"LaneDoors$Reader", "readChain", "(II)Z"⟩, 7) := ⟨⟨by decide +kernel, by decide +kernel⟩, List.mem_of_getElem? (i := 48) (by decide +kernel), List.mem_of_getElem? (i := 686) (by decide +kernel), List.mem_of_getElem? (i := 687) (by decide +kernel)⟩
theorem lw_p18 : lw_okq (⟨"LaneDoors$Reader", "readPart", "(II)Z"⟩, 7) := ⟨⟨by decide +kernel, by decide +kernel⟩, List.mem_of_getElem? (i := 48) (by decide +kernel), List.mem_of_getElem? (i := 690) (by decide +kernel), List.mem_of_getElem? (i := 691) (by decide +kernel)⟩
theorem lw_p19 : lw_okq (⟨"LaneDoors$Reader", "readOne", "(I)Z"⟩, 7) := ⟨⟨by decide +kernel, by decide +kernel⟩, List.mem_of_getElem? (i := 48) (by decide +kernel), List.mem_of_getElem? (i := 694) (by decide +kernel), List.mem_of_getElem? (i := 695) (by decide +kernel)⟩
theorem lw_p20 : lw_okq (⟨"LaneDoors$Reader", "readUnit", "(I)Z"⟩, 7) := ⟨⟨by decide +kernel, by decide +kernel⟩, List.mem_of_getElem? (i := 48) (by decide +kernel), List.mem_of_getElem? (i := 702) (by decide +kernel), List.mem_of_getElem? (i := 703) (by decide +kernel)⟩
theorem lw_p21 : lw_okq (⟨"LaneDoors$Reader", "readStock", "()Z"⟩, 7) := ⟨⟨by decide +kernel, by decide +kernel⟩, List.mem_of_getElem? (i := 48) (by decide +kernel), List.mem_of_getElem? (i := 712) (by decide +kernel), List.mem_of_getElem? (i := 713) (by decide +kernel)⟩
theorem lw_p22 : lw_okq (⟨"LaneDoors$Reader", "readDraw", "()Z"⟩, 7) := ⟨⟨by decide +kernel, by decide +kernel⟩, List.mem_of_getElem? (i := 48) (by decide +kernel), List.mem_of_getElem? (i := 716) (by decide +kernel), List.mem_of_getElem? (i := 717) (by decide +kernel)⟩
theorem lw_p23 : lw_okq (⟨"LaneDoors$Formula", "put", "(I)V"⟩, 5) := ⟨⟨by decide +kernel, by decide +kernel⟩, List.mem_of_getElem? (i := 60) (by decide +kernel), List.mem_of_getElem? (i := 839) (by decide +kernel), List.mem_of_getElem? (i := 840) (by decide +kernel)⟩
theorem lw_p24 : lw_okq (⟨"LaneDoors$Formula", "take", "()I"⟩, 5) := ⟨⟨by decide +kernel, by decide +kernel⟩, List.mem_of_getElem? (i := 60) (by decide +kernel), List.mem_of_getElem? (i := 843) (by decide +kernel), List.mem_of_getElem? (i := 844) (by decide +kernel)⟩
theorem lw_p25 : lw_okq (⟨"LaneDoors$Formula", "putOther", "(I)V"⟩, 5) := ⟨⟨by decide +kernel, by decide +kernel⟩, List.mem_of_getElem? (i := 60) (by decide +kernel), List.mem_of_getElem? (i := 850) (by decide +kernel), List.mem_of_getElem? (i := 851) (by decide +kernel)⟩
theorem lw_p26 : lw_okq (⟨"LaneDoors$History", "at", "(I)I"⟩, 4) := ⟨⟨by decide +kernel, by decide +kernel⟩, List.mem_of_getElem? (i := 291) (by decide +kernel), List.mem_of_getElem? (i := 877) (by decide +kernel), List.mem_of_getElem? (i := 878) (by decide +kernel)⟩
theorem lw_p27 : lw_okq (⟨"LaneDoors", "pushedShut", "(IIII)I"⟩, 12) := ⟨⟨by decide +kernel, by decide +kernel⟩, List.mem_of_getElem? (i := 24) (by decide +kernel), List.mem_of_getElem? (i := 912) (by decide +kernel), List.mem_of_getElem? (i := 913) (by decide +kernel)⟩
theorem lw_p28 : lw_okq (⟨"LaneDoors$History", "swap", "(LLaneDoors$State;)LLaneDoors$State;"⟩, 4) := ⟨⟨by decide +kernel, by decide +kernel⟩, List.mem_of_getElem? (i := 291) (by decide +kernel), List.mem_of_getElem? (i := 952) (by decide +kernel), List.mem_of_getElem? (i := 953) (by decide +kernel)⟩
theorem lw_p29 : lw_okq (⟨"LaneDoors", "isShutSet", "(I)Z"⟩, 12) := ⟨⟨by decide +kernel, by decide +kernel⟩, List.mem_of_getElem? (i := 24) (by decide +kernel), List.mem_of_getElem? (i := 972) (by decide +kernel), List.mem_of_getElem? (i := 973) (by decide +kernel)⟩
theorem lw_p30 : lw_okq (⟨"LaneDoors$Opener", "countOnward", "(II)I"⟩, 7) := ⟨⟨by decide +kernel, by decide +kernel⟩, List.mem_of_getElem? (i := 377) (by decide +kernel), List.mem_of_getElem? (i := 995) (by decide +kernel), List.mem_of_getElem? (i := 996) (by decide +kernel)⟩
theorem lw_p31 : lw_okq (⟨"LaneDoors$Opener", "comesNext", "(III)Z"⟩, 7) := ⟨⟨by decide +kernel, by decide +kernel⟩, List.mem_of_getElem? (i := 377) (by decide +kernel), List.mem_of_getElem? (i := 999) (by decide +kernel), List.mem_of_getElem? (i := 1000) (by decide +kernel)⟩
def lw_privs_2 : List (MethodName × Nat) := [(⟨"LaneDoors$Reader", "beginOnce", "(I)Z"⟩, 7), (⟨"LaneDoors$Reader", "readChain", "(II)Z"⟩, 7), (⟨"LaneDoors$Reader", "readPart", "(II)Z"⟩, 7), (⟨"LaneDoors$Reader", "readOne", "(I)Z"⟩, 7), (⟨"LaneDoors$Reader", "readUnit", "(I)Z"⟩, 7), (⟨"LaneDoors$Reader", "readStock", "()Z"⟩, 7), (⟨"LaneDoors$Reader", "readDraw", "()Z"⟩, 7), (⟨"LaneDoors$Formula", "put", "(I)V"⟩, 5), (⟨"LaneDoors$Formula", "take", "()I"⟩, 5), (⟨"LaneDoors$Formula", "putOther", "(I)V"⟩, 5), (⟨"LaneDoors$History", "at", "(I)I"⟩, 4), (⟨"LaneDoors", "pushedShut", "(IIII)I"⟩, 12), (⟨"LaneDoors$History", "swap", "(LLaneDoors$State;)LLaneDoors$State;"⟩, 4), (⟨"LaneDoors", "isShutSet", "(I)Z"⟩, 12), (⟨"LaneDoors$Opener", "countOnward", "(II)I"⟩, 7), (⟨"LaneDoors$Opener", "comesNext", "(III)Z"⟩, 7)]
theorem lw_r2 : ∀ q ∈ lw_privs_2, lw_okq q := List.forall_mem_cons.mpr ⟨lw_p16, List.forall_mem_cons.mpr ⟨lw_p17, List.forall_mem_cons.mpr ⟨lw_p18, List.forall_mem_cons.mpr ⟨lw_p19, List.forall_mem_cons.mpr ⟨lw_p20, List.forall_mem_cons.mpr ⟨lw_p21, List.forall_mem_cons.mpr ⟨lw_p22, List.forall_mem_cons.mpr ⟨lw_p23, List.forall_mem_cons.mpr ⟨lw_p24, List.forall_mem_cons.mpr ⟨lw_p25, List.forall_mem_cons.mpr ⟨lw_p26, List.forall_mem_cons.mpr ⟨lw_p27, List.forall_mem_cons.mpr ⟨lw_p28, List.forall_mem_cons.mpr ⟨lw_p29, List.forall_mem_cons.mpr ⟨lw_p30, List.forall_mem_cons.mpr ⟨lw_p31, fun _ h => absurd h List.not_mem_nil⟩⟩⟩⟩⟩⟩⟩⟩⟩⟩⟩⟩⟩⟩⟩⟩
theorem lw_p32 : lw_okq (⟨"LaneDoors$Opener", "yieldsBehind", "(II)Z"⟩, 7) := ⟨⟨by decide +kernel, by decide +kernel⟩, List.mem_of_getElem? (i := 377) (by decide +kernel), List.mem_of_getElem? (i := 1004) (by decide +kernel), List.mem_of_getElem? (i := 1005) (by decide +kernel)⟩
theorem lw_p33 : lw_okq (⟨"LaneDoors$Opener", "doorsOnward", "(II)I"⟩, 7) := ⟨⟨by decide +kernel, by decide +kernel⟩, List.mem_of_getElem? (i := 377) (by decide +kernel), List.mem_of_getElem? (i := 1013) (by decide +kernel), List.mem_of_getElem? (i := 1014) (by decide +kernel)⟩
theorem lw_p34 : lw_okq (⟨"LaneDoors", "mostOpen", "(II)I"⟩, 12) := ⟨⟨by decide +kernel, by decide +kernel⟩, List.mem_of_getElem? (i := 24) (by decide +kernel), List.mem_of_getElem? (i := 1032) (by decide +kernel), List.mem_of_getElem? (i := 1033) (by decide +kernel)⟩
theorem lw_p35 : lw_okq (⟨"LaneDoors$Opener", "markReached", "()V"⟩, 7) := ⟨⟨by decide +kernel, by decide +kernel⟩, List.mem_of_getElem? (i := 377) (by decide +kernel), List.mem_of_getElem? (i := 1040) (by decide +kernel), List.mem_of_getElem? (i := 1041) (by decide +kernel)⟩
theorem lw_p36 : lw_okq (⟨"LaneDoors$Opener", "lastOf", "(I)I"⟩, 7) := ⟨⟨by decide +kernel, by decide +kernel⟩, List.mem_of_getElem? (i := 377) (by decide +kernel), List.mem_of_getElem? (i := 1044) (by decide +kernel), List.mem_of_getElem? (i := 1045) (by decide +kernel)⟩
theorem lw_p37 : lw_okq (⟨"LaneDoors$Opener", "isReached", "(I)Z"⟩, 7) := ⟨⟨by decide +kernel, by decide +kernel⟩, List.mem_of_getElem? (i := 377) (by decide +kernel), List.mem_of_getElem? (i := 1048) (by decide +kernel), List.mem_of_getElem? (i := 1049) (by decide +kernel)⟩
theorem lw_p38 : lw_okq (⟨"LaneDoors$Opener", "isStuck", "(I)Z"⟩, 7) := ⟨⟨by decide +kernel, by decide +kernel⟩, List.mem_of_getElem? (i := 377) (by decide +kernel), List.mem_of_getElem? (i := 1063) (by decide +kernel), List.mem_of_getElem? (i := 1064) (by decide +kernel)⟩
theorem lw_p39 : lw_okq (⟨"LaneDoors", "neverBoth", "(III)Z"⟩, 12) := ⟨⟨by decide +kernel, by decide +kernel⟩, List.mem_of_getElem? (i := 24) (by decide +kernel), List.mem_of_getElem? (i := 1088) (by decide +kernel), List.mem_of_getElem? (i := 1089) (by decide +kernel)⟩
theorem lw_p40 : lw_okq (⟨"LaneDoors", "fewestTurned", "(I)I"⟩, 12) := ⟨⟨by decide +kernel, by decide +kernel⟩, List.mem_of_getElem? (i := 24) (by decide +kernel), List.mem_of_getElem? (i := 1096) (by decide +kernel), List.mem_of_getElem? (i := 1097) (by decide +kernel)⟩
theorem lw_p41 : lw_okq (⟨"LaneDoors$Streets", "walkOn", "(LLaneDoors$Plan;III)I"⟩, 5) := ⟨⟨by decide +kernel, by decide +kernel⟩, List.mem_of_getElem? (i := 406) (by decide +kernel), List.mem_of_getElem? (i := 1144) (by decide +kernel), List.mem_of_getElem? (i := 1145) (by decide +kernel)⟩
theorem lw_p42 : lw_okq (⟨"LaneDoors$Streets", "stepTo", "(IIII)V"⟩, 5) := ⟨⟨by decide +kernel, by decide +kernel⟩, List.mem_of_getElem? (i := 406) (by decide +kernel), List.mem_of_getElem? (i := 1148) (by decide +kernel), List.mem_of_getElem? (i := 1149) (by decide +kernel)⟩
theorem lw_p43 : lw_okq (⟨"LaneDoors$Opener", "winningMove", "(II)I"⟩, 7) := ⟨⟨by decide +kernel, by decide +kernel⟩, List.mem_of_getElem? (i := 377) (by decide +kernel), List.mem_of_getElem? (i := 1211) (by decide +kernel), List.mem_of_getElem? (i := 1212) (by decide +kernel)⟩
theorem lw_p44 : lw_okq (⟨"LaneDoors", "isTaleSet", "(I)Z"⟩, 12) := ⟨⟨by decide +kernel, by decide +kernel⟩, List.mem_of_getElem? (i := 24) (by decide +kernel), List.mem_of_getElem? (i := 1248) (by decide +kernel), List.mem_of_getElem? (i := 1249) (by decide +kernel)⟩
theorem lw_p45 : lw_okq (⟨"LaneDoors", "startTales", "(II)V"⟩, 12) := ⟨⟨by decide +kernel, by decide +kernel⟩, List.mem_of_getElem? (i := 24) (by decide +kernel), List.mem_of_getElem? (i := 1252) (by decide +kernel), List.mem_of_getElem? (i := 1253) (by decide +kernel)⟩
theorem lw_p46 : lw_okq (⟨"LaneDoorsModel", "clearBank", "()V"⟩, 72) := ⟨⟨by decide +kernel, by decide +kernel⟩, List.mem_of_getElem? (i := 1288) (by decide +kernel), List.mem_of_getElem? (i := 1294) (by decide +kernel), List.mem_of_getElem? (i := 1295) (by decide +kernel)⟩
theorem lw_p47 : lw_okq (⟨"LaneDoorsModel", "startAnew", "()V"⟩, 72) := ⟨⟨by decide +kernel, by decide +kernel⟩, List.mem_of_getElem? (i := 1288) (by decide +kernel), List.mem_of_getElem? (i := 1298) (by decide +kernel), List.mem_of_getElem? (i := 1299) (by decide +kernel)⟩
def lw_privs_3 : List (MethodName × Nat) := [(⟨"LaneDoors$Opener", "yieldsBehind", "(II)Z"⟩, 7), (⟨"LaneDoors$Opener", "doorsOnward", "(II)I"⟩, 7), (⟨"LaneDoors", "mostOpen", "(II)I"⟩, 12), (⟨"LaneDoors$Opener", "markReached", "()V"⟩, 7), (⟨"LaneDoors$Opener", "lastOf", "(I)I"⟩, 7), (⟨"LaneDoors$Opener", "isReached", "(I)Z"⟩, 7), (⟨"LaneDoors$Opener", "isStuck", "(I)Z"⟩, 7), (⟨"LaneDoors", "neverBoth", "(III)Z"⟩, 12), (⟨"LaneDoors", "fewestTurned", "(I)I"⟩, 12), (⟨"LaneDoors$Streets", "walkOn", "(LLaneDoors$Plan;III)I"⟩, 5), (⟨"LaneDoors$Streets", "stepTo", "(IIII)V"⟩, 5), (⟨"LaneDoors$Opener", "winningMove", "(II)I"⟩, 7), (⟨"LaneDoors", "isTaleSet", "(I)Z"⟩, 12), (⟨"LaneDoors", "startTales", "(II)V"⟩, 12), (⟨"LaneDoorsModel", "clearBank", "()V"⟩, 72), (⟨"LaneDoorsModel", "startAnew", "()V"⟩, 72)]
theorem lw_r3 : ∀ q ∈ lw_privs_3, lw_okq q := List.forall_mem_cons.mpr ⟨lw_p32, List.forall_mem_cons.mpr ⟨lw_p33, List.forall_mem_cons.mpr ⟨lw_p34, List.forall_mem_cons.mpr ⟨lw_p35, List.forall_mem_cons.mpr ⟨lw_p36, List.forall_mem_cons.mpr ⟨lw_p37, List.forall_mem_cons.mpr ⟨lw_p38, List.forall_mem_cons.mpr ⟨lw_p39, List.forall_mem_cons.mpr ⟨lw_p40, List.forall_mem_cons.mpr ⟨lw_p41, List.forall_mem_cons.mpr ⟨lw_p42, List.forall_mem_cons.mpr ⟨lw_p43, List.forall_mem_cons.mpr ⟨lw_p44, List.forall_mem_cons.mpr ⟨lw_p45, List.forall_mem_cons.mpr ⟨lw_p46, List.forall_mem_cons.mpr ⟨lw_p47, fun _ h => absurd h List.not_mem_nil⟩⟩⟩⟩⟩⟩⟩⟩⟩⟩⟩⟩⟩⟩⟩⟩
theorem lw_p48 : lw_okq (⟨"LaneDoorsModel", "goOn", "()V"⟩, 72) := ⟨⟨by decide +kernel, by decide +kernel⟩, List.mem_of_getElem? (i := 1288) (by decide +kernel), List.mem_of_getElem? (i := 1523) (by decide +kernel), List.mem_of_getElem? (i := 1524) (by decide +kernel)⟩
theorem lw_p49 : lw_okq (⟨"LaneDoorsModel", "sign", "(I)I"⟩, 72) := ⟨⟨by decide +kernel, by decide +kernel⟩, List.mem_of_getElem? (i := 1288) (by decide +kernel), List.mem_of_getElem? (i := 1527) (by decide +kernel), List.mem_of_getElem? (i := 1528) (by decide +kernel)⟩
theorem lw_p50 : lw_okq (⟨"LaneDoorsModel", "isGood", "()Z"⟩, 72) := ⟨⟨by decide +kernel, by decide +kernel⟩, List.mem_of_getElem? (i := 1288) (by decide +kernel), List.mem_of_getElem? (i := 1568) (by decide +kernel), List.mem_of_getElem? (i := 1569) (by decide +kernel)⟩
theorem lw_p51 : lw_okq (⟨"LaneDoorsModel", "readLine", "()V"⟩, 72) := ⟨⟨by decide +kernel, by decide +kernel⟩, List.mem_of_getElem? (i := 1288) (by decide +kernel), List.mem_of_getElem? (i := 1572) (by decide +kernel), List.mem_of_getElem? (i := 1573) (by decide +kernel)⟩
theorem lw_p52 : lw_okq (⟨"LaneDoorsModel", "isFull", "()Z"⟩, 72) := ⟨⟨by decide +kernel, by decide +kernel⟩, List.mem_of_getElem? (i := 1288) (by decide +kernel), List.mem_of_getElem? (i := 1576) (by decide +kernel), List.mem_of_getElem? (i := 1577) (by decide +kernel)⟩
theorem lw_p53 : lw_okq (⟨"LaneDoorsModel", "isWord", "(J)Z"⟩, 72) := ⟨⟨by decide +kernel, by decide +kernel⟩, List.mem_of_getElem? (i := 1288) (by decide +kernel), List.mem_of_getElem? (i := 1580) (by decide +kernel), List.mem_of_getElem? (i := 1581) (by decide +kernel)⟩
theorem lw_p54 : lw_okq (⟨"LaneDoorsModel", "misplaced", "()V"⟩, 72) := ⟨⟨by decide +kernel, by decide +kernel⟩, List.mem_of_getElem? (i := 1288) (by decide +kernel), List.mem_of_getElem? (i := 1584) (by decide +kernel), List.mem_of_getElem? (i := 1585) (by decide +kernel)⟩
theorem lw_p55 : lw_okq (⟨"LaneDoorsModel", "fails", "(II)V"⟩, 72) := ⟨⟨by decide +kernel, by decide +kernel⟩, List.mem_of_getElem? (i := 1288) (by decide +kernel), List.mem_of_getElem? (i := 1588) (by decide +kernel), List.mem_of_getElem? (i := 1589) (by decide +kernel)⟩
theorem lw_p56 : lw_okq (⟨"LaneDoorsModel", "readLane", "()V"⟩, 72) := ⟨⟨by decide +kernel, by decide +kernel⟩, List.mem_of_getElem? (i := 1288) (by decide +kernel), List.mem_of_getElem? (i := 1592) (by decide +kernel), List.mem_of_getElem? (i := 1593) (by decide +kernel)⟩
theorem lw_p57 : lw_okq (⟨"LaneDoorsModel", "laneHere", "()I"⟩, 72) := ⟨⟨by decide +kernel, by decide +kernel⟩, List.mem_of_getElem? (i := 1288) (by decide +kernel), List.mem_of_getElem? (i := 1596) (by decide +kernel), List.mem_of_getElem? (i := 1597) (by decide +kernel)⟩
theorem lw_p58 : lw_okq (⟨"LaneDoorsModel", "here", "([JII)I"⟩, 72) := ⟨⟨by decide +kernel, by decide +kernel⟩, List.mem_of_getElem? (i := 1288) (by decide +kernel), List.mem_of_getElem? (i := 1600) (by decide +kernel), List.mem_of_getElem? (i := 1601) (by decide +kernel)⟩
theorem lw_p59 : lw_okq (⟨"LaneDoorsModel", "fresh", "(I)J"⟩, 72) := ⟨⟨by decide +kernel, by decide +kernel⟩, List.mem_of_getElem? (i := 1288) (by decide +kernel), List.mem_of_getElem? (i := 1604) (by decide +kernel), List.mem_of_getElem? (i := 1605) (by decide +kernel)⟩
theorem lw_p60 : lw_okq (⟨"LaneDoorsModel", "after", "(JII)I"⟩, 72) := ⟨⟨by decide +kernel, by decide +kernel⟩, List.mem_of_getElem? (i := 1288) (by decide +kernel), List.mem_of_getElem? (i := 1608) (by decide +kernel), List.mem_of_getElem? (i := 1609) (by decide +kernel)⟩
theorem lw_p61 : lw_okq (⟨"LaneDoorsModel", "must", "(Z)V"⟩, 72) := ⟨⟨by decide +kernel, by decide +kernel⟩, List.mem_of_getElem? (i := 1288) (by decide +kernel), List.mem_of_getElem? (i := 1612) (by decide +kernel), List.mem_of_getElem? (i := 1613) (by decide +kernel)⟩
theorem lw_p62 : lw_okq (⟨"LaneDoorsModel", "numeral", "(II)I"⟩, 72) := ⟨⟨by decide +kernel, by decide +kernel⟩, List.mem_of_getElem? (i := 1288) (by decide +kernel), List.mem_of_getElem? (i := 1616) (by decide +kernel), List.mem_of_getElem? (i := 1617) (by decide +kernel)⟩
theorem lw_p63 : lw_okq (⟨"LaneDoorsModel", "readDoor", "()V"⟩, 72) := ⟨⟨by decide +kernel, by decide +kernel⟩, List.mem_of_getElem? (i := 1288) (by decide +kernel), List.mem_of_getElem? (i := 1620) (by decide +kernel), List.mem_of_getElem? (i := 1621) (by decide +kernel)⟩
def lw_privs_4 : List (MethodName × Nat) := [(⟨"LaneDoorsModel", "goOn", "()V"⟩, 72), (⟨"LaneDoorsModel", "sign", "(I)I"⟩, 72), (⟨"LaneDoorsModel", "isGood", "()Z"⟩, 72), (⟨"LaneDoorsModel", "readLine", "()V"⟩, 72), (⟨"LaneDoorsModel", "isFull", "()Z"⟩, 72), (⟨"LaneDoorsModel", "isWord", "(J)Z"⟩, 72), (⟨"LaneDoorsModel", "misplaced", "()V"⟩, 72), (⟨"LaneDoorsModel", "fails", "(II)V"⟩, 72), (⟨"LaneDoorsModel", "readLane", "()V"⟩, 72), (⟨"LaneDoorsModel", "laneHere", "()I"⟩, 72), (⟨"LaneDoorsModel", "here", "([JII)I"⟩, 72), (⟨"LaneDoorsModel", "fresh", "(I)J"⟩, 72), (⟨"LaneDoorsModel", "after", "(JII)I"⟩, 72), (⟨"LaneDoorsModel", "must", "(Z)V"⟩, 72), (⟨"LaneDoorsModel", "numeral", "(II)I"⟩, 72), (⟨"LaneDoorsModel", "readDoor", "()V"⟩, 72)]
theorem lw_r4 : ∀ q ∈ lw_privs_4, lw_okq q := List.forall_mem_cons.mpr ⟨lw_p48, List.forall_mem_cons.mpr ⟨lw_p49, List.forall_mem_cons.mpr ⟨lw_p50, List.forall_mem_cons.mpr ⟨lw_p51, List.forall_mem_cons.mpr ⟨lw_p52, List.forall_mem_cons.mpr ⟨lw_p53, List.forall_mem_cons.mpr ⟨lw_p54, List.forall_mem_cons.mpr ⟨lw_p55, List.forall_mem_cons.mpr ⟨lw_p56, List.forall_mem_cons.mpr ⟨lw_p57, List.forall_mem_cons.mpr ⟨lw_p58, List.forall_mem_cons.mpr ⟨lw_p59, List.forall_mem_cons.mpr ⟨lw_p60, List.forall_mem_cons.mpr ⟨lw_p61, List.forall_mem_cons.mpr ⟨lw_p62, List.forall_mem_cons.mpr ⟨lw_p63, fun _ h => absurd h List.not_mem_nil⟩⟩⟩⟩⟩⟩⟩⟩⟩⟩⟩⟩⟩⟩⟩⟩
theorem lw_p64 : lw_okq (⟨"LaneDoorsModel", "known", "(I)I"⟩, 72) := ⟨⟨by decide +kernel, by decide +kernel⟩, List.mem_of_getElem? (i := 1288) (by decide +kernel), List.mem_of_getElem? (i := 1624) (by decide +kernel), List.mem_of_getElem? (i := 1625) (by decide +kernel)⟩
theorem lw_p65 : lw_okq (⟨"LaneDoorsModel", "either", "(JJ)Z"⟩, 72) := ⟨⟨by decide +kernel, by decide +kernel⟩, List.mem_of_getElem? (i := 1288) (by decide +kernel), List.mem_of_getElem? (i := 1628) (by decide +kernel), List.mem_of_getElem? (i := 1629) (by decide +kernel)⟩
theorem lw_p66 : lw_okq (⟨"LaneDoorsModel", "isTaken", "(IZ)Z"⟩, 72) := ⟨⟨by decide +kernel, by decide +kernel⟩, List.mem_of_getElem? (i := 1288) (by decide +kernel), List.mem_of_getElem? (i := 1632) (by decide +kernel), List.mem_of_getElem? (i := 1633) (by decide +kernel)⟩
theorem lw_p67 : lw_okq (⟨"LaneDoorsModel", "perhaps", "(J)Z"⟩, 72) := ⟨⟨by decide +kernel, by decide +kernel⟩, List.mem_of_getElem? (i := 1288) (by decide +kernel), List.mem_of_getElem? (i := 1636) (by decide +kernel), List.mem_of_getElem? (i := 1637) (by decide +kernel)⟩
theorem lw_p68 : lw_okq (⟨"LaneDoorsModel", "readCorner", "()V"⟩, 72) := ⟨⟨by decide +kernel, by decide +kernel⟩, List.mem_of_getElem? (i := 1288) (by decide +kernel), List.mem_of_getElem? (i := 1640) (by decide +kernel), List.mem_of_getElem? (i := 1641) (by decide +kernel)⟩
theorem lw_p69 : lw_okq (⟨"LaneDoorsModel", "readRule", "()V"⟩, 72) := ⟨⟨by decide +kernel, by decide +kernel⟩, List.mem_of_getElem? (i := 1288) (by decide +kernel), List.mem_of_getElem? (i := 1644) (by decide +kernel), List.mem_of_getElem? (i := 1645) (by decide +kernel)⟩
theorem lw_p70 : lw_okq (⟨"LaneDoorsModel", "e", "()V"⟩, 72) := ⟨⟨by decide +kernel, by decide +kernel⟩, List.mem_of_getElem? (i := 1288) (by decide +kernel), List.mem_of_getElem? (i := 1648) (by decide +kernel), List.mem_of_getElem? (i := 1649) (by decide +kernel)⟩
theorem lw_p71 : lw_okq (⟨"LaneDoorsModel", "pushE", "(II)V"⟩, 72) := ⟨⟨by decide +kernel, by decide +kernel⟩, List.mem_of_getElem? (i := 1288) (by decide +kernel), List.mem_of_getElem? (i := 1652) (by decide +kernel), List.mem_of_getElem? (i := 1653) (by decide +kernel)⟩
theorem lw_p72 : lw_okq (⟨"LaneDoorsModel", "unit", "()Z"⟩, 72) := ⟨⟨by decide +kernel, by decide +kernel⟩, List.mem_of_getElem? (i := 1288) (by decide +kernel), List.mem_of_getElem? (i := 1656) (by decide +kernel), List.mem_of_getElem? (i := 1657) (by decide +kernel)⟩
theorem lw_p73 : lw_okq (⟨"LaneDoorsModel", "isSignHere", "(I)Z"⟩, 72) := ⟨⟨by decide +kernel, by decide +kernel⟩, List.mem_of_getElem? (i := 1288) (by decide +kernel), List.mem_of_getElem? (i := 1660) (by decide +kernel), List.mem_of_getElem? (i := 1661) (by decide +kernel)⟩
theorem lw_p74 : lw_okq (⟨"LaneDoorsModel", "wordHere", "()I"⟩, 72) := ⟨⟨by decide +kernel, by decide +kernel⟩, List.mem_of_getElem? (i := 1288) (by decide +kernel), List.mem_of_getElem? (i := 1664) (by decide +kernel), List.mem_of_getElem? (i := 1665) (by decide +kernel)⟩
theorem lw_p75 : lw_okq (⟨"LaneDoorsModel", "emit", "(II)V"⟩, 72) := ⟨⟨by decide +kernel, by decide +kernel⟩, List.mem_of_getElem? (i := 1288) (by decide +kernel), List.mem_of_getElem? (i := 1668) (by decide +kernel), List.mem_of_getElem? (i := 1669) (by decide +kernel)⟩
theorem lw_p76 : lw_okq (⟨"LaneDoorsModel", "behindUnit", "()Z"⟩, 72) := ⟨⟨by decide +kernel, by decide +kernel⟩, List.mem_of_getElem? (i := 1288) (by decide +kernel), List.mem_of_getElem? (i := 1672) (by decide +kernel), List.mem_of_getElem? (i := 1673) (by decide +kernel)⟩
theorem lw_p77 : lw_okq (⟨"LaneDoorsModel", "rankHere", "()I"⟩, 72) := ⟨⟨by decide +kernel, by decide +kernel⟩, List.mem_of_getElem? (i := 1288) (by decide +kernel), List.mem_of_getElem? (i := 1676) (by decide +kernel), List.mem_of_getElem? (i := 1677) (by decide +kernel)⟩
theorem lw_p78 : lw_okq (⟨"LaneDoorsModel", "isCompared", "()Z"⟩, 72) := ⟨⟨by decide +kernel, by decide +kernel⟩, List.mem_of_getElem? (i := 1288) (by decide +kernel), List.mem_of_getElem? (i := 1680) (by decide +kernel), List.mem_of_getElem? (i := 1681) (by decide +kernel)⟩
theorem lw_p79 : lw_okq (⟨"LaneDoorsModel", "isDoor", "(I)Z"⟩, 72) := ⟨⟨by decide +kernel, by decide +kernel⟩, List.mem_of_getElem? (i := 1288) (by decide +kernel), List.mem_of_getElem? (i := 1692) (by decide +kernel), List.mem_of_getElem? (i := 1693) (by decide +kernel)⟩
def lw_privs_5 : List (MethodName × Nat) := [(⟨"LaneDoorsModel", "known", "(I)I"⟩, 72), (⟨"LaneDoorsModel", "either", "(JJ)Z"⟩, 72), (⟨"LaneDoorsModel", "isTaken", "(IZ)Z"⟩, 72), (⟨"LaneDoorsModel", "perhaps", "(J)Z"⟩, 72), (⟨"LaneDoorsModel", "readCorner", "()V"⟩, 72), (⟨"LaneDoorsModel", "readRule", "()V"⟩, 72), (⟨"LaneDoorsModel", "e", "()V"⟩, 72), (⟨"LaneDoorsModel", "pushE", "(II)V"⟩, 72), (⟨"LaneDoorsModel", "unit", "()Z"⟩, 72), (⟨"LaneDoorsModel", "isSignHere", "(I)Z"⟩, 72), (⟨"LaneDoorsModel", "wordHere", "()I"⟩, 72), (⟨"LaneDoorsModel", "emit", "(II)V"⟩, 72), (⟨"LaneDoorsModel", "behindUnit", "()Z"⟩, 72), (⟨"LaneDoorsModel", "rankHere", "()I"⟩, 72), (⟨"LaneDoorsModel", "isCompared", "()Z"⟩, 72), (⟨"LaneDoorsModel", "isDoor", "(I)Z"⟩, 72)]
theorem lw_r5 : ∀ q ∈ lw_privs_5, lw_okq q := List.forall_mem_cons.mpr ⟨lw_p64, List.forall_mem_cons.mpr ⟨lw_p65, List.forall_mem_cons.mpr ⟨lw_p66, List.forall_mem_cons.mpr ⟨lw_p67, List.forall_mem_cons.mpr ⟨lw_p68, List.forall_mem_cons.mpr ⟨lw_p69, List.forall_mem_cons.mpr ⟨lw_p70, List.forall_mem_cons.mpr ⟨lw_p71, List.forall_mem_cons.mpr ⟨lw_p72, List.forall_mem_cons.mpr ⟨lw_p73, List.forall_mem_cons.mpr ⟨lw_p74, List.forall_mem_cons.mpr ⟨lw_p75, List.forall_mem_cons.mpr ⟨lw_p76, List.forall_mem_cons.mpr ⟨lw_p77, List.forall_mem_cons.mpr ⟨lw_p78, List.forall_mem_cons.mpr ⟨lw_p79, fun _ h => absurd h List.not_mem_nil⟩⟩⟩⟩⟩⟩⟩⟩⟩⟩⟩⟩⟩⟩⟩⟩
theorem lw_p80 : lw_okq (⟨"LaneDoorsModel", "many", "()I"⟩, 72) := ⟨⟨by decide +kernel, by decide +kernel⟩, List.mem_of_getElem? (i := 1288) (by decide +kernel), List.mem_of_getElem? (i := 1696) (by decide +kernel), List.mem_of_getElem? (i := 1697) (by decide +kernel)⟩
theorem lw_p81 : lw_okq (⟨"LaneDoorsModel", "lane", "(I)I"⟩, 72) := ⟨⟨by decide +kernel, by decide +kernel⟩, List.mem_of_getElem? (i := 1288) (by decide +kernel), List.mem_of_getElem? (i := 1703) (by decide +kernel), List.mem_of_getElem? (i := 1704) (by decide +kernel)⟩
theorem lw_p82 : lw_okq (⟨"LaneDoorsModel", "first", "(I)I"⟩, 72) := ⟨⟨by decide +kernel, by decide +kernel⟩, List.mem_of_getElem? (i := 1288) (by decide +kernel), List.mem_of_getElem? (i := 1707) (by decide +kernel), List.mem_of_getElem? (i := 1708) (by decide +kernel)⟩
theorem lw_p83 : lw_okq (⟨"LaneDoorsModel", "broad", "(I)I"⟩, 72) := ⟨⟨by decide +kernel, by decide +kernel⟩, List.mem_of_getElem? (i := 1288) (by decide +kernel), List.mem_of_getElem? (i := 1711) (by decide +kernel), List.mem_of_getElem? (i := 1712) (by decide +kernel)⟩
theorem lw_p84 : lw_okq (⟨"LaneDoorsModel", "hingeOf", "(II)I"⟩, 72) := ⟨⟨by decide +kernel, by decide +kernel⟩, List.mem_of_getElem? (i := 1288) (by decide +kernel), List.mem_of_getElem? (i := 1715) (by decide +kernel), List.mem_of_getElem? (i := 1716) (by decide +kernel)⟩
theorem lw_p85 : lw_okq (⟨"LaneDoorsModel", "layHinderers", "(I)V"⟩, 72) := ⟨⟨by decide +kernel, by decide +kernel⟩, List.mem_of_getElem? (i := 1288) (by decide +kernel), List.mem_of_getElem? (i := 1729) (by decide +kernel), List.mem_of_getElem? (i := 1730) (by decide +kernel)⟩
theorem lw_p86 : lw_okq (⟨"LaneDoorsModel", "doesHinder", "(III)Z"⟩, 72) := ⟨⟨by decide +kernel, by decide +kernel⟩, List.mem_of_getElem? (i := 1288) (by decide +kernel), List.mem_of_getElem? (i := 1733) (by decide +kernel), List.mem_of_getElem? (i := 1734) (by decide +kernel)⟩
theorem lw_p87 : lw_okq (⟨"LaneDoorsModel", "isSouth", "(I)Z"⟩, 72) := ⟨⟨by decide +kernel, by decide +kernel⟩, List.mem_of_getElem? (i := 1288) (by decide +kernel), List.mem_of_getElem? (i := 1737) (by decide +kernel), List.mem_of_getElem? (i := 1738) (by decide +kernel)⟩
theorem lw_p88 : lw_okq (⟨"LaneDoorsModel", "reach", "(I)I"⟩, 72) := ⟨⟨by decide +kernel, by decide +kernel⟩, List.mem_of_getElem? (i := 1288) (by decide +kernel), List.mem_of_getElem? (i := 1741) (by decide +kernel), List.mem_of_getElem? (i := 1742) (by decide +kernel)⟩
theorem lw_p89 : lw_okq (⟨"LaneDoorsModel", "wide", "(I)I"⟩, 72) := ⟨⟨by decide +kernel, by decide +kernel⟩, List.mem_of_getElem? (i := 1288) (by decide +kernel), List.mem_of_getElem? (i := 1745) (by decide +kernel), List.mem_of_getElem? (i := 1746) (by decide +kernel)⟩
theorem lw_p90 : lw_okq (⟨"LaneDoorsModel", "moving", "()I"⟩, 72) := ⟨⟨by decide +kernel, by decide +kernel⟩, List.mem_of_getElem? (i := 1288) (by decide +kernel), List.mem_of_getElem? (i := 1749) (by decide +kernel), List.mem_of_getElem? (i := 1750) (by decide +kernel)⟩
theorem lw_p91 : lw_okq (⟨"LaneDoorsModel", "canOpen", "(III)Z"⟩, 72) := ⟨⟨by decide +kernel, by decide +kernel⟩, List.mem_of_getElem? (i := 1288) (by decide +kernel), List.mem_of_getElem? (i := 1753) (by decide +kernel), List.mem_of_getElem? (i := 1754) (by decide +kernel)⟩
theorem lw_p92 : lw_okq (⟨"LaneDoorsModel", "isPlace", "(II)Z"⟩, 72) := ⟨⟨by decide +kernel, by decide +kernel⟩, List.mem_of_getElem? (i := 1288) (by decide +kernel), List.mem_of_getElem? (i := 1765) (by decide +kernel), List.mem_of_getElem? (i := 1766) (by decide +kernel)⟩
theorem lw_p93 : lw_okq (⟨"LaneDoorsModel", "isLane", "(I)Z"⟩, 72) := ⟨⟨by decide +kernel, by decide +kernel⟩, List.mem_of_getElem? (i := 1288) (by decide +kernel), List.mem_of_getElem? (i := 1769) (by decide +kernel), List.mem_of_getElem? (i := 1770) (by decide +kernel)⟩
theorem lw_p94 : lw_okq (⟨"LaneDoorsModel", "freeAt", "(III)I"⟩, 72) := ⟨⟨by decide +kernel, by decide +kernel⟩, List.mem_of_getElem? (i := 1288) (by decide +kernel), List.mem_of_getElem? (i := 1773) (by decide +kernel), List.mem_of_getElem? (i := 1774) (by decide +kernel)⟩
theorem lw_p95 : lw_okq (⟨"LaneDoorsModel", "oilOf", "(I)I"⟩, 72) := ⟨⟨by decide +kernel, by decide +kernel⟩, List.mem_of_getElem? (i := 1288) (by decide +kernel), List.mem_of_getElem? (i := 1781) (by decide +kernel), List.mem_of_getElem? (i := 1782) (by decide +kernel)⟩
def lw_privs_6 : List (MethodName × Nat) := [(⟨"LaneDoorsModel", "many", "()I"⟩, 72), (⟨"LaneDoorsModel", "lane", "(I)I"⟩, 72), (⟨"LaneDoorsModel", "first", "(I)I"⟩, 72), (⟨"LaneDoorsModel", "broad", "(I)I"⟩, 72), (⟨"LaneDoorsModel", "hingeOf", "(II)I"⟩, 72), (⟨"LaneDoorsModel", "layHinderers", "(I)V"⟩, 72), (⟨"LaneDoorsModel", "doesHinder", "(III)Z"⟩, 72), (⟨"LaneDoorsModel", "isSouth", "(I)Z"⟩, 72), (⟨"LaneDoorsModel", "reach", "(I)I"⟩, 72), (⟨"LaneDoorsModel", "wide", "(I)I"⟩, 72), (⟨"LaneDoorsModel", "moving", "()I"⟩, 72), (⟨"LaneDoorsModel", "canOpen", "(III)Z"⟩, 72), (⟨"LaneDoorsModel", "isPlace", "(II)Z"⟩, 72), (⟨"LaneDoorsModel", "isLane", "(I)Z"⟩, 72), (⟨"LaneDoorsModel", "freeAt", "(III)I"⟩, 72), (⟨"LaneDoorsModel", "oilOf", "(I)I"⟩, 72)]
theorem lw_r6 : ∀ q ∈ lw_privs_6, lw_okq q := List.forall_mem_cons.mpr ⟨lw_p80, List.forall_mem_cons.mpr ⟨lw_p81, List.forall_mem_cons.mpr ⟨lw_p82, List.forall_mem_cons.mpr ⟨lw_p83, List.forall_mem_cons.mpr ⟨lw_p84, List.forall_mem_cons.mpr ⟨lw_p85, List.forall_mem_cons.mpr ⟨lw_p86, List.forall_mem_cons.mpr ⟨lw_p87, List.forall_mem_cons.mpr ⟨lw_p88, List.forall_mem_cons.mpr ⟨lw_p89, List.forall_mem_cons.mpr ⟨lw_p90, List.forall_mem_cons.mpr ⟨lw_p91, List.forall_mem_cons.mpr ⟨lw_p92, List.forall_mem_cons.mpr ⟨lw_p93, List.forall_mem_cons.mpr ⟨lw_p94, List.forall_mem_cons.mpr ⟨lw_p95, fun _ h => absurd h List.not_mem_nil⟩⟩⟩⟩⟩⟩⟩⟩⟩⟩⟩⟩⟩⟩⟩⟩
theorem lw_p96 : lw_okq (⟨"LaneDoorsModel", "asked", "(III)I"⟩, 72) := ⟨⟨by decide +kernel, by decide +kernel⟩, List.mem_of_getElem? (i := 1288) (by decide +kernel), List.mem_of_getElem? (i := 1785) (by decide +kernel), List.mem_of_getElem? (i := 1786) (by decide +kernel)⟩
theorem lw_p97 : lw_okq (⟨"LaneDoorsModel", "keepAct", "()V"⟩, 72) := ⟨⟨by decide +kernel, by decide +kernel⟩, List.mem_of_getElem? (i := 1288) (by decide +kernel), List.mem_of_getElem? (i := 1797) (by decide +kernel), List.mem_of_getElem? (i := 1798) (by decide +kernel)⟩
theorem lw_p98 : lw_okq (⟨"LaneDoorsModel", "isIdle", "(I)Z"⟩, 72) := ⟨⟨by decide +kernel, by decide +kernel⟩, List.mem_of_getElem? (i := 1288) (by decide +kernel), List.mem_of_getElem? (i := 1809) (by decide +kernel), List.mem_of_getElem? (i := 1810) (by decide +kernel)⟩
theorem lw_p99 : lw_okq (⟨"LaneDoorsModel", "pushedBy", "(IIII)I"⟩, 72) := ⟨⟨by decide +kernel, by decide +kernel⟩, List.mem_of_getElem? (i := 1288) (by decide +kernel), List.mem_of_getElem? (i := 1821) (by decide +kernel), List.mem_of_getElem? (i := 1822) (by decide +kernel)⟩
theorem lw_p100 : lw_okq (⟨"LaneDoorsModel", "blows", "(I)I"⟩, 72) := ⟨⟨by decide +kernel, by decide +kernel⟩, List.mem_of_getElem? (i := 1288) (by decide +kernel), List.mem_of_getElem? (i := 1837) (by decide +kernel), List.mem_of_getElem? (i := 1838) (by decide +kernel)⟩
theorem lw_p101 : lw_okq (⟨"LaneDoorsModel", "blownBy", "(II)I"⟩, 72) := ⟨⟨by decide +kernel, by decide +kernel⟩, List.mem_of_getElem? (i := 1288) (by decide +kernel), List.mem_of_getElem? (i := 1841) (by decide +kernel), List.mem_of_getElem? (i := 1842) (by decide +kernel)⟩
theorem lw_p102 : lw_okq (⟨"LaneDoorsModel", "exchange", "()V"⟩, 72) := ⟨⟨by decide +kernel, by decide +kernel⟩, List.mem_of_getElem? (i := 1288) (by decide +kernel), List.mem_of_getElem? (i := 1865) (by decide +kernel), List.mem_of_getElem? (i := 1866) (by decide +kernel)⟩
theorem lw_p103 : lw_okq (⟨"LaneDoorsModel", "isShutSet", "(I)Z"⟩, 72) := ⟨⟨by decide +kernel, by decide +kernel⟩, List.mem_of_getElem? (i := 1288) (by decide +kernel), List.mem_of_getElem? (i := 1881) (by decide +kernel), List.mem_of_getElem? (i := 1882) (by decide +kernel)⟩
theorem lw_p104 : lw_okq (⟨"LaneDoorsModel", "isSet", "(I)Z"⟩, 72) := ⟨⟨by decide +kernel, by decide +kernel⟩, List.mem_of_getElem? (i := 1288) (by decide +kernel), List.mem_of_getElem? (i := 1885) (by decide +kernel), List.mem_of_getElem? (i := 1886) (by decide +kernel)⟩
theorem lw_p105 : lw_okq (⟨"LaneDoorsModel", "ordersBy", "(II)I"⟩, 72) := ⟨⟨by decide +kernel, by decide +kernel⟩, List.mem_of_getElem? (i := 1288) (by decide +kernel), List.mem_of_getElem? (i := 1889) (by decide +kernel), List.mem_of_getElem? (i := 1890) (by decide +kernel)⟩
theorem lw_p106 : lw_okq (⟨"LaneDoorsModel", "clearAhead", "()V"⟩, 72) := ⟨⟨by decide +kernel, by decide +kernel⟩, List.mem_of_getElem? (i := 1288) (by decide +kernel), List.mem_of_getElem? (i := 1893) (by decide +kernel), List.mem_of_getElem? (i := 1894) (by decide +kernel)⟩
theorem lw_p107 : lw_okq (⟨"LaneDoorsModel", "layWays", "(III)I"⟩, 72) := ⟨⟨by decide +kernel, by decide +kernel⟩, List.mem_of_getElem? (i := 1288) (by decide +kernel), List.mem_of_getElem? (i := 1897) (by decide +kernel), List.mem_of_getElem? (i := 1898) (by decide +kernel)⟩
theorem lw_p108 : lw_okq (⟨"LaneDoorsModel", "comesNext", "(IIIII)Z"⟩, 72) := ⟨⟨by decide +kernel, by decide +kernel⟩, List.mem_of_getElem? (i := 1288) (by decide +kernel), List.mem_of_getElem? (i := 1901) (by decide +kernel), List.mem_of_getElem? (i := 1902) (by decide +kernel)⟩
theorem lw_p109 : lw_okq (⟨"LaneDoorsModel", "layFirst", "(III)V"⟩, 72) := ⟨⟨by decide +kernel, by decide +kernel⟩, List.mem_of_getElem? (i := 1288) (by decide +kernel), List.mem_of_getElem? (i := 1905) (by decide +kernel), List.mem_of_getElem? (i := 1906) (by decide +kernel)⟩
theorem lw_p110 : lw_okq (⟨"LaneDoorsModel", "mostBy", "(II)I"⟩, 72) := ⟨⟨by decide +kernel, by decide +kernel⟩, List.mem_of_getElem? (i := 1288) (by decide +kernel), List.mem_of_getElem? (i := 1913) (by decide +kernel), List.mem_of_getElem? (i := 1914) (by decide +kernel)⟩
theorem lw_p111 : lw_okq (⟨"LaneDoorsModel", "layComes", "(III)V"⟩, 72) := ⟨⟨by decide +kernel, by decide +kernel⟩, List.mem_of_getElem? (i := 1288) (by decide +kernel), List.mem_of_getElem? (i := 1917) (by decide +kernel), List.mem_of_getElem? (i := 1918) (by decide +kernel)⟩
def lw_privs_7 : List (MethodName × Nat) := [(⟨"LaneDoorsModel", "asked", "(III)I"⟩, 72), (⟨"LaneDoorsModel", "keepAct", "()V"⟩, 72), (⟨"LaneDoorsModel", "isIdle", "(I)Z"⟩, 72), (⟨"LaneDoorsModel", "pushedBy", "(IIII)I"⟩, 72), (⟨"LaneDoorsModel", "blows", "(I)I"⟩, 72), (⟨"LaneDoorsModel", "blownBy", "(II)I"⟩, 72), (⟨"LaneDoorsModel", "exchange", "()V"⟩, 72), (⟨"LaneDoorsModel", "isShutSet", "(I)Z"⟩, 72), (⟨"LaneDoorsModel", "isSet", "(I)Z"⟩, 72), (⟨"LaneDoorsModel", "ordersBy", "(II)I"⟩, 72), (⟨"LaneDoorsModel", "clearAhead", "()V"⟩, 72), (⟨"LaneDoorsModel", "layWays", "(III)I"⟩, 72), (⟨"LaneDoorsModel", "comesNext", "(IIIII)Z"⟩, 72), (⟨"LaneDoorsModel", "layFirst", "(III)V"⟩, 72), (⟨"LaneDoorsModel", "mostBy", "(II)I"⟩, 72), (⟨"LaneDoorsModel", "layComes", "(III)V"⟩, 72)]
theorem lw_r7 : ∀ q ∈ lw_privs_7, lw_okq q := List.forall_mem_cons.mpr ⟨lw_p96, List.forall_mem_cons.mpr ⟨lw_p97, List.forall_mem_cons.mpr ⟨lw_p98, List.forall_mem_cons.mpr ⟨lw_p99, List.forall_mem_cons.mpr ⟨lw_p100, List.forall_mem_cons.mpr ⟨lw_p101, List.forall_mem_cons.mpr ⟨lw_p102, List.forall_mem_cons.mpr ⟨lw_p103, List.forall_mem_cons.mpr ⟨lw_p104, List.forall_mem_cons.mpr ⟨lw_p105, List.forall_mem_cons.mpr ⟨lw_p106, List.forall_mem_cons.mpr ⟨lw_p107, List.forall_mem_cons.mpr ⟨lw_p108, List.forall_mem_cons.mpr ⟨lw_p109, List.forall_mem_cons.mpr ⟨lw_p110, List.forall_mem_cons.mpr ⟨lw_p111, fun _ h => absurd h List.not_mem_nil⟩⟩⟩⟩⟩⟩⟩⟩⟩⟩⟩⟩⟩⟩⟩⟩
theorem lw_p112 : lw_okq (⟨"LaneDoorsModel", "isStuck", "(I)Z"⟩, 72) := ⟨⟨by decide +kernel, by decide +kernel⟩, List.mem_of_getElem? (i := 1288) (by decide +kernel), List.mem_of_getElem? (i := 1928) (by decide +kernel), List.mem_of_getElem? (i := 1929) (by decide +kernel)⟩
theorem lw_p113 : lw_okq (⟨"LaneDoorsModel", "oils", "(I)I"⟩, 72) := ⟨⟨by decide +kernel, by decide +kernel⟩, List.mem_of_getElem? (i := 1288) (by decide +kernel), List.mem_of_getElem? (i := 1936) (by decide +kernel), List.mem_of_getElem? (i := 1937) (by decide +kernel)⟩
theorem lw_p114 : lw_okq (⟨"LaneDoorsModel", "areFit", "(IIIII)Z"⟩, 72) := ⟨⟨by decide +kernel, by decide +kernel⟩, List.mem_of_getElem? (i := 1288) (by decide +kernel), List.mem_of_getElem? (i := 1968) (by decide +kernel), List.mem_of_getElem? (i := 1969) (by decide +kernel)⟩
theorem lw_p115 : lw_okq (⟨"LaneDoorsModel", "wayBy", "(IIIIIII)I"⟩, 72) := ⟨⟨by decide +kernel, by decide +kernel⟩, List.mem_of_getElem? (i := 1288) (by decide +kernel), List.mem_of_getElem? (i := 1972) (by decide +kernel), List.mem_of_getElem? (i := 1973) (by decide +kernel)⟩
theorem lw_p116 : lw_okq (⟨"LaneDoorsModel", "laySteps", "(IIII)V"⟩, 72) := ⟨⟨by decide +kernel, by decide +kernel⟩, List.mem_of_getElem? (i := 1288) (by decide +kernel), List.mem_of_getElem? (i := 1976) (by decide +kernel), List.mem_of_getElem? (i := 1977) (by decide +kernel)⟩
theorem lw_p117 : lw_okq (⟨"LaneDoorsModel", "comeTo", "(IIIII)V"⟩, 72) := ⟨⟨by decide +kernel, by decide +kernel⟩, List.mem_of_getElem? (i := 1288) (by decide +kernel), List.mem_of_getElem? (i := 1980) (by decide +kernel), List.mem_of_getElem? (i := 1981) (by decide +kernel)⟩
theorem lw_p118 : lw_okq (⟨"LaneDoorsModel", "isFreeFor", "(IIII)Z"⟩, 72) := ⟨⟨by decide +kernel, by decide +kernel⟩, List.mem_of_getElem? (i := 1288) (by decide +kernel), List.mem_of_getElem? (i := 1984) (by decide +kernel), List.mem_of_getElem? (i := 1985) (by decide +kernel)⟩
theorem lw_p119 : lw_okq (⟨"LaneDoorsModel", "winsBy", "(II)I"⟩, 72) := ⟨⟨by decide +kernel, by decide +kernel⟩, List.mem_of_getElem? (i := 1288) (by decide +kernel), List.mem_of_getElem? (i := 2016) (by decide +kernel), List.mem_of_getElem? (i := 2017) (by decide +kernel)⟩
theorem lw_p120 : lw_okq (⟨"LaneDoorsModel", "isTale", "(I)Z"⟩, 72) := ⟨⟨by decide +kernel, by decide +kernel⟩, List.mem_of_getElem? (i := 1288) (by decide +kernel), List.mem_of_getElem? (i := 2037) (by decide +kernel), List.mem_of_getElem? (i := 2038) (by decide +kernel)⟩
theorem lw_p121 : lw_okq (⟨"LaneDoorsModel", "layHeard", "(I)V"⟩, 72) := ⟨⟨by decide +kernel, by decide +kernel⟩, List.mem_of_getElem? (i := 1288) (by decide +kernel), List.mem_of_getElem? (i := 2041) (by decide +kernel), List.mem_of_getElem? (i := 2042) (by decide +kernel)⟩
def lw_privs_8 : List (MethodName × Nat) := [(⟨"LaneDoorsModel", "isStuck", "(I)Z"⟩, 72), (⟨"LaneDoorsModel", "oils", "(I)I"⟩, 72), (⟨"LaneDoorsModel", "areFit", "(IIIII)Z"⟩, 72), (⟨"LaneDoorsModel", "wayBy", "(IIIIIII)I"⟩, 72), (⟨"LaneDoorsModel", "laySteps", "(IIII)V"⟩, 72), (⟨"LaneDoorsModel", "comeTo", "(IIIII)V"⟩, 72), (⟨"LaneDoorsModel", "isFreeFor", "(IIII)Z"⟩, 72), (⟨"LaneDoorsModel", "winsBy", "(II)I"⟩, 72), (⟨"LaneDoorsModel", "isTale", "(I)Z"⟩, 72), (⟨"LaneDoorsModel", "layHeard", "(I)V"⟩, 72)]
theorem lw_r8 : ∀ q ∈ lw_privs_8, lw_okq q := List.forall_mem_cons.mpr ⟨lw_p112, List.forall_mem_cons.mpr ⟨lw_p113, List.forall_mem_cons.mpr ⟨lw_p114, List.forall_mem_cons.mpr ⟨lw_p115, List.forall_mem_cons.mpr ⟨lw_p116, List.forall_mem_cons.mpr ⟨lw_p117, List.forall_mem_cons.mpr ⟨lw_p118, List.forall_mem_cons.mpr ⟨lw_p119, List.forall_mem_cons.mpr ⟨lw_p120, List.forall_mem_cons.mpr ⟨lw_p121, fun _ h => absurd h List.not_mem_nil⟩⟩⟩⟩⟩⟩⟩⟩⟩⟩
def lw_privs : List (MethodName × Nat) := lw_privs_1 ++ (lw_privs_2 ++ (lw_privs_3 ++ (lw_privs_4 ++ (lw_privs_5 ++ (lw_privs_6 ++ (lw_privs_7 ++ (lw_privs_8)))))))
def lw_tbl : List Cond := k2_sels lw_privs ++ tables_1
theorem lw_privs_ok : ∀ q ∈ lw_privs, lw_okq q := by
  show ∀ q ∈ lw_privs_1 ++ (lw_privs_2 ++ (lw_privs_3 ++ (lw_privs_4 ++ (lw_privs_5 ++ (lw_privs_6 ++ (lw_privs_7 ++ (lw_privs_8))))))), lw_okq q
  exact List.forall_mem_append.mpr ⟨lw_r1, List.forall_mem_append.mpr ⟨lw_r2, List.forall_mem_append.mpr ⟨lw_r3, List.forall_mem_append.mpr ⟨lw_r4, List.forall_mem_append.mpr ⟨lw_r5, List.forall_mem_append.mpr ⟨lw_r6, List.forall_mem_append.mpr ⟨lw_r7, lw_r8⟩⟩⟩⟩⟩⟩⟩
end
section
def RX0 : String := "LaneDoors$Formula"
def TX0 : u_T := fun k => match k with
  | 0 => ("LaneDoors$Formula", "steps", "[I", true)
  | 1 => ("LaneDoors$Formula", "stack", "[I", true)
  | 2 => ("LaneDoors$Formula", "size", "I", false)
  | 3 => ("LaneDoors$Formula", "height", "I", false)
  | _ => ("LaneDoors$Formula", "units", "I", false)
def tyX0 : Nat → FieldType := fun k => match k with
  | 0 => .array .int
  | 1 => .array .int
  | 2 => .int
  | 3 => .int
  | _ => .int
theorem nmX0 : ∀ a, a < 5 → ∀ b, b < 5 → a ≠ b → (TX0 a).2.1 ≠ (TX0 b).2.1 := by decide +kernel
theorem tyX0_ok : ∀ k, k < 5 → parseFieldDescriptor (TX0 k).2.2.1 = some (tyX0 k) := by decide +kernel
def RX1 : String := "LaneDoors$Hearsay"
def TX1 : u_T := fun k => match k with
  | 0 => ("LaneDoors$Hearsay", "first", "[I", true)
  | 1 => ("LaneDoors$Hearsay", "second", "[I", true)
  | 2 => ("LaneDoors$Hearsay", "told", "[I", true)
  | 3 => ("LaneDoors$Hearsay", "untold", "[I", true)
  | 4 => ("LaneDoors$Hearsay", "count", "I", false)
  | _ => ("LaneDoors$Hearsay", "time", "I", false)
def tyX1 : Nat → FieldType := fun k => match k with
  | 0 => .array .int
  | 1 => .array .int
  | 2 => .array .int
  | 3 => .array .int
  | 4 => .int
  | _ => .int
theorem nmX1 : ∀ a, a < 6 → ∀ b, b < 6 → a ≠ b → (TX1 a).2.1 ≠ (TX1 b).2.1 := by decide +kernel
theorem tyX1_ok : ∀ k, k < 6 → parseFieldDescriptor (TX1 k).2.2.1 = some (tyX1 k) := by decide +kernel
def RX2 : String := "LaneDoors$History"
def TX2 : u_T := fun k => match k with
  | 0 => ("LaneDoors$History", "kept", "[LLaneDoors$State;", true)
  | 1 => ("LaneDoors$History", "first", "I", false)
  | 2 => ("LaneDoors$History", "done", "I", false)
  | _ => ("LaneDoors$History", "all", "I", false)
def tyX2 : Nat → FieldType := fun k => match k with
  | 0 => .array (.object "LaneDoors$State")
  | 1 => .int
  | 2 => .int
  | _ => .int
theorem nmX2 : ∀ a, a < 4 → ∀ b, b < 4 → a ≠ b → (TX2 a).2.1 ≠ (TX2 b).2.1 := by decide +kernel
theorem tyX2_ok : ∀ k, k < 4 → parseFieldDescriptor (TX2 k).2.2.1 = some (tyX2 k) := by decide +kernel
def RX3 : String := "LaneDoors$Lexer"
def TX3 : u_T := fun k => match k with
  | 0 => ("LaneDoors$Lexer", "tape", "LLaneDoors$Tape;", true)
  | 1 => ("LaneDoors$Lexer", "ownWords", "[J", true)
  | 2 => ("LaneDoors$Lexer", "next", "I", false)
  | 3 => ("LaneDoors$Lexer", "kind", "I", false)
  | 4 => ("LaneDoors$Lexer", "place", "I", false)
  | 5 => ("LaneDoors$Lexer", "number", "I", false)
  | _ => ("LaneDoors$Lexer", "word", "J", false)
def tyX3 : Nat → FieldType := fun k => match k with
  | 0 => .object "LaneDoors$Tape"
  | 1 => .array .long
  | 2 => .int
  | 3 => .int
  | 4 => .int
  | 5 => .int
  | _ => .long
theorem nmX3 : ∀ a, a < 7 → ∀ b, b < 7 → a ≠ b → (TX3 a).2.1 ≠ (TX3 b).2.1 := by decide +kernel
theorem tyX3_ok : ∀ k, k < 7 → parseFieldDescriptor (TX3 k).2.2.1 = some (tyX3 k) := by decide +kernel
def RX4 : String := "LaneDoors$Opener"
def TX4 : u_T := fun k => match k with
  | 0 => ("LaneDoors$Opener", "against", "[I", true)
  | 1 => ("LaneDoors$Opener", "earlier", "[I", true)
  | 2 => ("LaneDoors$Opener", "prices", "[I", true)
  | 3 => ("LaneDoors$Opener", "ways", "[I", true)
  | 4 => ("LaneDoors$Opener", "marks", "[Z", true)
  | 5 => ("LaneDoors$Opener", "open", "I", false)
  | _ => ("LaneDoors$Opener", "ready", "I", false)
def tyX4 : Nat → FieldType := fun k => match k with
  | 0 => .array .int
  | 1 => .array .int
  | 2 => .array .int
  | 3 => .array .int
  | 4 => .array .boolean
  | 5 => .int
  | _ => .int
theorem nmX4 : ∀ a, a < 7 → ∀ b, b < 7 → a ≠ b → (TX4 a).2.1 ≠ (TX4 b).2.1 := by decide +kernel
theorem tyX4_ok : ∀ k, k < 7 → parseFieldDescriptor (TX4 k).2.2.1 = some (tyX4 k) := by decide +kernel
def RX5 : String := "LaneDoors$Pile"
def TX5 : u_T := fun k => match k with
  | 0 => ("LaneDoors$Pile", "numbers", "[I", true)
  | _ => ("LaneDoors$Pile", "size", "I", false)
def tyX5 : Nat → FieldType := fun k => match k with
  | 0 => .array .int
  | _ => .int
theorem nmX5 : ∀ a, a < 2 → ∀ b, b < 2 → a ≠ b → (TX5 a).2.1 ≠ (TX5 b).2.1 := by decide +kernel
theorem tyX5_ok : ∀ k, k < 2 → parseFieldDescriptor (TX5 k).2.2.1 = some (tyX5 k) := by decide +kernel
def RX6 : String := "LaneDoors$Plan"
def TX6 : u_T := fun k => match k with
  | 0 => ("LaneDoors$Plan", "laneLong", "[I", true)
  | 1 => ("LaneDoors$Plan", "laneWide", "[I", true)
  | 2 => ("LaneDoors$Plan", "doorLane", "[I", true)
  | 3 => ("LaneDoors$Plan", "doorPlace", "[I", true)
  | 4 => ("LaneDoors$Plan", "doorBroad", "[I", true)
  | 5 => ("LaneDoors$Plan", "cornerFrom", "[I", true)
  | 6 => ("LaneDoors$Plan", "cornerTo", "[I", true)
  | 7 => ("LaneDoors$Plan", "oil", "LLaneDoors$Formula;", true)
  | 8 => ("LaneDoors$Plan", "lanes", "I", false)
  | 9 => ("LaneDoors$Plan", "doors", "I", false)
  | 10 => ("LaneDoors$Plan", "corners", "I", false)
  | 11 => ("LaneDoors$Plan", "south", "I", false)
  | 12 => ("LaneDoors$Plan", "right", "I", false)
  | 13 => ("LaneDoors$Plan", "loose", "I", false)
  | 14 => ("LaneDoors$Plan", "tied", "I", false)
  | 15 => ("LaneDoors$Plan", "open", "I", false)
  | 16 => ("LaneDoors$Plan", "stock", "I", false)
  | _ => ("LaneDoors$Plan", "draw", "I", false)
def tyX6 : Nat → FieldType := fun k => match k with
  | 0 => .array .int
  | 1 => .array .int
  | 2 => .array .int
  | 3 => .array .int
  | 4 => .array .int
  | 5 => .array .int
  | 6 => .array .int
  | 7 => .object "LaneDoors$Formula"
  | 8 => .int
  | 9 => .int
  | 10 => .int
  | 11 => .int
  | 12 => .int
  | 13 => .int
  | 14 => .int
  | 15 => .int
  | 16 => .int
  | _ => .int
theorem nmX6 : ∀ a, a < 18 → ∀ b, b < 18 → a ≠ b → (TX6 a).2.1 ≠ (TX6 b).2.1 := by decide +kernel
theorem tyX6_ok : ∀ k, k < 18 → parseFieldDescriptor (TX6 k).2.2.1 = some (tyX6 k) := by decide +kernel
def RX7 : String := "LaneDoors$Reader"
def TX7 : u_T := fun k => match k with
  | 0 => ("LaneDoors$Reader", "lexer", "LLaneDoors$Lexer;", true)
  | 1 => ("LaneDoors$Reader", "laneNames", "[J", true)
  | 2 => ("LaneDoors$Reader", "doorNames", "[J", true)
  | 3 => ("LaneDoors$Reader", "plan", "LLaneDoors$Plan;", false)
  | 4 => ("LaneDoors$Reader", "told", "I", false)
  | 5 => ("LaneDoors$Reader", "fault", "I", false)
  | _ => ("LaneDoors$Reader", "faultPlace", "I", false)
def tyX7 : Nat → FieldType := fun k => match k with
  | 0 => .object "LaneDoors$Lexer"
  | 1 => .array .long
  | 2 => .array .long
  | 3 => .object "LaneDoors$Plan"
  | 4 => .int
  | 5 => .int
  | _ => .int
theorem nmX7 : ∀ a, a < 7 → ∀ b, b < 7 → a ≠ b → (TX7 a).2.1 ≠ (TX7 b).2.1 := by decide +kernel
theorem tyX7_ok : ∀ k, k < 7 → parseFieldDescriptor (TX7 k).2.2.1 = some (tyX7 k) := by decide +kernel
def RX8 : String := "LaneDoors$State"
def TX8 : u_T := fun k => match k with
  | 0 => ("LaneDoors$State", "open", "I", false)
  | 1 => ("LaneDoors$State", "off", "I", false)
  | 2 => ("LaneDoors$State", "right", "I", false)
  | 3 => ("LaneDoors$State", "stock", "I", false)
  | 4 => ("LaneDoors$State", "day", "I", false)
  | 5 => ("LaneDoors$State", "seed", "I", false)
  | _ => ("LaneDoors$State", "times", "[I", true)
def tyX8 : Nat → FieldType := fun k => match k with
  | 0 => .int
  | 1 => .int
  | 2 => .int
  | 3 => .int
  | 4 => .int
  | 5 => .int
  | _ => .array .int
theorem nmX8 : ∀ a, a < 7 → ∀ b, b < 7 → a ≠ b → (TX8 a).2.1 ≠ (TX8 b).2.1 := by decide +kernel
theorem tyX8_ok : ∀ k, k < 7 → parseFieldDescriptor (TX8 k).2.2.1 = some (tyX8 k) := by decide +kernel
def RX9 : String := "LaneDoors$Streets"
def TX9 : u_T := fun k => match k with
  | 0 => ("LaneDoors$Streets", "free", "[I", true)
  | 1 => ("LaneDoors$Streets", "steps", "[I", true)
  | 2 => ("LaneDoors$Streets", "queue", "[I", true)
  | 3 => ("LaneDoors$Streets", "queued", "I", false)
  | _ => ("LaneDoors$Streets", "parts", "I", false)
def tyX9 : Nat → FieldType := fun k => match k with
  | 0 => .array .int
  | 1 => .array .int
  | 2 => .array .int
  | 3 => .int
  | _ => .int
theorem nmX9 : ∀ a, a < 5 → ∀ b, b < 5 → a ≠ b → (TX9 a).2.1 ≠ (TX9 b).2.1 := by decide +kernel
theorem tyX9_ok : ∀ k, k < 5 → parseFieldDescriptor (TX9 k).2.2.1 = some (tyX9 k) := by decide +kernel
def RX10 : String := "LaneDoors$Tape"
def TX10 : u_T := fun k => match k with
  | 0 => ("LaneDoors$Tape", "bytes", "[B", true)
  | _ => ("LaneDoors$Tape", "length", "I", false)
def tyX10 : Nat → FieldType := fun k => match k with
  | 0 => .array .byte
  | _ => .int
theorem nmX10 : ∀ a, a < 2 → ∀ b, b < 2 → a ≠ b → (TX10 a).2.1 ≠ (TX10 b).2.1 := by decide +kernel
theorem tyX10_ok : ∀ k, k < 2 → parseFieldDescriptor (TX10 k).2.2.1 = some (tyX10 k) := by decide +kernel
def RX11 : String := "LaneDoors"
def TX11 : u_T := fun k => match k with
  | 0 => ("LaneDoors", "tape", "LLaneDoors$Tape;", true)
  | 1 => ("LaneDoors", "reader", "LLaneDoors$Reader;", true)
  | 2 => ("LaneDoors", "history", "LLaneDoors$History;", true)
  | 3 => ("LaneDoors", "trial", "LLaneDoors$State;", true)
  | 4 => ("LaneDoors", "boxes", "[LLaneDoors$State;", true)
  | 5 => ("LaneDoors", "hearsay", "LLaneDoors$Hearsay;", true)
  | 6 => ("LaneDoors", "opener", "LLaneDoors$Opener;", true)
  | 7 => ("LaneDoors", "streets", "LLaneDoors$Streets;", true)
  | 8 => ("LaneDoors", "pile", "LLaneDoors$Pile;", true)
  | 9 => ("LaneDoors", "plan", "LLaneDoors$Plan;", false)
  | 10 => ("LaneDoors", "now", "LLaneDoors$State;", false)
  | _ => ("LaneDoors", "boxesKept", "I", false)
def tyX11 : Nat → FieldType := fun k => match k with
  | 0 => .object "LaneDoors$Tape"
  | 1 => .object "LaneDoors$Reader"
  | 2 => .object "LaneDoors$History"
  | 3 => .object "LaneDoors$State"
  | 4 => .array (.object "LaneDoors$State")
  | 5 => .object "LaneDoors$Hearsay"
  | 6 => .object "LaneDoors$Opener"
  | 7 => .object "LaneDoors$Streets"
  | 8 => .object "LaneDoors$Pile"
  | 9 => .object "LaneDoors$Plan"
  | 10 => .object "LaneDoors$State"
  | _ => .int
theorem nmX11 : ∀ a, a < 12 → ∀ b, b < 12 → a ≠ b → (TX11 a).2.1 ≠ (TX11 b).2.1 := by decide +kernel
theorem tyX11_ok : ∀ k, k < 12 → parseFieldDescriptor (TX11 k).2.2.1 = some (tyX11 k) := by decide +kernel
def RX12 : String := "LaneDoorsModel"
def TX12 : u_T := fun k => match k with
  | 0 => ("LaneDoorsModel", "tape", "[B", true)
  | 1 => ("LaneDoorsModel", "text", "[B", true)
  | 2 => ("LaneDoorsModel", "taped", "I", false)
  | 3 => ("LaneDoorsModel", "size", "I", false)
  | 4 => ("LaneDoorsModel", "faultKind", "I", false)
  | 5 => ("LaneDoorsModel", "faultPlace", "I", false)
  | 6 => ("LaneDoorsModel", "at", "I", false)
  | 7 => ("LaneDoorsModel", "end", "I", false)
  | 8 => ("LaneDoorsModel", "token", "I", false)
  | 9 => ("LaneDoorsModel", "number", "I", false)
  | 10 => ("LaneDoorsModel", "name", "J", false)
  | 11 => ("LaneDoorsModel", "lanes", "[I", true)
  | 12 => ("LaneDoorsModel", "doors", "[I", true)
  | 13 => ("LaneDoorsModel", "corners", "[I", true)
  | 14 => ("LaneDoorsModel", "units", "[I", true)
  | 15 => ("LaneDoorsModel", "stock", "[I", true)
  | 16 => ("LaneDoorsModel", "draw", "[I", true)
  | 17 => ("LaneDoorsModel", "longOf", "[I", true)
  | 18 => ("LaneDoorsModel", "wideOf", "[I", true)
  | 19 => ("LaneDoorsModel", "laneOf", "[I", true)
  | 20 => ("LaneDoorsModel", "placeOf", "[I", true)
  | 21 => ("LaneDoorsModel", "broadOf", "[I", true)
  | 22 => ("LaneDoorsModel", "oneLane", "[I", true)
  | 23 => ("LaneDoorsModel", "onePlace", "[I", true)
  | 24 => ("LaneDoorsModel", "otherLane", "[I", true)
  | 25 => ("LaneDoorsModel", "otherPlace", "[I", true)
  | 26 => ("LaneDoorsModel", "ruleFrom", "[I", true)
  | 27 => ("LaneDoorsModel", "ruleTo", "[I", true)
  | 28 => ("LaneDoorsModel", "toldOpen", "[I", true)
  | 29 => ("LaneDoorsModel", "toldRight", "[I", true)
  | 30 => ("LaneDoorsModel", "southern", "[I", true)
  | 31 => ("LaneDoorsModel", "loose", "[I", true)
  | 32 => ("LaneDoorsModel", "tied", "[I", true)
  | 33 => ("LaneDoorsModel", "isStock", "[Z", true)
  | 34 => ("LaneDoorsModel", "isDraw", "[Z", true)
  | 35 => ("LaneDoorsModel", "hasOil", "[Z", true)
  | 36 => ("LaneDoorsModel", "lName", "[J", true)
  | 37 => ("LaneDoorsModel", "dName", "[J", true)
  | 38 => ("LaneDoorsModel", "code", "[I", true)
  | 39 => ("LaneDoorsModel", "codeNumber", "[I", true)
  | 40 => ("LaneDoorsModel", "eWhat", "[I", true)
  | 41 => ("LaneDoorsModel", "eSign", "[I", true)
  | 42 => ("LaneDoorsModel", "pile", "[I", true)
  | 43 => ("LaneDoorsModel", "bank", "I", false)
  | 44 => ("LaneDoorsModel", "rb", "I", false)
  | 45 => ("LaneDoorsModel", "codes", "I", false)
  | 46 => ("LaneDoorsModel", "within", "I", false)
  | 47 => ("LaneDoorsModel", "piled", "I", false)
  | 48 => ("LaneDoorsModel", "unitsInRule", "I", false)
  | 49 => ("LaneDoorsModel", "all", "[I", true)
  | 50 => ("LaneDoorsModel", "hinderers", "[I", true)
  | 51 => ("LaneDoorsModel", "was", "[I", true)
  | 52 => ("LaneDoorsModel", "acts", "I", false)
  | 53 => ("LaneDoorsModel", "undone", "I", false)
  | 54 => ("LaneDoorsModel", "ways", "[I", true)
  | 55 => ("LaneDoorsModel", "ahead", "[I", true)
  | 56 => ("LaneDoorsModel", "laidRow", "[I", true)
  | 57 => ("LaneDoorsModel", "laid", "I", false)
  | 58 => ("LaneDoorsModel", "comesTo", "[Z", true)
  | 59 => ("LaneDoorsModel", "steps", "[I", true)
  | 60 => ("LaneDoorsModel", "queue", "[I", true)
  | 61 => ("LaneDoorsModel", "queued", "I", false)
  | 62 => ("LaneDoorsModel", "isMet", "[Z", true)
  | 63 => ("LaneDoorsModel", "wins", "[Z", true)
  | 64 => ("LaneDoorsModel", "hOne", "[I", true)
  | 65 => ("LaneDoorsModel", "hOther", "[I", true)
  | 66 => ("LaneDoorsModel", "hTold", "[I", true)
  | 67 => ("LaneDoorsModel", "hUntold", "[I", true)
  | 68 => ("LaneDoorsModel", "sounds", "I", false)
  | 69 => ("LaneDoorsModel", "time", "I", false)
  | 70 => ("LaneDoorsModel", "boxAll", "[I", true)
  | _ => ("LaneDoorsModel", "isBoxed", "[Z", true)
def tyX12 : Nat → FieldType := fun k => match k with
  | 0 => .array .byte
  | 1 => .array .byte
  | 2 => .int
  | 3 => .int
  | 4 => .int
  | 5 => .int
  | 6 => .int
  | 7 => .int
  | 8 => .int
  | 9 => .int
  | 10 => .long
  | 11 => .array .int
  | 12 => .array .int
  | 13 => .array .int
  | 14 => .array .int
  | 15 => .array .int
  | 16 => .array .int
  | 17 => .array .int
  | 18 => .array .int
  | 19 => .array .int
  | 20 => .array .int
  | 21 => .array .int
  | 22 => .array .int
  | 23 => .array .int
  | 24 => .array .int
  | 25 => .array .int
  | 26 => .array .int
  | 27 => .array .int
  | 28 => .array .int
  | 29 => .array .int
  | 30 => .array .int
  | 31 => .array .int
  | 32 => .array .int
  | 33 => .array .boolean
  | 34 => .array .boolean
  | 35 => .array .boolean
  | 36 => .array .long
  | 37 => .array .long
  | 38 => .array .int
  | 39 => .array .int
  | 40 => .array .int
  | 41 => .array .int
  | 42 => .array .int
  | 43 => .int
  | 44 => .int
  | 45 => .int
  | 46 => .int
  | 47 => .int
  | 48 => .int
  | 49 => .array .int
  | 50 => .array .int
  | 51 => .array .int
  | 52 => .int
  | 53 => .int
  | 54 => .array .int
  | 55 => .array .int
  | 56 => .array .int
  | 57 => .int
  | 58 => .array .boolean
  | 59 => .array .int
  | 60 => .array .int
  | 61 => .int
  | 62 => .array .boolean
  | 63 => .array .boolean
  | 64 => .array .int
  | 65 => .array .int
  | 66 => .array .int
  | 67 => .array .int
  | 68 => .int
  | 69 => .int
  | 70 => .array .int
  | _ => .array .boolean
theorem nmX12 : ∀ a, a < 72 → ∀ b, b < 72 → a ≠ b → (TX12 a).2.1 ≠ (TX12 b).2.1 := by decide +kernel
theorem tyX12_ok : ∀ k, k < 72 → parseFieldDescriptor (TX12 k).2.2.1 = some (tyX12 k) := by decide +kernel
abbrev vwCl : List vw_C := [(RX0, TX0, 5), (RX1, TX1, 6), (RX2, TX2, 4), (RX3, TX3, 7), (RX4, TX4, 7), (RX5, TX5, 2), (RX6, TX6, 18), (RX7, TX7, 7), (RX8, TX8, 7), (RX9, TX9, 5), (RX10, TX10, 2), (RX11, TX11, 12), (RX12, TX12, 72)]
end
section
/-! A walker over numbers. A value is 16 * payload + kind: kind 0 nothing, 1 a named int and a constant more (payload: name + 256 * constant as 32 bits), 2 the object at that place of the world, 3 null, 4 that int (as 32 bits), 5 a long (payload 0: some; 2 n + 1: the long named n; 2 n + 2: the n-th long constant), 6 something from outside, 7 some int between two bounds (payload: lower * 2^32 + upper, both with 2^31 added), 8 null or some object, 12 what lcmp says of a named long and a constant (payload: name + 256 * constant). A row of locals is a number with digits of 72 bits, what is known of the named ints one with digits of 64 bits (bounds as in kind 7). A cell is tag + 16 * n + 2^20 * its digits: tags 0 1 2 known ints, bytes, booleans (digits of 32 bits), 3 4 5 unknown ones between two bounds (64 bits, as in kind 7), 6 longs, 7 an object (n: its class; digits of 72 bits), 8 objects (digits of 72 bits, 0: null), 9 ints with a value each (digits of 72 bits), 15 not made yet. -/
abbrev zx_H : Type := List (List Nat)
abbrev zx_E : Type := Nat × Nat × Nat × Nat × Nat
abbrev zx_M : Type := (MethodName × ByteArray × Nat × Option FieldType) × (Nat × Nat × Nat × Nat × Nat × Nat) × List (Nat × List zx_E)
abbrev zx_N : Type := List zx_E → Nat → Nat → List Nat → zx_H → Nat → Nat → Nat → Nat → Bool
abbrev zx_K : Type := List Nat → zx_H → Nat → Nat → Bool
noncomputable def zx_fn (n : Nat) (k : Nat → Bool) : Bool := @Nat.rec (fun _ => Bool) (k 0) (fun m _ => k (Nat.succ m)) n
noncomputable def zx_at {α : Type} (l : List α) (i : Nat) (k : α → Bool) : Bool := @List.rec α (fun _ => Nat → Bool) (fun _ => false) (fun a _ ih i => @Nat.rec (fun _ => Bool) (k a) (fun j _ => ih j) i) l i
noncomputable def zx_up {α : Type} (l : List α) (i : Nat) (x : α) (k : List α → Bool) : Bool := @List.rec α (fun _ => Nat → (List α → Bool) → Bool) (fun _ _ => false) (fun a t ih i k => @Nat.rec (fun _ => Bool) (k (x :: t)) (fun j _ => ih j (fun t' => k (a :: t'))) i) l i k
noncomputable def zx_bk (t : List (Nat × List zx_E)) (pc : Nat) (k : List zx_E → Bool) : Bool := @List.rec (Nat × List zx_E) (fun _ => Bool) false (fun q _ ih => bif Nat.beq q.1 pc then k q.2 else ih) t
/-- the first of a stack -/
noncomputable def zx_p1 (st : List Nat) (k : Nat → List Nat → Bool) : Bool := @List.rec Nat (fun _ => Bool) false (fun a t _ => k a t) st
noncomputable def zx_p2 (st : List Nat) (k : Nat → Nat → List Nat → Bool) : Bool := zx_p1 st (fun y st => zx_p1 st (fun x st => k y x st))
noncomputable def zx_p3 (st : List Nat) (k : Nat → Nat → Nat → List Nat → Bool) : Bool := zx_p1 st (fun z st => zx_p1 st (fun y st => zx_p1 st (fun x st => k z y x st)))
def zx_dg (o w B c j : Nat) : Nat := Nat.mod (Nat.shiftRight c (Nat.add o (Nat.mul w j))) B
def zx_sd (o w B c j x : Nat) : Nat := Nat.xor c (Nat.shiftLeft (Nat.xor (zx_dg o w B c j) x) (Nat.add o (Nat.mul w j)))
def zx_lg (row i : Nat) : Nat := zx_dg 0 72 4722366482869645213696 row i
def zx_ls (row i v : Nat) : Nat := zx_sd 0 72 4722366482869645213696 row i v
def zx_eg (e i : Nat) : Nat := zx_dg 0 64 18446744073709551616 e i
def zx_es (e i v : Nat) : Nat := zx_sd 0 64 18446744073709551616 e i v
def zx_og (c i : Nat) : Nat := zx_dg 20 72 4722366482869645213696 c i
def zx_os (c i v : Nat) : Nat := zx_sd 20 72 4722366482869645213696 c i v
def zx_ig (c i : Nat) : Nat := zx_dg 20 32 4294967296 c i
def zx_is (c i v : Nat) : Nat := zx_sd 20 32 4294967296 c i v
noncomputable def zx_hg (h : zx_H) (i : Nat) (k : Nat → Bool) : Bool := zx_at h (Nat.div i 16) (fun l => zx_at l (Nat.mod i 16) k)
noncomputable def zx_hs (h : zx_H) (i x : Nat) (k : zx_H → Bool) : Bool := zx_at h (Nat.div i 16) (fun l => zx_up l (Nat.mod i 16) x (fun l' => zx_up h (Nat.div i 16) l' k))
def zx_bi (n : Nat) : Nat := Nat.mod (Nat.add n 2147483648) 4294967296
def zx_kd (v : Nat) : Nat := Nat.mod v 16
def zx_pl (v : Nat) : Nat := Nat.div v 16
def zx_c (n : Nat) : Nat := Nat.add (Nat.mul n 16) 4
/-- the kind is one of a mask's bits: 146 ints, 332 references, 32 longs -/
def zx_kc (m v : Nat) : Bool := Nat.beq (Nat.mod (Nat.shiftRight m (Nat.mod v 16)) 2) 1
def zx_un : Nat := 68719476727
/-- a named int: its name, its constant -/
def zx_k1 (v : Nat) : Nat := Nat.mod (Nat.div v 16) 256
def zx_o1 (v : Nat) : Nat := Nat.div (Nat.div v 16) 256
/-- bounds of an int -/
noncomputable def zx_iv (e v : Nat) (k : Nat → Nat → Bool) : Bool :=
  bif Nat.beq (zx_kd v) 4 then zx_fn (zx_bi (zx_pl v)) (fun b => k b b) else
  bif Nat.beq (zx_kd v) 7 then zx_fn (zx_pl v) (fun c => zx_fn (Nat.div c 4294967296) (fun l => zx_fn (Nat.mod c 4294967296) (fun h => k l h))) else
  bif Nat.beq (zx_kd v) 1 then zx_fn (zx_eg e (zx_k1 v)) (fun c => bif Nat.beq c 0 then false else zx_fn (Nat.div c 4294967296) (fun l => zx_fn (Nat.mod c 4294967296) (fun h => zx_fn (zx_o1 v) (fun o =>
    bif Nat.beq o 0 then k l h else
    bif Nat.blt o 2147483648 then (bif Nat.blt (Nat.add h o) 4294967296 then zx_fn (Nat.add l o) (fun l => zx_fn (Nat.add h o) (fun h => k l h)) else k 0 4294967295) else
    bif Nat.ble (Nat.sub 4294967296 o) l then zx_fn (Nat.sub l (Nat.sub 4294967296 o)) (fun l => zx_fn (Nat.sub h (Nat.sub 4294967296 o)) (fun h => k l h)) else k 0 4294967295)))) else false
def zx_bd (l h : Nat) : Nat := Nat.add (Nat.mul l 4294967296) h
def zx_c7v (l h : Nat) : Nat := Nat.add (Nat.mul (zx_bd l h) 16) 7
def zx_mx (a b : Nat) : Nat := bif Nat.ble a b then b else a
def zx_mn (a b : Nat) : Nat := bif Nat.ble a b then a else b
/-- an int is known to lie between l and h: what is known of its name then -/
noncomputable def zx_rf (e v l h : Nat) (k : Nat → Bool) : Bool :=
  bif Nat.beq (zx_kd v) 1 then zx_fn (zx_eg e (zx_k1 v)) (fun c => bif Nat.beq c 0 then false else zx_fn (Nat.div c 4294967296) (fun lv => zx_fn (Nat.mod c 4294967296) (fun hv => zx_fn (zx_o1 v) (fun o =>
    bif Nat.beq o 0 then zx_fn (zx_es e (zx_k1 v) (zx_bd (zx_mx l lv) (zx_mn h hv))) k else
    bif Nat.blt o 2147483648 then (bif Nat.blt (Nat.add hv o) 4294967296 then zx_fn (zx_es e (zx_k1 v) (zx_bd (zx_mx (Nat.sub l o) lv) (zx_mn (Nat.sub h o) hv))) k else k e) else
    bif Nat.ble (Nat.sub 4294967296 o) lv then zx_fn (zx_es e (zx_k1 v) (zx_bd (zx_mx (Nat.add l (Nat.sub 4294967296 o)) lv) (zx_mn (Nat.add h (Nat.sub 4294967296 o)) hv))) k else k e)))) else k e
/-- a value as it is known now -/
noncomputable def zx_no (e v : Nat) (k : Nat → Bool) : Bool :=
  bif zx_kc 130 v then zx_iv e v (fun l h => bif Nat.beq l h then zx_fn (zx_c (zx_bi l)) k else k v) else k v
def zx_ii (v : Nat) : Bool := zx_kc 146 v
/-- two ints, by their bounds -/
noncomputable def zx_w2 (e x y : Nat) (f : Nat → Nat → Nat → Nat → (Nat → Bool) → Bool) (k : Nat → Bool) : Bool := zx_iv e x (fun l1 h1 => zx_iv e y (fun l2 h2 => f l1 h1 l2 h2 k))
def zx_f0 (x y : Nat) : Nat := Nat.mod (Nat.add x y) 4294967296
def zx_f1 (x y : Nat) : Nat := Nat.mod (Nat.add x (Nat.sub 4294967296 y)) 4294967296
def zx_f2 (x y : Nat) : Nat := Nat.mod (Nat.mul x y) 4294967296
/-- both known: f; else by their bounds: g -/
noncomputable def zx_b2 (f : Nat → Nat → Nat) (g : Nat → Nat → Nat → Nat → (Nat → Bool) → Bool) (e x y : Nat) (k : Nat → Bool) : Bool :=
  bif Nat.beq (zx_kd x) 4 && Nat.beq (zx_kd y) 4 then zx_fn (zx_c (f (zx_pl x) (zx_pl y))) k else zx_w2 e x y g k
noncomputable def zx_wadd (l1 h1 l2 h2 : Nat) (k : Nat → Bool) : Bool := bif Nat.ble 2147483648 (Nat.add l1 l2) && Nat.blt (Nat.add h1 h2) 6442450944 then zx_fn (zx_c7v (Nat.sub (Nat.add l1 l2) 2147483648) (Nat.sub (Nat.add h1 h2) 2147483648)) k else k zx_un
noncomputable def zx_wsub (l1 h1 l2 h2 : Nat) (k : Nat → Bool) : Bool := bif Nat.ble h2 (Nat.add l1 2147483648) && Nat.blt (Nat.add h1 2147483648) (Nat.add 4294967296 l2) then zx_fn (zx_c7v (Nat.sub (Nat.add l1 2147483648) h2) (Nat.sub (Nat.add h1 2147483648) l2)) k else k zx_un
noncomputable def zx_wmul (l1 h1 l2 h2 : Nat) (k : Nat → Bool) : Bool := bif Nat.ble 2147483648 l1 && (Nat.ble 2147483648 l2 && Nat.blt (Nat.mul (Nat.sub h1 2147483648) (Nat.sub h2 2147483648)) 2147483648) then zx_fn (zx_c7v (Nat.add 2147483648 (Nat.mul (Nat.sub l1 2147483648) (Nat.sub l2 2147483648))) (Nat.add 2147483648 (Nat.mul (Nat.sub h1 2147483648) (Nat.sub h2 2147483648)))) k else k zx_un
noncomputable def zx_wand (l1 h1 l2 h2 : Nat) (k : Nat → Bool) : Bool := bif Nat.ble 2147483648 l1 then (bif Nat.ble 2147483648 l2 then zx_fn (zx_c7v 2147483648 (zx_mn h1 h2)) k else zx_fn (zx_c7v 2147483648 h1) k) else bif Nat.ble 2147483648 l2 then zx_fn (zx_c7v 2147483648 h2) k else k zx_un
def zx_pw (n : Nat) : Nat := Nat.sub (Nat.pow 2 (Nat.succ (Nat.log2 n))) 1
noncomputable def zx_wor (l1 h1 l2 h2 : Nat) (k : Nat → Bool) : Bool := bif Nat.ble 2147483648 l1 && Nat.ble 2147483648 l2 then zx_fn (zx_c7v 2147483648 (Nat.add 2147483648 (zx_pw (zx_mx (Nat.sub h1 2147483648) (Nat.sub h2 2147483648))))) k else k zx_un
noncomputable def zx_wshl (l1 h1 l2 h2 : Nat) (k : Nat → Bool) : Bool := bif Nat.ble 2147483648 l1 && (Nat.ble 2147483648 l2 && (Nat.blt h2 2147483679 && Nat.blt (Nat.mul (Nat.sub h1 2147483648) (Nat.pow 2 (Nat.sub h2 2147483648))) 2147483648)) then zx_fn (zx_c7v (Nat.add 2147483648 (Nat.mul (Nat.sub l1 2147483648) (Nat.pow 2 (Nat.sub l2 2147483648)))) (Nat.add 2147483648 (Nat.mul (Nat.sub h1 2147483648) (Nat.pow 2 (Nat.sub h2 2147483648))))) k else k zx_un
noncomputable def zx_wshr (l1 h1 _ _ : Nat) (k : Nat → Bool) : Bool := bif Nat.ble 2147483648 l1 then zx_fn (zx_c7v 2147483648 h1) k else k zx_un
noncomputable def zx_wun (_ _ _ _ : Nat) (k : Nat → Bool) : Bool := k zx_un
/-- a divisor that is not 0 -/
def zx_nz (l h : Nat) : Bool := Nat.blt 2147483648 l || Nat.blt h 2147483648
noncomputable def zx_wdiv (l1 h1 l2 h2 : Nat) (k : Nat → Bool) : Bool := bif zx_nz l2 h2 then (bif Nat.ble 2147483648 l1 && (Nat.beq l2 h2 && Nat.blt 2147483648 l2) then zx_fn (zx_c7v (Nat.add 2147483648 (Nat.div (Nat.sub l1 2147483648) (Nat.sub l2 2147483648))) (Nat.add 2147483648 (Nat.div (Nat.sub h1 2147483648) (Nat.sub l2 2147483648)))) k else k zx_un) else false
noncomputable def zx_wrem (l1 h1 l2 h2 : Nat) (k : Nat → Bool) : Bool := bif zx_nz l2 h2 then (bif Nat.ble 2147483648 l1 && (Nat.beq l2 h2 && Nat.blt 2147483648 l2) then zx_fn (zx_c7v 2147483648 (zx_mn h1 (Nat.pred l2))) k else k zx_un) else false
/-- a named int and a known one -/
noncomputable def zx_ad (e x y : Nat) (k : Nat → Bool) : Bool :=
  bif Nat.beq (zx_kd x) 1 && Nat.beq (zx_kd y) 4 then zx_fn (Nat.add (Nat.mul (Nat.add (zx_k1 x) (Nat.mul 256 (zx_f0 (zx_o1 x) (zx_pl y)))) 16) 1) k else
  bif Nat.beq (zx_kd y) 1 && Nat.beq (zx_kd x) 4 then zx_fn (Nat.add (Nat.mul (Nat.add (zx_k1 y) (Nat.mul 256 (zx_f0 (zx_o1 y) (zx_pl x)))) 16) 1) k else
  bif Nat.beq x 2497 && Nat.beq y 2481 then k 2513 else zx_b2 zx_f0 zx_wadd e x y k
noncomputable def zx_sb (e x y : Nat) (k : Nat → Bool) : Bool :=
  bif Nat.beq (zx_kd x) 1 && Nat.beq (zx_kd y) 4 then zx_fn (Nat.add (Nat.mul (Nat.add (zx_k1 x) (Nat.mul 256 (zx_f1 (zx_o1 x) (zx_pl y)))) 16) 1) k else zx_b2 zx_f1 zx_wsub e x y k
noncomputable def zx_an (e x y : Nat) (k : Nat → Bool) : Bool :=
  bif Nat.beq y 68719476724 && zx_ii x then k x else bif Nat.beq x 68719476724 && zx_ii y then k y else zx_b2 Nat.land zx_wand e x y k
def zx_g6 (x y : Nat) : Nat := Nat.mod (Nat.mul x (Nat.pow 2 y)) 4294967296
def zx_g7 (x y : Nat) : Nat := bif Nat.blt x 2147483648 then Nat.div x (Nat.pow 2 y) else Nat.sub 4294967295 (Nat.div (Nat.sub 4294967295 x) (Nat.pow 2 y))
def zx_g8 (x y : Nat) : Nat := Nat.div x (Nat.pow 2 y)
noncomputable def zx_sh (f : Nat → Nat → Nat) (g : Nat → Nat → Nat → Nat → (Nat → Bool) → Bool) (e x y : Nat) (k : Nat → Bool) : Bool :=
  bif Nat.beq (zx_kd x) 4 && (Nat.beq (zx_kd y) 4 && Nat.blt (zx_pl y) 32) then zx_fn (zx_c (f (zx_pl x) (zx_pl y))) k else zx_w2 e x y g k
noncomputable def zx_dv (f : Nat → Nat → Nat) (g : Nat → Nat → Nat → Nat → (Nat → Bool) → Bool) (e x y : Nat) (k : Nat → Bool) : Bool :=
  bif Nat.beq (zx_kd x) 4 && (Nat.beq (zx_kd y) 4 && (Nat.blt (zx_pl x) 2147483648 && (Nat.blt 0 (zx_pl y) && Nat.blt (zx_pl y) 2147483648))) then zx_fn (zx_c (f (zx_pl x) (zx_pl y))) k else zx_w2 e x y g k
def zx_n8 (x : Nat) : Nat := bif Nat.blt (Nat.mod x 256) 128 then Nat.mod x 256 else Nat.add (Nat.mod x 256) 4294967040
def zx_n16 (x : Nat) : Nat := Nat.mod x 65536
/-- a byte, a char: as it is, if it fits -/
noncomputable def zx_u1 (f : Nat → Nat) (lo hi : Nat) (e x : Nat) (k : Nat → Bool) : Bool := bif Nat.beq (zx_kd x) 4 then zx_fn (zx_c (f (zx_pl x))) k else zx_iv e x (fun l h => bif Nat.ble lo l && Nat.ble h hi then k x else zx_fn (zx_c7v lo hi) k)
noncomputable def zx_ng (e x : Nat) (k : Nat → Bool) : Bool := zx_iv e x (fun l h => bif Nat.ble 1 l then zx_fn (zx_c7v (Nat.sub 4294967296 h) (Nat.sub 4294967296 l)) k else k zx_un)
/-- which way a comparison goes, with what is known then -/
noncomputable def zx_lt (e x y : Nat) (kt kf : Nat → Bool) : Bool := zx_iv e x (fun l1 h1 => zx_iv e y (fun l2 h2 =>
  bif Nat.blt h1 l2 then kt e else bif Nat.ble h2 l1 then kf e else
  (zx_rf e x l1 (zx_mn h1 (Nat.pred h2)) (fun e => zx_rf e y (zx_mx l2 (Nat.succ l1)) h2 kt)) && (zx_rf e x (zx_mx l1 l2) h1 (fun e => zx_rf e y l2 (zx_mn h2 h1) kf))))
noncomputable def zx_eq (e x y : Nat) (kt kf : Nat → Bool) : Bool := zx_iv e x (fun l1 h1 => zx_iv e y (fun l2 h2 =>
  bif Nat.blt h1 l2 || Nat.blt h2 l1 then kf e else bif Nat.beq l1 h1 && Nat.beq l2 h2 then kt e else
  bif zx_kc 2 x && Nat.beq x y then kt e else
  (zx_rf e x (zx_mx l1 l2) (zx_mn h1 h2) (fun e => zx_rf e y (zx_mx l1 l2) (zx_mn h1 h2) kt)) &&
  (bif Nat.beq l2 h2 then (bif Nat.blt l1 l2 then zx_rf e x l1 (Nat.pred l2) kf else true) && (bif Nat.blt l2 h1 then zx_rf e x (Nat.succ l2) h1 kf else true) else
   bif Nat.beq l1 h1 then (bif Nat.blt l2 l1 then zx_rf e y l2 (Nat.pred l1) kf else true) && (bif Nat.blt l1 h2 then zx_rf e y (Nat.succ l1) h2 kf else true) else kf e)))
/-- conditions: 0 lt, 1 ge, 2 gt, 3 le, 4 eq, 5 ne -/
noncomputable def zx_cm (c e x y : Nat) (kt kf : Nat → Bool) : Bool :=
  bif Nat.ble c 1 then (bif Nat.beq c 0 then zx_lt e x y kt kf else zx_lt e x y kf kt) else
  bif Nat.ble c 3 then (bif Nat.beq c 2 then zx_lt e y x kt kf else zx_lt e y x kf kt) else
  (bif Nat.beq c 4 then zx_eq e x y kt kf else zx_eq e x y kf kt)
/-- a place of an array of n: surely within -/
noncomputable def zx_in (e i n : Nat) : Bool := zx_iv e i (fun l h => Nat.ble 2147483648 l && Nat.blt h (Nat.add n 2147483648))
/-- one of few (64 at most): each by itself -/
noncomputable def zx_sn (e i l : Nat) (k : Nat → Bool) (n : Nat) : Bool := @Nat.rec (fun _ => Bool) true (fun d ih => zx_fn (Nat.add l d) (fun v => zx_rf e i v v k) && ih) n
noncomputable def zx_sp (e i : Nat) (k : Nat → Bool) : Bool := zx_iv e i (fun l h => bif Nat.beq (zx_kd i) 1 && Nat.blt h (Nat.add l 64) then zx_sn e i l k (Nat.sub (Nat.succ h) l) else false)
def zx_hd (c : Nat) : Nat := Nat.mod c 1048576
def zx_tg (c : Nat) : Nat := Nat.mod c 16
def zx_cn (c : Nat) : Nat := Nat.div (Nat.mod c 1048576) 16
/-- what a store makes of an int: as it is, a byte, a bit -/
def zx_nr (t x : Nat) : Nat := bif Nat.beq t 0 then x else bif Nat.beq t 1 then zx_n8 x else Nat.mod x 2
/-- the bounds of an array's elements, as a value -/
def zx_ub (c : Nat) : Nat := Nat.add (Nat.mul (Nat.mod (Nat.shiftRight c 20) 18446744073709551616) 16) 7
/-- may a value of these bounds be stored there (t: the array's sort)? -/
def zx_sk (t c l h : Nat) : Bool := bif Nat.beq t 0 then Nat.ble (Nat.div (Nat.mod (Nat.shiftRight c 20) 18446744073709551616) 4294967296) l && Nat.ble h (Nat.mod (Nat.mod (Nat.shiftRight c 20) 18446744073709551616) 4294967296) else
  bif Nat.beq t 1 then Nat.ble (Nat.div (Nat.mod (Nat.shiftRight c 20) 18446744073709551616) 4294967296) 2147483520 && Nat.ble 2147483775 (Nat.mod (Nat.mod (Nat.shiftRight c 20) 18446744073709551616) 4294967296) else
  Nat.ble (Nat.div (Nat.mod (Nat.shiftRight c 20) 18446744073709551616) 4294967296) 2147483648 && Nat.ble 2147483649 (Nat.mod (Nat.mod (Nat.shiftRight c 20) 18446744073709551616) 4294967296)
end
section
/-! the walker's numbers are the machine's -/
theorem zx_fn_eq (n : Nat) (k : Nat → Bool) : zx_fn n k = k n := by cases n <;> rfl
theorem zx_and_b {a b : Bool} (h : (a && b) = true) : a = true ∧ b = true := by cases a <;> cases b <;> simp_all
theorem zx_bif {c a b : Bool} (h : (bif c then a else b) = true) : (c = true ∧ a = true) ∨ (c = false ∧ b = true) := by cases c <;> simp_all
theorem zx_bft {c a : Bool} (h : (bif c then a else false) = true) : c = true ∧ a = true := by cases c <;> simp_all
theorem zx_blt_f {a b : Nat} (h : Nat.blt a b = false) : b ≤ a := by
  rcases Nat.lt_or_ge a b with q | q
  · have : Nat.blt a b = true := Nat.ble_eq_true_of_le q
    rw [this] at h; cases h
  · exact q
theorem zx_blt_t {a b : Nat} (h : Nat.blt a b = true) : a < b := Nat.le_of_ble_eq_true h
theorem zx_ble_t {a b : Nat} (h : Nat.ble a b = true) : a ≤ b := Nat.le_of_ble_eq_true h
theorem zx_ble_f {a b : Nat} (h : Nat.ble a b = false) : b < a := by
  rcases Nat.lt_or_ge b a with q | q
  · exact q
  · have : Nat.ble a b = true := Nat.ble_eq_true_of_le q
    rw [this] at h; cases h
theorem zx_beq_t {a b : Nat} (h : Nat.beq a b = true) : a = b := Nat.eq_of_beq_eq_true h
theorem zx_beq_f {a b : Nat} (h : Nat.beq a b = false) : a ≠ b := fun e => by subst e; rw [Nat.beq_refl] at h; cases h
/-- lists -/
theorem zx_at_s {α : Type} {k : α → Bool} : ∀ (l : List α) (i : Nat), zx_at l i k = true → ∃ a, l[i]? = some a ∧ k a = true
  | [], _, h => by cases h
  | a :: l, 0, h => ⟨a, rfl, h⟩
  | _ :: l, i + 1, h => zx_at_s l i h
theorem zx_up_s {α : Type} {x : α} : ∀ (l : List α) (i : Nat) (k : List α → Bool), zx_up l i x k = true → i < l.length ∧ k (l.set i x) = true
  | [], _, _, h => by cases h
  | a :: l, 0, k, h => ⟨Nat.succ_pos _, h⟩
  | a :: l, i + 1, k, h => by
    obtain ⟨h1, h2⟩ := zx_up_s l i (fun t' => k (a :: t')) h
    exact ⟨Nat.succ_lt_succ h1, h2⟩
theorem zx_bk_s {pc : Nat} {k : List zx_E → Bool} : ∀ (t : List (Nat × List zx_E)), zx_bk t pc k = true → ∃ q ∈ t, k q.2 = true
  | [], h => by cases h
  | q :: t, h => by
    have h : (bif Nat.beq q.1 pc then k q.2 else zx_bk t pc k) = true := h
    rcases zx_bif h with ⟨-, h1⟩ | ⟨-, h1⟩
    · exact ⟨q, List.mem_cons_self, h1⟩
    · obtain ⟨q', m, h2⟩ := zx_bk_s t h1
      exact ⟨q', List.mem_cons_of_mem _ m, h2⟩
theorem zx_p1_s {st : List Nat} {k : Nat → List Nat → Bool} (h : zx_p1 st k = true) : ∃ a t, st = a :: t ∧ k a t = true := by
  cases st with
  | nil => cases h
  | cons a t => exact ⟨a, t, rfl, h⟩
theorem zx_p2_s {st : List Nat} {k : Nat → Nat → List Nat → Bool} (h : zx_p2 st k = true) : ∃ y x t, st = y :: x :: t ∧ k y x t = true := by
  obtain ⟨y, t, rfl, h1⟩ := zx_p1_s h
  obtain ⟨x, t, rfl, h2⟩ := zx_p1_s h1
  exact ⟨y, x, t, rfl, h2⟩
theorem zx_p3_s {st : List Nat} {k : Nat → Nat → Nat → List Nat → Bool} (h : zx_p3 st k = true) : ∃ z y x t, st = z :: y :: x :: t ∧ k z y x t = true := by
  obtain ⟨z, t, rfl, h1⟩ := zx_p1_s h
  obtain ⟨y, t, rfl, h2⟩ := zx_p1_s h1
  obtain ⟨x, t, rfl, h3⟩ := zx_p1_s h2
  exact ⟨z, y, x, t, rfl, h3⟩
/-! digits -/
theorem zx_dg_lt {o w B c j : Nat} (hB : B = 2 ^ w) : zx_dg o w B c j < B := Nat.mod_lt _ (by rw [hB]; exact Nat.pow_pos (by decide))
theorem zx_sd_same {o w B : Nat} (hB : B = 2 ^ w) (c j x : Nat) (hx : x < B) : zx_dg o w B (zx_sd o w B c j x) j = x := by
  subst hB
  show ((c ^^^ ((zx_dg o w (2 ^ w) c j ^^^ x) <<< (o + w * j))) >>> (o + w * j)) % 2 ^ w = x
  rw [Nat.shiftRight_xor_distrib, Nat.shiftLeft_shiftRight, Nat.xor_mod_two_pow]
  have h1 : (c >>> (o + w * j)) % 2 ^ w = zx_dg o w (2 ^ w) c j := rfl
  have h2 : (zx_dg o w (2 ^ w) c j ^^^ x) % 2 ^ w = zx_dg o w (2 ^ w) c j ^^^ x := Nat.mod_eq_of_lt (Nat.xor_lt_two_pow (zx_dg_lt rfl) hx)
  rw [h1, h2, ← Nat.xor_assoc, Nat.xor_self, Nat.zero_xor]
theorem zx_shz {d w k i : Nat} (hd : d < 2 ^ w) (h : i + w ≤ k ∨ k + w ≤ i) : (d <<< k) >>> i % 2 ^ w = 0 := by
  rw [Nat.shiftRight_eq_div_pow, Nat.shiftLeft_eq]
  rcases h with h | h
  · have e : k = i + (w + (k - i - w)) := by omega
    rw [e, Nat.pow_add, Nat.pow_add, Nat.mul_left_comm, Nat.mul_div_cancel_left _ (Nat.pow_pos (by decide)), ← Nat.mul_assoc, Nat.mul_comm d, Nat.mul_assoc, Nat.mul_mod_right]
  · have e : i = k + (w + (i - k - w)) := by omega
    have hlt : d * 2 ^ k / 2 ^ i = 0 := by
      apply Nat.div_eq_of_lt
      rw [e, Nat.pow_add, Nat.mul_comm]
      refine Nat.mul_lt_mul_of_pos_left ?_ (Nat.pow_pos (by decide))
      exact Nat.lt_of_lt_of_le hd (Nat.pow_le_pow_right (by decide) (by omega))
    rw [hlt, Nat.zero_mod]
theorem zx_sd_other {o w B : Nat} (hB : B = 2 ^ w) (c j x i : Nat) (hx : x < B) (hij : i ≠ j) : zx_dg o w B (zx_sd o w B c j x) i = zx_dg o w B c i := by
  subst hB
  show ((c ^^^ ((zx_dg o w (2 ^ w) c j ^^^ x) <<< (o + w * j))) >>> (o + w * i)) % 2 ^ w = (c >>> (o + w * i)) % 2 ^ w
  have hd : zx_dg o w (2 ^ w) c j ^^^ x < 2 ^ w := Nat.xor_lt_two_pow (zx_dg_lt rfl) hx
  rw [Nat.shiftRight_xor_distrib, Nat.xor_mod_two_pow, zx_shz hd, Nat.xor_zero]
  rcases Nat.lt_or_gt_of_ne hij with h | h
  · have := Nat.mul_le_mul_left w (show i + 1 ≤ j from h)
    rw [Nat.mul_add] at this
    omega
  · have := Nat.mul_le_mul_left w (show j + 1 ≤ i from h)
    rw [Nat.mul_add] at this
    omega
theorem zx_sd_low {o w B : Nat} (c j x : Nat) : zx_sd o w B c j x % 2 ^ o = c % 2 ^ o := by
  show (c ^^^ ((zx_dg o w B c j ^^^ x) <<< (o + w * j))) % 2 ^ o = c % 2 ^ o
  have h : (zx_dg o w B c j ^^^ x) <<< (o + w * j) % 2 ^ o = 0 := by
    rw [Nat.shiftLeft_eq, Nat.pow_add, Nat.mul_left_comm, Nat.mul_mod_right]
  rw [Nat.xor_mod_two_pow, h, Nat.xor_zero]
theorem zx_os_hd (c j x : Nat) : zx_hd (zx_os c j x) = zx_hd c := zx_sd_low (o := 20) c j x
theorem zx_is_hd (c j x : Nat) : zx_hd (zx_is c j x) = zx_hd c := zx_sd_low (o := 20) c j x
theorem zx_hd_tg {c c' : Nat} (h : zx_hd c = zx_hd c') : zx_tg c = zx_tg c' ∧ zx_cn c = zx_cn c' := by
  have h : c % 1048576 = c' % 1048576 := h
  refine ⟨?_, ?_⟩
  · show c % 16 = c' % 16
    omega
  · show c % 1048576 / 16 = c' % 1048576 / 16
    rw [h]
/-! ints -/
def zx_bz (x : Int32) : Nat := (x.toInt + 2147483648).toNat
theorem zx_rg (x : Int32) : -2147483648 ≤ x.toInt ∧ x.toInt < 2147483648 := ⟨Int32.le_toInt x, Int32.toInt_lt x⟩
theorem zx_bz_int (x : Int32) : (zx_bz x : Int) = x.toInt + 2147483648 := by
  have := zx_rg x
  unfold zx_bz
  omega
theorem zx_bz_lt (x : Int32) : zx_bz x < 4294967296 := by
  have h1 := zx_bz_int x
  have := zx_rg x
  omega
theorem zx_lt' (x y : Int32) : x < y ↔ zx_bz x < zx_bz y := by
  rw [Int32.lt_iff_toInt_lt]
  have h1 := zx_bz_int x
  have h2 := zx_bz_int y
  omega
theorem zx_eq' (x y : Int32) : x = y ↔ zx_bz x = zx_bz y := by
  rw [← Int32.toInt_inj]
  have h1 := zx_bz_int x
  have h2 := zx_bz_int y
  omega
theorem zx_le' (x y : Int32) : x ≤ y ↔ zx_bz x ≤ zx_bz y := by
  rw [Int32.le_iff_toInt_le]
  have h1 := zx_bz_int x
  have h2 := zx_bz_int y
  omega
theorem zx_nI_int (n : Nat) (h : n < 4294967296) : (nI n).toInt = if n < 2147483648 then (n : Int) else (n : Int) - 4294967296 := by
  have h1 : (nI n).toInt = (nI n).toBitVec.toInt := rfl
  rw [h1, BitVec.toInt_eq_toNat_cond, pk_tn (by omega)]
  split <;> split <;> omega
theorem zx_bi_eq (n : Nat) : zx_bi n = (n + 2147483648) % 4294967296 := rfl
theorem zx_bi_lt (n : Nat) : zx_bi n < 4294967296 := Nat.mod_lt _ (by decide)
theorem zx_bz_nI (n : Nat) (h : n < 4294967296) : zx_bz (nI n) = zx_bi n := by
  have h1 := zx_bz_int (nI n)
  rw [zx_nI_int n h] at h1
  rw [zx_bi_eq]
  split at h1 <;> omega
theorem zx_of_bz (x : Int32) : x = nI (zx_bi (zx_bz x)) := by
  have hl := zx_bz_lt x
  rw [zx_eq', zx_bz_nI _ (zx_bi_lt _), zx_bi_eq, zx_bi_eq]
  omega
theorem zx_md (n : Nat) : nI (n % 4294967296) = nI n := by
  have h : ∀ k : Nat, (nI k).toBitVec = BitVec.ofNat 32 k := fun k => rfl
  apply Int32.toBitVec_inj.mp
  rw [h, h]
  apply BitVec.eq_of_toNat_eq
  simp
theorem zx_and' (a b : Nat) : nI a &&& nI b = nI (a &&& b) := by
  apply Int32.toBitVec_inj.1
  show BitVec.ofNat 32 a &&& BitVec.ofNat 32 b = BitVec.ofNat 32 (a &&& b)
  apply BitVec.eq_of_getLsbD_eq
  intro i hi
  simp [hi]
theorem zx_or' (a b : Nat) : nI a ||| nI b = nI (a ||| b) := by
  apply Int32.toBitVec_inj.1
  show BitVec.ofNat 32 a ||| BitVec.ofNat 32 b = BitVec.ofNat 32 (a ||| b)
  apply BitVec.eq_of_getLsbD_eq
  intro i hi
  simp [hi]
theorem zx_xor' (a b : Nat) : nI a ^^^ nI b = nI (a ^^^ b) := by
  apply Int32.toBitVec_inj.1
  show BitVec.ofNat 32 a ^^^ BitVec.ofNat 32 b = BitVec.ofNat 32 (a ^^^ b)
  apply BitVec.eq_of_getLsbD_eq
  intro i hi
  simp [hi]
theorem zx_sl' : ∀ n, n < 32 → ((nI n &&& 31).toBitVec.smod 32).toNat = n := by decide +kernel
theorem zx_su' : ∀ n, n < 32 → (((nI n).toUInt32 &&& Int32.toUInt32 31).toBitVec % 32).toNat = n := by decide +kernel
theorem zx_sub' (x y : Nat) (hy : y < 4294967296) : nI x - nI y = nI (zx_f1 x y) := by
  show _ = nI ((x + (4294967296 - y)) % 4294967296)
  rw [zx_md]
  have h : nI x = nI (x + (4294967296 - y)) + nI y := by
    rw [nI_add, ← zx_md x, ← zx_md (x + (4294967296 - y) + y)]
    congr 1
    omega
  rw [h, Int32.add_sub_cancel]
theorem zx_shl' (x y : Nat) (hx : x < 4294967296) (hy : y < 32) : nI x <<< (nI y &&& 31) = nI (zx_g6 x y) := by
  apply Int32.toBitVec_inj.1
  apply BitVec.eq_of_toNat_eq
  rw [pk_shl (nI x) (nI y &&& 31) y (zx_sl' y hy), pk_tn (by omega)]
  show _ = (nI ((x * 2 ^ y) % 4294967296)).toBitVec.toNat
  rw [pk_tn (Nat.mod_lt _ (by decide))]
theorem zx_g7_lt (x y : Nat) (hx : x < 4294967296) : zx_g7 x y < 4294967296 := by
  have hd : x / 2 ^ y ≤ x := Nat.div_le_self _ _
  show (bif Nat.blt x 2147483648 then x / 2 ^ y else 4294967295 - (4294967295 - x) / 2 ^ y) < 4294967296
  cases Nat.blt x 2147483648
  · exact Nat.lt_of_le_of_lt (Nat.sub_le _ _) (by decide)
  · exact Nat.lt_of_le_of_lt hd hx
theorem zx_shr' (x y : Nat) (hx : x < 4294967296) (hy : y < 32) : nI x >>> (nI y &&& 31) = nI (zx_g7 x y) := by
  apply Int32.toInt_inj.1
  have hl := zx_g7_lt x y hx
  have hd : x / 2 ^ y ≤ x := Nat.div_le_self _ _
  rw [pk_shr (nI x) (nI y &&& 31) y (zx_sl' y hy), zx_nI_int _ hx, zx_nI_int _ hl, Int.shiftRight_eq_div_pow]
  show _ = if (bif Nat.blt x 2147483648 then x / 2 ^ y else 4294967295 - (4294967295 - x) / 2 ^ y) < 2147483648 then ((bif Nat.blt x 2147483648 then x / 2 ^ y else 4294967295 - (4294967295 - x) / 2 ^ y : Nat) : Int) else ((bif Nat.blt x 2147483648 then x / 2 ^ y else 4294967295 - (4294967295 - x) / 2 ^ y : Nat) : Int) - 4294967296
  by_cases h : x < 2147483648
  · rw [if_pos h, show Nat.blt x 2147483648 = true from Nat.ble_eq_true_of_le h, cond_true, if_pos (by omega)]
    simp
  · have hb : Nat.blt x 2147483648 = false := by
      cases hb : Nat.blt x 2147483648 with
      | false => rfl
      | true => exact absurd (Nat.le_of_ble_eq_true hb) h
    rw [if_neg h, hb, cond_false]
    have hm : (4294967295 - x) / 2 ^ y ≤ 4294967295 - x := Nat.div_le_self _ _
    rw [if_neg (by omega)]
    have e1 : (x : Int) - 4294967296 = Int.negSucc (4294967295 - x) := by omega
    have hp : (0 : Int) < ((2 ^ y : Nat) : Int) := by exact_mod_cast Nat.pow_pos (by decide : 0 < 2)
    rw [e1, Int.negSucc_ediv _ hp]
    have e2 : Int.ediv ((4294967295 - x : Nat) : Int) ((2 ^ y : Nat) : Int) = (((4294967295 - x) / 2 ^ y : Nat) : Int) := rfl
    rw [e2]
    omega
theorem zx_ushr' (x y : Nat) (hx : x < 4294967296) (hy : y < 32) : ((nI x).toUInt32 >>> ((nI y).toUInt32 &&& Int32.toUInt32 31)).toInt32 = nI (zx_g8 x y) := pk_ushrN (by omega) (nI y) y (zx_su' y hy)
theorem zx_g8_lt (x y : Nat) (hx : x < 4294967296) : zx_g8 x y < 4294967296 := Nat.lt_of_le_of_lt (Nat.div_le_self x (2 ^ y)) hx
theorem zx_n8_lt (x : Nat) : zx_n8 x < 4294967296 := by
  show (bif Nat.blt (x % 256) 128 then x % 256 else x % 256 + 4294967040) < 4294967296
  cases Nat.blt (x % 256) 128
  · show x % 256 + 4294967040 < 4294967296
    omega
  · show x % 256 < 4294967296
    omega
theorem zx_n8' (x : Nat) (hx : x < 4294967296) : (nI x).toInt8.toInt32 = nI (zx_n8 x) := by
  apply Int32.toInt_inj.1
  rw [zx_nI_int _ (zx_n8_lt x)]
  have h1 : ((nI x).toInt8.toInt32).toInt = (nI x).toInt8.toInt := Int8.toInt_toInt32 _
  have h2 : (nI x).toInt8.toInt = (nI x).toInt.bmod (2 ^ 8) := Int32.toInt_toInt8 _
  rw [h1, h2, zx_nI_int _ hx]
  show _ = if (bif Nat.blt (x % 256) 128 then x % 256 else x % 256 + 4294967040) < 2147483648 then (((bif Nat.blt (x % 256) 128 then x % 256 else x % 256 + 4294967040) : Nat) : Int) else (((bif Nat.blt (x % 256) 128 then x % 256 else x % 256 + 4294967040) : Nat) : Int) - 4294967296
  cases hb : Nat.blt (x % 256) 128 with
  | true =>
    have := zx_blt_t hb
    simp only [cond_true, Int.bmod_def]
    repeat' split
    all_goals omega
  | false =>
    have := zx_blt_f hb
    simp only [cond_false, Int.bmod_def]
    repeat' split
    all_goals omega
theorem zx_n16' (x : Nat) (hx : x < 4294967296) : ((nI x).toUInt32 % 65536).toInt32 = nI (zx_n16 x) := by
  rw [pk_char, pk_tn (by omega)]
  rfl
/-! sums and their like, where nothing wraps -/
theorem zx_ti_add {x y : Int32} (h1 : -2147483648 ≤ x.toInt + y.toInt) (h2 : x.toInt + y.toInt < 2147483648) : (x + y).toInt = x.toInt + y.toInt := by
  rw [Int32.toInt_add]
  show Int.bmod (x.toInt + y.toInt) 4294967296 = _
  simp only [Int.bmod_def]
  split <;> omega
theorem zx_ti_sub {x y : Int32} (h1 : -2147483648 ≤ x.toInt - y.toInt) (h2 : x.toInt - y.toInt < 2147483648) : (x - y).toInt = x.toInt - y.toInt := by
  rw [Int32.toInt_sub]
  show Int.bmod (x.toInt - y.toInt) 4294967296 = _
  simp only [Int.bmod_def]
  split <;> omega
theorem zx_ti_mul {x y : Int32} (h1 : -2147483648 ≤ x.toInt * y.toInt) (h2 : x.toInt * y.toInt < 2147483648) : (x * y).toInt = x.toInt * y.toInt := by
  rw [Int32.toInt_mul]
  show Int.bmod (x.toInt * y.toInt) 4294967296 = _
  simp only [Int.bmod_def]
  split <;> omega
theorem zx_ti_neg {x : Int32} (h1 : -2147483648 < x.toInt) : (-x).toInt = -x.toInt := by
  have := zx_rg x
  rw [Int32.toInt_neg]
  show Int.bmod (-x.toInt) 4294967296 = _
  simp only [Int.bmod_def]
  split <;> omega
/-- an int that is not below 0, as a number -/
theorem zx_nn {x : Int32} (h : 2147483648 ≤ zx_bz x) : ∃ n, n < 2147483648 ∧ x = nI n ∧ zx_bz x = n + 2147483648 := by
  have hl := zx_bz_lt x
  refine ⟨zx_bz x - 2147483648, by omega, ?_, by omega⟩
  have h1 := zx_of_bz x
  rw [zx_bi_eq] at h1
  rw [show (zx_bz x + 2147483648) % 4294967296 = zx_bz x - 2147483648 by omega] at h1
  exact h1
theorem zx_bz_n {n : Nat} (h : n < 2147483648) : zx_bz (nI n) = n + 2147483648 := by
  rw [zx_bz_nI _ (by omega), zx_bi_eq]
  omega
theorem zx_any (x : Int32) : ∃ n, n < 4294967296 ∧ x = nI n := ⟨_, zx_bi_lt _, zx_of_bz x⟩
/-- a constant more -/
theorem zx_bz_off (x : Int32) {o : Nat} (ho : o < 4294967296) : zx_bz (x + nI o) = (zx_bz x + o) % 4294967296 := by
  have h1 := zx_bz_int x
  have h2 := zx_bz_int (x + nI o)
  have h3 := zx_rg x
  have h4 := zx_rg (x + nI o)
  rw [Int32.toInt_add, zx_nI_int o ho] at h2
  have h5 : Int.bmod (x.toInt + if o < 2147483648 then (o : Int) else (o : Int) - 4294967296) 4294967296 = (x + nI o).toInt := by rw [Int32.toInt_add, zx_nI_int o ho]
  have h2 : (zx_bz (x + nI o) : Int) = Int.bmod (x.toInt + if o < 2147483648 then (o : Int) else (o : Int) - 4294967296) 4294967296 + 2147483648 := h2
  simp only [Int.bmod_def] at h2
  split at h2 <;> split at h2 <;> omega
end
section
/-! what the walker's values stand for -/
def zx_lcs : List Nat := [1818324581]
def zx_lc (n : Nat) : Int64 := lN (zx_lcs.getD n 0)
def zx_r (ads : List Nat) (ex : Nat → Nat) (nu : Nat → Int32) (lu : Nat → Int64) (v : Nat) (x : Value) : Prop := v < 4722366482869645213696 ∧ match v % 16 with
  | 1 => x = .int (nu (v / 16 % 256) + nI (v / 16 / 256)) ∧ v / 16 / 256 < 4294967296
  | 2 => ∃ q, ads[v / 16]? = some q ∧ x = .ref q
  | 3 => x = .null
  | 4 => x = .int (nI (v / 16)) ∧ v / 16 < 4294967296
  | 5 => ∃ y, x = .long y ∧ (v / 16 % 2 = 1 → y = lu (v / 16 / 2)) ∧ (v / 16 % 2 = 0 → v / 16 ≠ 0 → y = zx_lc (v / 16 / 2 - 1))
  | 6 => x = .ref (ex (v / 16))
  | 7 => ∃ y, x = .int y ∧ v / 16 / 4294967296 ≤ zx_bz y ∧ zx_bz y ≤ v / 16 % 4294967296
  | 8 => x = .null ∨ ∃ q, x = .ref q
  | 12 => x = .int (lg_cmp (lu (v / 16 % 256)) (zx_lc (v / 16 / 256)))
  | _ => False
/-- what is known: bounds of named ints (192 of them), which constant a named long is or is not (from place 192 on) -/
def zx_ev (nu : Nat → Int32) (lu : Nat → Int64) (e : Nat) : Prop := (∀ k : Nat, k < 192 → zx_eg e k = 0 ∨ (zx_eg e k / 4294967296 ≤ zx_bz (nu k) ∧ zx_bz (nu k) ≤ zx_eg e k % 4294967296)) ∧
  ∀ k : Nat, (zx_eg e (192 + k) % 4294967296 ≠ 0 → lu k = zx_lc (zx_eg e (192 + k) % 4294967296 - 1)) ∧ ∀ n, n < 32 → (zx_eg e (192 + k) / 4294967296).testBit n = true → lu k ≠ zx_lc n
theorem zx_c_eq (n : Nat) : zx_c n = n * 16 + 4 := rfl
theorem zx_c_kd (n : Nat) : zx_c n % 16 = 4 := by rw [zx_c_eq]; omega
theorem zx_c_pl (n : Nat) : zx_c n / 16 = n := by rw [zx_c_eq]; omega
theorem zx_kc146 {v : Nat} (h : zx_kc 146 v = true) : v % 16 = 1 ∨ v % 16 = 4 ∨ v % 16 = 7 := by
  have q : ∀ t, t < 16 → Nat.beq (Nat.mod (Nat.shiftRight 146 t) 2) 1 = true → t = 1 ∨ t = 4 ∨ t = 7 := by decide
  exact q _ (Nat.mod_lt _ (by decide)) h
theorem zx_kc332 {v : Nat} (h : zx_kc 332 v = true) : v % 16 = 2 ∨ v % 16 = 3 ∨ v % 16 = 6 ∨ v % 16 = 8 := by
  have q : ∀ t, t < 16 → Nat.beq (Nat.mod (Nat.shiftRight 332 t) 2) 1 = true → t = 2 ∨ t = 3 ∨ t = 6 ∨ t = 8 := by decide
  exact q _ (Nat.mod_lt _ (by decide)) h
theorem zx_kc32 {v : Nat} (h : zx_kc 32 v = true) : v % 16 = 5 := by
  have q : ∀ t, t < 16 → Nat.beq (Nat.mod (Nat.shiftRight 32 t) 2) 1 = true → t = 5 := by decide
  exact q _ (Nat.mod_lt _ (by decide)) h
theorem zx_kc130 {v : Nat} (h : zx_kc 130 v = true) : v % 16 = 1 ∨ v % 16 = 7 := by
  have q : ∀ t, t < 16 → Nat.beq (Nat.mod (Nat.shiftRight 130 t) 2) 1 = true → t = 1 ∨ t = 7 := by decide
  exact q _ (Nat.mod_lt _ (by decide)) h
theorem zx_kc9 {v : Nat} (h : zx_kc 9 v = true) : v % 16 = 0 ∨ v % 16 = 3 := by
  have q : ∀ t, t < 16 → Nat.beq (Nat.mod (Nat.shiftRight 9 t) 2) 1 = true → t = 0 ∨ t = 3 := by decide
  exact q _ (Nat.mod_lt _ (by decide)) h
theorem zx_kc54 {v : Nat} (h : zx_kc 54 v = true) : v % 16 = 1 ∨ v % 16 = 2 ∨ v % 16 = 4 ∨ v % 16 = 5 := by
  have q : ∀ t, t < 16 → Nat.beq (Nat.mod (Nat.shiftRight 54 t) 2) 1 = true → t = 1 ∨ t = 2 ∨ t = 4 ∨ t = 5 := by decide
  exact q _ (Nat.mod_lt _ (by decide)) h
theorem zx_kc2 {v : Nat} (h : zx_kc 2 v = true) : v % 16 = 1 := by
  have q : ∀ t, t < 16 → Nat.beq (Nat.mod (Nat.shiftRight 2 t) 2) 1 = true → t = 1 := by decide
  exact q _ (Nat.mod_lt _ (by decide)) h
section ZR
variable {ads : List Nat} {ex : Nat → Nat} {nu : Nat → Int32} {lu : Nat → Int64} {e : Nat}
theorem zx_r1 {v : Nat} {x : Value} (h : v % 16 = 1) : zx_r ads ex nu lu v x ↔ v < 4722366482869645213696 ∧ (x = .int (nu (v / 16 % 256) + nI (v / 16 / 256)) ∧ v / 16 / 256 < 4294967296) := by unfold zx_r; rw [h]; exact Iff.rfl
theorem zx_r2 {v : Nat} {x : Value} (h : v % 16 = 2) : zx_r ads ex nu lu v x ↔ v < 4722366482869645213696 ∧ ∃ q, ads[v / 16]? = some q ∧ x = .ref q := by unfold zx_r; rw [h]; exact Iff.rfl
theorem zx_r3 {v : Nat} {x : Value} (h : v % 16 = 3) : zx_r ads ex nu lu v x ↔ v < 4722366482869645213696 ∧ x = .null := by unfold zx_r; rw [h]; exact Iff.rfl
theorem zx_r4 {v : Nat} {x : Value} (h : v % 16 = 4) : zx_r ads ex nu lu v x ↔ v < 4722366482869645213696 ∧ (x = .int (nI (v / 16)) ∧ v / 16 < 4294967296) := by unfold zx_r; rw [h]; exact Iff.rfl
theorem zx_r5 {v : Nat} {x : Value} (h : v % 16 = 5) : zx_r ads ex nu lu v x ↔ v < 4722366482869645213696 ∧ ∃ y, x = .long y ∧ (v / 16 % 2 = 1 → y = lu (v / 16 / 2)) ∧ (v / 16 % 2 = 0 → v / 16 ≠ 0 → y = zx_lc (v / 16 / 2 - 1)) := by unfold zx_r; rw [h]; exact Iff.rfl
theorem zx_r6 {v : Nat} {x : Value} (h : v % 16 = 6) : zx_r ads ex nu lu v x ↔ v < 4722366482869645213696 ∧ x = .ref (ex (v / 16)) := by unfold zx_r; rw [h]; exact Iff.rfl
theorem zx_r7 {v : Nat} {x : Value} (h : v % 16 = 7) : zx_r ads ex nu lu v x ↔ v < 4722366482869645213696 ∧ ∃ y, x = .int y ∧ v / 16 / 4294967296 ≤ zx_bz y ∧ zx_bz y ≤ v / 16 % 4294967296 := by unfold zx_r; rw [h]; exact Iff.rfl
theorem zx_r8 {v : Nat} {x : Value} (h : v % 16 = 8) : zx_r ads ex nu lu v x ↔ v < 4722366482869645213696 ∧ (x = .null ∨ ∃ q, x = .ref q) := by unfold zx_r; rw [h]; exact Iff.rfl
theorem zx_r12 {v : Nat} {x : Value} (h : v % 16 = 12) : zx_r ads ex nu lu v x ↔ v < 4722366482869645213696 ∧ x = .int (lg_cmp (lu (v / 16 % 256)) (zx_lc (v / 16 / 256))) := by unfold zx_r; rw [h]; exact Iff.rfl
theorem zx_r_lt {v : Nat} {x : Value} (h : zx_r ads ex nu lu v x) : v < 4722366482869645213696 := h.1
theorem zx_r_kd {v : Nat} {x : Value} (h : zx_r ads ex nu lu v x) : v % 16 = 1 ∨ v % 16 = 2 ∨ v % 16 = 3 ∨ v % 16 = 4 ∨ v % 16 = 5 ∨ v % 16 = 6 ∨ v % 16 = 7 ∨ v % 16 = 8 ∨ v % 16 = 12 := by
  obtain ⟨-, h⟩ := h
  have hl : v % 16 < 16 := Nat.mod_lt _ (by decide)
  generalize v % 16 = t at h hl
  match t, h, hl with
  | 0, h, _ => exact h.elim
  | 1, _, _ => omega
  | 2, _, _ => omega
  | 3, _, _ => omega
  | 4, _, _ => omega
  | 5, _, _ => omega
  | 6, _, _ => omega
  | 7, _, _ => omega
  | 8, _, _ => omega
  | 9, h, _ => exact h.elim
  | 10, h, _ => exact h.elim
  | 11, h, _ => exact h.elim
  | 12, _, _ => omega
  | (k + 13), h, _ => exact h.elim
theorem zx_r_c {n : Nat} (h : n < 4294967296) : zx_r ads ex nu lu (zx_c n) (.int (nI n)) := by
  rw [zx_r4 (zx_c_kd n), zx_c_pl]
  exact ⟨by rw [zx_c_eq]; omega, rfl, h⟩
theorem zx_bd_eq (l h : Nat) : zx_bd l h = l * 4294967296 + h := rfl
/-- an int between bounds -/
theorem zx_r_7 {l u : Nat} {x : Int32} (h1 : l ≤ zx_bz x) (h2 : zx_bz x ≤ u) (hu : u < 4294967296) : zx_r ads ex nu lu (zx_c7v l u) (.int x) := by
  have hb := zx_bz_lt x
  have e0 : zx_c7v l u = (l * 4294967296 + u) * 16 + 7 := rfl
  have e1 : ((l * 4294967296 + u) * 16 + 7) / 16 = l * 4294967296 + u := by omega
  rw [e0, zx_r7 (by omega), e1]
  exact ⟨by omega, x, rfl, by omega, by omega⟩
theorem zx_r_un (x : Int32) : zx_r ads ex nu lu zx_un (.int x) := by
  rw [zx_r7 (by decide)]
  refine ⟨by decide, x, rfl, ?_, ?_⟩
  · exact Nat.zero_le _
  · have := zx_bz_lt x
    show _ ≤ 4294967295
    omega
theorem zx_r_i {v : Nat} {x : Value} (hi : zx_ii v = true) (h : zx_r ads ex nu lu v x) : ∃ y : Int32, x = .int y := by
  rcases zx_kc146 hi with q | q | q
  · exact ⟨_, ((zx_r1 q).mp h).2.1⟩
  · exact ⟨_, ((zx_r4 q).mp h).2.1⟩
  · obtain ⟨-, y, hy, -⟩ := (zx_r7 q).mp h
    exact ⟨y, hy⟩
theorem zx_r_r {v : Nat} {x : Value} (hi : zx_kc 332 v = true) (h : zx_r ads ex nu lu v x) : x = .null ∨ ∃ q, x = .ref q := by
  rcases zx_kc332 hi with q | q | q | q
  · obtain ⟨-, y, -, hy⟩ := (zx_r2 q).mp h
    exact Or.inr ⟨y, hy⟩
  · exact Or.inl ((zx_r3 q).mp h).2
  · exact Or.inr ⟨_, ((zx_r6 q).mp h).2⟩
  · exact ((zx_r8 q).mp h).2
theorem zx_r_j {v : Nat} {x : Value} (hi : v % 16 = 5) (h : zx_r ads ex nu lu v x) : ∃ y : Int64, x = .long y := by
  obtain ⟨-, y, hy, -⟩ := (zx_r5 hi).mp h
  exact ⟨y, hy⟩
theorem zx_r_l (y : Int64) : zx_r ads ex nu lu 5 (.long y) := (zx_r5 (by decide)).mpr ⟨by decide, y, rfl, fun h => absurd h (by decide), fun _ h => absurd rfl h⟩
theorem zx_r_cat {v : Nat} {x : Value} (h : zx_r ads ex nu lu v x) : x.category = bif Nat.beq (zx_kd v) 5 then 2 else 1 := by
  have e : zx_kd v = v % 16 := rfl
  rw [e]
  rcases zx_r_kd h with q | q | q | q | q | q | q | q | q <;> rw [q]
  · rw [((zx_r1 q).mp h).2.1]; rfl
  · obtain ⟨-, y, -, rfl⟩ := (zx_r2 q).mp h; rfl
  · rw [((zx_r3 q).mp h).2]; rfl
  · rw [((zx_r4 q).mp h).2.1]; rfl
  · obtain ⟨-, y, rfl, -⟩ := (zx_r5 q).mp h; rfl
  · rw [((zx_r6 q).mp h).2]; rfl
  · obtain ⟨-, y, rfl, -⟩ := (zx_r7 q).mp h; rfl
  · rcases ((zx_r8 q).mp h).2 with rfl | ⟨y, rfl⟩ <;> rfl
  · rw [((zx_r12 q).mp h).2]; rfl
theorem zx_r_mono {ads' : List Nat} (hp : ∀ (i q : Nat), ads[i]? = some q → ads'[i]? = some q) {v : Nat} {x : Value} (h : zx_r ads ex nu lu v x) : zx_r ads' ex nu lu v x := by
  rcases zx_r_kd h with q | q | q | q | q | q | q | q | q
  · exact (zx_r1 q).mpr ((zx_r1 q).mp h)
  · obtain ⟨h0, y, h1, h2⟩ := (zx_r2 q).mp h
    exact (zx_r2 q).mpr ⟨h0, y, hp _ _ h1, h2⟩
  · exact (zx_r3 q).mpr ((zx_r3 q).mp h)
  · exact (zx_r4 q).mpr ((zx_r4 q).mp h)
  · exact (zx_r5 q).mpr ((zx_r5 q).mp h)
  · exact (zx_r6 q).mpr ((zx_r6 q).mp h)
  · exact (zx_r7 q).mpr ((zx_r7 q).mp h)
  · exact (zx_r8 q).mpr ((zx_r8 q).mp h)
  · exact (zx_r12 q).mpr ((zx_r12 q).mp h)
/-- bounds of an int -/
theorem zx_iv_s (he : zx_ev nu lu e) {v : Nat} {y : Int32} (h : zx_r ads ex nu lu v (.int y)) {k : Nat → Nat → Bool} (hk : zx_iv e v k = true) (hv : v % 16 = 1 → v / 16 % 256 < 192) :
    ∃ l u, k l u = true ∧ l ≤ zx_bz y ∧ zx_bz y ≤ u ∧ u < 4294967296 := by
  unfold zx_iv at hk
  rcases zx_bif hk with ⟨q, hk⟩ | ⟨-, hk⟩
  · have q : v % 16 = 4 := zx_beq_t q
    rw [zx_fn_eq] at hk
    obtain ⟨-, h1, h2⟩ := (zx_r4 q).mp h
    cases h1
    have e1 := zx_bz_nI (v / 16) h2
    have e2 : zx_bi (zx_pl v) = zx_bi (v / 16) := rfl
    exact ⟨_, _, hk, by rw [e1, e2]; exact Nat.le_refl _, by rw [e1, e2]; exact Nat.le_refl _, zx_bi_lt _⟩
  rcases zx_bif hk with ⟨q, hk⟩ | ⟨-, hk⟩
  · have q : v % 16 = 7 := zx_beq_t q
    rw [zx_fn_eq, zx_fn_eq, zx_fn_eq] at hk
    obtain ⟨-, y', h1, h2, h3⟩ := (zx_r7 q).mp h
    cases h1
    exact ⟨_, _, hk, h2, h3, Nat.mod_lt _ (by decide)⟩
  rcases zx_bft hk with ⟨q, hk⟩
  have q : v % 16 = 1 := zx_beq_t q
  rw [zx_fn_eq] at hk
  rcases zx_bif hk with ⟨-, hk⟩ | ⟨q0, hk⟩
  · cases hk
  rw [zx_fn_eq, zx_fn_eq, zx_fn_eq] at hk
  obtain ⟨-, h1, ho⟩ := (zx_r1 q).mp h
  cases h1
  have eo : zx_o1 v = v / 16 / 256 := rfl
  have hb := zx_bz_off (nu (v / 16 % 256)) ho
  have hlt := zx_bz_lt (nu (v / 16 % 256))
  rcases he.1 (v / 16 % 256) (hv q) with h2 | h2
  · exact absurd h2 (zx_beq_f q0)
  generalize hl : zx_eg e (v / 16 % 256) / 4294967296 = lo at h2
  generalize hh : zx_eg e (v / 16 % 256) % 4294967296 = up at h2
  have hup : up < 4294967296 := by rw [← hh]; exact Nat.mod_lt _ (by decide)
  have hk1 : (bif Nat.beq (v / 16 / 256) 0 then k lo up else
    bif Nat.blt (v / 16 / 256) 2147483648 then (bif Nat.blt (Nat.add up (v / 16 / 256)) 4294967296 then zx_fn (Nat.add lo (v / 16 / 256)) (fun l => zx_fn (Nat.add up (v / 16 / 256)) (fun h => k l h)) else k 0 4294967295) else
    bif Nat.ble (Nat.sub 4294967296 (v / 16 / 256)) lo then zx_fn (Nat.sub lo (Nat.sub 4294967296 (v / 16 / 256))) (fun l => zx_fn (Nat.sub up (Nat.sub 4294967296 (v / 16 / 256))) (fun h => k l h)) else k 0 4294967295) = true := by
    rw [← hl, ← hh]
    exact hk
  generalize v / 16 / 256 = o at hk1 ho hb ⊢
  rw [hb]
  rcases zx_bif hk1 with ⟨q1, hk⟩ | ⟨q1, hk⟩
  · have q1 := zx_beq_t q1
    subst q1
    exact ⟨lo, up, hk, by omega, by omega, hup⟩
  rcases zx_bif hk with ⟨q2, hk⟩ | ⟨q2, hk⟩
  · have q2 := zx_blt_t q2
    rcases zx_bif hk with ⟨q3, hk⟩ | ⟨q3, hk⟩
    · have q3 : up + o < 4294967296 := zx_blt_t q3
      rw [zx_fn_eq, zx_fn_eq] at hk
      exact ⟨lo + o, up + o, hk, by omega, by omega, q3⟩
    · exact ⟨_, _, hk, Nat.zero_le _, by omega, by decide⟩
  · have q2 := zx_blt_f q2
    rcases zx_bif hk with ⟨q3, hk⟩ | ⟨q3, hk⟩
    · have q3 : 4294967296 - o ≤ lo := zx_ble_t q3
      rw [zx_fn_eq, zx_fn_eq] at hk
      exact ⟨lo - (4294967296 - o), up - (4294967296 - o), hk, by omega, by omega, by omega⟩
    · exact ⟨_, _, hk, Nat.zero_le _, by omega, by decide⟩
end ZR
end
