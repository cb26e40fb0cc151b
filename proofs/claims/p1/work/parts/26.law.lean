/-! the law -/
def R_law : String := "LaneDoorsLaw"
def lw_P (b : Addr) (xs : List Int32) (args : Array Value) (s : State) : Prop := args = #[.ref b] ∧ s.IntsAt b xs ∧ xs.length ≤ 6 ∧ (Jvm.Cond.and given_1 narrow_1).before args s = true
def lw_Q (_ : Array Value) (s : State) (o : Outcome) (t : State) : Prop := o = .returned (some (.int 1)) ∧ Framed s o t [] 600000 7302250
def lw_Z (below : List Frame) (a : Array Value) (s : State) : State → Prop := fun t => ∃ o, t.status = .running ∧ Ended t below o ∧ lw_Q a s o t
/-- the law's own end, with 1 on the stack, nothing written that was there before, its room as the claim has it -/
theorem lw_ret {p : Program} {l : Launch} {e : Env} {s : State} {m : MethodId} {below : List Frame} {meth : Method} {c : Code} {b : Nat} (hx : p.tables.exec = Jvm.exec) (hb : c.code = code) (hr : meth.sig.returnType = ret) (hlocks : meth.locks = false) {pc : Nat} {H : Heap} {ls : Array Slot} (hdg : decode code pc = .ok (.ireturn, 1)) : W p l e room_1 s m #[Value.ref b] below meth c H [] 600000 7302250 (lw_Z below #[Value.ref b] s) (F0 m pc ls [.int 1]) := by
  intro T hT X
  obtain ⟨fs, hret, hrun, hended, hW, hframe⟩ := X.leave (v := some (.int 1)) (hlocks := hlocks) (fun h => by rw [hr] at h; cases h)
  have hmeth' : T.vm.method? m = some meth := X.method'
  refine ⟨T.setFrames fs, ?_, .returned (some (.int 1)), hrun, hended, rfl, ⟨_, rfl⟩, hW, hframe⟩
  jvm_step X.here [X.here.top, hx, hb, hdg, hmeth', hr, ret, narrow_b1]
  (try refine ⟨rfl, ?_⟩); (try refine ⟨rfl, ?_⟩)
  first | (intro acts; rw [hret _ acts rfl rfl rfl]) | rw [hret _ _ rfl rfl rfl]
  exact Steps.refl _
/-- what holds at the law's entry: the machine, the code, the tables' words (any of lw_tbl by 'hts w (by decide +kernel)'), the script of L ints xs at the cell b, what the Statement gives of the start (any of its parts by flat_of_before) -/
def lw_At (p : Program) (s : State) (m : MethodId) (meth : Method) (c : Code) (b L : Nat) (xs : Nat → Int32) : Prop :=
  p.tables.exec = Jvm.exec ∧ c.code = code ∧ meth.sig.returnType = ret ∧ c.maxLocals = 4 ∧ s.vm.findClass R_law = some m.cls ∧ (∀ w ∈ lw_tbl, w.before #[Value.ref b] s = true) ∧ va_X b L xs s s.heap ∧ b < s.heap.size ∧ meth.locks = false ∧ (Jvm.Cond.and given_1 narrow_1).before #[Value.ref b] s = true
/-! a text from outside -/
theorem zx_str_of {args : Array Value} {s : State} {N0 k n w : Nat} (hn : n < 2 ^ 31) (hA : ∀ a : Nat, a < s.heap.size → ¬ zx_A N0 a) (hex : (Cond.exactly (.string "LaneDoors$Lexer" k) "java/lang/String").before args s = true) (hco : (Cond.eq (.field (.string "LaneDoors$Lexer" k) "java/lang/String" "coder" "B") (.int 0)).before args s = true)
    (har : (Cond.arrayOf (.field (.string "LaneDoors$Lexer" k) "java/lang/String" "value" "[B") .byte).before args s = true) (hle : (Cond.eq (.length (.field (.string "LaneDoors$Lexer" k) "java/lang/String" "value" "[B")) (.int (Int32.ofNat n))).before args s = true)
    (hel : ∀ j : Nat, j < n → (Cond.eq (.elem (.field (.string "LaneDoors$Lexer" k) "java/lang/String" "value" "[B") (.int (Int32.ofNat j))) (.int (nI (zx_dg 0 8 256 w j)))).before args s = true) : ∃ a b : Nat, (Term.string "LaneDoors$Lexer" k).eval args s none [] s = some (.ref a) ∧ zx_Tx N0 a b n w s s.heap := by
  obtain ⟨a, c, cA, kA, q1, q2, q3, q4, q5, q6, -⟩ := Cond.exactly_spec (args := args) (first := s) (o := none) (s := s) (idx := []) (t := .string "LaneDoors$Lexer" k) (cls := "java/lang/String") hex
  obtain ⟨t, ht, hT⟩ := va_Tof (f := fun j => .int (nI (zx_dg 0 8 256 w j))) (A := zx_A N0) hn har (va_eqt hle) (fun j hj => va_eqt (hel j hj)) hA
  exact ⟨a, t, q1, ⟨cA, q3, q5, by rw [q6]; exact q2, hA a (Array.getElem?_eq_some_iff.mp q3).1⟩, vk_OFof q1 (va_eqt hco) hA, vk_OFof q1 ht hA, hT⟩
theorem zx_el1 : (List.range 125).map (fun j => Cond.eq (.elem (.field (.string "LaneDoors$Lexer" 34) "java/lang/String" "value" "[B") (.int (Int32.ofNat j))) (.int (nI (zx_dg 0 8 256 zx_words j)))) = ((flatC (Jvm.Cond.and given_1 narrow_1)).drop 13).take 125 := by decide +kernel
theorem zx_el2 : (List.range 11).map (fun j => Cond.eq (.elem (.field (.string "LaneDoors$Lexer" 74) "java/lang/String" "value" "[B") (.int (Int32.ofNat j))) (.int (nI (zx_dg 0 8 256 zx_signs j)))) = ((flatC (Jvm.Cond.and given_1 narrow_1)).drop 142).take 11 := by decide +kernel
theorem zx_fl1 : (flatC (Jvm.Cond.and given_1 narrow_1))[4]? = some (Cond.eq (.static "java/lang/String" "COMPACT_STRINGS" "Z") (.int 1)) ∧ (flatC (Jvm.Cond.and given_1 narrow_1))[5]? = some (Cond.isRef (.static "jdk/internal/util/Preconditions" "SIOOBE_FORMATTER" "Ljava/util/function/BiFunction;")) := by decide +kernel
theorem zx_fl2 : (flatC (Jvm.Cond.and given_1 narrow_1))[9]? = some (Cond.exactly (.string "LaneDoors$Lexer" 34) "java/lang/String") ∧ (flatC (Jvm.Cond.and given_1 narrow_1))[10]? = some (Cond.eq (.field (.string "LaneDoors$Lexer" 34) "java/lang/String" "coder" "B") (.int 0)) ∧ (flatC (Jvm.Cond.and given_1 narrow_1))[11]? = some (Cond.arrayOf (.field (.string "LaneDoors$Lexer" 34) "java/lang/String" "value" "[B") .byte) ∧ (flatC (Jvm.Cond.and given_1 narrow_1))[12]? = some (Cond.eq (.length (.field (.string "LaneDoors$Lexer" 34) "java/lang/String" "value" "[B")) (.int (Int32.ofNat 125))) := by decide +kernel
theorem zx_fl3 : (flatC (Jvm.Cond.and given_1 narrow_1))[138]? = some (Cond.exactly (.string "LaneDoors$Lexer" 74) "java/lang/String") ∧ (flatC (Jvm.Cond.and given_1 narrow_1))[139]? = some (Cond.eq (.field (.string "LaneDoors$Lexer" 74) "java/lang/String" "coder" "B") (.int 0)) ∧ (flatC (Jvm.Cond.and given_1 narrow_1))[140]? = some (Cond.arrayOf (.field (.string "LaneDoors$Lexer" 74) "java/lang/String" "value" "[B") .byte) ∧ (flatC (Jvm.Cond.and given_1 narrow_1))[141]? = some (Cond.eq (.length (.field (.string "LaneDoors$Lexer" 74) "java/lang/String" "value" "[B")) (.int (Int32.ofNat 11))) := by decide +kernel
theorem zx_tw1 : (zx_tb 1)[186]? = some (Cond.stringRef "LaneDoors$Lexer" 34 zx_t1) ∧ (zx_tb 3)[59]? = some (Cond.stringRef "LaneDoors$Lexer" 74 zx_t2) ∧ (zx_tb 1)[196]? = some (Cond.laysStatic "java/lang/String" "COMPACT_STRINGS" "Z") ∧ (zx_tb 1)[212]? = some (Cond.laysStatic "jdk/internal/util/Preconditions" "SIOOBE_FORMATTER" "Ljava/util/function/BiFunction;") ∧ (zx_tb 2)[57]? = some (Cond.arrayOver (.object RX8)) := by decide +kernel
theorem zx_tw2 : Cond.initialized "java/lang/String" ∈ lw_tbl ∧ Cond.initialized "jdk/internal/util/Preconditions" ∈ lw_tbl := by
  constructor
  · have h : ∃ y ∈ zx_mt.flatten, zx_mi y = Cond.initialized "java/lang/String" := ⟨zm_6, List.mem_flatten.mpr ⟨_, List.mem_of_getElem? (i := 0) rfl, List.mem_of_getElem? (i := 6) rfl⟩, rfl⟩
    obtain ⟨y, hy, he⟩ := h
    rw [← he]
    exact (zx_mws_ok hy (List.mem_cons_of_mem _ List.mem_cons_self)).1
  · have h : ∃ y ∈ zx_mt.flatten, zx_mi y = Cond.initialized "jdk/internal/util/Preconditions" := ⟨zm_12, List.mem_flatten.mpr ⟨_, List.mem_of_getElem? (i := 0) rfl, List.mem_of_getElem? (i := 12) rfl⟩, rfl⟩
    obtain ⟨y, hy, he⟩ := h
    rw [← he]
    exact (zx_mws_ok hy (List.mem_cons_of_mem _ List.mem_cons_self)).1
