theorem zx_t1 (n : String) (q : Nat) : narrow (.object n) (.ref q) = .ref q ∧ fits (.object n) (.ref q) = true ∧ narrow (.object n) .null = .null ∧ fits (.object n) .null = true := ⟨rfl, rfl, rfl, rfl⟩
theorem zx_t2 (t : FieldType) (q : Nat) : narrow (.array t) (.ref q) = .ref q ∧ fits (.array t) (.ref q) = true ∧ narrow (.array t) .null = .null ∧ fits (.array t) .null = true := ⟨rfl, rfl, rfl, rfl⟩
theorem zx_t3 (x : Int32) (y : Int64) : narrow .int (.int x) = .int x ∧ fits .int (.int x) = true ∧ narrow .long (.long y) = .long y ∧ fits .long (.long y) = true := ⟨rfl, rfl, rfl, rfl⟩
theorem zx_t4 : (tables_1_1[0]? = some (.initialized "LaneDoorsLaw")) := by decide +kernel
theorem zx_t5 : (k2_sels lw_privs)[0]? = some (.selects "LaneDoors$Lexer" ⟨"LaneDoors$Lexer", "takeWord", "()V"⟩ ⟨"LaneDoors$Lexer", "takeWord", "()V"⟩) := by decide +kernel
