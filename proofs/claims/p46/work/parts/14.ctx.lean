/-! the machine at a place of a method, and the walker there -/
def zx_A (N0 : Nat) : Nat → Prop := fun q => N0 ≤ q
def zx_t1 : String := "lane long wide door in at broad left right north south loose tied open corner with oil stock draw or and not times day place "
def zx_t2 : String := ";()<>=+-*/%"
/-- a text from outside: its object and its bytes -/
def zx_Tx (N0 a b n w : Nat) (U : State) (H : Heap) : Prop := va_O "java/lang/String" a (zx_A N0) U H ∧ va_OF "java/lang/String" "coder" "B" (.int 0) a (zx_A N0) U H ∧ va_OF "java/lang/String" "value" "[B" (.ref b) a (zx_A N0) U H ∧ va_T .byte b n (fun j => .int (nI (zx_dg 0 8 256 w j))) (zx_A N0) U H
/-- what is known of the world outside -/
def zx_X (ex : Nat → Nat) (nu : Nat → Int32) (N0 : Nat) (U : State) (H : Heap) : Prop :=
  vk_R "LaneDoors$Lexer" 34 zx_t1 (ex 1) U ∧ vk_R "LaneDoors$Lexer" 74 zx_t2 (ex 3) U ∧ zx_Tx N0 (ex 1) (ex 2) 125 zx_words U H ∧ zx_Tx N0 (ex 3) (ex 4) 11 zx_signs U H ∧
  va_Z "java/lang/String" "COMPACT_STRINGS" "Z" (.int 1) (zx_A N0) U H ∧ va_Zq "jdk/internal/util/Preconditions" "SIOOBE_FORMATTER" "Ljava/util/function/BiFunction;" (zx_A N0) U H ∧
  (nu 63 = 1 → va_X (ex 0) 6 nu U H ∧ ex 0 < N0) ∧ va_AO RX8 U ∧ (∀ q ∈ zx_NL, va_Nw (zx_nw1 q) U)
theorem zx_Tx_mv {N0 a b n w : Nat} {s U : State} {H H1 : Heap} (h : zx_Tx N0 a b n w s H) (hW : s.vm.Alike U.vm) (hq : ∀ a : Nat, a < H.size → ¬ zx_A N0 a → H1[a]? = H[a]?) : zx_Tx N0 a b n w U H1 :=
  ⟨(h.1.moved hW).kept hq, (h.2.1.moved hW).kept hq, (h.2.2.1.moved hW).kept hq, (h.2.2.2.moved hW).kept hq⟩
theorem zx_X_mv {ex : Nat → Nat} {nu : Nat → Int32} {N0 : Nat} {s U : State} {H H1 : Heap} (h : zx_X ex nu N0 s H) (hN : N0 ≤ H.size) (hW : s.WarmedH U.vm) (hq : ∀ a : Nat, a < H.size → ¬ zx_A N0 a → H1[a]? = H[a]?) : zx_X ex nu N0 U H1 := by
  obtain ⟨h1, h2, h3, h4, h5, h6, h7, h8, h9⟩ := h
  refine ⟨h1.warm hW, h2.warm hW, zx_Tx_mv h3 hW.alike hq, zx_Tx_mv h4 hW.alike hq, (h5.moved hW.alike).kept hq, (h6.moved hW.alike).kept hq, fun z => ?_, h8.moved hW.alike, fun q hq => (h9 q hq).warmM hW⟩
  obtain ⟨q1, q2⟩ := h7 z
  exact ⟨(q1.moved hW.alike).kept (hq _ (by omega) (by unfold zx_A; omega)), q2⟩
def zx_Cx (p : Program) (R : Room) (s : State) (m : MethodId) (args : Array Value) (meth : Method) (c : Code) (M : zx_M) (d N0 : Nat) (ex : Nat → Nat) (nu : Nat → Int32) : Prop :=
  p.tables.exec = Jvm.exec ∧ c.code = M.1.2.1 ∧ c.maxLocals = M.1.2.2.1 ∧ s.vm.findClass (zx_on1 M.2.1.1) = some m.cls ∧ (∀ w ∈ zx_G, w.before args s = true) ∧ (M.2.1.2.1 = 2 → meth.name = "<init>") ∧ N0 ≤ s.heap.size ∧ zx_X ex nu N0 s s.heap ∧
  (d + 1 ≤ R.frames ∧ 80 * (d + 1) ≤ R.locals ∧ M.2.1.2.2.2.1 ≤ R.cells ∧ M.2.1.2.2.2.2.1 ≤ R.slots) ∧ zx_tw M
/-- the world: its cells, and what the walker knows of them -/
def zx_Wd (D : va_G) (N0 : Nat) (ex : Nat → Nat) (nu : Nat → Int32) (ad0 : List Nat) (U : State) (H : Heap) (h : zx_H) (hn : Nat) (tys : List (ClassId × FieldType)) (ws : va_W) : Prop :=
  va_K D vwCl tys U ∧ va_P D vwCl ws H ∧ va_D (zx_A N0) ws ∧ ws.length = hn ∧ zx_HR (ws.map (fun w => w.1)) ex nu tys h ws ∧ ∀ (i q : Nat), ad0[i]? = some q → (ws.map (fun w => w.1))[i]? = some q
def zx_Rl (D : va_G) (N0 : Nat) (ex : Nat → Nat) (nu : Nat → Int32) (ad0 : List Nat) (M : zx_M) (s : State) (row : Nat) (st : List Nat) (h : zx_H) (e hn : Nat) (ls : Array Slot) (vs : List Value) (H : Heap) (locs : List Loc) : Prop :=
  ∃ (tys : List (ClassId × FieldType)) (ws : va_W), zx_Wd D N0 ex nu ad0 s H h hn tys ws ∧ va_S (zx_A N0) s.heap H locs ∧ lv_has ls M.1.2.2.1 [] ∧ zx_LR (ws.map (fun w => w.1)) ex nu row ls ∧ zx_SR (ws.map (fun w => w.1)) ex nu st vs ∧ zx_ev nu e
/-- where the walker goes on, the machine comes to Q -/
def zx_Nx (p : Program) (l : Launch) (en : Env) (R : Room) (s : State) (m : MethodId) (args : Array Value) (below : List Frame) (meth : Method) (c : Code) (Q : State → Prop) (D : va_G) (N0 : Nat) (ex : Nat → Nat) (nu : Nat → Int32) (ad0 : List Nat) (M : zx_M) (nx : zx_N) : Prop :=
  ∀ (cur : List zx_E) (pc row : Nat) (st : List Nat) (h : zx_H) (e hn ce sl : Nat), (∀ q ∈ cur, zx_ve M q) → nx cur pc row st h e hn ce sl = true → ∀ (ls : Array Slot) (vs : List Value) (H : Heap) (locs : List Loc), zx_Rl D N0 ex nu ad0 M s row st h e hn ls vs H locs → W p l en R s m args below meth c H locs ce sl Q (F0 m pc ls vs)
/-- how a method may end -/
def zx_ri (ret : Option FieldType) (ins : Instr) (vs : List Value) : Prop :=
  (ret = none ∧ ins = .return_ ∧ vs = []) ∨ (∃ (ty : FieldType) (v : Int32), ret = some ty ∧ ins = .ireturn ∧ vs = [.int v] ∧ narrow ty (.int v) = .int v) ∨ (∃ v : Int64, ret = some .long ∧ ins = .lreturn ∧ vs = [.long v]) ∨
  (∃ (ty : FieldType) (v : Value), ret = some ty ∧ ((∃ n, ty = .object n) ∨ ∃ t, ty = .array t) ∧ ins = .areturn ∧ vs = [v] ∧ (v = .null ∨ ∃ a, v = .ref a))
def zx_Rt (p : Program) (l : Launch) (en : Env) (R : Room) (s : State) (m : MethodId) (args : Array Value) (below : List Frame) (meth : Method) (c : Code) (Q : State → Prop) (D : va_G) (N0 : Nat) (ex : Nat → Nat) (nu : Nat → Int32) (ad0 : List Nat) (M : zx_M) (K : zx_K) : Prop :=
  ∀ (pc row : Nat) (r : List Nat) (h : zx_H) (e hn ce sl : Nat) (ls : Array Slot) (vs : List Value) (H : Heap) (locs : List Loc) (ins : Instr), decode M.1.2.1 pc = .ok (ins, 1) → zx_ri M.1.2.2.2 ins vs → K r h e hn = true → ce ≤ M.2.1.2.2.2.1 → sl ≤ M.2.1.2.2.2.2.1 → zx_Rl D N0 ex nu ad0 M s row r h e hn ls vs H locs → W p l en R s m args below meth c H locs ce sl Q (F0 m pc ls vs)
def zx_rm (d : Nat) (y : zx_M) : Room := { frames := d + 1, cells := y.2.1.2.2.2.1, slots := y.2.1.2.2.2.2.1, locals := 80 * (d + 1) }
def zx_Pc (D : va_G) (N0 : Nat) (ex : Nat → Nat) (nu : Nat → Int32) (av : List Value) (tys : List (ClassId × FieldType)) (ws : va_W) : Array Value → State → Prop := fun a U => a = av.toArray ∧ N0 ≤ U.heap.size ∧ va_K D vwCl tys U ∧ va_P D vwCl ws U.heap ∧ zx_X ex nu N0 U U.heap
def zx_Qc (D : va_G) (N0 : Nat) (ex : Nat → Nat) (nu : Nat → Int32) (ad0 : List Nat) (K : zx_K) : Array Value → State → Outcome → State → Prop := fun _ st o t =>
  (∃ (r : List Nat) (vs : List Value) (h : zx_H) (e hn : Nat) (tys : List (ClassId × FieldType)) (ws : va_W), o = .returned vs.head? ∧ vs.length ≤ 1 ∧ zx_SR (ws.map (fun w => w.1)) ex nu r vs ∧ zx_Wd D N0 ex nu ad0 t t.heap h hn tys ws ∧ zx_ev nu e ∧ K r h e hn = true) ∧ va_F (zx_A N0) st t
/-- a call is as the walker's -/
def zx_Ca (l : Launch) (D : va_G) (N0 : Nat) (ex : Nat → Nat) (nu : Nat → Int32) (d : Nat) (call : zx_M → zx_K → zx_N) : Prop :=
  ∀ (y : zx_M) (K : zx_K) (as : List Nat) (h : zx_H) (e hn : Nat) (av : List Value) (tys : List (ClassId × FieldType)) (ws : va_W), y ∈ zx_mt.flatten → call y K [] 0 (zx_rw as) [] h e hn 0 0 = true → zx_SR (ws.map (fun w => w.1)) ex nu as av → zx_wd as ≤ y.1.2.2.1 → va_D (zx_A N0) ws → ws.length = hn → zx_HR (ws.map (fun w => w.1)) ex nu tys h ws → zx_ev nu e →
    ∃ d', d = d' + 1 ∧ Met l y.1.1 (zx_mc y :: zx_G) (zx_rm d' y) (zx_Pc D N0 ex nu av tys ws) (zx_Qc D N0 ex nu (ws.map (fun w => w.1)) K) y.2.1.2.2.2.1 y.2.1.2.2.2.2.1 (zx_A N0)
theorem zx_Pc_blind {D : va_G} {N0 : Nat} {ex : Nat → Nat} {nu : Nat → Int32} {av : List Value} {tys : List (ClassId × FieldType)} {ws : va_W} : FrameBlind (zx_Pc D N0 ex nu av tys ws) := by
  intro a U g mk ⟨h1, h2, h3, h4, h5⟩
  exact ⟨h1, h2, va_K.moved (u := U) (U := U.calling g mk a) (Vm.Alike.refl U.vm) h3, h4, zx_X_mv (s := U) (U := U.calling g mk a) (H := U.heap) (H1 := U.heap) h5 h2 (State.WarmedH.refl U) (fun _ _ _ => rfl)⟩
