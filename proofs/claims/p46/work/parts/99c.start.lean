/-! the law -/
def R_law : String := "LaneDoorsLaw"
def lw_P (b : Addr) (xs : List Int32) (args : Array Value) (s : State) : Prop := args = #[.ref b] ∧ s.IntsAt b xs ∧ xs.length ≤ 3072 ∧ (Jvm.Cond.and given_1 narrow_1).before args s = true
def lw_Q (_ : Array Value) (s : State) (o : Outcome) (t : State) : Prop := o = .returned (some (.int 1)) ∧ Framed s o t [] 600000 7302250
def lw_Z (below : List Frame) (a : Array Value) (s : State) : State → Prop := fun t => ∃ o, t.status = .running ∧ Ended t below o ∧ lw_Q a s o t
/-- the law's own end, with 1 on the stack, nothing written that was there before, its room as the claim has it -/
theorem lw_ret {p : Program} {l : Launch} {e : Env} {s : State} {m : MethodId} {below : List Frame} {meth : Method} {c : Code} {b : Nat} (hx : p.tables.exec = Jvm.exec) (hb : c.code = code) (hr : meth.sig.returnType = ret) (hlocks : meth.locks = false) {pc : Nat} {H : Heap} {ls : Array Slot} (hdg : decode code pc = .ok (.ireturn, 1)) : W p l e room_1 s m #[Value.ref b] below meth c H [] 600000 7302250 (lw_Z below #[Value.ref b] s) (F0 m pc ls [.int 1]) := by
  intro T hT X
  obtain ⟨fs, hret, hrun, hended, hW, hframe⟩ := X.leave (v := some (.int 1)) (hlocks := hlocks) (fun h => by rw [hr] at h; cases h)
  have hmeth' : T.vm.method? m = some meth := X.method'
  refine ⟨T.setFrames fs, ?_, .returned (some (.int 1)), hrun, hended, rfl, ⟨_, rfl⟩, hW, hframe⟩
  jvm_step X.here [X.here.top, hx, hb, hdg, hmeth', hr, ret, narrow_b1]
  (try refine ⟨rfl, ?_⟩); (try refine ⟨rfl, ?_⟩)
  first | (intro acts; rw [hret _ acts rfl rfl rfl]) | rw [hret _ _ rfl rfl rfl]
  exact Steps.refl _
/-- what holds at the law's entry: the machine, the code, the tables' words (any of lw_tbl by 'hts w (by decide +kernel)'), the script of L ints xs at the cell b, what the Statement gives of the start (any of its parts by flat_of_before) -/
def lw_At (p : Program) (s : State) (m : MethodId) (meth : Method) (c : Code) (b L : Nat) (xs : Nat → Int32) : Prop :=
  p.tables.exec = Jvm.exec ∧ c.code = code ∧ meth.sig.returnType = ret ∧ c.maxLocals = 4 ∧ s.vm.findClass R_law = some m.cls ∧ (∀ w ∈ lw_tbl, w.before #[Value.ref b] s = true) ∧ va_X b L xs s s.heap ∧ b < s.heap.size ∧ meth.locks = false ∧ (Jvm.Cond.and given_1 narrow_1).before #[Value.ref b] s = true
/-! a text from outside -/
theorem zx_str_of {args : Array Value} {s : State} {N0 k n w : Nat} (hn : n < 2 ^ 31) (hA : ∀ a : Nat, a < s.heap.size → ¬ zx_A N0 a) (hex : (Cond.exactly (.string "LaneDoors$Lexer" k) "java/lang/String").before args s = true) (hco : (Cond.eq (.field (.string "LaneDoors$Lexer" k) "java/lang/String" "coder" "B") (.int 0)).before args s = true)
    (har : (Cond.arrayOf (.field (.string "LaneDoors$Lexer" k) "java/lang/String" "value" "[B") .byte).before args s = true) (hle : (Cond.eq (.length (.field (.string "LaneDoors$Lexer" k) "java/lang/String" "value" "[B")) (.int (Int32.ofNat n))).before args s = true)
    (hel : ∀ j : Nat, j < n → (Cond.eq (.elem (.field (.string "LaneDoors$Lexer" k) "java/lang/String" "value" "[B") (.int (Int32.ofNat j))) (.int (nI (zx_dg 0 8 256 w j)))).before args s = true) : ∃ a b : Nat, (Term.string "LaneDoors$Lexer" k).eval args s none [] s = some (.ref a) ∧ zx_Tx N0 a b n w s s.heap := by
  obtain ⟨a, c, cA, kA, q1, q2, q3, q4, q5, q6, -⟩ := Cond.exactly_spec (args := args) (first := s) (o := none) (s := s) (idx := []) (t := .string "LaneDoors$Lexer" k) (cls := "java/lang/String") hex
  obtain ⟨t, ht, hT⟩ := va_Tof (f := fun j => .int (nI (zx_dg 0 8 256 w j))) (A := zx_A N0) hn har (va_eqt hle) (fun j hj => va_eqt (hel j hj)) hA
  exact ⟨a, t, q1, ⟨cA, q3, q5, by rw [q6]; exact q2, hA a (Array.getElem?_eq_some_iff.mp q3).1⟩, vk_OFof q1 (va_eqt hco) hA, vk_OFof q1 ht hA, hT⟩
theorem zx_el1 : (List.range 125).map (fun j => Cond.eq (.elem (.field (.string "LaneDoors$Lexer" 34) "java/lang/String" "value" "[B") (.int (Int32.ofNat j))) (.int (nI (zx_dg 0 8 256 zx_words j)))) = ((flatC (Jvm.Cond.and given_1 narrow_1)).drop 13).take 125 := by decide +kernel
theorem zx_el2 : (List.range 11).map (fun j => Cond.eq (.elem (.field (.string "LaneDoors$Lexer" 74) "java/lang/String" "value" "[B") (.int (Int32.ofNat j))) (.int (nI (zx_dg 0 8 256 zx_signs j)))) = ((flatC (Jvm.Cond.and given_1 narrow_1)).drop 142).take 11 := by decide +kernel
theorem zx_fl1 : (flatC (Jvm.Cond.and given_1 narrow_1))[4]? = some (Cond.eq (.static "java/lang/String" "COMPACT_STRINGS" "Z") (.int 1)) ∧ (flatC (Jvm.Cond.and given_1 narrow_1))[5]? = some (Cond.isRef (.static "jdk/internal/util/Preconditions" "SIOOBE_FORMATTER" "Ljava/util/function/BiFunction;")) := by decide +kernel
theorem zx_fl2 : (flatC (Jvm.Cond.and given_1 narrow_1))[9]? = some (Cond.exactly (.string "LaneDoors$Lexer" 34) "java/lang/String") ∧ (flatC (Jvm.Cond.and given_1 narrow_1))[10]? = some (Cond.eq (.field (.string "LaneDoors$Lexer" 34) "java/lang/String" "coder" "B") (.int 0)) ∧ (flatC (Jvm.Cond.and given_1 narrow_1))[11]? = some (Cond.arrayOf (.field (.string "LaneDoors$Lexer" 34) "java/lang/String" "value" "[B") .byte) ∧ (flatC (Jvm.Cond.and given_1 narrow_1))[12]? = some (Cond.eq (.length (.field (.string "LaneDoors$Lexer" 34) "java/lang/String" "value" "[B")) (.int (Int32.ofNat 125))) := by decide +kernel
theorem zx_fl3 : (flatC (Jvm.Cond.and given_1 narrow_1))[138]? = some (Cond.exactly (.string "LaneDoors$Lexer" 74) "java/lang/String") ∧ (flatC (Jvm.Cond.and given_1 narrow_1))[139]? = some (Cond.eq (.field (.string "LaneDoors$Lexer" 74) "java/lang/String" "coder" "B") (.int 0)) ∧ (flatC (Jvm.Cond.and given_1 narrow_1))[140]? = some (Cond.arrayOf (.field (.string "LaneDoors$Lexer" 74) "java/lang/String" "value" "[B") .byte) ∧ (flatC (Jvm.Cond.and given_1 narrow_1))[141]? = some (Cond.eq (.length (.field (.string "LaneDoors$Lexer" 74) "java/lang/String" "value" "[B")) (.int (Int32.ofNat 11))) := by decide +kernel
theorem zx_tw1 : (zx_tb 1)[186]? = some (Cond.stringRef "LaneDoors$Lexer" 34 zx_t1) ∧ (zx_tb 3)[59]? = some (Cond.stringRef "LaneDoors$Lexer" 74 zx_t2) ∧ (zx_tb 1)[196]? = some (Cond.laysStatic "java/lang/String" "COMPACT_STRINGS" "Z") ∧ (zx_tb 1)[212]? = some (Cond.laysStatic "jdk/internal/util/Preconditions" "SIOOBE_FORMATTER" "Ljava/util/function/BiFunction;") ∧ (zx_tb 2)[57]? = some (Cond.arrayOver (.object RX8)) := by decide +kernel
theorem zx_tw2 : Cond.initialized "java/lang/String" ∈ lw_tbl ∧ Cond.initialized "jdk/internal/util/Preconditions" ∈ lw_tbl := by
  constructor
  · have h : ∃ y ∈ zx_mt.flatten, zx_mi y = Cond.initialized "java/lang/String" := ⟨zm_278, List.mem_flatten.mpr ⟨_, List.mem_of_getElem? (i := 17) rfl, List.mem_of_getElem? (i := 6) rfl⟩, rfl⟩
    obtain ⟨y, hy, he⟩ := h
    rw [← he]
    exact (zx_mws_ok hy (List.mem_cons_of_mem _ List.mem_cons_self)).1
  · have h : ∃ y ∈ zx_mt.flatten, zx_mi y = Cond.initialized "jdk/internal/util/Preconditions" := ⟨zm_338, List.mem_flatten.mpr ⟨_, List.mem_of_getElem? (i := 21) rfl, List.mem_of_getElem? (i := 2) rfl⟩, rfl⟩
    obtain ⟨y, hy, he⟩ := h
    rw [← he]
    exact (zx_mws_ok hy (List.mem_cons_of_mem _ List.mem_cons_self)).1
theorem zx_eg_hi {c k : Nat} (hc : c < 2 ^ 384) (hk : 6 ≤ k) : zx_eg c k = 0 := by
  show (c >>> (0 + 64 * k)) % 18446744073709551616 = 0
  rw [Nat.shiftRight_eq_div_pow, Nat.div_eq_of_lt, Nat.zero_mod]
  exact Nat.lt_of_lt_of_le hc (Nat.pow_le_pow_right (by decide) (by omega))
theorem zx_e0_at : ∀ k, k < 6 → zx_eg zx_e0 k = 4294967295 := by decide +kernel
theorem zx_ev0 (nu : Nat → Int32) : zx_ev nu zx_e0 := by
  intro k
  by_cases hk : k < 6
  · right
    rw [zx_e0_at k hk]
    have := zx_bz_lt (nu k)
    constructor <;> omega
  · left
    exact zx_eg_hi (by decide +kernel) (by omega)
theorem zx_h0_all : (zx_h0.all (fun l => l.all (fun x => Nat.beq x 15))) = true := by decide +kernel
theorem zx_h0_at {i k : Nat} (h : zx_hG zx_h0 i = some k) : k = 15 := by
  unfold zx_hG at h
  cases h1 : zx_h0[i / 16]? with
  | none => rw [h1] at h; cases h
  | some l =>
    rw [h1] at h
    have h2 : l[i % 16]? = some k := h
    exact zx_beq_t (List.all_eq_true.mp (List.all_eq_true.mp zx_h0_all l (List.mem_of_getElem? h1)) k (List.mem_of_getElem? h2))
theorem zx_w1_0 : zx_lg zx_w1 0 = 6 := by decide +kernel
theorem zx_w1_3 : zx_lg zx_w1 3 = 4 := by decide +kernel
theorem zx_on13 : zx_on1 13 = R_law := by decide +kernel
theorem zx_room1 : 41 + 1 ≤ room_1.frames ∧ 80 * (41 + 1) ≤ room_1.locals ∧ 600000 ≤ room_1.cells ∧ 7302250 ≤ room_1.slots := by decide
theorem zx_w1_1 : zx_lg zx_w1 1 = 2 := by decide +kernel
theorem zx_w1_2 : zx_lg zx_w1 2 = 2242 := by decide +kernel
set_option maxRecDepth 10000 in
theorem zl_ends {p : Program} {e : Env} {s : State} {m : MethodId} {below : List Frame} {meth : Method} {c : Code} {l : Launch} {b : Nat} {D : va_G} {ex : Nat → Nat} {nu : Nat → Int32} (hx : p.tables.exec = Jvm.exec) (hb : c.code = code) (hr : meth.sig.returnType = ret) (hlocks : meth.locks = false) : zx_Rt p l e room_1 s m #[Value.ref b] below meth c (lw_Z below #[Value.ref b] s) D s.heap.size ex nu [] zm_law zx_kf := by
  intro pc row r h e hn ce sl ls vs H locs ins hd hri hK hce hsl hR
  have hr20 : r = [20] := zx_leq_s r [20] hK
  subst hr20
  obtain ⟨tys, ws, hW, hS, hl, hL, hT, hE⟩ := hR
  obtain ⟨x, rs, rfl, h1, h2⟩ := zx_SR1 hT
  cases rs with
  | cons _ _ => exact h2.elim
  | nil =>
    obtain ⟨-, h3, -⟩ := (zx_r4 (by decide)).mp h1
    subst h3
    refine va_forget (fun q hq => hS.2.2 q hq) (W.widen hce hsl ?_)
    rcases hri with ⟨z, -, -⟩ | ⟨ty, v, z1, rfl, z2, -⟩ | ⟨v, z, -, -⟩ | ⟨ty, v, z1, z2, -, -, -⟩
    · cases z
    · exact lw_ret hx hb hr hlocks hd
    · cases z
    · have z1 : ret = some ty := z1
      rcases z2 with ⟨n, rfl⟩ | ⟨n, rfl⟩ <;> cases z1
set_option maxHeartbeats 1000000 in
/-- behind the constructors -/
theorem zl_18 {p : Program} {e : Env} {s : State} {m : MethodId} {below : List Frame} {meth : Method} {c : Code} {l : Launch} {b L : Nat} {xs : Nat → Int32} {D : va_G} {ex : Nat → Nat} {ls : Array Slot} {H : Heap} {locs : List Loc} (hL6 : L ≤ 3072) (C0 : lw_At p s m meth c b L xs) (hex : ex 0 = b) (hC : zx_Cx p room_1 s m #[Value.ref b] meth c zm_law 101 s.heap.size ex zy_n0) (hR : zx_Rl D s.heap.size ex zy_n0 [] zm_law s zx_w1 [] zx_h1 zx_e0 192 ls [] H locs) : W p l e room_1 s m #[Value.ref b] below meth c H locs 192 15906 (lw_Z below #[Value.ref b] s) (F0 m 18 ls []) := by
  obtain ⟨hx, hb, hr, hml, hown, hts, hX0, hbl, hlocks, hgv⟩ := C0
  obtain ⟨tys, ws, hW, hS, hl, hLR, hT, hE⟩ := hR
  obtain ⟨hK, hP, hD, hlen, hHR, -⟩ := hW
  have hal : (ws.map fun w => w.1).length = 192 := by rw [List.length_map]; exact hlen
  have H0 : zy_H0 (zw_Z (ws.map fun w => w.1) ex) := zw_H0 hal
  have HU : zy_UQ zy_fg (zw_Z (ws.map fun w => w.1) ex) := zw_UQ
  have hMx : zy_Mx D s.heap.size zy_T (zw_Z (ws.map fun w => w.1) ex) s zm_law ls H locs tys ws := ⟨⟨hK, hP, hD, zw_HR hlen hHR⟩, hS, hl⟩
  have hfa : ∀ (r k q : Nat), zw_rl.getD r 0 = k → (ws.map fun w => w.1)[k]? = some q → zy_fa1 (zw_Z (ws.map fun w => w.1) ex) r = q := fun r k q h1 h2 => by
    show ((ws.map fun w => w.1)[zw_rl.getD r 0]?).getD 0 = q
    rw [h1, h2]
    rfl
  have g0 : ls[0]? = some (.val (.ref b)) := by
    obtain ⟨v, z1, z2⟩ := hLR 0 (by rw [zx_w1_0]; decide)
    rw [zx_w1_0] at z2
    obtain ⟨-, z3⟩ := (zx_r6 (by decide)).mp z2
    have z3 : v = .ref (ex 0) := z3
    rw [z1, z3, hex]
  have g1 : ls[1]? = some (.val (.ref (zy_fa1 (zw_Z (ws.map fun w => w.1) ex) 1))) := by
    obtain ⟨v, z1, z2⟩ := hLR 1 (by rw [zx_w1_1]; decide)
    rw [zx_w1_1] at z2
    obtain ⟨-, q, z3, z4⟩ := (zx_r2 (by decide)).mp z2
    have z3 : (ws.map fun w => w.1)[0]? = some q := z3
    rw [z1, z4, hfa 1 0 q rfl z3]
  have g2 : ls[2]? = some (.val (.ref (zy_fa1 (zw_Z (ws.map fun w => w.1) ex) 29))) := by
    obtain ⟨v, z1, z2⟩ := hLR 2 (by rw [zx_w1_2]; decide)
    rw [zx_w1_2] at z2
    obtain ⟨-, q, z3, z4⟩ := (zx_r2 (by decide)).mp z2
    have z3 : (ws.map fun w => w.1)[140]? = some q := z3
    rw [z1, z4, hfa 29 140 q rfl z3]
  have g3 : ls[3]? = some (.val (.int (nI 0))) := by
    obtain ⟨v, z1, z2⟩ := hLR 3 (by rw [zx_w1_3]; decide)
    rw [zx_w1_3] at z2
    obtain ⟨-, z3, -⟩ := (zx_r4 (by decide)).mp z2
    have z3 : v = .int (nI 0) := z3
    rw [z1, z3]
  have hF : zl_Fx l D (zw_Z (ws.map fun w => w.1) ex) p room_1 s m #[Value.ref b] meth c 192 15906 b L 100 xs := ⟨⟨H0, HU, fun As hAs => by
    rw [zy_exA hAs]
    exact hC, rfl, hr, hlocks⟩, by decide, ⟨hx, hb, hX0, hbl, by omega⟩, by decide, zo_HH H0 HU⟩
  refine zl_loop hF (fun ls tys ws H locs hx1 _ => ?_) L 0 ls (Nat.sub_le _ _) (Nat.zero_le _) ⟨g0, g1, g2, g3⟩ tys ws H locs hMx (zw_I hlen hHR)
  refine lv_iconst (v := 1) hx hb zd_1801 (by decide) ?_
  refine va_forget (fun q hq => hx1.2.1.2.2 q hq) (W.widen (k := 600000) (n := 7302250) (by decide) (by decide) ?_)
  exact lw_ret hx hb hr hlocks zd_1802
