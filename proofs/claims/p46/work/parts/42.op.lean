/-! the typed walker: which instruction is done how (printed by program) -/
abbrev zy_U : Type := Nat → Nat → List Nat → zy_C → Nat → Bool → Bool
noncomputable def zy_o1_3 (T : List Nat) (W : Nat) (M : zx_M) (K : zy_K) (call : Nat → zx_M → zy_K → zy_N) (nx : zy_N) (op a b np : Nat) (cur0 cur : List zx_E) (pc row : Nat) (st : List Nat) (C : zy_C) (e : Nat) : Bool := bif Nat.ble op 2 then (bif Nat.ble op 1 then (zyh_st1 M nx a b np cur row st C e) else (zyh_st2 M nx a np cur row st C e)) else (zyh_inc M nx a b np cur row st C e)
noncomputable def zy_o4_6 (T : List Nat) (W : Nat) (M : zx_M) (K : zy_K) (call : Nat → zx_M → zy_K → zy_N) (nx : zy_N) (op a b np : Nat) (cur0 cur : List zx_E) (pc row : Nat) (st : List Nat) (C : zy_C) (e : Nat) : Bool := bif Nat.ble op 5 then (bif Nat.ble op 4 then (zyh_psh nx a b np cur row st C e) else (zyh_bin nx np cur row st C e zy_ad)) else (zyh_bin nx np cur row st C e zy_sb)
noncomputable def zy_o1_6 (T : List Nat) (W : Nat) (M : zx_M) (K : zy_K) (call : Nat → zx_M → zy_K → zy_N) (nx : zy_N) (op a b np : Nat) (cur0 cur : List zx_E) (pc row : Nat) (st : List Nat) (C : zy_C) (e : Nat) : Bool := bif Nat.ble op 3 then zy_o1_3 T W M K call nx op a b np cur0 cur pc row st C e else zy_o4_6 T W M K call nx op a b np cur0 cur pc row st C e
noncomputable def zy_o7_9 (T : List Nat) (W : Nat) (M : zx_M) (K : zy_K) (call : Nat → zx_M → zy_K → zy_N) (nx : zy_N) (op a b np : Nat) (cur0 cur : List zx_E) (pc row : Nat) (st : List Nat) (C : zy_C) (e : Nat) : Bool := bif Nat.ble op 8 then (bif Nat.ble op 7 then (zyh_bin nx np cur row st C e zy_ml) else (zyh_bin nx np cur row st C e zy_an)) else (zyh_bin nx np cur row st C e (zy_b2 Nat.lor zy_wor))
noncomputable def zy_o10_12 (T : List Nat) (W : Nat) (M : zx_M) (K : zy_K) (call : Nat → zx_M → zy_K → zy_N) (nx : zy_N) (op a b np : Nat) (cur0 cur : List zx_E) (pc row : Nat) (st : List Nat) (C : zy_C) (e : Nat) : Bool := bif Nat.ble op 11 then (bif Nat.ble op 10 then (zyh_bin nx np cur row st C e zy_xr) else (zyh_bin nx np cur row st C e (zy_sh zx_g6 zy_wshl))) else (zyh_bin nx np cur row st C e zy_sr)
noncomputable def zy_o7_12 (T : List Nat) (W : Nat) (M : zx_M) (K : zy_K) (call : Nat → zx_M → zy_K → zy_N) (nx : zy_N) (op a b np : Nat) (cur0 cur : List zx_E) (pc row : Nat) (st : List Nat) (C : zy_C) (e : Nat) : Bool := bif Nat.ble op 9 then zy_o7_9 T W M K call nx op a b np cur0 cur pc row st C e else zy_o10_12 T W M K call nx op a b np cur0 cur pc row st C e
noncomputable def zy_o1_12 (T : List Nat) (W : Nat) (M : zx_M) (K : zy_K) (call : Nat → zx_M → zy_K → zy_N) (nx : zy_N) (op a b np : Nat) (cur0 cur : List zx_E) (pc row : Nat) (st : List Nat) (C : zy_C) (e : Nat) : Bool := bif Nat.ble op 6 then zy_o1_6 T W M K call nx op a b np cur0 cur pc row st C e else zy_o7_12 T W M K call nx op a b np cur0 cur pc row st C e
noncomputable def zy_o13_15 (T : List Nat) (W : Nat) (M : zx_M) (K : zy_K) (call : Nat → zx_M → zy_K → zy_N) (nx : zy_N) (op a b np : Nat) (cur0 cur : List zx_E) (pc row : Nat) (st : List Nat) (C : zy_C) (e : Nat) : Bool := bif Nat.ble op 14 then (bif Nat.ble op 13 then (zyh_bin nx np cur row st C e (zy_sh zx_g8 zy_wushr)) else (zyh_bin nx np cur row st C e (zy_dv Nat.div zy_wdiv))) else (zyh_rem nx np cur0 cur pc row st C e)
noncomputable def zy_o16_18 (T : List Nat) (W : Nat) (M : zx_M) (K : zy_K) (call : Nat → zx_M → zy_K → zy_N) (nx : zy_N) (op a b np : Nat) (cur0 cur : List zx_E) (pc row : Nat) (st : List Nat) (C : zy_C) (e : Nat) : Bool := bif Nat.ble op 17 then (bif Nat.ble op 16 then (zyh_un nx np cur row st C e (zy_u1 zx_n8 2147483520 2147483775)) else (zyh_un nx np cur row st C e (zy_u1 zx_n16 2147483648 2147549183))) else (zyh_i2l nx np cur row st C e)
noncomputable def zy_o13_18 (T : List Nat) (W : Nat) (M : zx_M) (K : zy_K) (call : Nat → zx_M → zy_K → zy_N) (nx : zy_N) (op a b np : Nat) (cur0 cur : List zx_E) (pc row : Nat) (st : List Nat) (C : zy_C) (e : Nat) : Bool := bif Nat.ble op 15 then zy_o13_15 T W M K call nx op a b np cur0 cur pc row st C e else zy_o16_18 T W M K call nx op a b np cur0 cur pc row st C e
noncomputable def zy_o19_21 (T : List Nat) (W : Nat) (M : zx_M) (K : zy_K) (call : Nat → zx_M → zy_K → zy_N) (nx : zy_N) (op a b np : Nat) (cur0 cur : List zx_E) (pc row : Nat) (st : List Nat) (C : zy_C) (e : Nat) : Bool := bif Nat.ble op 20 then (bif Nat.ble op 19 then (zyh_lbin nx np cur row st C e) else (zyh_dup nx np cur row st C e)) else (zyh_pop nx np cur row st C e)
noncomputable def zy_o22_24 (T : List Nat) (W : Nat) (M : zx_M) (K : zy_K) (call : Nat → zx_M → zy_K → zy_N) (nx : zy_N) (op a b np : Nat) (cur0 cur : List zx_E) (pc row : Nat) (st : List Nat) (C : zy_C) (e : Nat) : Bool := bif Nat.ble op 23 then (bif Nat.ble op 22 then (zyh_dup2 nx np cur row st C e) else (zy_jp M nx a row st C e)) else (zyh_icmp M nx a b np cur row st C e)
noncomputable def zy_o19_24 (T : List Nat) (W : Nat) (M : zx_M) (K : zy_K) (call : Nat → zx_M → zy_K → zy_N) (nx : zy_N) (op a b np : Nat) (cur0 cur : List zx_E) (pc row : Nat) (st : List Nat) (C : zy_C) (e : Nat) : Bool := bif Nat.ble op 21 then zy_o19_21 T W M K call nx op a b np cur0 cur pc row st C e else zy_o22_24 T W M K call nx op a b np cur0 cur pc row st C e
noncomputable def zy_o13_24 (T : List Nat) (W : Nat) (M : zx_M) (K : zy_K) (call : Nat → zx_M → zy_K → zy_N) (nx : zy_N) (op a b np : Nat) (cur0 cur : List zx_E) (pc row : Nat) (st : List Nat) (C : zy_C) (e : Nat) : Bool := bif Nat.ble op 18 then zy_o13_18 T W M K call nx op a b np cur0 cur pc row st C e else zy_o19_24 T W M K call nx op a b np cur0 cur pc row st C e
noncomputable def zy_o1_24 (T : List Nat) (W : Nat) (M : zx_M) (K : zy_K) (call : Nat → zx_M → zy_K → zy_N) (nx : zy_N) (op a b np : Nat) (cur0 cur : List zx_E) (pc row : Nat) (st : List Nat) (C : zy_C) (e : Nat) : Bool := bif Nat.ble op 12 then zy_o1_12 T W M K call nx op a b np cur0 cur pc row st C e else zy_o13_24 T W M K call nx op a b np cur0 cur pc row st C e
noncomputable def zy_o25_27 (T : List Nat) (W : Nat) (M : zx_M) (K : zy_K) (call : Nat → zx_M → zy_K → zy_N) (nx : zy_N) (op a b np : Nat) (cur0 cur : List zx_E) (pc row : Nat) (st : List Nat) (C : zy_C) (e : Nat) : Bool := bif Nat.ble op 26 then (bif Nat.ble op 25 then (zyh_if M nx a b np cur row st C e) else (zyh_sw M nx a row st C e)) else (zyh_get T nx a b np cur row st C e)
noncomputable def zy_o28_30 (T : List Nat) (W : Nat) (M : zx_M) (K : zy_K) (call : Nat → zx_M → zy_K → zy_N) (nx : zy_N) (op a b np : Nat) (cur0 cur : List zx_E) (pc row : Nat) (st : List Nat) (C : zy_C) (e : Nat) : Bool := bif Nat.ble op 29 then (bif Nat.ble op 28 then (zyh_put T W nx a b np cur row st C e) else (zyh_str nx a np cur row st C e)) else (false)
noncomputable def zy_o25_30 (T : List Nat) (W : Nat) (M : zx_M) (K : zy_K) (call : Nat → zx_M → zy_K → zy_N) (nx : zy_N) (op a b np : Nat) (cur0 cur : List zx_E) (pc row : Nat) (st : List Nat) (C : zy_C) (e : Nat) : Bool := bif Nat.ble op 27 then zy_o25_27 T W M K call nx op a b np cur0 cur pc row st C e else zy_o28_30 T W M K call nx op a b np cur0 cur pc row st C e
noncomputable def zy_o31_33 (T : List Nat) (W : Nat) (M : zx_M) (K : zy_K) (call : Nat → zx_M → zy_K → zy_N) (nx : zy_N) (op a b np : Nat) (cur0 cur : List zx_E) (pc row : Nat) (st : List Nat) (C : zy_C) (e : Nat) : Bool := bif Nat.ble op 32 then (bif Nat.ble op 31 then (false) else (zyh_len T nx np cur row st C e)) else (zyh_ald T nx a np cur0 cur pc row st C e)
noncomputable def zy_o34_36 (T : List Nat) (W : Nat) (M : zx_M) (K : zy_K) (call : Nat → zx_M → zy_K → zy_N) (nx : zy_N) (op a b np : Nat) (cur0 cur : List zx_E) (pc row : Nat) (st : List Nat) (C : zy_C) (e : Nat) : Bool := bif Nat.ble op 35 then (bif Nat.ble op 34 then (zyh_ast T W nx a np cur0 cur pc row st C e) else (zyh_lald T nx np cur row st C e)) else (zyh_last T W nx np cur row st C e)
noncomputable def zy_o31_36 (T : List Nat) (W : Nat) (M : zx_M) (K : zy_K) (call : Nat → zx_M → zy_K → zy_N) (nx : zy_N) (op a b np : Nat) (cur0 cur : List zx_E) (pc row : Nat) (st : List Nat) (C : zy_C) (e : Nat) : Bool := bif Nat.ble op 33 then zy_o31_33 T W M K call nx op a b np cur0 cur pc row st C e else zy_o34_36 T W M K call nx op a b np cur0 cur pc row st C e
noncomputable def zy_o25_36 (T : List Nat) (W : Nat) (M : zx_M) (K : zy_K) (call : Nat → zx_M → zy_K → zy_N) (nx : zy_N) (op a b np : Nat) (cur0 cur : List zx_E) (pc row : Nat) (st : List Nat) (C : zy_C) (e : Nat) : Bool := bif Nat.ble op 30 then zy_o25_30 T W M K call nx op a b np cur0 cur pc row st C e else zy_o31_36 T W M K call nx op a b np cur0 cur pc row st C e
noncomputable def zy_o37_39 (T : List Nat) (W : Nat) (M : zx_M) (K : zy_K) (call : Nat → zx_M → zy_K → zy_N) (nx : zy_N) (op a b np : Nat) (cur0 cur : List zx_E) (pc row : Nat) (st : List Nat) (C : zy_C) (e : Nat) : Bool := bif Nat.ble op 38 then (bif Nat.ble op 37 then (zyh_rald T nx np cur row st C e) else (zyh_rast T W nx np cur row st C e)) else (false)
noncomputable def zy_o40_42 (T : List Nat) (W : Nat) (M : zx_M) (K : zy_K) (call : Nat → zx_M → zy_K → zy_N) (nx : zy_N) (op a b np : Nat) (cur0 cur : List zx_E) (pc row : Nat) (st : List Nat) (C : zy_C) (e : Nat) : Bool := bif Nat.ble op 41 then (bif Nat.ble op 40 then (zyh_cpy T W nx np cur row st C e) else (zyh_inv T call nx a np cur row st C e)) else (zyh_ret M K st C e)
noncomputable def zy_o37_42 (T : List Nat) (W : Nat) (M : zx_M) (K : zy_K) (call : Nat → zx_M → zy_K → zy_N) (nx : zy_N) (op a b np : Nat) (cur0 cur : List zx_E) (pc row : Nat) (st : List Nat) (C : zy_C) (e : Nat) : Bool := bif Nat.ble op 39 then zy_o37_39 T W M K call nx op a b np cur0 cur pc row st C e else zy_o40_42 T W M K call nx op a b np cur0 cur pc row st C e
noncomputable def zy_o43_45 (T : List Nat) (W : Nat) (M : zx_M) (K : zy_K) (call : Nat → zx_M → zy_K → zy_N) (nx : zy_N) (op a b np : Nat) (cur0 cur : List zx_E) (pc row : Nat) (st : List Nat) (C : zy_C) (e : Nat) : Bool := bif Nat.ble op 44 then (bif Nat.ble op 43 then (zyh_rtv M K st C e) else (zyh_lcmp nx np cur row st C e)) else (zyh_un nx np cur row st C e zy_ng)
noncomputable def zy_o46_47 (T : List Nat) (W : Nat) (M : zx_M) (K : zy_K) (call : Nat → zx_M → zy_K → zy_N) (nx : zy_N) (op a b np : Nat) (cur0 cur : List zx_E) (pc row : Nat) (st : List Nat) (C : zy_C) (e : Nat) : Bool := bif Nat.ble op 46 then (zyh_lshl nx np cur row st C e) else (zyh_lbin nx np cur row st C e)
noncomputable def zy_o43_47 (T : List Nat) (W : Nat) (M : zx_M) (K : zy_K) (call : Nat → zx_M → zy_K → zy_N) (nx : zy_N) (op a b np : Nat) (cur0 cur : List zx_E) (pc row : Nat) (st : List Nat) (C : zy_C) (e : Nat) : Bool := bif Nat.ble op 45 then zy_o43_45 T W M K call nx op a b np cur0 cur pc row st C e else zy_o46_47 T W M K call nx op a b np cur0 cur pc row st C e
noncomputable def zy_o37_47 (T : List Nat) (W : Nat) (M : zx_M) (K : zy_K) (call : Nat → zx_M → zy_K → zy_N) (nx : zy_N) (op a b np : Nat) (cur0 cur : List zx_E) (pc row : Nat) (st : List Nat) (C : zy_C) (e : Nat) : Bool := bif Nat.ble op 42 then zy_o37_42 T W M K call nx op a b np cur0 cur pc row st C e else zy_o43_47 T W M K call nx op a b np cur0 cur pc row st C e
noncomputable def zy_o25_47 (T : List Nat) (W : Nat) (M : zx_M) (K : zy_K) (call : Nat → zx_M → zy_K → zy_N) (nx : zy_N) (op a b np : Nat) (cur0 cur : List zx_E) (pc row : Nat) (st : List Nat) (C : zy_C) (e : Nat) : Bool := bif Nat.ble op 36 then zy_o25_36 T W M K call nx op a b np cur0 cur pc row st C e else zy_o37_47 T W M K call nx op a b np cur0 cur pc row st C e
noncomputable def zy_o1_47 (T : List Nat) (W : Nat) (M : zx_M) (K : zy_K) (call : Nat → zx_M → zy_K → zy_N) (nx : zy_N) (op a b np : Nat) (cur0 cur : List zx_E) (pc row : Nat) (st : List Nat) (C : zy_C) (e : Nat) : Bool := bif Nat.ble op 24 then zy_o1_24 T W M K call nx op a b np cur0 cur pc row st C e else zy_o25_47 T W M K call nx op a b np cur0 cur pc row st C e
noncomputable def zy_op (T : List Nat) (W : Nat) (M : zx_M) (K : zy_K) (call : Nat → zx_M → zy_K → zy_N) (nx : zy_N) (op a b np : Nat) (cur0 cur : List zx_E) (pc row : Nat) (st : List Nat) (C : zy_C) (e : Nat) : Bool := bif Nat.beq op 0 then zyh_ld nx a b np cur row st C e else bif Nat.ble op 47 then zy_o1_47 T W M K call nx op a b np cur0 cur pc row st C e else false
noncomputable def zy_st (T : List Nat) (W : Nat) (M : zx_M) (K : zy_K) (call : Nat → zx_M → zy_K → zy_N) (cut : zy_U) (nx : zy_N) : zy_N := fun cur0 pc row st C e => @List.rec zx_E (fun _ => Bool) (cut pc row st C e (zx_bk M.2.2 pc (fun cur => nx cur pc row st C e))) (fun q cur _ => bif Nat.beq q.1 pc then zy_op T W M K call nx q.2.1 q.2.2.1 q.2.2.2.1 q.2.2.2.2 cur0 cur pc row st C e else false) cur0
def zy_zf : zy_N := fun _ _ _ _ _ _ => false
theorem zy_c5 (n : Nat) : zx_c n ≠ 5 := by
  show n * 16 + 4 ≠ 5
  omega
theorem zy_lcs_len : zy_lcs.length = 25 := by decide
theorem zy_jx_s {n : Nat} (h : zx_jx n < 25) : lN n = zy_lc (zx_jx n) := by
  unfold zy_lc
  have h1 : zx_jx n < zy_lcs.length := by rw [zy_lcs_len]; exact h
  have h2 : Nat.beq (zy_lcs[zx_jx n]'h1) n = true := List.findIdx_getElem (w := h1)
  rw [List.getD_eq_getElem?_getD, List.getElem?_eq_getElem h1]
  show lN n = lN (zy_lcs[zx_jx n]'h1)
  rw [zx_beq_t h2]
theorem zy_n16_b (x : Int32) : 2147483648 ≤ zx_bz ((x.toUInt32 % 65536).toInt32) ∧ zx_bz ((x.toUInt32 % 65536).toInt32) ≤ 2147549183 ∧ (2147483648 ≤ zx_bz x → zx_bz x ≤ 2147549183 → (x.toUInt32 % 65536).toInt32 = x) := by
  obtain ⟨n, hn, rfl⟩ := zy_any x
  rw [zx_n16' n hn]
  have e1 : zx_n16 n = n % 65536 := rfl
  rw [e1]
  have h1 := zy_bz_n (n := n % 65536) (by omega)
  refine ⟨by omega, by omega, fun a1 a2 => ?_⟩
  rw [zx_bz_nI n hn, zx_bi_eq] at a1 a2
  rw [show n % 65536 = n by omega]
theorem zy_n8_b (x : Int32) : 2147483520 ≤ zx_bz (x.toInt8.toInt32) ∧ zx_bz (x.toInt8.toInt32) ≤ 2147483775 ∧ (2147483520 ≤ zx_bz x → zx_bz x ≤ 2147483775 → x.toInt8.toInt32 = x) := by
  have h3 : (x.toInt8.toInt32).toInt = x.toInt.bmod 256 := by rw [Int8.toInt_toInt32, Int32.toInt_toInt8]
  have h4 := zx_bz_int (x.toInt8.toInt32)
  have h5 : -128 ≤ x.toInt.bmod 256 ∧ x.toInt.bmod 256 ≤ 127 := by
    simp only [Int.bmod_def]
    constructor <;> split <;> omega
  refine ⟨by omega, by omega, fun a1 a2 => ?_⟩
  have h6 := zx_ny a1 a2
  have h6 : Value.int x.toInt8.toInt32 = .int x := h6
  injection h6
section ZYW
variable {p : Program} {l : Launch} {en : Env} {R : Room} {s : State} {m : MethodId} {args : Array Value} {below : List Frame} {meth : Method} {c : Code} {Q : State → Prop} {D : va_G} {N0 : Nat} {T : List Nat} {Wm : Nat} {ws0 : va_W} {A0 A : zy_V} {M : zx_M} {d : Nat} {K : zy_K} {nx : zy_N} {call : Nat → zx_M → zy_K → zy_N} {cut : zy_U} {cur cur0 : List zx_E} {pc row : Nat} {st : List Nat} {C : zy_C} {e : Nat} {ls : Array Slot} {vs : List Value} {H : Heap} {locs : List Loc}
theorem zy_inv_2 {a np : Nat} {y : zx_M} (hya : zx_me a = some y) (hCa : zy_Ca l D N0 T Wm d call A0 ws0) (hC : zx_Cx p R s m args meth c M d N0 (zy_ex A0) zy_n0) (hN : zy_Nx p l en R s m args below meth c Q D N0 T Wm ws0 A0 M nx) (hA : zy_le A0 A) (hv : ∀ q ∈ cur, zx_ve M q) (hR : zy_Rl D N0 T Wm ws0 A M s row st C e ls vs H locs) (hk : zyh_inv T call nx a np cur row st C e = true) : y.2.1.2.1 ≠ 2 := by
  obtain ⟨_, _, _, _, _, _, _, _, _, _, _, _, _, _, _, _, _, _, hne, _⟩ := zy_inv_s hya hCa hC hN hA hv hR hk
  exact hne
set_option maxHeartbeats 4000000 in
set_option maxRecDepth 10000 in
theorem zy_op_s {op a b np len : Nat} {ins : Instr} (hC : zx_Cx p R s m args meth c M d N0 (zy_ex A0) zy_n0) (hCa : zy_Ca l D N0 T Wm d call A0 ws0) (hRt : zy_Rt p l en R s m args below meth c Q D N0 T Wm ws0 A0 M K) (hrk : zx_rk M.1.2.2.2 = M.2.1.2.2.2.2.2) (hN : zy_Nx p l en R s m args below meth c Q D N0 T Wm ws0 A0 M nx) (hA : zy_le A0 A) (hd : decode M.1.2.1 pc = .ok (ins, len)) (hnp : np = pc + len) (hcd : zx_cd M pc ins len = some (op, a, b)) (hre : zx_re1 M (pc, op, a, b, np) = true) (hv0 : ∀ q ∈ cur0, zx_ve M q) (hv : ∀ q ∈ cur, zx_ve M q) (hR : zy_Rl D N0 T Wm ws0 A M s row st C e ls vs H locs) (hk : zy_op T Wm M K call nx op a b np cur0 cur pc row st C e = true) :
    W p l en R s m args below meth c H locs 0 0 Q (F0 m pc ls vs) := by
  have hx0 := hC.1
  have hb := hC.2.1
  have hown := hC.2.2.2.1
  have hts := hC.2.2.2.2.1
  subst hnp
  cases ins
  all_goals first | (exact absurd (show (none : Option (Nat × Nat × Nat)) = some (op, a, b) from hcd) (fun z => by cases z)) | skip
  case iload_n k =>
    obtain ⟨hl, he⟩ := zx_le1_s hcd
    have hl := zx_beq_t hl
    subst hl
    cases he
    obtain ⟨x, g1, g2, g3⟩ := zz_ld (Or.inl rfl) hN hA hv hR (show zyh_ld nx _ 146 (pc + 1) cur row st C e = true from hk)
    obtain ⟨y, rfl⟩ := g2.1 rfl
    exact lv_iload_n hx0 hb hd rfl g1 g3
  case iload i =>
    obtain ⟨hl, he⟩ := zx_le1_s hcd
    have hl := zx_beq_t hl
    subst hl
    cases he
    obtain ⟨x, g1, g2, g3⟩ := zz_ld (Or.inl rfl) hN hA hv hR (show zyh_ld nx _ 146 (pc + 2) cur row st C e = true from hk)
    obtain ⟨y, rfl⟩ := g2.1 rfl
    exact lv_iload hx0 hb hd g1 g3
  case aload_n k =>
    obtain ⟨hl, he⟩ := zx_le1_s hcd
    have hl := zx_beq_t hl
    subst hl
    cases he
    obtain ⟨x, g1, g2, g3⟩ := zz_ld (Or.inr (Or.inl rfl)) hN hA hv hR (show zyh_ld nx _ 332 (pc + 1) cur row st C e = true from hk)
    rcases g2.2.1 rfl with rfl | ⟨y, rfl⟩
    · exact lv_aload_nN hx0 hb hd rfl g1 g3
    · exact lv_aload_n hx0 hb hd rfl g1 g3
  case aload i =>
    obtain ⟨hl, he⟩ := zx_le1_s hcd
    have hl := zx_beq_t hl
    subst hl
    cases he
    obtain ⟨x, g1, g2, g3⟩ := zz_ld (Or.inr (Or.inl rfl)) hN hA hv hR (show zyh_ld nx _ 332 (pc + 2) cur row st C e = true from hk)
    rcases g2.2.1 rfl with rfl | ⟨y, rfl⟩
    · exact lv_aloadN hx0 hb hd g1 g3
    · exact lv_aload hx0 hb hd g1 g3
  case lload_n k =>
    obtain ⟨hl, he⟩ := zx_le1_s hcd
    have hl := zx_beq_t hl
    subst hl
    cases he
    obtain ⟨x, g1, g2, g3⟩ := zz_ld (Or.inr (Or.inr rfl)) hN hA hv hR (show zyh_ld nx _ 32 (pc + 1) cur row st C e = true from hk)
    obtain ⟨y, rfl⟩ := g2.2.2 rfl
    exact lv_lload_n hx0 hb hd rfl g1 g3
  case lload i =>
    obtain ⟨hl, he⟩ := zx_le1_s hcd
    have hl := zx_beq_t hl
    subst hl
    cases he
    obtain ⟨x, g1, g2, g3⟩ := zz_ld (Or.inr (Or.inr rfl)) hN hA hv hR (show zyh_ld nx _ 32 (pc + 2) cur row st C e = true from hk)
    obtain ⟨y, rfl⟩ := g2.2.2 rfl
    exact lv_lload hx0 hb hd g1 g3
  case istore_n k =>
    obtain ⟨hl, he⟩ := zx_le1_s hcd
    have hl := zx_beq_t hl
    subst hl
    cases he
    obtain ⟨g0, g1, x, r, rfl, g2, g3⟩ := zz_st1 hN hA hv hR (show zyh_st1 M nx _ 146 (pc + 1) cur row st C e = true from hk)
    obtain ⟨y, rfl⟩ := g2.1 rfl
    exact lv_istore_n hx0 hb hd rfl g0 g1 rfl g3
  case istore i =>
    obtain ⟨hl, he⟩ := zx_le1_s hcd
    have hl := zx_beq_t hl
    subst hl
    cases he
    obtain ⟨g0, g1, x, r, rfl, g2, g3⟩ := zz_st1 hN hA hv hR (show zyh_st1 M nx _ 146 (pc + 2) cur row st C e = true from hk)
    obtain ⟨y, rfl⟩ := g2.1 rfl
    exact lv_istore hx0 hb hd g0 g1 rfl g3
  case astore_n k =>
    obtain ⟨hl, he⟩ := zx_le1_s hcd
    have hl := zx_beq_t hl
    subst hl
    cases he
    obtain ⟨g0, g1, x, r, rfl, g2, g3⟩ := zz_st1 hN hA hv hR (show zyh_st1 M nx _ 332 (pc + 1) cur row st C e = true from hk)
    rcases g2.2.1 rfl with rfl | ⟨y, rfl⟩
    · exact lv_astore_nN hx0 hb hd rfl g0 g1 rfl g3
    · exact lv_astore_n hx0 hb hd rfl g0 g1 rfl g3
  case astore i =>
    obtain ⟨hl, he⟩ := zx_le1_s hcd
    have hl := zx_beq_t hl
    subst hl
    cases he
    obtain ⟨g0, g1, x, r, rfl, g2, g3⟩ := zz_st1 hN hA hv hR (show zyh_st1 M nx _ 332 (pc + 2) cur row st C e = true from hk)
    rcases g2.2.1 rfl with rfl | ⟨y, rfl⟩
    · exact lv_astoreN hx0 hb hd g0 g1 rfl g3
    · exact lv_astore hx0 hb hd g0 g1 rfl g3
  case lstore_n k =>
    obtain ⟨hl, he⟩ := zx_le1_s hcd
    have hl := zx_beq_t hl
    subst hl
    cases he
    obtain ⟨g0, g1, x, r, rfl, g3⟩ := zz_st2 hN hA hv hR (show zyh_st2 M nx _ (pc + 1) cur row st C e = true from hk)
    exact lv_lstore_n hx0 hb hd rfl g0 g1 rfl g3
  case lstore i =>
    obtain ⟨hl, he⟩ := zx_le1_s hcd
    have hl := zx_beq_t hl
    subst hl
    cases he
    obtain ⟨g0, g1, x, r, rfl, g3⟩ := zz_st2 hN hA hv hR (show zyh_st2 M nx _ (pc + 2) cur row st C e = true from hk)
    exact lv_lstore hx0 hb hd g0 g1 rfl g3
  case iinc i n =>
    obtain ⟨hl, he⟩ := zx_le1_s hcd
    have hl := zx_beq_t hl
    subst hl
    cases he
    obtain ⟨g0, g1, x, ⟨kk, g2⟩, g3⟩ := zz_inc (zx_m32_lt n) hN hA hv hR (show zyh_inc M nx _ (zx_c (zx_m32 n)) (pc + 3) cur row st C e = true from hk)
    exact lv_iinc hx0 hb hd g0 g2 (by rw [zx_m32_of]) g1 rfl g3
  case iconst n =>
    obtain ⟨hl, he⟩ := zx_le1_s hcd
    have hl := zx_beq_t hl
    subst hl
    cases he
    exact lv_iconst hx0 hb hd (zx_m32_of n) (zz_psh (zy_c5 _) hN hA hv hR (show zyh_psh nx (zx_c (zx_m32 n)) _ (pc + 1) cur row st C e = true from hk) (zy_r_c (zx_m32_lt n)))
  case bipush n =>
    obtain ⟨hl, he⟩ := zx_le1_s hcd
    obtain ⟨hl, h2⟩ := zx_and_b hl
    have hl := zx_beq_t hl
    subst hl
    cases he
    exact lv_bipush hx0 hb hd (zx_m8_of (of_decide_eq_true h2)) (zz_psh (zy_c5 _) hN hA hv hR (show zyh_psh nx (zx_c (zx_m32 n)) _ (pc + 2) cur row st C e = true from hk) (zy_r_c (zx_m32_lt n)))
  case sipush n =>
    obtain ⟨hl, he⟩ := zx_le1_s hcd
    obtain ⟨hl, h2⟩ := zx_and_b hl
    have hl := zx_beq_t hl
    subst hl
    cases he
    exact lv_sipush hx0 hb hd (zx_m16_of (of_decide_eq_true h2)) (zz_psh (zy_c5 _) hN hA hv hR (show zyh_psh nx (zx_c (zx_m32 n)) _ (pc + 3) cur row st C e = true from hk) (zy_r_c (zx_m32_lt n)))
  case ldc i =>
    simp only [zx_cd] at hcd
    split at hcd
    · rename_i q hz
      obtain ⟨hm, ho, hi⟩ := zx_lf_s hz
      obtain ⟨hl, he⟩ := zx_le1_s hcd
      obtain ⟨hl, h2⟩ := zx_and_b hl
      have hl := zx_beq_t hl
      subst hl
      cases he
      have hc := hts _ (zx_inK hm)
      unfold zx_kw at hc
      rw [ho, hi] at hc
      exact lv_ldc hx0 hb hown hc hd (zz_psh (zy_c5 _) hN hA hv hR (show zyh_psh nx (zx_c q.2.2.1) _ (pc + 2) cur row st C e = true from hk) (zy_r_c (zx_blt_t h2)))
    · split at hcd
      · rename_i hz
        obtain ⟨hz1, rfl⟩ := hz
        obtain ⟨hl, he⟩ := zx_le1_s hcd
        have hl := zx_beq_t hl
        subst hl
        cases he
        refine va_ldcS hx0 hb hown (q := zy_ex A0 1) (tx := zx_t1) ?_ hd (zz_psh (by decide) hN hA hv hR (show zyh_psh nx 22 0 (pc + 2) cur row st C e = true from hk) ((zy_r6 (by decide)).mpr ⟨by decide, by rw [zy_exA hA]⟩))
        rw [hz1, zx_on3]
        exact hC.2.2.2.2.2.2.2.1.1
      · split at hcd
        · rename_i hz
          obtain ⟨hz1, rfl⟩ := hz
          obtain ⟨hl, he⟩ := zx_le1_s hcd
          have hl := zx_beq_t hl
          subst hl
          cases he
          refine va_ldcS hx0 hb hown (q := zy_ex A0 3) (tx := zx_t2) ?_ hd (zz_psh (by decide) hN hA hv hR (show zyh_psh nx 54 0 (pc + 2) cur row st C e = true from hk) ((zy_r6 (by decide)).mpr ⟨by decide, by rw [zy_exA hA]⟩))
          rw [hz1, zx_on3]
          exact hC.2.2.2.2.2.2.2.1.2.1
        · cases hcd
  case ldc_w i =>
    simp only [zx_cd] at hcd
    split at hcd
    · rename_i q hz
      obtain ⟨hm, ho, hi⟩ := zx_lf_s hz
      obtain ⟨hl, he⟩ := zx_le1_s hcd
      obtain ⟨hl, h2⟩ := zx_and_b hl
      have hl := zx_beq_t hl
      subst hl
      cases he
      have hc := hts _ (zx_inK hm)
      unfold zx_kw at hc
      rw [ho, hi] at hc
      exact lv_ldcw hx0 hb hown hc hd (zz_psh (zy_c5 _) hN hA hv hR (show zyh_psh nx (zx_c q.2.2.1) _ (pc + 3) cur row st C e = true from hk) (zy_r_c (zx_blt_t h2)))
    · cases hcd
  case lconst n =>
    obtain ⟨hl, he⟩ := zx_le1_s hcd
    have hl := zx_beq_t hl
    subst hl
    cases he
    exact lv_lconst hx0 hb hd rfl (zz_pshl hN hA hv hR (show zyh_psh nx 5 25 (pc + 1) cur row st C e = true from hk) (fun z => absurd z (by decide)))
  case ldc2_w i =>
    simp only [zx_cd] at hcd
    split at hcd
    · rename_i q hz
      obtain ⟨hm, ho, hi⟩ := zx_lf_s hz
      obtain ⟨hl, he⟩ := zx_le1_s hcd
      have hl := zx_beq_t hl
      subst hl
      cases he
      have hc := hts _ (zx_inJ hm)
      unfold zx_jw at hc
      rw [ho, hi] at hc
      exact lv_ldc2 hx0 hb hown hc hd (zz_pshl hN hA hv hR (show zyh_psh nx 5 (zx_jx q.2.2.1) (pc + 3) cur row st C e = true from hk) (fun z => zy_jx_s z))
    · cases hcd
  case iadd =>
    obtain ⟨hl, he⟩ := zx_le1_s hcd
    have hl := zx_beq_t hl
    subst hl
    cases he
    obtain ⟨x, y, r, rfl, g1, g2⟩ := zz_bin (P := fun _ _ => True) (F := fun x y => x + y) hN hA hv hR (show zyh_bin nx (pc + 1) cur row st C e zy_ad = true from hk) (fun a b x y k hE ha hb hk => ⟨trivial, zy_ad_s hE ha hb hk⟩)
    exact lv_iadd hx0 hb hd g2
  case isub =>
    obtain ⟨hl, he⟩ := zx_le1_s hcd
    have hl := zx_beq_t hl
    subst hl
    cases he
    obtain ⟨x, y, r, rfl, g1, g2⟩ := zz_bin (P := fun _ _ => True) (F := fun x y => x - y) hN hA hv hR (show zyh_bin nx (pc + 1) cur row st C e zy_sb = true from hk) (fun a b x y k hE ha hb hk => ⟨trivial, zy_sb_s hE ha hb hk⟩)
    exact lv_isub hx0 hb hd g2
  case imul =>
    obtain ⟨hl, he⟩ := zx_le1_s hcd
    have hl := zx_beq_t hl
    subst hl
    cases he
    obtain ⟨x, y, r, rfl, g1, g2⟩ := zz_bin (P := fun _ _ => True) (F := fun x y => x * y) hN hA hv hR (show zyh_bin nx (pc + 1) cur row st C e zy_ml = true from hk) (fun a b x y k hE ha hb hk => ⟨trivial, zy_ml_s hE ha hb hk⟩)
    exact lv_imul hx0 hb hd g2
  case iand =>
    obtain ⟨hl, he⟩ := zx_le1_s hcd
    have hl := zx_beq_t hl
    subst hl
    cases he
    obtain ⟨x, y, r, rfl, g1, g2⟩ := zz_bin (P := fun _ _ => True) (F := fun x y => x &&& y) hN hA hv hR (show zyh_bin nx (pc + 1) cur row st C e zy_an = true from hk) (fun a b x y k hE ha hb hk => ⟨trivial, zy_an_s hE ha hb hk⟩)
    exact lv_iand hx0 hb hd g2
  case ior =>
    obtain ⟨hl, he⟩ := zx_le1_s hcd
    have hl := zx_beq_t hl
    subst hl
    cases he
    obtain ⟨x, y, r, rfl, g1, g2⟩ := zz_bin (P := fun _ _ => True) (F := fun x y => x ||| y) hN hA hv hR (show zyh_bin nx (pc + 1) cur row st C e (zy_b2 Nat.lor zy_wor) = true from hk) (fun a b x y k hE ha hb hk => ⟨trivial, zy_b2_s (F := fun x y => x ||| y) hE (fun x y hx hy => ⟨zx_or' x y, Nat.or_lt_two_pow (n := 32) hx hy⟩) zy_wor_s ha hb hk⟩)
    exact lv_ior hx0 hb hd g2
  case ixor =>
    obtain ⟨hl, he⟩ := zx_le1_s hcd
    have hl := zx_beq_t hl
    subst hl
    cases he
    obtain ⟨x, y, r, rfl, g1, g2⟩ := zz_bin (P := fun _ _ => True) (F := fun x y => x ^^^ y) hN hA hv hR (show zyh_bin nx (pc + 1) cur row st C e zy_xr = true from hk) (fun a b x y k hE ha hb hk => ⟨trivial, zy_xr_s hE ha hb hk⟩)
    exact lv_ixor hx0 hb hd g2
  case ishl =>
    obtain ⟨hl, he⟩ := zx_le1_s hcd
    have hl := zx_beq_t hl
    subst hl
    cases he
    obtain ⟨x, y, r, rfl, g1, g2⟩ := zz_bin (P := fun _ _ => True) (F := fun x y => x <<< (y &&& 31)) hN hA hv hR (show zyh_bin nx (pc + 1) cur row st C e (zy_sh zx_g6 zy_wshl) = true from hk) (fun a b x y k hE ha hb hk => ⟨trivial, zy_sh_s (F := fun x y => x <<< (y &&& 31)) hE (fun x y hx hy => ⟨zx_shl' x y hx hy, Nat.mod_lt _ (by decide)⟩) zy_wshl_s ha hb hk⟩)
    exact lv_ishl hx0 hb hd g2
  case ishr =>
    obtain ⟨hl, he⟩ := zx_le1_s hcd
    have hl := zx_beq_t hl
    subst hl
    cases he
    obtain ⟨x, y, r, rfl, g1, g2⟩ := zz_bin (P := fun _ _ => True) (F := fun x y => x >>> (y &&& 31)) hN hA hv hR (show zyh_bin nx (pc + 1) cur row st C e zy_sr = true from hk) (fun a b x y k hE ha hb hk => ⟨trivial, zy_sr_s hE ha hb hk⟩)
    exact lv_ishr hx0 hb hd g2
  case iushr =>
    obtain ⟨hl, he⟩ := zx_le1_s hcd
    have hl := zx_beq_t hl
    subst hl
    cases he
    obtain ⟨x, y, r, rfl, g1, g2⟩ := zz_bin (P := fun _ _ => True) (F := fun x y => (x.toUInt32 >>> (y.toUInt32 &&& Int32.toUInt32 31)).toInt32) hN hA hv hR (show zyh_bin nx (pc + 1) cur row st C e (zy_sh zx_g8 zy_wushr) = true from hk) (fun a b x y k hE ha hb hk => ⟨trivial, zy_sh_s (F := fun x y => (x.toUInt32 >>> (y.toUInt32 &&& Int32.toUInt32 31)).toInt32) hE (fun x y hx hy => ⟨zx_ushr' x y hx hy, zx_g8_lt x y hx⟩) zy_wushr_s ha hb hk⟩)
    exact lv_iushr hx0 hb hd rfl g2
  case idiv =>
    obtain ⟨hl, he⟩ := zx_le1_s hcd
    have hl := zx_beq_t hl
    subst hl
    cases he
    obtain ⟨x, y, r, rfl, g1, g2⟩ := zz_bin (P := fun _ y => ¬ y = 0) (F := fun x y => x / y) hN hA hv hR (show zyh_bin nx (pc + 1) cur row st C e (zy_dv Nat.div zy_wdiv) = true from hk) (fun a b x y k hE ha hb hk => zy_dv_s (F := fun x y => x / y) hE (fun x y hx h0 hy => ⟨pk_div hx h0 hy, Nat.lt_of_le_of_lt (Nat.div_le_self x y) (by omega)⟩) zy_wdiv_s ha hb hk)
    exact lv_idiv hx0 hb hd g1 g2
  case irem =>
    obtain ⟨hl, he⟩ := zx_le1_s hcd
    have hl := zx_beq_t hl
    subst hl
    cases he
    rcases zz_rem hN hA hv0 hv hR (show zyh_rem nx (pc + 1) cur0 cur pc row st C e = true from hk) with g | ⟨x, y, r, rfl, g1, g2⟩
    · exact g
    · exact lv_irem hx0 hb hd g1 g2
  case ineg =>
    obtain ⟨hl, he⟩ := zx_le1_s hcd
    have hl := zx_beq_t hl
    subst hl
    cases he
    obtain ⟨x, r, rfl, g2⟩ := zz_un (F := fun x => -x) hN hA hv hR (show zyh_un nx (pc + 1) cur row st C e zy_ng = true from hk) (fun a x k hE ha hk => zy_ng_s hE ha hk)
    exact lv_ineg hx0 hb hd g2
  case i2b =>
    obtain ⟨hl, he⟩ := zx_le1_s hcd
    have hl := zx_beq_t hl
    subst hl
    cases he
    obtain ⟨x, r, rfl, g2⟩ := zz_un (F := fun x => x.toInt8.toInt32) hN hA hv hR (show zyh_un nx (pc + 1) cur row st C e (zy_u1 zx_n8 2147483520 2147483775) = true from hk) (fun a x k hE ha hk => zy_u1_s hE (F := fun x => x.toInt8.toInt32) (fun x hx => ⟨zx_n8' x hx, zx_n8_lt x⟩) (fun x => ⟨(zy_n8_b x).1, (zy_n8_b x).2.1⟩) (by decide) (fun x h1 h2 => (zy_n8_b x).2.2 h1 h2) ha hk)
    exact lv_i2b hx0 hb hd rfl g2
  case i2c =>
    obtain ⟨hl, he⟩ := zx_le1_s hcd
    have hl := zx_beq_t hl
    subst hl
    cases he
    obtain ⟨x, r, rfl, g2⟩ := zz_un (F := fun x => (x.toUInt32 % 65536).toInt32) hN hA hv hR (show zyh_un nx (pc + 1) cur row st C e (zy_u1 zx_n16 2147483648 2147549183) = true from hk) (fun a x k hE ha hk => zy_u1_s hE (F := fun x => (x.toUInt32 % 65536).toInt32) (fun x hx => ⟨zx_n16' x hx, Nat.lt_of_lt_of_le (Nat.mod_lt x (by decide : 0 < 65536)) (by decide)⟩) (fun x => ⟨(zy_n16_b x).1, (zy_n16_b x).2.1⟩) (by decide) (fun x h1 h2 => (zy_n16_b x).2.2 h1 h2) ha hk)
    exact lv_i2c hx0 hb hd rfl g2
  case i2l =>
    obtain ⟨hl, he⟩ := zx_le1_s hcd
    have hl := zx_beq_t hl
    subst hl
    cases he
    obtain ⟨x, r, rfl, g2⟩ := zz_i2l hN hA hv hR (show zyh_i2l nx (pc + 1) cur row st C e = true from hk)
    exact lv_i2l hx0 hb hd rfl (g2 _)
  case ladd =>
    obtain ⟨hl, he⟩ := zx_le1_s hcd
    have hl := zx_beq_t hl
    subst hl
    cases he
    obtain ⟨x, y, r, rfl, g2⟩ := zz_lbin hN hA hv hR (show zyh_lbin nx (pc + 1) cur row st C e = true from hk)
    exact lv_ladd hx0 hb hd (g2 _)
  case lsub =>
    obtain ⟨hl, he⟩ := zx_le1_s hcd
    have hl := zx_beq_t hl
    subst hl
    cases he
    obtain ⟨x, y, r, rfl, g2⟩ := zz_lbin hN hA hv hR (show zyh_lbin nx (pc + 1) cur row st C e = true from hk)
    exact lv_lsub hx0 hb hd (g2 _)
  case lmul =>
    obtain ⟨hl, he⟩ := zx_le1_s hcd
    have hl := zx_beq_t hl
    subst hl
    cases he
    obtain ⟨x, y, r, rfl, g2⟩ := zz_lbin hN hA hv hR (show zyh_lbin nx (pc + 1) cur row st C e = true from hk)
    exact lv_lmul hx0 hb hd (g2 _)
  case lor =>
    obtain ⟨hl, he⟩ := zx_le1_s hcd
    have hl := zx_beq_t hl
    subst hl
    cases he
    obtain ⟨x, y, r, rfl, g2⟩ := zz_lbin hN hA hv hR (show zyh_lbin nx (pc + 1) cur row st C e = true from hk)
    exact lv_lor hx0 hb hd (g2 _)
  case dup =>
    obtain ⟨hl, he⟩ := zx_le1_s hcd
    have hl := zx_beq_t hl
    subst hl
    cases he
    obtain ⟨x, r, rfl, g1, g2⟩ := zz_dup hN hA hv hR (show zyh_dup nx (pc + 1) cur row st C e = true from hk)
    exact lv_dup hx0 hb hd g1 g2
  case pop =>
    obtain ⟨hl, he⟩ := zx_le1_s hcd
    have hl := zx_beq_t hl
    subst hl
    cases he
    obtain ⟨x, r, rfl, g1, g2⟩ := zz_pop hN hA hv hR (show zyh_pop nx (pc + 1) cur row st C e = true from hk)
    exact lv_pop hx0 hb hd g1 g2
  case dup2 =>
    obtain ⟨hl, he⟩ := zx_le1_s hcd
    have hl := zx_beq_t hl
    subst hl
    cases he
    obtain ⟨x, y, r, rfl, g0, g1, g2⟩ := zz_dup2 hN hA hv hR (show zyh_dup2 nx (pc + 1) cur row st C e = true from hk)
    exact lv_dup2_11 hx0 hb hd g1 g0 g2
  case goto off =>
    simp only [zx_cd] at hcd
    split at hcd
    · rename_i hl
      subst hl
      obtain ⟨ht, rfl, rfl⟩ := zx_tg1_s hcd
      exact lv_goto hx0 hb hd ht (zz_jp hN hA hR (show zy_jp M nx a row st C e = true from hk))
    · cases hcd
  case if_icmp cd off =>
    simp only [zx_cd] at hcd
    split at hcd
    · rename_i hl
      subst hl
      obtain ⟨ht, rfl, rfl⟩ := zx_tg1_s hcd
      exact zz_icmpI hC hd ht hN hA hv hR (show zyh_icmp M nx a (zx_cc cd) (pc + 3) cur row st C e = true from hk)
    · cases hcd
  case ifCond cd off =>
    simp only [zx_cd] at hcd
    split at hcd
    · rename_i hl
      subst hl
      obtain ⟨ht, rfl, rfl⟩ := zx_tg1_s hcd
      exact zz_ifI hC hd ht hN hA hv hR (show zyh_if M nx a (zx_cc cd) (pc + 3) cur row st C e = true from hk)
    · cases hcd
  case tableswitch dflt lo hi offs =>
    simp only [zx_cd] at hcd
    split at hcd
    · rename_i hhi
      have hsx : zx_sx pc dflt (zx_tps lo offs.toList) = some (26, a, 0) := by
        have hcd2 := hcd
        unfold zx_sx at hcd2
        split at hcd2
        · rw [Option.map_eq_some_iff] at hcd2
          obtain ⟨i, hi, he⟩ := hcd2
          cases he
          exact hcd
        · cases hcd2
      have hob : op = 26 := by
        rw [hsx] at hcd
        cases hcd
        rfl
      subst hob
      obtain ⟨x, r, t, rfl, g1, g2⟩ := zz_sw hsx hN hA hR (show zyh_sw M nx a row st C e = true from hk)
      obtain ⟨o1, o2⟩ := zx_tps_off dflt offs.toList lo x.toInt (fun _ _ => Or.inr trivial)
      rw [Array.length_toList] at o1 o2
      by_cases hr : x.toInt < lo ∨ hi < x.toInt
      · rw [o1 (by omega)] at g1
        exact lv_tableOut hx0 hb hd hr g1 g2
      · have o3 := o2 (by omega) (by omega)
        rw [Array.getElem?_toList] at o3
        exact lv_tableIn hx0 hb hd (by omega) (by omega) o3 g1 g2
    · cases hcd
  case lookupswitch dflt ps =>
    simp only [zx_cd] at hcd
    split at hcd
    · rename_i hso
      have hsx : zx_sx pc dflt (ps.toList) = some (26, a, 0) := by
        have hcd2 := hcd
        unfold zx_sx at hcd2
        split at hcd2
        · rw [Option.map_eq_some_iff] at hcd2
          obtain ⟨i, hi, he⟩ := hcd2
          cases he
          exact hcd
        · cases hcd2
      have hob : op = 26 := by
        rw [hsx] at hcd
        cases hcd
        rfl
      subst hob
      obtain ⟨x, r, t, rfl, g1, g2⟩ := zz_sw hsx hN hA hR (show zyh_sw M nx a row st C e = true from hk)
      exact lv_lookup hx0 hb hd hso rfl g1 g2
    · cases hcd
  case getfield i =>
    simp only [zx_cd] at hcd
    split at hcd
    · rename_i q hz
      obtain ⟨hm, ho, hi⟩ := zx_lf_s hz
      split at hcd
      · rename_i hl
        subst hl
        split at hcd
        · rename_i hx
          obtain ⟨h2, he⟩ := zx_le1_s hcd
          cases he
          exact zz_get hC hm ho hi hx (of_decide_eq_true h2) hd hN hA hv hR (show zyh_get T nx (7 + 16 * q.2.2.1) q.2.2.2.1 (pc + 3) cur row st C e = true from hk)
        · split at hcd
          · rename_i hx
            cases hcd
            exact zz_str hC hm ho hi (a := 0) hx (by decide) hd hN hA hv hR (show zyh_str nx 0 (pc + 3) cur row st C e = true from hk)
          · split at hcd
            · rename_i hx
              cases hcd
              exact zz_str hC hm ho hi (a := 1) hx (by decide) hd hN hA hv hR (show zyh_str nx 1 (pc + 3) cur row st C e = true from hk)
            · cases hcd
      · cases hcd
    · cases hcd
  case putfield i =>
    simp only [zx_cd] at hcd
    split at hcd
    · rename_i q hz
      obtain ⟨hm, ho, hi⟩ := zx_lf_s hz
      split at hcd
      · rename_i hl
        obtain ⟨hl, hx, hy, hf⟩ := hl
        subst hl
        cases hcd
        exact zz_put hC hm ho hi hx hy hf hd hN hA hv hR (show zyh_put T Wm nx (7 + 16 * q.2.2.1 + 1048576 * zx_fm ((zx_ci q.2.2.1).2.1 q.2.2.2.1).2.2.1) q.2.2.2.1 (pc + 3) cur row st C e = true from hk)
      · cases hcd
    · cases hcd
  case getstatic i =>
    simp only [zx_cd] at hcd
    split at hcd
    · rename_i q hz
      obtain ⟨hm, ho, hi⟩ := zx_lf_s hz
      split at hcd
      · rename_i hl
        subst hl
        split at hcd
        · rename_i hx
          cases hcd
          exact zz_gets hC hm ho hi (Or.inl ⟨hx, rfl⟩) hd hN hA hv hR (show zyh_psh nx 20 0 (pc + 3) cur row st C e = true from hk)
        · split at hcd
          · rename_i hx
            cases hcd
            exact zz_gets hC hm ho hi (Or.inr ⟨hx, rfl⟩) hd hN hA hv hR (show zyh_psh nx 8 0 (pc + 3) cur row st C e = true from hk)
          · cases hcd
      · cases hcd
    · cases hcd
  case new i =>
    simp only [zx_cd] at hcd
    split at hcd
    · obtain ⟨hl, he⟩ := zx_le1_s hcd
      cases he
      exact absurd (show false = true from hk) (fun z => by cases z)
    · cases hcd
  case newarray t =>
    simp only [zx_cd] at hcd
    split at hcd
    · split at hcd
      all_goals first | (cases hcd; exact absurd (show false = true from hk) (fun z => by cases z)) | cases hcd
    · cases hcd
  case anewarray i =>
    simp only [zx_cd] at hcd
    split at hcd
    · obtain ⟨hl, he⟩ := zx_le1_s hcd
      cases he
      exact absurd (show false = true from hk) (fun z => by cases z)
    · cases hcd
  case arraylength =>
    obtain ⟨hl, he⟩ := zx_le1_s hcd
    have hl := zx_beq_t hl
    subst hl
    cases he
    exact zz_len hC hd hN hA hv hR (show zyh_len T nx (pc + 1) cur row st C e = true from hk)
  case iaload =>
    obtain ⟨hl, he⟩ := zx_le1_s hcd
    have hl := zx_beq_t hl
    subst hl
    cases he
    exact zz_ald (Or.inl ⟨rfl, rfl⟩) hC hd hN hA hv0 hv hR (show zyh_ald T nx 9 (pc + 1) cur0 cur pc row st C e = true from hk)
  case baload =>
    obtain ⟨hl, he⟩ := zx_le1_s hcd
    have hl := zx_beq_t hl
    subst hl
    cases he
    exact zz_ald (Or.inr ⟨rfl, rfl⟩) hC hd hN hA hv0 hv hR (show zyh_ald T nx 54 (pc + 1) cur0 cur pc row st C e = true from hk)
  case iastore =>
    obtain ⟨hl, he⟩ := zx_le1_s hcd
    have hl := zx_beq_t hl
    subst hl
    cases he
    exact zz_ast (Or.inl ⟨rfl, rfl⟩) hC hd hN hA hv0 hv hR (show zyh_ast T Wm nx 9 (pc + 1) cur0 cur pc row st C e = true from hk)
  case bastore =>
    obtain ⟨hl, he⟩ := zx_le1_s hcd
    have hl := zx_beq_t hl
    subst hl
    cases he
    exact zz_ast (Or.inr ⟨rfl, rfl⟩) hC hd hN hA hv0 hv hR (show zyh_ast T Wm nx 54 (pc + 1) cur0 cur pc row st C e = true from hk)
  case laload =>
    obtain ⟨hl, he⟩ := zx_le1_s hcd
    have hl := zx_beq_t hl
    subst hl
    cases he
    exact zz_lald hC hd hN hA hv hR (show zyh_lald T nx (pc + 1) cur row st C e = true from hk)
  case lastore =>
    obtain ⟨hl, he⟩ := zx_le1_s hcd
    have hl := zx_beq_t hl
    subst hl
    cases he
    exact zz_last hC hd hN hA hv hR (show zyh_last T Wm nx (pc + 1) cur row st C e = true from hk)
  case aaload =>
    obtain ⟨hl, he⟩ := zx_le1_s hcd
    have hl := zx_beq_t hl
    subst hl
    cases he
    exact zz_rald hC hd hN hA hv hR (show zyh_rald T nx (pc + 1) cur row st C e = true from hk)
  case aastore =>
    obtain ⟨hl, he⟩ := zx_le1_s hcd
    have hl := zx_beq_t hl
    subst hl
    cases he
    exact zz_rast hC hd hN hA hv hR (show zyh_rast T Wm nx (pc + 1) cur row st C e = true from hk)
  case invokevirtual i =>
    simp only [zx_cd] at hcd
    split at hcd
    · rename_i q hz
      obtain ⟨hm, ho, hi⟩ := zx_lf_s hz
      split at hcd
      · rename_i y hy
        split at hcd
        · rename_i hl
          obtain ⟨hl, h0, h9⟩ := hl
          subst hl
          cases hcd
          exact zz_invV hm ho hi rfl h9 hy h0 hd hCa hC hN hA hv hR (show zyh_inv T call nx q.2.2.1 (pc + 3) cur row st C e = true from hk)
        · cases hcd
      · cases hcd
    · cases hcd
  case invokestatic i =>
    simp only [zx_cd] at hcd
    split at hcd
    · rename_i q hz
      obtain ⟨hm, ho, hi⟩ := zx_lf_s hz
      split at hcd
      · rename_i hx
        obtain ⟨hl, he⟩ := zx_le1_s hcd
        have hl := zx_beq_t hl
        subst hl
        cases he
        exact zz_cpy hC hm ho hi hx hd hN hA hv hR (show zyh_cpy T Wm nx (pc + 3) cur row st C e = true from hk)
      · split at hcd
        · rename_i y hy
          split at hcd
          · rename_i hl
            obtain ⟨hl, h0, h9⟩ := hl
            subst hl
            cases hcd
            exact zz_invS (Or.inl hm) ho hi rfl h9 hy h0 hd hCa hC hN hA hv hR (show zyh_inv T call nx q.2.2.1 (pc + 3) cur row st C e = true from hk)
          · cases hcd
        · cases hcd
    · split at hcd
      · rename_i q hz
        obtain ⟨hm, ho, hi⟩ := zx_lf_s hz
        split at hcd
        · rename_i y hy
          split at hcd
          · rename_i hl
            obtain ⟨hl, h0, h9⟩ := hl
            subst hl
            cases hcd
            exact zz_invS (Or.inr hm) ho hi rfl h9 hy h0 hd hCa hC hN hA hv hR (show zyh_inv T call nx q.2.2.1 (pc + 3) cur row st C e = true from hk)
          · cases hcd
        · cases hcd
      · cases hcd
  case invokespecial i =>
    simp only [zx_cd] at hcd
    split at hcd
    · rename_i q hz
      split at hcd
      · rename_i hx
        obtain ⟨hl, he⟩ := zx_le1_s hcd
        cases he
        exact absurd (show false = true from hk) (fun z => by cases z)
      · split at hcd
        · rename_i y hy
          split at hcd
          · rename_i hl
            obtain ⟨hl, h0, h9⟩ := hl
            subst hl
            cases hcd
            exact absurd h0 (zy_inv_2 hy hCa hC hN hA hv hR (show zyh_inv T call nx q.2.2.1 (pc + 3) cur row st C e = true from hk))
          · cases hcd
        · cases hcd
    · split at hcd
      · rename_i q hz
        split at hcd
        · rename_i y hy
          split at hcd
          · rename_i hl
            obtain ⟨hl, h0, h9⟩ := hl
            subst hl
            cases hcd
            exact absurd h0 (zy_inv_2 hy hCa hC hN hA hv hR (show zyh_inv T call nx q.2.2.1 (pc + 3) cur row st C e = true from hk))
          · cases hcd
        · cases hcd
      · cases hcd
  case lcmp =>
    obtain ⟨hl, he⟩ := zx_le1_s hcd
    have hl := zx_beq_t hl
    subst hl
    cases he
    obtain ⟨x, y, r, rfl, g2⟩ := zz_lcmp hN hA hv hR (show zyh_lcmp nx (pc + 1) cur row st C e = true from hk)
    exact W.lcmp hx0 hb hd g2
  case lshl =>
    obtain ⟨hl, he⟩ := zx_le1_s hcd
    have hl := zx_beq_t hl
    subst hl
    cases he
    obtain ⟨x, y, r, rfl, g2⟩ := zz_lshl hN hA hv hR (show zyh_lshl nx (pc + 1) cur row st C e = true from hk)
    exact lv_lshl hx0 hb hd rfl (g2 _)
  case ireturn =>
    obtain ⟨hl, he⟩ := zx_le1_s hcd
    have hl := zx_beq_t hl
    subst hl
    cases he
    obtain ⟨g1, g2⟩ := zx_and_b (show (Nat.ble 1 M.2.1.2.2.2.2.2 && Nat.ble M.2.1.2.2.2.2.2 4) = true from hre)
    exact zz_ret hRt hA hrk (Or.inl ⟨rfl, zx_ble_t g1, zx_ble_t g2⟩) hd hR (show zyh_ret M K st C e = true from hk)
  case lreturn =>
    obtain ⟨hl, he⟩ := zx_le1_s hcd
    have hl := zx_beq_t hl
    subst hl
    cases he
    exact zz_ret hRt hA hrk (Or.inr (Or.inl ⟨rfl, zx_beq_t (show Nat.beq M.2.1.2.2.2.2.2 5 = true from hre)⟩)) hd hR (show zyh_ret M K st C e = true from hk)
  case areturn =>
    obtain ⟨hl, he⟩ := zx_le1_s hcd
    have hl := zx_beq_t hl
    subst hl
    cases he
    exact zz_ret hRt hA hrk (Or.inr (Or.inr ⟨rfl, zx_beq_t (show Nat.beq M.2.1.2.2.2.2.2 6 = true from hre)⟩)) hd hR (show zyh_ret M K st C e = true from hk)
  case return_ =>
    obtain ⟨hl, he⟩ := zx_le1_s hcd
    have hl := zx_beq_t hl
    subst hl
    cases he
    exact zz_rtv hRt hA hrk hd hR (show zyh_rtv M K st C e = true from hk)
/-- what a cut says -/
def zy_Cu (p : Program) (l : Launch) (en : Env) (R : Room) (s : State) (m : MethodId) (args : Array Value) (below : List Frame) (meth : Method) (c : Code) (Q : State → Prop) (D : va_G) (N0 : Nat) (T : List Nat) (Wm : Nat) (ws0 : va_W) (A0 : zy_V) (M : zx_M) (cut : zy_U) : Prop :=
  ∀ (A : zy_V) (pc row : Nat) (st : List Nat) (C : zy_C) (e : Nat) (b : Bool), zy_le A0 A → cut pc row st C e b = true → ∀ (ls : Array Slot) (vs : List Value) (H : Heap) (locs : List Loc), zy_Rl D N0 T Wm ws0 A M s row st C e ls vs H locs → b = true ∨ W p l en R s m args below meth c H locs 0 0 Q (F0 m pc ls vs)
theorem zy_st_s (hC : zx_Cx p R s m args meth c M d N0 (zy_ex A0) zy_n0) (hCa : zy_Ca l D N0 T Wm d call A0 ws0) (hRt : zy_Rt p l en R s m args below meth c Q D N0 T Wm ws0 A0 M K) (hrk : zx_rk M.1.2.2.2 = M.2.1.2.2.2.2.2) (hCu : zy_Cu p l en R s m args below meth c Q D N0 T Wm ws0 A0 M cut) (hN : zy_Nx p l en R s m args below meth c Q D N0 T Wm ws0 A0 M nx) : zy_Nx p l en R s m args below meth c Q D N0 T Wm ws0 A0 M (zy_st T Wm M K call cut nx) := by
  intro A cur pc row st C e hA hv hk ls vs H locs hR
  cases cur with
  | nil =>
    have hk : cut pc row st C e (zx_bk M.2.2 pc (fun cur => nx cur pc row st C e)) = true := hk
    rcases hCu A pc row st C e _ hA hk ls vs H locs hR with hk | hw
    · obtain ⟨b, hb, hk⟩ := zx_bk_s _ hk
      exact hN _ _ _ _ _ _ _ hA (hC.2.2.2.2.2.2.2.2.2 b hb) hk _ _ _ _ hR
    · exact hw
  | cons q cur =>
    have hk : (bif Nat.beq q.1 pc then zy_op T Wm M K call nx q.2.1 q.2.2.1 q.2.2.2.1 q.2.2.2.2 (q :: cur) cur pc row st C e else false) = true := hk
    obtain ⟨hpc, hk⟩ := zx_bft hk
    have hpc := zx_beq_t hpc
    subst hpc
    obtain ⟨⟨ins, len, hd, hnp, hcd⟩, hre⟩ := hv q List.mem_cons_self
    exact zy_op_s hC hCa hRt hrk hN hA hd hnp hcd hre hv (fun z hz => hv z (List.mem_cons_of_mem _ hz)) hR hk
end ZYW
