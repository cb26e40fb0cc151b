/-! the law: calls with room used -/
section ZLC
variable {l : Launch} {D : va_G} {N0 : Nat} {Z : zy_V} {p : Program} {en : Env} {R : Room} {s : State} {m : MethodId} {args : Array Value} {below : List Frame} {meth : Method} {c : Code} {Q : State → Prop}
/-- behind a call -/
theorem zl_go {P : List Value → va_W → Prop} {M : zx_M} {ce sl : Nat} {a : Array Value} {pc : Nat} {ls : Array Slot} {H : Heap} {locs : List Loc} {vs0 rest : List Value} (hr : va_Run p l en R s m args below meth c H locs ce sl 0 0 (F0 m pc ls vs0) rest (zy_QP D N0 zy_T Z P a) (zx_A N0)) (hS : va_S (zx_A N0) s.heap H locs) (hl : lv_has ls M.1.2.2.1 [])
    (kk : ∀ (vs : List Value) (tys : List (ClassId × FieldType)) (ws : va_W) (H1 : Heap) (locs1 : List Loc), vs.length ≤ 1 → P vs ws → zy_Mx D N0 zy_T Z s M ls H1 locs1 tys ws → W p l en R s m args below meth c H1 locs1 ce sl Q (F0 m (pc + 3) ls (vs ++ rest))) : W p l en R s m args below meth c H locs ce sl Q (F0 m pc ls vs0) := by
  intro Tt hT X
  obtain ⟨v, st₀, t, T', L, h0, X', hL, e1, e2, ⟨⟨vs, tys, ws, ho, hlen, hPp, hW⟩, hz, hkp⟩, stp⟩ := hr Tt hT X
  have hv : v = vs.head? := by injection ho
  have hvl : v.toList = vs := by
    rw [hv]
    match vs, hlen with
    | [], _ => rfl
    | [x], _ => rfl
    | _ :: _ :: _, hlen => exact absurd hlen (by simp)
  rw [h0] at hz hkp
  have hal : s.vm.Alike t.vm := by rw [← e2]; exact X'.warmed.alike
  obtain ⟨k1, k2, k3⟩ := hW
  have hS1 : va_S (zx_A N0) s.heap T'.heap (locs ++ L) := ⟨Nat.le_trans hS.1 (by rw [e1]; exact hz), fun q h1 h2 => by rw [e1, hkp q (Nat.lt_of_lt_of_le h1 hS.1) h2]; exact hS.2.1 q h1 h2, fun q hq => by
      rcases List.mem_append.mp hq with h | h
      · exact hS.2.2 q h
      · exact hL q h⟩
  obtain ⟨t2, a1, b1⟩ := kk vs tys ws T'.heap (locs ++ L) hlen hPp ⟨⟨va_K.moved hal.symm k1, by rw [e1]; exact k2, k3⟩, hS1, hl⟩ T' rfl X'
  refine ⟨t2, stp t2 ?_, b1⟩
  rw [hvl]
  exact a1
/-- a call by hand: an object's method -/
theorem zl_iv {M : zx_M} {ce sl : Nat} {q : zx_Q} {i a dm d' b j ci pc : Nat} {y : zx_M} {fs As rest : List Value} {Pre : List Value → va_W → Prop} {Post : List Value → va_W → List Value → va_W → Prop} {ls : Array Slot} {H : Heap} {locs : List Loc} {tys : List (ClassId × FieldType)} {ws : va_W} (hq : q ∈ zx_ML) (ho : q.1 = M.2.1.1) (hi : q.2.1 = i) (ha : q.2.2.1 = a) (ha2 : a < 9000) (hya : zx_me a = some y) (hk0 : y.2.1.2.1 = 0 ∧ y.2.1.2.2.2.1 = 0 ∧ y.2.1.2.2.2.2.1 = 0) (hd : decode M.1.2.1 pc = .ok (.invokevirtual i, 3)) (hB : zy_Fr p l R s m args meth c N0 Z M (d' + 1)) (hOk : zy_OkP l D N0 zy_T Z a dm Pre Post) (hroom : ce + 0 ≤ R.cells ∧ sl + 0 ≤ R.slots) (hdm : dm ≤ d') (hx : zy_Mx D N0 zy_T Z s M ls H locs tys ws) (hpre : Pre (.ref b :: As) ws) (hlen : As.length + 1 = y.2.1.2.2.1) (hrm : (rest.map fun v => v.category).sum ≤ 8) (h4 : ws[j]? = some (b, .inr (ci, fs))) (hci : ci = y.2.1.1) (hci3 : ci < 13)
    (kk : ∀ (vs : List Value) (tys : List (ClassId × FieldType)) (ws1 : va_W) (H1 : Heap) (locs1 : List Loc), vs.length ≤ 1 → Post (.ref b :: As) ws vs ws1 → zy_Mx D N0 zy_T Z s M ls H1 locs1 tys ws1 → W p l en R s m args below meth c H1 locs1 ce sl Q (F0 m (pc + 3) ls (vs ++ rest))) :
    W p l en R s m args below meth c H locs ce sl Q (F0 m pc ls (As.reverse ++ .ref b :: rest)) := by
  obtain ⟨hH, hUQ, hCf, hrk, -, -⟩ := hB
  have hC := hCf Z (zy_le_rf Z)
  obtain ⟨hW, hS, hl⟩ := hx
  obtain ⟨hK, hP, hD, hHR⟩ := hW
  obtain ⟨hk0, hz1, hz2⟩ := hk0
  have hym := (zx_me_s hya).1
  obtain ⟨h1, h2, h3, g4, h5, h6, h7, h8, h9, h10⟩ := zx_head hym
  have hM := hOk y hya d' hdm (.ref b :: As) tys ws hpre hD hHR
  have hCC := hC
  obtain ⟨hx0, hb, hml, hown, hts, -, hN0, hX, -⟩ := hCC
  have hmy : zx_my q.2.2.1 = y.1.1 := by rw [ha]; exact zx_my_of ha2 hya
  have hlink : (Cond.methodLink (zx_on1 M.2.1.1) i y.1.1).before args s = true := by
    have := hts _ (zx_inM hq)
    unfold zx_mw at this
    rw [ho, hi, hmy] at this
    exact this
  have hkw : (Cond.instanceMethod y.1.1).before args s = true := by
    have := hts _ (zx_inY hym (List.mem_cons_of_mem _ (List.mem_cons_of_mem _ List.mem_cons_self)))
    unfold zx_mkw at this
    rw [hk0] at this
    exact this
  have hse : (Cond.selects y.1.1.cls y.1.1 y.1.1).before args s = true := by
    refine hts _ (zx_inY hym (List.mem_cons_of_mem _ (List.mem_cons_of_mem _ (List.mem_cons_of_mem _ ?_))))
    unfold zx_ms
    rw [hk0]
    exact List.mem_cons_self
  have hcell : ∃ cellB : Cell, H[b]? = some cellB ∧ cellB.vm.isStatics = false ∧ s.vm.findClass y.1.1.cls = some cellB.cls := by
    rcases h10 hk0 with z | ⟨z, z'⟩
    · omega
    · obtain ⟨rc, hrc⟩ : ∃ rc, vwCl[ci]? = some rc := ⟨_, List.getElem?_eq_getElem (by rw [zx_vwl]; exact hci3)⟩
      rw [h1, ← z', ← hci, zx_ci_of hrc]
      exact va_recv hK hP hrc h4
  rw [hk0] at g4
  have hcb := zx_cb hC hym rfl hlink g4
  rw [hz1, hz2] at hcb
  refine zl_go (va_runV (As := As) (rest := rest) ⟨hx0, hb, hml, hown, hts⟩ hM ⟨hcb, hkw, hse⟩ ⟨zx_Pc_blind, hcell, ?_⟩ rfl ?_ hl.1 rfl (lv_room hrm) hd hroom) hS hl kk
  · intro U hUe hWm
    exact ⟨rfl, by rw [hUe]; exact Nat.le_trans hN0 hS.1, va_K.moved hWm.alike hK, by rw [hUe]; exact hP, zx_X_mv hX hN0 hWm (by rw [hUe]; exact hS.2.1)⟩
  · show As.length = y.2.1.2.2.1 - 1
    omega
def zl_ok (pc : Nat) (x : Fin 4) (n mi : Nat) : Bool := decide (decode code pc = .ok (.aload_n x, 1)) && ((List.range n).all (fun k => decide (decode code (pc + 1 + 5 * k) = .ok (.aload_n 0, 1)) && (decide (decode code (pc + 1 + 5 * k + 1) = .ok (.iload_n 3, 1)) && (decide (decode code (pc + 1 + 5 * k + 2) = .ok (.iconst ((k + 1 : Nat) : Int), 1)) && (decide (decode code (pc + 1 + 5 * k + 3) = .ok (.iadd, 1)) && decide (decode code (pc + 1 + 5 * k + 4) = .ok (.iaload, 1)))))) && decide (decode code (pc + 1 + 5 * n) = .ok (.invokevirtual mi, 3)))
def zl_is (xs : Nat → Int32) (i n : Nat) : List Int32 := (List.range n).map (fun t => xs (i + (t + 1)))
theorem zl_is_len {xs : Nat → Int32} {i n : Nat} : (zl_is xs i n).length = n := by unfold zl_is; rw [List.length_map, List.length_range]
theorem zl_is_S {xs : Nat → Int32} {i k : Nat} : ((zl_is xs i (k + 1)).map Value.int).reverse = .int (xs (i + (k + 1))) :: ((zl_is xs i k).map Value.int).reverse := by
  unfold zl_is
  rw [List.range_succ, List.map_append, List.map_append, List.reverse_append]
  rfl
theorem zl_cn : ∀ k, k < 5 → Int32.ofInt ((k + 1 : Nat) : Int) = nI (k + 1) := by decide
/-- what holds all along the law -/
def zl_B (p : Program) (s : State) (c : Code) (b L : Nat) (xs : Nat → Int32) : Prop := p.tables.exec = Jvm.exec ∧ c.code = code ∧ va_X b L xs s s.heap ∧ b < s.heap.size ∧ L < 4000
theorem zl_args {ce sl b L i n pc mi : Nat} {x : Fin 4} {xs : Nat → Int32} {ls : Array Slot} {H : Heap} {locs : List Loc} {base : List Value} (hb : zl_B p s c b L xs) (hok : zl_ok pc x n mi = true) (hn : n ≤ 5) (hi : i + 5 < L) (hS : va_S (zx_A s.heap.size) s.heap H locs) (l0 : ls[0]? = some (.val (.ref b))) (l3 : ls[3]? = some (.val (.int (nI i)))) (kk : W p l en R s m args below meth c H locs ce sl Q (F0 m (pc + 1 + 5 * n) ls (((zl_is xs i n).map Value.int).reverse ++ base))) : ∀ (r k : Nat), n - k = r → k ≤ n → W p l en R s m args below meth c H locs ce sl Q (F0 m (pc + 1 + 5 * k) ls (((zl_is xs i k).map Value.int).reverse ++ base)) := by
  obtain ⟨hx, hbb, hX, hbl, hL⟩ := hb
  obtain ⟨-, hok⟩ := zx_and_b hok
  obtain ⟨hok, -⟩ := zx_and_b hok
  have hok := List.all_eq_true.mp hok
  intro r
  induction r with
  | zero =>
    intro k h1 h2
    have e : k = n := by omega
    subst e
    exact kk
  | succ r ih =>
    intro k h1 h2
    have hq := hok k (List.mem_range.mpr (by omega))
    obtain ⟨d1, hq⟩ := zx_and_b hq
    obtain ⟨d2, hq⟩ := zx_and_b hq
    obtain ⟨d3, hq⟩ := zx_and_b hq
    obtain ⟨d4, d5⟩ := zx_and_b hq
    refine lv_aload_n hx hbb (of_decide_eq_true d1) rfl l0 ?_
    refine lv_iload_n hx hbb (of_decide_eq_true d2) rfl l3 ?_
    refine lv_iconst (v := nI (k + 1)) hx hbb (of_decide_eq_true d3) (zl_cn k (by omega)) ?_
    refine lv_iadd hx hbb (of_decide_eq_true d4) ?_
    rw [nI_add]
    refine va_sld hx hbb hX hbl (A := zx_A s.heap.size) (Nat.not_le.mpr hbl) hS (vp_in_nI (by omega) (by omega)) (of_decide_eq_true d5) ?_
    have h3 := ih (k + 1) (by omega) (by omega)
    rw [zl_is_S] at h3
    rw [show (nI (i + (k + 1))).toNatClampNeg = i + (k + 1) from nI_clamp (by omega)]
    exact h3
/-- one call of the law -/
theorem zl_half {ce sl b L i n pc mi a r g ci d : Nat} {x : Fin 4} {y : zx_M} {q : zx_Q} {xs : Nat → Int32} {ls : Array Slot} {H : Heap} {locs : List Loc} {tys : List (ClassId × FieldType)} {ws : va_W} {rest : List Value} {Pre : List Value → va_W → Prop} {Post : List Value → va_W → List Value → va_W → Prop} (hB : zy_Fr p l R s m args meth c s.heap.size Z zm_law (d + 1)) (hd : 88 ≤ d) (hb : zl_B p s c b L xs) (hok : zl_ok pc x n mi = true) (hn : n ≤ 5) (hi : i + 5 < L) (hroom : ce + 0 ≤ R.cells ∧ sl + 0 ≤ R.slots) (hOk : zy_OkP l D s.heap.size zy_T Z a 88 Pre Post) (hpre : Pre (zL_av Z r (zl_is xs i n)) ws) (h0 : 0 < r) (h1 : r < 100) (hfg : zy_fg[r]? = some g) (hg5 : g < 512) (hTg : zy_T[g]? = some (zy_tm zy_T g)) (hhd : zx_hd (zy_tm zy_T g) = 7 + 16 * ci) (hci : ci < 13) (hq : q ∈ zx_ML) (ho : q.1 = 13) (hqi : q.2.1 = mi) (ha : q.2.2.1 = a) (ha2 : a < 9000) (hya : zx_me a = some y) (hk0 : y.2.1.2.1 = 0 ∧ y.2.1.2.2.2.1 = 0 ∧ y.2.1.2.2.2.2.1 = 0) (hc12 : y.2.1.1 = ci) (hlen : n + 1 = y.2.1.2.2.1) (hrm : (rest.map fun v => v.category).sum ≤ 8)
    (hx : zy_Mx D s.heap.size zy_T Z s zm_law ls H locs tys ws) (l0 : ls[0]? = some (.val (.ref b))) (l3 : ls[3]? = some (.val (.int (nI i)))) (lx : ls[(x : Nat)]? = some (.val (.ref (zy_fa1 Z r))))
    (kk : ∀ (vs : List Value) (tys : List (ClassId × FieldType)) (ws1 : va_W) (H1 : Heap) (locs1 : List Loc), vs.length ≤ 1 → Post (zL_av Z r (zl_is xs i n)) ws vs ws1 → zy_Mx D s.heap.size zy_T Z s zm_law ls H1 locs1 tys ws1 → W p l en R s m args below meth c H1 locs1 ce sl Q (F0 m (pc + 1 + 5 * n + 3) ls (vs ++ rest))) : W p l en R s m args below meth c H locs ce sl Q (F0 m pc ls rest) := by
  have hb' := hb
  have hok' := hok
  obtain ⟨hx0, hbb, -⟩ := hb'
  obtain ⟨e1, hok'⟩ := zx_and_b hok'
  obtain ⟨-, e2⟩ := zx_and_b hok'
  refine lv_aload_n hx0 hbb (of_decide_eq_true e1) rfl lx ?_
  have hz : ((zl_is xs i 0).map Value.int).reverse ++ (.ref (zy_fa1 Z r) :: rest) = .ref (zy_fa1 Z r) :: rest := rfl
  rw [← hz]
  refine zl_args hb hok hn hi hx.2.1 l0 l3 ?_ n 0 (by omega) (Nat.zero_le _)
  obtain ⟨fs, rc, h4, -⟩ := zv_cO hB.1 hx.1.2.2.2 h0 h1 hfg hg5 hTg hhd (by omega)
  exact zl_iv (M := zm_law) (As := (zl_is xs i n).map Value.int) (y := y) hq ho hqi ha ha2 hya hk0 (of_decide_eq_true e2) hB hOk hroom hd hx hpre (by rw [List.length_map, zl_is_len]; exact hlen) hrm h4 hc12.symm hci kk
end ZLC
