/-! one step: calls and returns -/
theorem zx_good {w : Cond} (h : w ∈ zx_G) : w ∈ zx_G ∧ ((w.onTables && w.keeps) = true ∨ ∃ ty, w = .arrayClass ty) := ⟨h, good_of_word (zx_G_ok h).2⟩
theorem zx_goodIn {y : zx_M} (hy : y ∈ zx_mt.flatten) : GoodIn zx_G (zx_mc y :: zx_G) := fun w hw => by
  rcases List.mem_cons.mp hw with rfl | hw
  · exact zx_good (zx_inY hy List.mem_cons_self)
  · exact zx_good hw
/-- a method's head -/
theorem zx_head {y : zx_M} (hy : y ∈ zx_mt.flatten) : y.1.1.cls = zx_on1 y.2.1.1 ∧ plainFor y.1.1 = true ∧ (y.1.1.cls ≠ "java/lang/invoke/MethodHandle" ∧ y.1.1.cls ≠ "java/lang/invoke/VarHandle") ∧
    (parseMethodDescriptor y.1.1.desc).map (fun d => d.parameters.length) = some (bif Nat.beq y.2.1.2.1 1 then y.2.1.2.2.1 else y.2.1.2.2.1 - 1) ∧ (Nat.beq y.2.1.2.1 1 || Nat.ble 1 y.2.1.2.2.1) = true ∧ y.1.2.2.1 ≤ 60 ∧ (y.2.1.2.1 = 2 → y.1.1.name = "<init>" ∧ y.1.2.2.2 = none) ∧ zx_rk y.1.2.2.2 = y.2.1.2.2.2.2.2 ∧ y.2.1.2.1 ≤ 2 ∧ (y.2.1.2.1 = 0 → y.2.1.1 = 14 ∨ (y.2.1.1 < 13 ∧ (zx_ci y.2.1.1).1 = zx_on1 y.2.1.1)) := by
  have h := List.all_eq_true.mp zx_hc_ok y hy
  unfold zx_hc at h
  obtain ⟨h1, h⟩ := zx_and_b h
  obtain ⟨h2, h⟩ := zx_and_b h
  obtain ⟨h3, h⟩ := zx_and_b h
  obtain ⟨h4, h⟩ := zx_and_b h
  obtain ⟨h5, h⟩ := zx_and_b h
  obtain ⟨h6, h⟩ := zx_and_b h
  obtain ⟨h7, h⟩ := zx_and_b h
  obtain ⟨h8, h⟩ := zx_and_b h
  obtain ⟨h9, h⟩ := zx_and_b h
  obtain ⟨h10, h⟩ := zx_and_b h
  refine ⟨of_decide_eq_true h1, h2, of_decide_eq_true h3, of_decide_eq_true h4, h5, zx_ble_t h6, fun z => ?_, zx_beq_t h8, zx_ble_t h9, fun z => ?_⟩
  · rcases (Bool.or_eq_true _ _).mp h7 with q | q
    · rw [z] at q; cases q
    · obtain ⟨q1, q2⟩ := zx_and_b q
      exact ⟨of_decide_eq_true q1, of_decide_eq_true q2⟩
  · rcases (Bool.or_eq_true _ _).mp h10 with q | q
    · rw [z] at q; cases q
    · rcases (Bool.or_eq_true _ _).mp q with q | q
      · exact Or.inl (zx_beq_t q)
      · obtain ⟨q1, q2⟩ := zx_and_b q
        exact Or.inr ⟨zx_blt_t q1, of_decide_eq_true q2⟩
section ZI
variable {p : Program} {l : Launch} {en : Env} {R : Room} {s : State} {m : MethodId} {args : Array Value} {below : List Frame} {meth : Method} {c : Code} {Q : State → Prop} {D : va_G} {N0 : Nat} {ex : Nat → Nat} {nu : Nat → Int32} {ad0 : List Nat} {M : zx_M} {d : Nat} {nx : zx_N} {call : zx_M → zx_K → zx_N} {cur cur0 : List zx_E} {pc row : Nat} {st : List Nat} {h : zx_H} {e hn ce sl : Nat} {ls : Array Slot} {vs : List Value} {H : Heap} {locs : List Loc}
theorem zs_go {K : zx_K} {mc ms : Nat} {ads : List Nat} {a : Array Value} {vs0 rest : List Value} (hr : va_Run p l en R s m args below meth c H locs ce sl mc ms (F0 m pc ls vs0) rest (zx_Qc D N0 ex nu ads K a) (zx_A N0)) (hS : va_S (zx_A N0) s.heap H locs)
    (kk : ∀ (r : List Nat) (vs : List Value) (h : zx_H) (e hn : Nat) (tys : List (ClassId × FieldType)) (ws : va_W) (H1 : Heap) (locs1 : List Loc), vs.length ≤ 1 → zx_SR (ws.map (fun w => w.1)) ex nu r vs → zx_Wd D N0 ex nu ads s H1 h hn tys ws → zx_ev nu e → K r h e hn = true → va_S (zx_A N0) s.heap H1 locs1 → W p l en R s m args below meth c H1 locs1 (ce + mc) (sl + ms) Q (F0 m (pc + 3) ls (vs ++ rest))) : W p l en R s m args below meth c H locs ce sl Q (F0 m pc ls vs0) := by
  intro T hT X
  obtain ⟨v, st₀, t, T', L, h0, X', hL, e1, e2, ⟨⟨r, vs, h', e', hn', tys, ws, ho, hlen, hsr, hW, hE, hK⟩, hz, hkp⟩, stp⟩ := hr T hT X
  have hv : v = vs.head? := by injection ho
  have hvl : v.toList = vs := by
    rw [hv]
    match vs, hlen with
    | [], _ => rfl
    | [x], _ => rfl
    | _ :: _ :: _, hlen => exact absurd hlen (by simp)
  rw [h0] at hz hkp
  have hal : s.vm.Alike t.vm := by rw [← e2]; exact X'.warmed.alike
  obtain ⟨k1, k2, k3⟩ := hW
  have hS1 : va_S (zx_A N0) s.heap T'.heap (locs ++ L) := ⟨Nat.le_trans hS.1 (by rw [e1]; exact hz), fun q h1 h2 => by rw [e1, hkp q (Nat.lt_of_lt_of_le h1 hS.1) h2]; exact hS.2.1 q h1 h2, fun q hq => by
      rcases List.mem_append.mp hq with h | h
      · exact hS.2.2 q h
      · exact hL q h⟩
  obtain ⟨t2, a1, b1⟩ := kk r vs h' e' hn' tys ws T'.heap (locs ++ L) hlen hsr ⟨va_K.moved hal.symm k1, by rw [e1]; exact k2, k3⟩ hE hK hS1 T' rfl X'
  refine ⟨t2, stp t2 ?_, b1⟩
  rw [hvl]
  exact a1
/-- what every call of the tables needs -/
theorem zx_cb {y : zx_M} {i n d' : Nat} (hC : zx_Cx p R s m args meth c M d N0 ex nu) (hy : y ∈ zx_mt.flatten) (hd' : d = d' + 1) (hl : (Cond.methodLink (zx_on1 M.2.1.1) i y.1.1).before args s = true) (hnp : (parseMethodDescriptor y.1.1.desc).map (fun d => d.parameters.length) = some n) : CallB R s args (zx_on1 M.2.1.1) i y.1.1 y.1.2.1 y.1.2.2.1 y.1.2.2.2 (zx_mc y :: zx_G) (zx_rm d' y) y.2.1.2.2.2.1 y.2.1.2.2.2.2.1 n := by
  obtain ⟨hx0, hb, hml, hown, hts, -, hN0, hX, ⟨hrf, hrl, -, -⟩, -⟩ := hC
  obtain ⟨h1, h2, h3, h4, h5, h6, h7, h8, h9, h10⟩ := zx_head hy
  refine callB_of n hts (zx_goodIn hy) rfl rfl rfl (hts _ (zx_inY hy (List.mem_cons_of_mem _ List.mem_cons_self))) hl ⟨h3.1, h3.2, hnp⟩ ⟨?_, ?_⟩
  · show d' + 1 + 1 ≤ R.frames
    omega
  · show 8 + (y.1.2.2.1 + 11) + 80 * (d' + 1) ≤ R.locals
    omega
theorem zx_cbn {q : zx_Q} {y : zx_M} {i n d' : Nat} (hC : zx_Cx p R s m args meth c M d N0 ex nu) (hy : y ∈ zx_mt.flatten) (hd' : d = d' + 1) (hq : q ∈ zx_NL) (ho : q.1 = M.2.1.1) (hi : q.2.1 = i) (hm : zx_my q.2.2.1 = y.1.1) (hnp : (parseMethodDescriptor y.1.1.desc).map (fun d => d.parameters.length) = some n) : va_CN R s args (zx_on1 M.2.1.1) i y.1.1 "LaneDoors" y.1.2.1 y.1.2.2.1 y.1.2.2.2 (zx_mc y :: zx_G) (zx_rm d' y) y.2.1.2.2.2.1 y.2.1.2.2.2.2.1 n := by
  obtain ⟨hx0, hb, hml, hown, hts, -, hN0, hX, ⟨hrf, hrl, -, -⟩, -⟩ := hC
  obtain ⟨h1, h2, h3, h4, h5, h6, h7, h8, h9, h10⟩ := zx_head hy
  have hnw := hX.2.2.2.2.2.2.2.2 q hq
  unfold zx_nw1 at hnw
  rw [ho, hi, hm] at hnw
  refine va_cnB n hts (zx_goodIn hy) rfl rfl rfl hnw (hts _ (zx_inY hy (List.mem_cons_of_mem _ List.mem_cons_self))) ⟨h3.1, h3.2, hnp⟩ ⟨?_, ?_⟩
  · show d' + 1 + 1 ≤ R.frames
    omega
  · show 8 + (y.1.2.2.1 + 11) + 80 * (d' + 1) ≤ R.locals
    omega
/-- the walker's call, taken apart -/
theorem zx_inv_s {a np : Nat} {y : zx_M} (hya : zx_me a = some y) (hCa : zx_Ca l D N0 ex nu d call) (hC : zx_Cx p R s m args meth c M d N0 ex nu) (hN : zx_Nx p l en R s m args below meth c Q D N0 ex nu ad0 M nx) (hv : ∀ q ∈ cur, zx_ve M q) (hR : zx_Rl D N0 ex nu ad0 M s row st h e hn ls vs H locs) (hk : zh_inv M call nx a np cur row st h e hn ce sl = true) :
    ∃ (d' : Nat) (av rest : List Value) (Pc : Array Value → State → Prop) (K : zx_K) (ads : List Nat), d = d' + 1 ∧ vs = av.reverse ++ rest ∧ av.length = y.2.1.2.2.1 ∧ (rest.map fun v => v.category).sum ≤ 8 ∧ Met l y.1.1 (zx_mc y :: zx_G) (zx_rm d' y) Pc (zx_Qc D N0 ex nu ads K) y.2.1.2.2.2.1 y.2.1.2.2.2.2.1 (zx_A N0) ∧
      FrameBlind Pc ∧ (∀ U : State, U.heap = H → s.WarmedH U.vm → Pc av.toArray U) ∧ (ce + y.2.1.2.2.2.1 ≤ R.cells ∧ sl + y.2.1.2.2.2.2.1 ≤ R.slots) ∧ va_S (zx_A N0) s.heap H locs ∧ ls.size = M.1.2.2.1 ∧
      (y.2.1.2.1 = 0 → ∃ b As, av = .ref b :: As ∧ ∃ cellB : Cell, H[b]? = some cellB ∧ cellB.vm.isStatics = false ∧ s.vm.findClass y.1.1.cls = some cellB.cls) ∧ (y.2.1.2.1 = 2 → ∃ b As, av = .ref b :: As) ∧
      (∀ (r : List Nat) (vs : List Value) (h : zx_H) (e hn : Nat) (tys : List (ClassId × FieldType)) (ws : va_W) (H1 : Heap) (locs1 : List Loc), vs.length ≤ 1 → zx_SR (ws.map (fun w => w.1)) ex nu r vs → zx_Wd D N0 ex nu ads s H1 h hn tys ws → zx_ev nu e → K r h e hn = true → va_S (zx_A N0) s.heap H1 locs1 → W p l en R s m args below meth c H1 locs1 (ce + y.2.1.2.2.2.1) (sl + y.2.1.2.2.2.2.1) Q (F0 m np ls (vs ++ rest))) := by
  obtain ⟨hx0, hb, hml, hown, hts, -, hN0, hX, ⟨hrf, hrl, hrc, hrs⟩, -⟩ := hC
  unfold zh_inv at hk
  obtain ⟨l1, z1, hk⟩ := zx_at_s _ _ hk
  obtain ⟨y1, z2, hk⟩ := zx_at_s _ _ hk
  have hy1 : y1 = y := by
    unfold zx_me at hya
    rw [show zx_mt[a / 16]? = some l1 from z1] at hya
    have := (show l1[a % 16]? = some y1 from z2).symm.trans hya
    exact Option.some.inj this
  subst hy1
  have hym := (zx_me_s hya).1
  obtain ⟨h1, -, -, -, -, -, -, -, -, h10⟩ := zx_head hym
  obtain ⟨tys, ws, ⟨hK, hP, hD, hn', hH, hp⟩, hS, hl, hL, hT, hE⟩ := hR
  obtain ⟨as, st', av, vs', hk, k2, k3, rfl, k5⟩ := zx_tk_s hE y1.2.1.2.2.1 (acc := []) (va := []) trivial hT hk
  rw [List.append_nil] at k2
  obtain ⟨q1, hk⟩ := zx_bft hk
  obtain ⟨q1, q2⟩ := zx_and_b q1
  obtain ⟨q2, q3⟩ := zx_and_b q2
  obtain ⟨q3, q4⟩ := zx_and_b q3
  -- the receiver
  have hrc2 : zx_fn (zx_rw as) (fun r0 => call y1 (fun r h e hn => zx_fn (Nat.add ce y1.2.1.2.2.2.1) (fun ce => zx_fn (Nat.add sl y1.2.1.2.2.2.2.1) (fun sl => nx cur np row (@List.rec Nat (fun _ => List Nat) st' (fun v _ _ => v :: st') r) h e hn ce sl))) [] 0 r0 [] h e hn 0 0) = true ∧
      (y1.2.1.2.1 = 0 → ∃ b As, av.reverse = .ref b :: As ∧ ∃ cellB : Cell, H[b]? = some cellB ∧ cellB.vm.isStatics = false ∧ s.vm.findClass y1.1.1.cls = some cellB.cls) ∧ (y1.2.1.2.1 = 2 → ∃ b As, av.reverse = .ref b :: As) := by
    unfold zx_rc at hk
    rcases zx_bif hk with ⟨w0, hk⟩ | ⟨w0, hk⟩
    · obtain ⟨r, t, rfl, hk⟩ := zx_p1_s hk
      obtain ⟨xr, rs, hav, g1, g2⟩ := zx_SR1 k2
      have w0 := zx_beq_t w0
      rcases zx_bif hk with ⟨w1, hk⟩ | ⟨-, hk⟩
      · obtain ⟨kc, g3, hk⟩ := zx_hg_s hk
        obtain ⟨w2, hk⟩ := zx_bft hk
        obtain ⟨ad, g4, rfl⟩ := zx_ref2 g1 w1
        refine ⟨hk, fun _ => ⟨ad, rs, hav, ?_⟩, fun z => by omega⟩
        have w2 : zx_hd kc = y1.2.1.1 * 16 + 7 := zx_beq_t w2
        rcases h10 w0 with z | ⟨z, z'⟩
        · exfalso
          rw [z] at w2
          obtain ⟨t7, tcn⟩ := zx_hd7 (c := kc) (x := 14) (by rw [w2]) (by decide)
          obtain ⟨ee, g5, g6⟩ := zx_HR_get hH g3 g4 (by omega)
          obtain ⟨fs, rc, rfl, g7, -, -⟩ := (zx_c7 t7).mp g6
          rw [tcn] at g7
          have := (List.getElem?_eq_some_iff.mp g7).1
          rw [zx_vwl] at this
          omega
        · obtain ⟨t7, tcn⟩ := zx_hd7 (c := kc) (x := y1.2.1.1) (by rw [w2]; omega) (by omega)
          obtain ⟨ee, g5, g6⟩ := zx_HR_get hH g3 g4 (by omega)
          obtain ⟨fs, rc, rfl, g7, -, -⟩ := (zx_c7 t7).mp g6
          rw [h1, ← z', zx_ci_of (by rw [tcn] at g7; exact g7)]
          exact va_recv hK hP g7 g5
      · obtain ⟨w1, hk⟩ := zx_bft hk
        obtain ⟨w1, w2⟩ := zx_and_b w1
        have w2 : y1.2.1.1 = 14 := zx_beq_t w2
        have hX' := hX
        obtain ⟨-, -, hX1, hX2, -⟩ := hX'
        have hstr : ∃ ad, xr = .ref ad ∧ va_O "java/lang/String" ad (zx_A N0) s s.heap := by
          rcases (Bool.or_eq_true _ _).mp w1 with z | z <;> have z := zx_beq_t z <;> subst z
          · exact ⟨ex 1, ((zx_r6 (by decide)).mp g1).2, hX1.1⟩
          · exact ⟨ex 3, ((zx_r6 (by decide)).mp g1).2, hX2.1⟩
        obtain ⟨ad, rfl, cell, o1, o2, o3, o4⟩ := hstr
        refine ⟨hk, fun _ => ⟨ad, rs, hav, cell, ?_, o2, by rw [h1, w2, zx_on14]; exact o3⟩, fun z => by omega⟩
        rw [hS.2.1 ad (Array.getElem?_eq_some_iff.mp o1).1 o4]
        exact o1
    · have w0 := zx_beq_f w0
      rcases zx_bif hk with ⟨w1, hk⟩ | ⟨w1, hk⟩
      · obtain ⟨r, t, rfl, hk⟩ := zx_p1_s hk
        obtain ⟨xr, rs, hav, g1, g2⟩ := zx_SR1 k2
        obtain ⟨w2, hk⟩ := zx_bft hk
        obtain ⟨ad, g4, rfl⟩ := zx_ref2 g1 w2
        exact ⟨hk, fun z => absurd z w0, fun _ => ⟨ad, rs, hav⟩⟩
      · exact ⟨hk, fun z => absurd z w0, fun z => absurd z (zx_beq_f w1)⟩
  obtain ⟨hcall, hr0, hr2⟩ := hrc2
  rw [zx_fn_eq] at hcall
  obtain ⟨d', hd', hM⟩ := hCa y1 _ as h e hn av.reverse tys ws hym hcall k2 (zx_ble_t q2) hD hn' hH hE
  refine ⟨d', av.reverse, vs', _, _, _, hd', by rw [List.reverse_reverse], by rw [List.length_reverse]; exact k5, zx_room k3 q1, hM, zx_Pc_blind, ?_, ⟨Nat.le_trans (zx_ble_t q3) hrc, Nat.le_trans (zx_ble_t q4) hrs⟩, hS, hl.1, hr0, hr2, ?_⟩
  · intro U hU hW
    exact ⟨rfl, by rw [hU]; exact Nat.le_trans hN0 hS.1, va_K.moved hW.alike hK, by rw [hU]; exact hP, zx_X_mv hX hN0 hW (by rw [hU]; exact hS.2.1)⟩
  · intro r vs h2 e2 hn2 tys2 ws2 H1 locs1 hlen hsr hW2 hE2 hK2 hS2
    rw [zx_fn_eq, zx_fn_eq] at hK2
    obtain ⟨v1, v2, v3, v4, v5, v6⟩ := hW2
    refine hN _ _ _ _ _ _ _ _ _ hv hK2 _ _ _ _ ⟨tys2, ws2, ⟨v1, v2, v3, v4, v5, fun i q hq => v6 i q (hp i q hq)⟩, hS2, hl, zx_LR_mono v6 hL, ?_, hE2⟩
    match r, vs, hsr, hlen with
    | [], [], _, _ => exact zx_SR_mono v6 k3
    | [v], [x], hsr, _ => exact ⟨hsr.1, zx_SR_mono v6 k3⟩
    | [], _ :: _, hsr, _ => exact hsr.elim
    | _ :: _, [], hsr, _ => exact hsr.elim
    | _ :: _ :: _, [x], hsr, _ => exact hsr.2.elim
    | _, _ :: _ :: _, _, hlen => exact absurd hlen (by simp)
theorem zs_invV {q : zx_Q} {i a : Nat} {y : zx_M} (hq : q ∈ zx_ML) (ho : q.1 = M.2.1.1) (hi : q.2.1 = i) (ha : q.2.2.1 = a) (ha2 : a < 9000) (hya : zx_me a = some y) (hk0 : y.2.1.2.1 = 0) (hd : decode M.1.2.1 pc = .ok (.invokevirtual i, 3)) (hCa : zx_Ca l D N0 ex nu d call) (hC : zx_Cx p R s m args meth c M d N0 ex nu) (hN : zx_Nx p l en R s m args below meth c Q D N0 ex nu ad0 M nx) (hv : ∀ q ∈ cur, zx_ve M q) (hR : zx_Rl D N0 ex nu ad0 M s row st h e hn ls vs H locs) (hk : zh_inv M call nx a (pc + 3) cur row st h e hn ce sl = true) :
    W p l en R s m args below meth c H locs ce sl Q (F0 m pc ls vs) := by
  obtain ⟨d', av, rest, Pc, K, ads, hd', rfl, hal, hrm, hM, hbl, hPc, hf, hS, hsz, hr0, -, kk⟩ := zx_inv_s hya hCa hC hN hv hR hk
  obtain ⟨b, As, rfl, hcell⟩ := hr0 hk0
  have hym := (zx_me_s hya).1
  obtain ⟨h1, h2, h3, h4, h5, h6, h7, h8, h9, h10⟩ := zx_head hym
  have hCC := hC
  obtain ⟨hx0, hb, hml, hown, hts, -⟩ := hCC
  have hmy : zx_my q.2.2.1 = y.1.1 := by
    unfold zx_my
    rw [ha, show Nat.beq a 9000 = false from by cases hz : Nat.beq a 9000 with | false => rfl | true => have := zx_beq_t hz; omega, show Nat.beq a 9001 = false from by cases hz : Nat.beq a 9001 with | false => rfl | true => have := zx_beq_t hz; omega, hya]
    rfl
  have hlink : (Cond.methodLink (zx_on1 M.2.1.1) i y.1.1).before args s = true := by
    have := hts _ (zx_inM hq)
    unfold zx_mw at this
    rw [ho, hi, hmy] at this
    exact this
  have hkw : (Cond.instanceMethod y.1.1).before args s = true := by
    have := hts _ (zx_inY hym (List.mem_cons_of_mem _ (List.mem_cons_of_mem _ List.mem_cons_self)))
    unfold zx_mkw at this
    rw [hk0] at this
    exact this
  have hse : (Cond.selects y.1.1.cls y.1.1 y.1.1).before args s = true := by
    refine hts _ (zx_inY hym (List.mem_cons_of_mem _ (List.mem_cons_of_mem _ (List.mem_cons_of_mem _ ?_))))
    unfold zx_ms
    rw [hk0]
    exact List.mem_cons_self
  rw [hk0] at h4
  refine zs_go (va_runV (As := As) (rest := rest) ⟨hx0, hb, hml, hown, hts⟩ hM ⟨zx_cb hC hym hd' hlink h4, hkw, hse⟩ ⟨hbl, hcell, hPc⟩ rfl ?_ hsz ?_ (lv_room hrm) hd hf) hS kk
  · rw [List.length_cons] at hal
    show As.length = y.2.1.2.2.1 - 1
    omega
  · show (Value.ref b :: As).reverse ++ rest = As.reverse ++ Value.ref b :: rest
    rw [List.reverse_cons, List.append_assoc]
    rfl
theorem zx_my_of {a : Nat} {y : zx_M} (ha2 : a < 9000) (hya : zx_me a = some y) : zx_my a = y.1.1 := by
  unfold zx_my
  rw [show Nat.beq a 9000 = false from by cases hz : Nat.beq a 9000 with | false => rfl | true => have := zx_beq_t hz; omega, show Nat.beq a 9001 = false from by cases hz : Nat.beq a 9001 with | false => rfl | true => have := zx_beq_t hz; omega, hya]
  rfl
theorem zs_invS {q : zx_Q} {i a : Nat} {y : zx_M} (hq : q ∈ zx_ML ∨ q ∈ zx_NL) (ho : q.1 = M.2.1.1) (hi : q.2.1 = i) (ha : q.2.2.1 = a) (ha2 : a < 9000) (hya : zx_me a = some y) (hk0 : y.2.1.2.1 = 1) (hd : decode M.1.2.1 pc = .ok (.invokestatic i, 3)) (hCa : zx_Ca l D N0 ex nu d call) (hC : zx_Cx p R s m args meth c M d N0 ex nu) (hN : zx_Nx p l en R s m args below meth c Q D N0 ex nu ad0 M nx) (hv : ∀ q ∈ cur, zx_ve M q) (hR : zx_Rl D N0 ex nu ad0 M s row st h e hn ls vs H locs) (hk : zh_inv M call nx a (pc + 3) cur row st h e hn ce sl = true) :
    W p l en R s m args below meth c H locs ce sl Q (F0 m pc ls vs) := by
  obtain ⟨d', av, rest, Pc, K, ads, hd', rfl, hal, hrm, hM, hbl, hPc, hf, hS, hsz, -, -, kk⟩ := zx_inv_s hya hCa hC hN hv hR hk
  have hym := (zx_me_s hya).1
  obtain ⟨h1, h2, h3, h4, h5, h6, h7, h8, h9, h10⟩ := zx_head hym
  have hCC := hC
  obtain ⟨hx0, hb, hml, hown, hts, -⟩ := hCC
  have hmy : zx_my q.2.2.1 = y.1.1 := by rw [ha]; exact zx_my_of ha2 hya
  have hkw : (Cond.static y.1.1).before args s = true := by
    have := hts _ (zx_inY hym (List.mem_cons_of_mem _ (List.mem_cons_of_mem _ List.mem_cons_self)))
    unfold zx_mkw at this
    rw [hk0] at this
    exact this
  rw [hk0] at h4
  rcases hq with hq | hq
  · have hlink : (Cond.methodLink (zx_on1 M.2.1.1) i y.1.1).before args s = true := by
      have := hts _ (zx_inM hq)
      unfold zx_mw at this
      rw [ho, hi, hmy] at this
      exact this
    exact zs_go (va_runS (As := av) (rest := rest) ⟨hx0, hb, hml, hown, hts⟩ hM ⟨zx_cb hC hym hd' hlink h4, hkw⟩ ⟨hbl, hPc⟩ rfl hal hsz rfl (lv_room hrm) hd hf) hS kk
  · exact zs_go (va_runSN (As := av) (rest := rest) ⟨hx0, hb, hml, hown, hts⟩ hM ⟨zx_cbn hC hym hd' hq ho hi hmy h4, hkw, trivial⟩ ⟨hbl, hPc⟩ rfl hal hsz rfl (lv_room hrm) hd hf) hS kk
theorem zs_invI {q : zx_Q} {i a : Nat} {y : zx_M} (hq : q ∈ zx_ML ∨ q ∈ zx_NL) (ho : q.1 = M.2.1.1) (hi : q.2.1 = i) (ha : q.2.2.1 = a) (ha2 : a < 9000) (hya : zx_me a = some y) (hk0 : y.2.1.2.1 = 2) (hd : decode M.1.2.1 pc = .ok (.invokespecial i, 3)) (hCa : zx_Ca l D N0 ex nu d call) (hC : zx_Cx p R s m args meth c M d N0 ex nu) (hN : zx_Nx p l en R s m args below meth c Q D N0 ex nu ad0 M nx) (hv : ∀ q ∈ cur, zx_ve M q) (hR : zx_Rl D N0 ex nu ad0 M s row st h e hn ls vs H locs) (hk : zh_inv M call nx a (pc + 3) cur row st h e hn ce sl = true) :
    W p l en R s m args below meth c H locs ce sl Q (F0 m pc ls vs) := by
  obtain ⟨d', av, rest, Pc, K, ads, hd', rfl, hal, hrm, hM, hbl, hPc, hf, hS, hsz, -, hr2, kk⟩ := zx_inv_s hya hCa hC hN hv hR hk
  obtain ⟨b, As, rfl⟩ := hr2 hk0
  have hym := (zx_me_s hya).1
  obtain ⟨h1, h2, h3, h4, h5, h6, h7, h8, h9, h10⟩ := zx_head hym
  have hCC := hC
  obtain ⟨hx0, hb, hml, hown, hts, -⟩ := hCC
  have hmy : zx_my q.2.2.1 = y.1.1 := by rw [ha]; exact zx_my_of ha2 hya
  have hkw : (Cond.instanceMethod y.1.1).before args s = true := by
    have := hts _ (zx_inY hym (List.mem_cons_of_mem _ (List.mem_cons_of_mem _ List.mem_cons_self)))
    unfold zx_mkw at this
    rw [hk0] at this
    exact this
  rw [hk0] at h4
  obtain ⟨hnm, hrt⟩ := h7 hk0
  have hlen : As.length = y.2.1.2.2.1 - 1 := by
    rw [List.length_cons] at hal
    omega
  have hstk : (Value.ref b :: As).reverse ++ rest = As.reverse ++ Value.ref b :: rest := by
    rw [List.reverse_cons, List.append_assoc]
    rfl
  rcases hq with hq | hq
  · have hlink : (Cond.methodLink (zx_on1 M.2.1.1) i y.1.1).before args s = true := by
      have := hts _ (zx_inM hq)
      unfold zx_mw at this
      rw [ho, hi, hmy] at this
      exact this
    have hcb := zx_cb hC hym hd' hlink h4
    rw [hrt] at hcb
    exact zs_go (va_runI (As := As) (rest := rest) ⟨hx0, hb, hml, hown, hts⟩ hM ⟨hcb, hnm, hkw⟩ ⟨hbl, hPc⟩ rfl hlen hsz hstk (lv_room hrm) hd hf) hS kk
  · have hcb := zx_cbn hC hym hd' hq ho hi hmy h4
    rw [hrt] at hcb
    exact zs_go (va_runIN (As := As) (rest := rest) ⟨hx0, hb, hml, hown, hts⟩ hM ⟨hcb, hnm, hkw⟩ ⟨hbl, hPc⟩ rfl hlen hsz hstk (lv_room hrm) hd hf) hS kk
end ZI
