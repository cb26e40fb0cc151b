/-! one step: new objects and arrays -/
theorem zx_flag {nu : Nat → Int32} {e : Nat} (he : zx_ev nu e) (h : Nat.beq (zx_eg e 63) 9223372043297226753 = true) : nu 63 = 1 := by
  have h := zx_beq_t h
  rcases he 63 with q | q
  · rw [h] at q; cases q
  · rw [h] at q
    have h1 : zx_bz (nu 63) = 2147483649 := by omega
    rw [zx_eq', h1]
    decide
theorem zx_mem_at {tys : List (ClassId × FieldType)} {x : ClassId × FieldType} (h : x ∈ tys) : ∃ k : Nat, tys[k]? = some x := List.getElem?_of_mem h
theorem zx_nr_bool (v : Nat) : vp_nar .boolean (nI v) = nI (v % 2) := by
  show nI v &&& 1 = nI (v % 2)
  rw [show (1 : Int32) = nI 1 from rfl, zx_and', Nat.and_one_is_mod]
theorem zx_cn_lt (c : Nat) : zx_cn c < 65536 := by
  show c % 1048576 / 16 < 65536
  omega
section ZA
variable {p : Program} {l : Launch} {en : Env} {R : Room} {s : State} {m : MethodId} {args : Array Value} {below : List Frame} {meth : Method} {c : Code} {Q : State → Prop} {D : va_G} {N0 : Nat} {ex : Nat → Nat} {nu : Nat → Int32} {ad0 : List Nat} {M : zx_M} {d : Nat} {nx : zx_N} {cur cur0 : List zx_E} {pc row : Nat} {st : List Nat} {h : zx_H} {e hn ce sl : Nat} {ls : Array Slot} {vs : List Value} {H : Heap} {locs : List Loc}
theorem zx_mk_s {k n np : Nat} {st : List Nat} (hk : zx_mk M nx np cur row h e hn ce sl k n st = true) : hn < 65536 ∧ ce + 1 ≤ M.2.1.2.2.2.1 ∧ sl + n ≤ M.2.1.2.2.2.2.1 ∧ ∃ h', nx cur np row ((hn * 16 + 2) :: st) h' e (hn + 1) (ce + 1) (sl + n) = true ∧ zx_hG h' hn = some k ∧ ∀ j, j ≠ hn → zx_hG h' j = zx_hG h j := by
  unfold zx_mk at hk
  obtain ⟨q, hk⟩ := zx_bft hk
  obtain ⟨q1, q2⟩ := zx_and_b q
  obtain ⟨q2, q3⟩ := zx_and_b q2
  obtain ⟨h', hk, g1, g2⟩ := zx_hs_s hk
  rw [zx_fn_eq, zx_fn_eq, zx_fn_eq, zx_fn_eq] at hk
  exact ⟨zx_blt_t q1, zx_ble_t q2, zx_ble_t q3, h', hk, g1, g2⟩
theorem zx_Wd_push {U : State} {h h' : zx_H} {H1 : Heap} {tys tys' : List (ClassId × FieldType)} {ws : va_W} {a k : Nat} {e1 : va_E} (hW : zx_Wd D N0 ex nu ad0 U H h hn tys ws) (hlt : hn < 65536) (g2 : zx_hG h' hn = some k) (g3 : ∀ j, j ≠ hn → zx_hG h' j = zx_hG h j) (ht : ∀ x ∈ tys, x ∈ tys') (hK1 : va_K D vwCl tys' U) (hc : zx_cr ((ws ++ [(a, e1)]).map (fun w => w.1)) ex nu tys' k e1) (hP1 : va_P D vwCl (ws ++ [(a, e1)]) H1) (hD1 : va_D (zx_A N0) (ws ++ [(a, e1)])) :
    zx_Wd D N0 ex nu ad0 U H1 h' (hn + 1) tys' (ws ++ [(a, e1)]) ∧ (∀ (i q : Nat), (ws.map (fun w => w.1))[i]? = some q → ((ws ++ [(a, e1)]).map (fun w => w.1))[i]? = some q) ∧ zx_r ((ws ++ [(a, e1)]).map (fun w => w.1)) ex nu (hn * 16 + 2) (.ref a) := by
  obtain ⟨hK, hP, hD, hn', hH, hp⟩ := hW
  have ha := zx_ads_app ws (a, e1)
  refine ⟨⟨hK1, hP1, hD1, by rw [List.length_append, hn']; rfl, zx_HR_push hH hn' g2 g3 ht hc, fun i q hq => ha i q (hp i q hq)⟩, ha, ?_⟩
  rw [zx_r2 (by omega)]
  refine ⟨by omega, a, ?_, rfl⟩
  rw [show (hn * 16 + 2) / 16 = hn by omega, List.map_append, List.getElem?_append_right (by rw [List.length_map]; omega), List.length_map, hn', Nat.sub_self]
  rfl
theorem zs_new {q : zx_Q} {i : Nat} (hC : zx_Cx p R s m args meth c M d N0 ex nu) (hq : q ∈ zx_CL) (ho : q.1 = M.2.1.1) (hi : q.2.1 = i) (hx : q.2.2.1 < 13) (hd : decode M.1.2.1 pc = .ok (.new i, 3)) (hN : zx_Nx p l en R s m args below meth c Q D N0 ex nu ad0 M nx) (hv : ∀ q ∈ cur, zx_ve M q) (hR : zx_Rl D N0 ex nu ad0 M s row st h e hn ls vs H locs) (hk : zh_new M nx (zx_nc.getD q.2.2.1 0) (zx_ci q.2.2.1).2.2 (pc + 3) cur row st h e hn ce sl = true) :
    W p l en R s m args below meth c H locs ce sl Q (F0 m pc ls vs) := by
  obtain ⟨hx0, hb, hml, hown, hts, -, hN0, -, ⟨-, -, hrc, hrs⟩, -⟩ := hC
  obtain ⟨hlt, k1, k2, h', hk, g1, g2⟩ := zx_mk_s hk
  obtain ⟨tys, ws, hW, hS, hl, hL, hT, hE⟩ := hR
  obtain ⟨hK, hP, hD, hn', hH, hp⟩ := hW
  have hci := zx_ci_in hx
  have hrm := List.mem_of_getElem? hci
  obtain ⟨ty1, ty2, ty3⟩ := zx_cl_ty hrm
  have hlink : (Cond.classLink (zx_on1 M.2.1.1) i (zx_ci q.2.2.1).1).before args s = true := by
    have := hts _ (zx_inC hq)
    unfold zx_cw at this
    rw [ho, hi] at this
    exact this
  have hnc := List.all_eq_true.mp zx_nc_ok q.2.2.1 (List.mem_range.mpr hx)
  obtain ⟨hnc1, hnc2⟩ := zx_and_b hnc
  obtain ⟨t7, tcn⟩ := zx_hd7 (zx_beq_t hnc1) (by omega)
  refine va_new (own := zx_on1 M.2.1.1) (T := (zx_ci q.2.2.1).2.1) (N := (zx_ci q.2.2.1).2.2) (fs := (List.range (zx_ci q.2.2.1).2.2).map (fun j => defaultValue (zx_fty (zx_ci q.2.2.1) j))) hx0 hb hts (zx_cl_ws hrm) (zx_fty (zx_ci q.2.2.1)) ty1 hown hlink (hts _ (zx_inL hrm List.mem_cons_self)) (hts _ (zx_inL hrm (List.mem_cons_of_mem _ List.mem_cons_self))) hK hP hD hS (fun q hq => Nat.le_trans hN0 hq) hci ?_ (Nat.le_trans k1 hrc) (Nat.le_trans k2 hrs) hd ?_
  · intro j hj
    unfold vp_V
    rw [List.getD_eq_getElem?_getD, List.getElem?_map, List.getElem?_range hj]
    rfl
  · intro a H1 hP1 hD1 hS1
    obtain ⟨hW1, ha, hr⟩ := zx_Wd_push (tys' := tys) ⟨hK, hP, hD, hn', hH, hp⟩ hlt g1 g2 (fun _ z => z) hK ((zx_c7 t7).mpr ⟨_, zx_ci q.2.2.1, by rw [tcn], by rw [tcn]; exact hci, by rw [List.length_map, List.length_range], fun k v hkv => by
      rw [List.getElem?_map] at hkv
      by_cases hkl : k < (zx_ci q.2.2.1).2.2
      · rw [List.getElem?_range hkl] at hkv
        have hkv : defaultValue (zx_fty (zx_ci q.2.2.1) k) = v := Option.some.inj hkv
        rw [← hkv, zx_beq_t (List.all_eq_true.mp hnc2 k (List.mem_range.mpr hkl))]
        have hty := ty2 k hkl
        unfold zx_tyk at hty
        unfold zx_df
        split at hty
        · rename_i hd1
          rw [if_pos hd1, of_decide_eq_true hty]
          exact zx_r_0
        · rename_i hd1
          rw [if_neg hd1]
          split at hty
          · rename_i hd2
            rw [if_pos hd2, of_decide_eq_true hty]
            exact zx_r_l 0
          · rename_i hd2
            rw [if_neg hd2]
            cases hf : zx_fty (zx_ci q.2.2.1) k with
            | object n => exact (zx_r3 (by decide)).mpr ⟨by decide, rfl⟩
            | array n => exact (zx_r3 (by decide)).mpr ⟨by decide, rfl⟩
            | _ => rw [hf] at hty; cases hty
      · rw [List.getElem?_eq_none (by rw [List.length_range]; omega)] at hkv
        cases hkv⟩) hP1 hD1
    exact hN _ _ _ _ _ _ _ _ _ hv hk _ _ _ _ ⟨tys, _, hW1, hS1, hl, zx_LR_mono ha hL, ⟨hr, zx_SR_mono ha hT⟩, hE⟩
theorem zx_ig0 {t n j : Nat} (ht : t < 16) (hn : n < 65536) : zx_ig (t + n * 16) j = 0 := by
  show ((t + n * 16) >>> (20 + 32 * j)) % 4294967296 = 0
  rw [Nat.shiftRight_eq_div_pow, Nat.div_eq_of_lt, Nat.zero_mod]
  rw [Nat.pow_add]
  have : 1 ≤ 2 ^ (32 * j) := Nat.one_le_two_pow
  calc t + n * 16 < 1048576 * 1 := by omega
    _ ≤ 2 ^ 20 * 2 ^ (32 * j) := Nat.mul_le_mul (by decide) this
theorem zx_og0 {t n j : Nat} (ht : t < 16) (hn : n < 65536) : zx_og (t + n * 16) j = 0 := by
  show ((t + n * 16) >>> (20 + 72 * j)) % 4722366482869645213696 = 0
  rw [Nat.shiftRight_eq_div_pow, Nat.div_eq_of_lt, Nat.zero_mod]
  rw [Nat.pow_add]
  have : 1 ≤ 2 ^ (72 * j) := Nat.one_le_two_pow
  calc t + n * 16 < 1048576 * 1 := by omega
    _ ≤ 2 ^ 20 * 2 ^ (72 * j) := Nat.mul_le_mul (by decide) this
theorem zx_tn {t n : Nat} (ht : t < 16) (hn : n < 65536) : (t + n * 16) % 16 = t ∧ zx_cn (t + n * 16) = n := by
  refine ⟨by omega, ?_⟩
  show (t + n * 16) % 1048576 / 16 = n
  omega
/-- the number of places of a new array -/
theorem zx_arr_s {a np : Nat} (hR : zx_Rl D N0 ex nu ad0 M s row st h e hn ls vs H locs) (hk : zh_arr M nx a np cur row st h e hn ce sl = true) : ∃ (n : Nat) (st' : List Nat) (r : List Value), n < 65536 ∧ vs = .int (nI n) :: r ∧ zx_Rl D N0 ex nu ad0 M s row st' h e hn ls r H locs ∧ zx_mk M nx np cur row h e hn ce sl (a + n * 16) n st' = true := by
  unfold zh_arr at hk
  obtain ⟨v, st, rfl, hk⟩ := zx_p1_s hk
  obtain ⟨tys, ws, hW, hS, hl, hL, hT, hE⟩ := hR
  obtain ⟨x, r, rfl, h1, h2⟩ := zx_SR1 hT
  obtain ⟨v', h3, hk⟩ := zx_no_s hE h1 hk
  obtain ⟨q, hk⟩ := zx_bft hk
  obtain ⟨q1, q2⟩ := zx_and_b q
  rw [zx_fn_eq] at hk
  obtain ⟨-, h4, -⟩ := (zx_r4 (zx_beq_t q1)).mp h3
  subst h4
  exact ⟨v' / 16, st, r, zx_blt_t q2, rfl, ⟨tys, ws, hW, hS, hl, hL, h2, hE⟩, hk⟩
theorem zs_arr {t : ArrayType} {k : Nat} (ht : (t = .int ∧ k = 0) ∨ (t = .byte ∧ k = 1) ∨ (t = .boolean ∧ k = 2) ∨ (t = .long ∧ k = 6)) (hC : zx_Cx p R s m args meth c M d N0 ex nu) (hd : decode M.1.2.1 pc = .ok (.newarray t, 2)) (hN : zx_Nx p l en R s m args below meth c Q D N0 ex nu ad0 M nx) (hv : ∀ q ∈ cur, zx_ve M q) (hR : zx_Rl D N0 ex nu ad0 M s row st h e hn ls vs H locs) (hk : zh_arr M nx k (pc + 2) cur row st h e hn ce sl = true) :
    W p l en R s m args below meth c H locs ce sl Q (F0 m pc ls vs) := by
  obtain ⟨hx0, hb, hml, hown, hts, -, hN0, -, ⟨-, -, hrc, hrs⟩, -⟩ := hC
  obtain ⟨n, st, r, hn16, rfl, hR, hk⟩ := zx_arr_s hR hk
  obtain ⟨hlt, k1, k2, h', hk, g1, g2⟩ := zx_mk_s hk
  obtain ⟨tys, ws, hW, hS, hl, hL, hT, hE⟩ := hR
  obtain ⟨hK, hP, hD, hn', hH, hp⟩ := hW
  have hno : ¬ (nI n) < 0 := nI_pos (by omega)
  have hcl : (nI n).toNatClampNeg = n := nI_clamp (by omega)
  have fin : ∀ (ty : FieldType) (a0 : vp_A) (cA : ClassId) (q : Nat) (H1 : Heap), (∀ ads : List Nat, zx_cr ads ex nu (tys ++ [(cA, ty)]) (k + n * 16) (.inl (cA, a0))) → va_K D vwCl (tys ++ [(cA, ty)]) s → va_P D vwCl (ws ++ [(q, .inl (cA, a0))]) H1 → va_D (zx_A N0) (ws ++ [(q, .inl (cA, a0))]) → va_S (zx_A N0) s.heap H1 locs → W p l en R s m args below meth c H1 locs (ce + 1) (sl + n) Q (F0 m (pc + 2) ls (.ref q :: r)) := by
    intro ty a0 cA q H1 hcr hK1 hP1 hD1 hS1
    obtain ⟨hW1, ha, hr⟩ := zx_Wd_push (tys' := tys ++ [(cA, ty)]) ⟨hK, hP, hD, hn', hH, hp⟩ hlt g1 g2 (fun _ z => List.mem_append_left _ z) hK1 (hcr _) hP1 hD1
    exact hN _ _ _ _ _ _ _ _ _ hv hk _ _ _ _ ⟨_, _, hW1, hS1, hl, zx_LR_mono ha hL, ⟨hr, zx_SR_mono ha hT⟩, hE⟩
  have hA : ∀ q, s.heap.size ≤ q → zx_A N0 q := fun q hq => Nat.le_trans hN0 hq
  have hw : ∀ (ty : FieldType) (i j : Nat), (i, j, Cond.arrayClass ty) ∈ zx_ow → (Cond.arrayClass ty).before args s = true := fun ty i j hm => hts _ (zx_inO hm)
  rcases ht with ⟨rfl, rfl⟩ | ⟨rfl, rfl⟩ | ⟨rfl, rfl⟩ | ⟨rfl, rfl⟩
  · refine va_newa (atype := .int) (ty := .int) (a0 := (n, .inl (fun _ => 0))) hx0 hb (hts _ (zx_inO (List.mem_of_getElem? (i := 5) rfl))) rfl hK hP hD hS hA (fun _ => rfl) hno hcl (by show n * 4 ≤ _; omega) (Nat.le_trans k1 hrc) (Nat.le_trans k2 hrs) hd (fun q cA H1 hK1 hP1 hD1 hS1 => fin _ _ cA q H1 (fun ads => ?_) hK1 hP1 hD1 hS1)
    obtain ⟨e1, e2⟩ := zx_tn (t := 0) (by decide) hn16
    exact (zx_ck e1 (by decide)).mpr ⟨cA, _, List.mem_append_right _ List.mem_cons_self, by rw [e2], fun j _ => by rw [zx_ig0 (by decide) hn16]; exact nI_0.symm⟩
  · refine va_newa (atype := .byte) (ty := .byte) (a0 := (n, .inl (fun _ => 0))) hx0 hb (hts _ (zx_inO (List.mem_of_getElem? (i := 6) rfl))) rfl hK hP hD hS hA (fun _ => rfl) hno hcl (by show n * 1 ≤ _; omega) (Nat.le_trans k1 hrc) (Nat.le_trans k2 hrs) hd (fun q cA H1 hK1 hP1 hD1 hS1 => fin _ _ cA q H1 (fun ads => ?_) hK1 hP1 hD1 hS1)
    obtain ⟨e1, e2⟩ := zx_tn (t := 1) (by decide) hn16
    exact (zx_ck e1 (by decide)).mpr ⟨cA, _, List.mem_append_right _ List.mem_cons_self, by rw [e2], fun j _ => by rw [zx_ig0 (by decide) hn16]; exact nI_0.symm⟩
  · refine va_newa (atype := .boolean) (ty := .boolean) (a0 := (n, .inl (fun _ => 0))) hx0 hb (hts _ (zx_inO (List.mem_of_getElem? (i := 7) rfl))) rfl hK hP hD hS hA (fun _ => rfl) hno hcl (by show n * 1 ≤ _; omega) (Nat.le_trans k1 hrc) (Nat.le_trans k2 hrs) hd (fun q cA H1 hK1 hP1 hD1 hS1 => fin _ _ cA q H1 (fun ads => ?_) hK1 hP1 hD1 hS1)
    obtain ⟨e1, e2⟩ := zx_tn (t := 2) (by decide) hn16
    exact (zx_ck e1 (by decide)).mpr ⟨cA, _, List.mem_append_right _ List.mem_cons_self, by rw [e2], fun j _ => by rw [zx_ig0 (by decide) hn16]; exact nI_0.symm⟩
  · refine va_newa (atype := .long) (ty := .long) (a0 := (n, .inr (.inl (fun _ => 0)))) hx0 hb (hts _ (zx_inO (List.mem_of_getElem? (i := 8) rfl))) rfl hK hP hD hS hA (fun _ => rfl) hno hcl (by show n * 8 ≤ _; omega) (Nat.le_trans k1 hrc) (Nat.le_trans k2 hrs) hd (fun q cA H1 hK1 hP1 hD1 hS1 => fin _ _ cA q H1 (fun ads => ?_) hK1 hP1 hD1 hS1)
    obtain ⟨e1, e2⟩ := zx_tn (t := 6) (by decide) hn16
    exact (zx_c6 e1).mpr ⟨cA, _, List.mem_append_right _ List.mem_cons_self, by rw [e2]⟩
theorem zs_anew {q : zx_Q} {i : Nat} (hC : zx_Cx p R s m args meth c M d N0 ex nu) (hq : q ∈ zx_CL) (ho : q.1 = M.2.1.1) (hi : q.2.1 = i) (hx : q.2.2.1 = 8) (hd : decode M.1.2.1 pc = .ok (.anewarray i, 3)) (hN : zx_Nx p l en R s m args below meth c Q D N0 ex nu ad0 M nx) (hv : ∀ q ∈ cur, zx_ve M q) (hR : zx_Rl D N0 ex nu ad0 M s row st h e hn ls vs H locs) (hk : zh_arr M nx 8 (pc + 3) cur row st h e hn ce sl = true) :
    W p l en R s m args below meth c H locs ce sl Q (F0 m pc ls vs) := by
  obtain ⟨hx0, hb, hml, hown, hts, -, hN0, hX, ⟨-, -, hrc, hrs⟩, -⟩ := hC
  obtain ⟨n, st, r, hn16, rfl, hR, hk⟩ := zx_arr_s hR hk
  obtain ⟨hlt, k1, k2, h', hk, g1, g2⟩ := zx_mk_s hk
  obtain ⟨tys, ws, hW, hS, hl, hL, hT, hE⟩ := hR
  obtain ⟨hK, hP, hD, hn', hH, hp⟩ := hW
  have hlink : (Cond.classLink (zx_on1 M.2.1.1) i RX8).before args s = true := by
    have := hts _ (zx_inC hq)
    unfold zx_cw at this
    rw [ho, hi, hx] at this
    exact this
  refine va_newq (own := zx_on1 M.2.1.1) hx0 hb hown hlink hX.2.2.2.2.2.2.2.1 hK hP hD hS (fun q hq => Nat.le_trans hN0 hq) (nI_pos (by omega)) (nI_clamp (by omega)) (by omega) (Nat.le_trans k1 hrc) (Nat.le_trans k2 hrs) hd (fun a cA H1 hK1 hP1 hD1 hS1 => ?_)
  obtain ⟨e1, e2⟩ := zx_tn (t := 8) (by decide) hn16
  obtain ⟨hW1, ha, hr⟩ := zx_Wd_push (tys' := tys ++ [(cA, .object RX8)]) ⟨hK, hP, hD, hn', hH, hp⟩ hlt g1 g2 (fun _ z => List.mem_append_left _ z) hK1 ((zx_c8 e1).mpr ⟨cA, _, List.mem_append_right _ List.mem_cons_self, by rw [e2], fun j _ => Or.inl ⟨zx_og0 (by decide) hn16, rfl⟩⟩) hP1 hD1
  exact hN _ _ _ _ _ _ _ _ _ hv hk _ _ _ _ ⟨_, _, hW1, hS1, hl, zx_LR_mono ha hL, ⟨hr, zx_SR_mono ha hT⟩, hE⟩
end ZA
