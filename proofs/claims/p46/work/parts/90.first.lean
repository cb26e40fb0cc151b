/-! layFirst -/
def zn_pc (t : Nat) : Nat := (List.range 10).countP (fun k => t.testBit k)
theorem zn_pc_le (t : Nat) : zn_pc t ≤ 10 := by
  have h := List.countP_le_length (p := fun k => t.testBit k) (l := List.range 10)
  rw [List.length_range] at h
  exact h
theorem zn_pc_or {t k : Nat} (hk : k < 10) (h : t.testBit k = false) : zn_pc (t ||| 2 ^ k) = zn_pc t + 1 := by
  have h1 := zy_cnt (p := fun i => t.testBit i) (p' := fun i => (t ||| 2 ^ k).testBit i) (k0 := k) (fun i hi => by
    rw [Nat.testBit_or, Nat.testBit_two_pow]
    simp [Ne.symm hi]) h (by
    rw [Nat.testBit_or, Nat.testBit_two_pow]
    simp) 10
  rw [if_pos hk] at h1
  exact h1
/-- what layFirst writes -/
def zn_F (Z : zy_V) (j f _ : Nat) : Prop := (j = zy_ru Z 29 ∧ f = 57) ∨ (j = zy_ru Z 69 ∧ f = 0)
section ZNF
variable {l : Launch} {D : va_G} {N0 : Nat} {Z : zy_V} {p : Program} {en : Env} {R : Room} {s : State} {m : MethodId} {args : Array Value} {below : List Frame} {meth : Method} {c : Code}
theorem zn_F_r (H : zy_H0 Z) {ws ws' : va_W} (hF : zv_Fm Z ws ws' (zn_F Z)) {r g : Nat} (h0 : 0 < r) (h1 : r < 100) (h2 : zy_fg[r]? = some g) (h3 : g ≠ 41 ∧ g ≠ 81) (a : Nat) : zy_rd ws' (zy_ru Z r) 0 a = zy_rd ws (zy_ru Z r) 0 a := zv_Fm_r H hF h0 h1 h2 (by decide) (fun z => by
  rcases z with z | z
  · exact zv_ne H h0 h1 h2 (r' := 29) (g' := 41) (by decide) (by decide) rfl h3.1 z.1
  · exact zv_ne H h0 h1 h2 (r' := 69) (g' := 81) (by decide) (by decide) rfl h3.2 z.1)
theorem zn_F_x (H : zy_H0 Z) {ws ws' : va_W} (hF : zv_Fm Z ws ws' (zn_F Z)) {k : Nat} {st pt op mv : Int32} : zn_x Z ws' k st pt op mv ↔ zn_x Z ws k st pt op mv := zn_x_eq (zn_F_r H hF (r := 65) (g := 77) (by decide) (by decide) rfl (by decide) k) (zn_F_r H hF (r := 68) (g := 80) (by decide) (by decide) rfl (by decide) k)
theorem zn_F_w (H : zy_H0 Z) {ws ws' : va_W} (hF : zv_Fm Z ws ws' (zn_F Z)) (q : Nat) : zn_el Z ws' 67 q = zn_el Z ws 67 q := zn_el_eq (zn_F_r H hF (r := 67) (g := 79) (by decide) (by decide) rfl (by decide) q)
set_option maxHeartbeats 2000000 in
set_option maxRecDepth 20000 in
theorem zo_first_i {d : Nat} (hB : zy_Fr p l R s m args meth c N0 Z zm_59 (d + 1)) (hd : 3 ≤ d) {st : Nat} (hst : st < 1024) {op mv : Int32} {ws0 : va_W} {P : List Value → va_W → Prop} {t : Nat} (ht : t < 1024) {d0 : Nat} (hd0 : d0 < 10) {ws : va_W} (hx0' : zn_x Z ws d0 (nI st) (nI t) op mv) (hw0 : zn_el Z ws 67 (t ||| 2 ^ d0) ≠ 0) (kk : ∀ (k : Nat) (ls : Array Slot) (H : Heap) (locs : List Loc) (tys : List (ClassId × FieldType)), k < 10 → zn_x Z ws k (nI st) (nI t) op mv → zn_el Z ws 67 (t ||| 2 ^ k) ≠ 0 → zy_Mx D N0 zy_T Z s zm_59 ls H locs tys ws → zn_L Z st op mv ls → ls[4]? = some (.val (.int (nI t))) → ls[5]? = some (.val (.int (nI k))) → W p l en R s m args below meth c H locs 0 0 (MQ below (zy_QP D N0 zy_T Z P) args s 0 0 (zx_A N0)) (F0 m 52 ls [])) :
    ∀ (K k : Nat) (ls : Array Slot) (H : Heap) (locs : List Loc) (tys : List (ClassId × FieldType)), d0 - k = K → k ≤ d0 → zy_Mx D N0 zy_T Z s zm_59 ls H locs tys ws → zn_L Z st op mv ls → ls[4]? = some (.val (.int (nI t))) → ls[5]? = some (.val (.int (nI k))) → W p l en R s m args below meth c H locs 0 0 (MQ below (zy_QP D N0 zy_T Z P) args s 0 0 (zx_A N0)) (F0 m 17 ls []) := by
  obtain ⟨hx0, hb0, -⟩ := hB.2.2.1 Z (zy_le_rf Z)
  have H0 := hB.1
  intro K
  induction K with
  | zero =>
    intro k ls H locs tys hK hk hx hL l4 l5
    obtain ⟨l0, l1, l2, l3⟩ := id hL
    have hk10 : k < 10 := by omega
    have e : k = d0 := by omega
    subst e
    refine lv_aload_n hx0 hb0 rfl rfl l0 ?_
    refine lv_iload hx0 hb0 rfl l5 ?_
    refine lv_iload_n hx0 hb0 rfl rfl l1 ?_
    refine lv_iload hx0 hb0 rfl l4 ?_
    refine lv_iload_n hx0 hb0 rfl rfl l2 ?_
    refine lv_iload_n hx0 hb0 rfl rfl l3 ?_
    refine zv_ivM (As := [.int (nI k), .int (nI st), .int (nI t), .int op, .int mv]) (rest := []) (q := (12, 491, 17, 0, 8, 220)) (y := zm_17) (zo_next (st := nI st) (pt := nI t) (op := op) (mv := mv) hB.1 hB.2.1 hk10) hB hx (List.mem_of_getElem? (i := 120) rfl) rfl rfl rfl (by decide) rfl (by decide) rfl rfl (by omega) rfl rfl (Nat.le_of_ble_eq_true rfl) ?_
    intro vs1 tys1 ws1 H1 locs1 hn1 hq1 hx1
    obtain ⟨rfl, bb, rfl, hbb⟩ := hq1
    refine lv_if_eq (tgt := 46) hx0 hb0 rfl (by decide) (fun h => ?_) (fun _ => ?_)
    · rw [hbb.mpr hx0'] at h
      exact absurd h (by decide)
    have hnx := hx0'
    have hor := zn_or_lt ht hk10
    obtain ⟨nw, hnw, -⟩ := zv_el H0 hx1.1.2.2.2 (r := 67) (g := 79) (by decide) (by decide) rfl (by decide) rfl (by decide) (i := t ||| 2 ^ k) (show t ||| 2 ^ k < 1024 by omega)
    refine lv_aload_n hx0 hb0 rfl rfl l0 ?_
    refine zv_getA hB hx1 (q := (12, 128, 12, 54, 6, 155)) (r := 67) (g := 79) (List.mem_of_getElem? (i := 47) rfl) rfl rfl rfl rfl rfl (by decide) (by decide) (by decide) (by decide) (by decide +kernel) ?_
    refine lv_iload hx0 hb0 rfl l4 ?_
    refine lv_iconst (v := nI 1) hx0 hb0 rfl (by decide) ?_
    refine lv_iload hx0 hb0 rfl l5 ?_
    refine lv_ishl hx0 hb0 rfl ?_
    rw [zn_two k hk10]
    refine lv_ior hx0 hb0 rfl ?_
    rw [zx_or']
    refine zv_ald hB hx1 (r := 67) (g := 79) (by decide) (by decide) rfl (by decide) rfl (Or.inl (by decide)) (Or.inl ⟨by decide, rfl⟩) rfl (show t ||| 2 ^ k < 1024 by omega) (by decide) hnw ?_
    refine lv_if_ne (tgt := 52) hx0 hb0 rfl (by decide) (fun h => ?_) (fun h => ?_)
    · exact kk k ls H1 locs1 tys1 hk10 hnx hw0 hx1 hL l4 l5
    · rw [zn_el_of hnw] at hw0
      exact absurd h hw0
  | succ K ih =>
    intro k ls H locs tys hK hk hx hL l4 l5
    obtain ⟨l0, l1, l2, l3⟩ := id hL
    have hk10 : k < 10 := by omega
    have nxt : ∀ (H : Heap) (locs : List Loc) (tys : List (ClassId × FieldType)), zy_Mx D N0 zy_T Z s zm_59 ls H locs tys ws → W p l en R s m args below meth c H locs 0 0 (MQ below (zy_QP D N0 zy_T Z P) args s 0 0 (zx_A N0)) (F0 m 46 ls []) := by
      intro H locs tys hx
      refine zv_inc hB hx (n := 1) (v := nI (k + 1)) (by decide) rfl l5 (by rw [show Int32.ofInt 1 = nI 1 from by decide, nI_add]) (zv_cat l4 zv_c1) (fun ls2 hx2 q1 q2 => ?_)
      refine lv_goto (tgt := 17) hx0 hb0 rfl (by decide) ?_
      exact ih (k + 1) ls2 H locs tys (by omega) (by omega) hx2 ⟨q2 0 _ (by decide) l0, q2 1 _ (by decide) l1, q2 2 _ (by decide) l2, q2 3 _ (by decide) l3⟩ (q2 4 _ (by decide) l4) q1
    refine lv_aload_n hx0 hb0 rfl rfl l0 ?_
    refine lv_iload hx0 hb0 rfl l5 ?_
    refine lv_iload_n hx0 hb0 rfl rfl l1 ?_
    refine lv_iload hx0 hb0 rfl l4 ?_
    refine lv_iload_n hx0 hb0 rfl rfl l2 ?_
    refine lv_iload_n hx0 hb0 rfl rfl l3 ?_
    refine zv_ivM (As := [.int (nI k), .int (nI st), .int (nI t), .int op, .int mv]) (rest := []) (q := (12, 491, 17, 0, 8, 220)) (y := zm_17) (zo_next (st := nI st) (pt := nI t) (op := op) (mv := mv) hB.1 hB.2.1 hk10) hB hx (List.mem_of_getElem? (i := 120) rfl) rfl rfl rfl (by decide) rfl (by decide) rfl rfl (by omega) rfl rfl (Nat.le_of_ble_eq_true rfl) ?_
    intro vs1 tys1 ws1 H1 locs1 hn1 hq1 hx1
    obtain ⟨rfl, bb, rfl, hbb⟩ := hq1
    refine lv_if_eq (tgt := 46) hx0 hb0 rfl (by decide) (fun _ => nxt H1 locs1 tys1 hx1) (fun h2 => ?_)
    have hnx := hbb.mp (by cases bb; exact absurd rfl h2; rfl)
    have hor := zn_or_lt ht hk10
    obtain ⟨nw, hnw, -⟩ := zv_el H0 hx1.1.2.2.2 (r := 67) (g := 79) (by decide) (by decide) rfl (by decide) rfl (by decide) (i := t ||| 2 ^ k) (show t ||| 2 ^ k < 1024 by omega)
    refine lv_aload_n hx0 hb0 rfl rfl l0 ?_
    refine zv_getA hB hx1 (q := (12, 128, 12, 54, 6, 155)) (r := 67) (g := 79) (List.mem_of_getElem? (i := 47) rfl) rfl rfl rfl rfl rfl (by decide) (by decide) (by decide) (by decide) (by decide +kernel) ?_
    refine lv_iload hx0 hb0 rfl l4 ?_
    refine lv_iconst (v := nI 1) hx0 hb0 rfl (by decide) ?_
    refine lv_iload hx0 hb0 rfl l5 ?_
    refine lv_ishl hx0 hb0 rfl ?_
    rw [zn_two k hk10]
    refine lv_ior hx0 hb0 rfl ?_
    rw [zx_or']
    refine zv_ald hB hx1 (r := 67) (g := 79) (by decide) (by decide) rfl (by decide) rfl (Or.inl (by decide)) (Or.inl ⟨by decide, rfl⟩) rfl (show t ||| 2 ^ k < 1024 by omega) (by decide) hnw ?_
    refine lv_if_ne (tgt := 52) hx0 hb0 rfl (by decide) (fun h => kk k ls H1 locs1 tys1 hk10 hnx (by rw [zn_el_of hnw]; exact h) hx1 hL l4 l5) (fun _ => nxt H1 locs1 tys1 hx1)
set_option maxHeartbeats 2000000 in
set_option maxRecDepth 20000 in
theorem zo_first_o {d : Nat} (hB : zy_Fr p l R s m args meth c N0 Z zm_59 (d + 1)) (hd : 3 ≤ d) {st : Nat} (hst : st < 1024) {op mv : Int32} {ws0 : va_W} {P : List Value → va_W → Prop} (hG : ∀ q, q ≤ st → zn_G Z ws0 st op mv q) (hP : ∀ ws', zv_Fm Z ws0 ws' (zn_F Z) → P [] ws') :
    ∀ (N t : Nat) (ws : va_W) (ls : Array Slot) (H : Heap) (locs : List Loc) (tys : List (ClassId × FieldType)), st - t = N → t ≤ st → t &&& st = t → zn_el Z ws0 67 t ≠ 0 → zy_Mx D N0 zy_T Z s zm_59 ls H locs tys ws → zv_Fm Z ws0 ws (zn_F Z) → zy_rd ws (zy_ru Z 29) 57 0 = some (.int (nI (zn_pc t))) → zn_L Z st op mv ls → ls[4]? = some (.val (.int (nI t))) → W p l en R s m args below meth c H locs 0 0 (MQ below (zy_QP D N0 zy_T Z P) args s 0 0 (zx_A N0)) (F0 m 8 ls []) := by
  obtain ⟨hx0, hb0, -⟩ := hB.2.2.1 Z (zy_le_rf Z)
  have H0 := hB.1
  intro N
  induction N using Nat.strongRecOn with
  | _ N ih =>
    intro t ws ls H locs tys hN ht hsub hwt hx hF hla hL l4
    obtain ⟨l0, l1, l2, l3⟩ := id hL
    refine lv_iload hx0 hb0 rfl l4 ?_
    refine lv_iload_n hx0 hb0 rfl rfl l1 ?_
    refine lv_icmp_eq (tgt := 85) hx0 hb0 rfl (by decide) (fun _ => zv_retv hB hx rfl rfl (hP ws hF)) (fun hne => ?_)
    have hts : t ≠ st := fun z => hne (by rw [z])
    obtain ⟨d0, e1, e2, e3⟩ := hG t ht hsub hts hwt
    refine lv_iconst (v := nI 0) hx0 hb0 rfl (by decide) ?_
    refine zv_sto hB hx (i := 5) (by decide) (Or.inr ⟨rfl, rfl⟩) rfl (zv_cat l4 zv_c1) (fun ls2 hx2 q1 q2 => ?_)
    refine zo_first_i (ws0 := ws0) hB hd hst (by omega) e1 ((zn_F_x H0 hF).mpr e2) (by rw [zn_F_w H0 hF]; exact e3) ?_ d0 0 ls2 H locs tys rfl (Nat.zero_le _) hx2 ⟨q2 0 _ (by decide) l0, q2 1 _ (by decide) l1, q2 2 _ (by decide) l2, q2 3 _ (by decide) l3⟩ (q2 4 _ (by decide) l4) q1
    intro k ls H locs tys hk hnx hwk hx hL l4 l5
    obtain ⟨l0, l1, l2, l3⟩ := id hL
    obtain ⟨b1, b2⟩ := zn_bit hst (by omega) hk hnx
    obtain ⟨c1, c2, c3⟩ := zn_step hsub b1 b2
    have hpc := zn_pc_or hk b2
    have hpl := zn_pc_le (t ||| 2 ^ k)
    refine lv_aload_n hx0 hb0 rfl rfl l0 ?_
    refine zv_getA hB hx (q := (12, 134, 12, 56, 6, 157)) (r := 69) (g := 81) (List.mem_of_getElem? (i := 78) rfl) rfl rfl rfl rfl rfl (by decide) (by decide) (by decide) (by decide) (by decide +kernel) ?_
    refine lv_aload_n hx0 hb0 rfl rfl l0 ?_
    refine zv_get hB hx (q := (12, 438, 12, 57, 6, 158)) (List.mem_of_getElem? (i := 10) rfl) rfl rfl rfl rfl rfl hla ?_
    refine lv_iload hx0 hb0 rfl l5 ?_
    refine zv_ast hB hx (r := 69) (g := 81) (by decide) (by decide) rfl (by decide) rfl (by decide) rfl (show zn_pc t < 64 by omega) (by decide) (zv_flo (by decide +kernel)) (zv_fhi (by decide +kernel)) (fun H1 locs1 ws1 hx1 hm1 hp1 hf1 => ?_)
    have hla1 : zy_rd ws1 (zy_ru Z 29) 57 0 = some (.int (nI (zn_pc t))) := (hf1 _ _ _ (fun z => absurd z.2.1 (by decide))).trans hla
    refine lv_aload_n hx0 hb0 rfl rfl l0 ?_
    refine lv_dup hx0 hb0 rfl rfl ?_
    refine zv_get hB hx1 (q := (12, 438, 12, 57, 6, 158)) (List.mem_of_getElem? (i := 10) rfl) rfl rfl rfl rfl rfl hla1 ?_
    refine lv_iconst (v := nI 1) hx0 hb0 rfl (by decide) ?_
    refine lv_iadd hx0 hb0 rfl ?_
    rw [nI_add]
    refine zv_put hB hx1 (q := (12, 438, 12, 57, 6, 158)) (f := 57) (lo := 2147483648) (hi2 := 2147483712) (y := nI (zn_pc t + 1)) (List.mem_of_getElem? (i := 10) rfl) rfl rfl rfl rfl rfl (by decide +kernel) (by decide +kernel) ⟨fun _ => ⟨_, rfl⟩, fun h => absurd h (by decide +kernel), fun h => absurd h (by decide +kernel)⟩ (by decide +kernel) (by rw [zy_bz_n (by omega)]; omega) (by rw [zy_bz_n (by omega)]; omega) (by decide) (fun H2 locs2 ws2 hx2 hm2 hp2 hf2 => ?_)
    refine lv_iload hx0 hb0 rfl l4 ?_
    refine lv_iconst (v := nI 1) hx0 hb0 rfl (by decide) ?_
    refine lv_iload hx0 hb0 rfl l5 ?_
    refine lv_ishl hx0 hb0 rfl ?_
    rw [zn_two k hk]
    refine lv_ior hx0 hb0 rfl ?_
    rw [zx_or']
    refine zv_sto hB hx2 (i := 4) (by decide) (Or.inr ⟨rfl, rfl⟩) rfl (zv_cat l3 zv_c1) (fun ls3 hx3 q3 q4 => ?_)
    refine lv_goto (tgt := 8) hx0 hb0 rfl (by decide) ?_
    have hF2 : zv_Fm Z ws0 ws2 (zn_F Z) := zv_Fm_tr hF (E2 := zn_F Z) ⟨hm2.trans hm1, fun j g f a _ _ hE => (hf2 j f a (fun z => hE (Or.inl z))).trans (hf1 j f a (fun z => hE (Or.inr ⟨z.1, z.2.1⟩)))⟩ (fun _ _ _ z => z) (fun _ _ _ z => z)
    exact ih (st - (t ||| 2 ^ k)) (by omega) (t ||| 2 ^ k) ws2 ls3 H2 locs2 tys rfl c3 c1 (by rw [← zn_F_w H0 hF]; exact hwk) hx3 hF2 (by rw [hpc]; exact hp2) ⟨q4 0 _ (by decide) l0, q4 1 _ (by decide) l1, q4 2 _ (by decide) l2, q4 3 _ (by decide) l3⟩ q3
set_option maxHeartbeats 1000000 in
set_option maxRecDepth 20000 in
theorem zo_first (H : zy_H0 Z) (HU : zy_UQ zy_fg Z) {st : Nat} (hst : st < 1024) {op mv : Int32} : zy_OkP l D N0 zy_T Z 59 4 (fun av ws => av = [.ref (zy_fa1 Z 29), .int (nI st), .int op, .int mv] ∧ zn_el Z ws 67 0 ≠ 0 ∧ ∀ q, q ≤ st → zn_G Z ws st op mv q) (fun _ ws vs ws' => vs = [] ∧ zv_Fm Z ws ws' (zn_F Z)) := by
  refine zy_handP (y := zm_59) H HU rfl (fun av ws h => by rw [h.1]; exact Nat.le_of_ble_eq_true rfl) ?_
  intro d hd av tys ws ⟨e, hw0, hG⟩ p en R s m below meth c hB ls hl hx
  subst e
  obtain ⟨d, rfl⟩ : ∃ d', d = d' + 1 := ⟨d - 1, by omega⟩
  have l0 : ls[0]? = some (.val (.ref (zy_fa1 Z 29))) := hl (0, _) (List.mem_of_getElem? (i := 0) rfl)
  have l1 : ls[1]? = some (.val (.int (nI st))) := hl (1, _) (List.mem_of_getElem? (i := 1) rfl)
  have l2 : ls[2]? = some (.val (.int op)) := hl (2, _) (List.mem_of_getElem? (i := 2) rfl)
  have l3 : ls[3]? = some (.val (.int mv)) := hl (3, _) (List.mem_of_getElem? (i := 3) rfl)
  obtain ⟨hx0, hb0, -⟩ := hB.2.2.1 Z (zy_le_rf Z)
  refine lv_iconst (v := nI 0) hx0 hb0 rfl (by decide) ?_
  refine zv_sto hB hx (i := 4) (by decide) (Or.inr ⟨rfl, rfl⟩) rfl (zv_cat l3 zv_c1) (fun ls2 hx2 q1 q2 => ?_)
  have l0 := q2 0 _ (by decide) l0
  refine lv_aload_n hx0 hb0 rfl rfl l0 ?_
  refine lv_iconst (v := nI 0) hx0 hb0 rfl (by decide) ?_
  refine zv_put hB hx2 (q := (12, 438, 12, 57, 6, 158)) (f := 57) (lo := 2147483648) (hi2 := 2147483712) (y := nI 0) (List.mem_of_getElem? (i := 10) rfl) rfl rfl rfl rfl rfl (by decide +kernel) (by decide +kernel) ⟨fun _ => ⟨_, rfl⟩, fun h => absurd h (by decide +kernel), fun h => absurd h (by decide +kernel)⟩ (by decide +kernel) (by rw [zy_bz_n (by omega)]; omega) (by rw [zy_bz_n (by omega)]; omega) (by decide) (fun H1 locs1 ws1 hx1 hm1 hp1 hf1 => ?_)
  have hF1 : zv_Fm Z ws ws1 (zn_F Z) := ⟨hm1, fun j g f a _ _ hE => hf1 j f a (fun z => hE (Or.inl z))⟩
  exact zo_first_o hB (by omega) hst hG (fun ws' h => ⟨rfl, h⟩) st 0 ws1 ls2 _ _ _ (by omega) (Nat.zero_le _) (Nat.zero_and _) hw0 hx1 hF1 hp1 ⟨l0, q2 1 _ (by decide) l1, q2 2 _ (by decide) l2, q2 3 _ (by decide) l3⟩ q1
end ZNF
