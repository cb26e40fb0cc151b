/-! layWays -/
def zn_G (Z : zy_V) (ws : va_W) (st : Nat) (op mv : Int32) (q : Nat) : Prop := q &&& st = q → q ≠ st → zn_el Z ws 67 q ≠ 0 → ∃ d, d < 10 ∧ zn_x Z ws d (nI st) (nI q) op mv ∧ zn_el Z ws 67 (q ||| 2 ^ d) ≠ 0
def zn_S (Z : zy_V) (t : Nat) (ws ws' : va_W) : Prop := ∀ j f a, ¬ (j = zy_ru Z 67 ∧ f = 0 ∧ a = t) → zy_rd ws' j f a = zy_rd ws j f a
def zn_E (Z : zy_V) (j f _ : Nat) : Prop := j = zy_ru Z 67 ∧ f = 0
def zn_L (Z : zy_V) (st : Nat) (op mv : Int32) (ls : Array Slot) : Prop := ls[0]? = some (.val (.ref (zy_fa1 Z 29))) ∧ ls[1]? = some (.val (.int (nI st))) ∧ ls[2]? = some (.val (.int op)) ∧ ls[3]? = some (.val (.int mv))
section ZNW
variable {l : Launch} {D : va_G} {N0 : Nat} {Z : zy_V} {p : Program} {en : Env} {R : Room} {s : State} {m : MethodId} {args : Array Value} {below : List Frame} {meth : Method} {c : Code}
theorem zn_S_x (H : zy_H0 Z) {t : Nat} {ws ws' : va_W} (hS : zn_S Z t ws ws') {k : Nat} {st pt op mv : Int32} : zn_x Z ws' k st pt op mv ↔ zn_x Z ws k st pt op mv := zn_x_eq (hS _ _ _ (fun z => zv_ne H (r := 65) (g := 77) (r' := 67) (g' := 79) (by decide) (by decide) rfl (by decide) (by decide) rfl (by decide) z.1)) (hS _ _ _ (fun z => zv_ne H (r := 68) (g := 80) (r' := 67) (g' := 79) (by decide) (by decide) rfl (by decide) (by decide) rfl (by decide) z.1))
theorem zn_S_w {t : Nat} {ws ws' : va_W} (hS : zn_S Z t ws ws') {q : Nat} (hq : q ≠ t) : zn_el Z ws' 67 q = zn_el Z ws 67 q := zn_el_eq (hS _ _ _ (fun z => hq z.2.2))
theorem zn_G_S (H : zy_H0 Z) {t : Nat} {ws ws' : va_W} (hS : zn_S Z t ws ws') {st : Nat} {op mv : Int32} {q : Nat} (hq : t < q) (h : zn_G Z ws st op mv q) : zn_G Z ws' st op mv q := by
  intro h1 h2 h3
  rw [zn_S_w hS (by omega)] at h3
  obtain ⟨d, a1, a2, a3⟩ := h h1 h2 h3
  have : q ≤ q ||| 2 ^ d := Nat.left_le_or
  exact ⟨d, a1, (zn_S_x H hS).mpr a2, by rw [zn_S_w hS (by omega)]; exact a3⟩
theorem zn_F_S {t : Nat} {ws0 ws ws' : va_W} (hF : zv_Fm Z ws0 ws (zn_E Z)) (hm : ws'.map (fun w => w.1) = ws.map (fun w => w.1)) (hS : zn_S Z t ws ws') : zv_Fm Z ws0 ws' (zn_E Z) := zv_Fm_tr hF (E2 := zn_E Z) ⟨hm, fun j g f a _ _ hE => hS j f a (fun z => hE ⟨z.1, z.2.1⟩)⟩ (fun _ _ _ z => z) (fun _ _ _ z => z)
set_option maxHeartbeats 2000000 in
set_option maxRecDepth 20000 in
theorem zo_ways_i {d : Nat} (hB : zy_Fr p l R s m args meth c N0 Z zm_16 (d + 1)) (hd : 3 ≤ d) {st : Nat} (hst : st < 1024) {op mv : Int32} {ws0 : va_W} {P : List Value → va_W → Prop} {t : Nat} (ht : t < st) (hsub : t &&& st = t) (kk : ∀ (ws : va_W) (ls : Array Slot) (H : Heap) (locs : List Loc) (tys : List (ClassId × FieldType)), zy_Mx D N0 zy_T Z s zm_16 ls H locs tys ws → zv_Fm Z ws0 ws (zn_E Z) → (∀ q, t ≤ q → q ≤ st → zn_G Z ws st op mv q) → zn_L Z st op mv ls → ls[4]? = some (.val (.int (nI t))) → W p l en R s m args below meth c H locs 0 0 (MQ below (zy_QP D N0 zy_T Z P) args s 0 0 (zx_A N0)) (F0 m 98 ls [])) :
    ∀ (K j : Nat) (ws : va_W) (ls : Array Slot) (H : Heap) (locs : List Loc) (tys : List (ClassId × FieldType)), 10 - j = K → j ≤ 10 → zy_Mx D N0 zy_T Z s zm_16 ls H locs tys ws → zv_Fm Z ws0 ws (zn_E Z) → (∀ q, t < q → q ≤ st → zn_G Z ws st op mv q) → (zn_el Z ws 67 t ≠ 0 → ∃ d, d < 10 ∧ zn_x Z ws d (nI st) (nI t) op mv ∧ zn_el Z ws 67 (t ||| 2 ^ d) ≠ 0) → zn_L Z st op mv ls → ls[4]? = some (.val (.int (nI t))) → ls[5]? = some (.val (.int (nI j))) → W p l en R s m args below meth c H locs 0 0 (MQ below (zy_QP D N0 zy_T Z P) args s 0 0 (zx_A N0)) (F0 m 47 ls []) := by
  obtain ⟨hx0, hb0, -⟩ := hB.2.2.1 Z (zy_le_rf Z)
  have H0 := hB.1
  intro K
  induction K with
  | zero =>
    intro j ws ls H locs tys hK hj hx hF hG hw hL l4 l5
    obtain ⟨l0, l1, l2, l3⟩ := id hL
    refine lv_iload hx0 hb0 rfl l5 ?_
    refine lv_aload_n hx0 hb0 rfl rfl l0 ?_
    refine zv_ivM (As := []) (rest := [.int (nI j)]) (q := (12, 397, 1, 0, 8, 15)) (y := zm_1) (zo_many hB.1 hB.2.1) hB hx (List.mem_of_getElem? (i := 104) rfl) rfl rfl rfl (by decide) rfl (by decide) rfl rfl (Nat.zero_le _) rfl rfl (Nat.le_of_ble_eq_true rfl) ?_
    intro vs1 tys1 ws1 H1 locs1 hn1 hq1 hx1
    obtain ⟨rfl, n, hn, rfl, hmn⟩ := hq1
    refine lv_icmp_ge (tgt := 98) hx0 hb0 rfl (by decide) (fun _ => ?_) (fun h => absurd ((zv_le (by omega) (by omega)).mpr (by omega)) h)
    refine kk ws1 ls H1 locs1 tys1 hx1 hF (fun q h1 h2 => ?_) hL l4
    rcases (show q = t ∨ t < q by omega) with z | z
    · subst z
      exact fun _ _ h => hw h
    · exact hG q z h2
  | succ K ih =>
    intro j ws ls H locs tys hK hj hx hF hG hw hL l4 l5
    obtain ⟨l0, l1, l2, l3⟩ := id hL
    refine lv_iload hx0 hb0 rfl l5 ?_
    refine lv_aload_n hx0 hb0 rfl rfl l0 ?_
    refine zv_ivM (As := []) (rest := [.int (nI j)]) (q := (12, 397, 1, 0, 8, 15)) (y := zm_1) (zo_many hB.1 hB.2.1) hB hx (List.mem_of_getElem? (i := 104) rfl) rfl rfl rfl (by decide) rfl (by decide) rfl rfl (Nat.zero_le _) rfl rfl (Nat.le_of_ble_eq_true rfl) ?_
    intro vs1 tys1 ws1 H1 locs1 hn1 hq1 hx1
    obtain ⟨rfl, n, hn, rfl, hmn⟩ := hq1
    refine lv_icmp_ge (tgt := 98) hx0 hb0 rfl (by decide) (fun _ => ?_) (fun h => ?_)
    · refine kk ws1 ls H1 locs1 tys1 hx1 hF (fun q h1 h2 => ?_) hL l4
      rcases (show q = t ∨ t < q by omega) with z | z
      · subst z
        exact fun _ _ h => hw h
      · exact hG q z h2
    have hjn : j < n := Classical.byContradiction (fun z => h ((zv_le (by omega) (by omega)).mpr (by omega)))
    have hj10 : j < 10 := by omega
    have nxt : ∀ (ws : va_W) (ls : Array Slot) (H : Heap) (locs : List Loc) (tys : List (ClassId × FieldType)), zy_Mx D N0 zy_T Z s zm_16 ls H locs tys ws → zv_Fm Z ws0 ws (zn_E Z) → (∀ q, t < q → q ≤ st → zn_G Z ws st op mv q) → (zn_el Z ws 67 t ≠ 0 → ∃ d, d < 10 ∧ zn_x Z ws d (nI st) (nI t) op mv ∧ zn_el Z ws 67 (t ||| 2 ^ d) ≠ 0) → zn_L Z st op mv ls → ls[4]? = some (.val (.int (nI t))) → ls[5]? = some (.val (.int (nI j))) → W p l en R s m args below meth c H locs 0 0 (MQ below (zy_QP D N0 zy_T Z P) args s 0 0 (zx_A N0)) (F0 m 92 ls []) := by
      intro ws ls H locs tys hx hF hG hw hL l4 l5
      obtain ⟨l0, l1, l2, l3⟩ := hL
      refine zv_inc hB hx (n := 1) (v := nI (j + 1)) (by decide) rfl l5 (by rw [show Int32.ofInt 1 = nI 1 from by decide, nI_add]) (zv_cat l4 zv_c1) (fun ls2 hx2 q1 q2 => ?_)
      refine lv_goto (tgt := 47) hx0 hb0 rfl (by decide) ?_
      exact ih (j + 1) ws ls2 H locs tys (by omega) (by omega) hx2 hF hG hw ⟨q2 0 _ (by decide) l0, q2 1 _ (by decide) l1, q2 2 _ (by decide) l2, q2 3 _ (by decide) l3⟩ (q2 4 _ (by decide) l4) q1
    refine lv_aload_n hx0 hb0 rfl rfl l0 ?_
    refine lv_iload hx0 hb0 rfl l5 ?_
    refine lv_iload_n hx0 hb0 rfl rfl l1 ?_
    refine lv_iload hx0 hb0 rfl l4 ?_
    refine lv_iload_n hx0 hb0 rfl rfl l2 ?_
    refine lv_iload_n hx0 hb0 rfl rfl l3 ?_
    refine zv_ivM (As := [.int (nI j), .int (nI st), .int (nI t), .int op, .int mv]) (rest := []) (q := (12, 491, 17, 0, 8, 220)) (y := zm_17) (zo_next (st := nI st) (pt := nI t) (op := op) (mv := mv) hB.1 hB.2.1 hj10) hB hx1 (List.mem_of_getElem? (i := 120) rfl) rfl rfl rfl (by decide) rfl (by decide) rfl rfl (by omega) rfl rfl (Nat.le_of_ble_eq_true rfl) ?_
    intro vs2 tys2 ws2 H2 locs2 hn2 hq2 hx2
    obtain ⟨rfl, bb, rfl, hbb⟩ := hq2
    refine lv_if_eq (tgt := 92) hx0 hb0 rfl (by decide) (fun _ => nxt ws2 ls H2 locs2 tys2 hx2 hF hG hw hL l4 l5) (fun h2 => ?_)
    have hnx := hbb.mp (by cases bb; exact absurd rfl h2; rfl)
    obtain ⟨b1, b2⟩ := zn_bit hst (by omega) hj10 hnx
    obtain ⟨-, c2, c3⟩ := zn_step hsub b1 b2
    obtain ⟨ow, how, -⟩ := zv_el H0 hx2.1.2.2.2 (r := 67) (g := 79) (by decide) (by decide) rfl (by decide) rfl (by decide) (i := t) (show t < 1024 by omega)
    obtain ⟨nw, hnw, -⟩ := zv_el H0 hx2.1.2.2.2 (r := 67) (g := 79) (by decide) (by decide) rfl (by decide) rfl (by decide) (i := t ||| 2 ^ j) (show t ||| 2 ^ j < 1024 by omega)
    refine lv_aload_n hx0 hb0 rfl rfl l0 ?_
    refine zv_getA hB hx2 (q := (12, 128, 12, 54, 6, 155)) (r := 67) (g := 79) (List.mem_of_getElem? (i := 47) rfl) rfl rfl rfl rfl rfl (by decide) (by decide) (by decide) (by decide) (by decide +kernel) ?_
    refine lv_iload hx0 hb0 rfl l4 ?_
    refine lv_dup2_11 hx0 hb0 rfl rfl rfl ?_
    refine zv_ald hB hx2 (r := 67) (g := 79) (by decide) (by decide) rfl (by decide) rfl (Or.inl (by decide)) (Or.inl ⟨by decide, rfl⟩) rfl (show t < 1024 by omega) (by decide) how ?_
    refine lv_aload_n hx0 hb0 rfl rfl l0 ?_
    refine zv_getA hB hx2 (q := (12, 128, 12, 54, 6, 155)) (r := 67) (g := 79) (List.mem_of_getElem? (i := 47) rfl) rfl rfl rfl rfl rfl (by decide) (by decide) (by decide) (by decide) (by decide +kernel) ?_
    refine lv_iload hx0 hb0 rfl l4 ?_
    refine lv_iconst (v := nI 1) hx0 hb0 rfl (by decide) ?_
    refine lv_iload hx0 hb0 rfl l5 ?_
    refine lv_ishl hx0 hb0 rfl ?_
    rw [zn_two j hj10]
    refine lv_ior hx0 hb0 rfl ?_
    rw [zx_or']
    refine zv_ald hB hx2 (r := 67) (g := 79) (by decide) (by decide) rfl (by decide) rfl (Or.inl (by decide)) (Or.inl ⟨by decide, rfl⟩) rfl (show t ||| 2 ^ j < 1024 by omega) (by decide) hnw ?_
    refine lv_iadd hx0 hb0 rfl ?_
    refine zv_ast hB hx2 (r := 67) (g := 79) (by decide) (by decide) rfl (by decide) rfl (by decide) rfl (show t < 1024 by omega) (by decide) (zv_flo (by decide +kernel)) (zv_fhi (by decide +kernel)) (fun H3 locs3 ws3 hx3 hm3 hp3 hf3 => ?_)
    have hS : zn_S Z t ws2 ws3 := hf3
    refine nxt ws3 ls H3 locs3 tys2 hx3 (zn_F_S hF hm3 hS) (fun q h1 h2 => zn_G_S H0 hS h1 (hG q h1 h2)) ?_ hL l4 l5
    intro h3
    rw [zn_el_of hp3] at h3
    by_cases hz : nw = 0
    · have h4 : zn_el Z ws2 67 t ≠ 0 := by
        rw [zn_el_of how]
        intro z
        apply h3
        rw [hz, z, Int32.add_zero]
      obtain ⟨d2, e1, e2, e3⟩ := hw h4
      obtain ⟨b3, b4⟩ := zn_bit hst (by omega) e1 e2
      have e4 := (zn_step hsub b3 b4).2.1
      exact ⟨d2, e1, (zn_S_x H0 hS).mpr e2, by rw [zn_S_w hS (by omega)]; exact e3⟩
    · exact ⟨j, hj10, (zn_S_x H0 hS).mpr hnx, by rw [zn_S_w hS (by omega), zn_el_of hnw]; exact hz⟩
set_option maxHeartbeats 2000000 in
set_option maxRecDepth 20000 in
theorem zo_ways_o {d : Nat} (hB : zy_Fr p l R s m args meth c N0 Z zm_16 (d + 1)) (hd : 3 ≤ d) {st : Nat} (hst : st < 1024) {op mv : Int32} {ws0 : va_W} {P : List Value → va_W → Prop} (hP : ∀ ws' v, zv_Fm Z ws0 ws' (zn_E Z) → zy_rd ws' (zy_ru Z 67) 0 0 = some (.int v) → (∀ q, q ≤ st → zn_G Z ws' st op mv q) → P [.int v] ws') :
    ∀ (N : Nat) (ws : va_W) (ls : Array Slot) (H : Heap) (locs : List Loc) (tys : List (ClassId × FieldType)), N ≤ st + 1 → zy_Mx D N0 zy_T Z s zm_16 ls H locs tys ws → zv_Fm Z ws0 ws (zn_E Z) → (∀ q, N ≤ q → q ≤ st → zn_G Z ws st op mv q) → zn_L Z st op mv ls → ls[4]? = some (.val (.int (if N = 0 then nI 4294967295 else nI (N - 1)))) → W p l en R s m args below meth c H locs 0 0 (MQ below (zy_QP D N0 zy_T Z P) args s 0 0 (zx_A N0)) (F0 m 3 ls []) := by
  obtain ⟨hx0, hb0, -⟩ := hB.2.2.1 Z (zy_le_rf Z)
  have H0 := hB.1
  intro N
  induction N with
  | zero =>
    intro ws ls H locs tys hN hx hF hG hL l4
    obtain ⟨l0, l1, l2, l3⟩ := id hL
    rw [if_pos rfl] at l4
    obtain ⟨v, hv, -⟩ := zv_el H0 hx.1.2.2.2 (r := 67) (g := 79) (by decide) (by decide) rfl (by decide) rfl (by decide) (i := 0) (show 0 < 1024 by decide)
    refine lv_iload hx0 hb0 rfl l4 ?_
    refine lv_if_lt (tgt := 104) hx0 hb0 rfl (by decide) (fun _ => ?_) (fun h => absurd (by decide) h)
    refine lv_aload_n hx0 hb0 rfl rfl l0 ?_
    refine zv_getA hB hx (q := (12, 128, 12, 54, 6, 155)) (r := 67) (g := 79) (List.mem_of_getElem? (i := 47) rfl) rfl rfl rfl rfl rfl (by decide) (by decide) (by decide) (by decide) (by decide +kernel) ?_
    refine lv_iconst (v := nI 0) hx0 hb0 rfl (by decide) ?_
    refine zv_ald hB hx (r := 67) (g := 79) (by decide) (by decide) rfl (by decide) rfl (Or.inl (by decide)) (Or.inl ⟨by decide, rfl⟩) rfl (show 0 < 1024 by decide) (by decide) hv ?_
    exact zv_ret hB hx rfl rfl rfl (hP ws v hF hv (fun q hq => hG q (Nat.zero_le _) hq))
  | succ t ih =>
    intro ws ls H locs tys hN hx hF hG hL l4
    obtain ⟨l0, l1, l2, l3⟩ := id hL
    rw [if_neg (Nat.succ_ne_zero t), Nat.add_sub_cancel] at l4
    have ht : t ≤ st := by omega
    have nxt : ∀ (ws : va_W) (ls : Array Slot) (H : Heap) (locs : List Loc) (tys : List (ClassId × FieldType)), zy_Mx D N0 zy_T Z s zm_16 ls H locs tys ws → zv_Fm Z ws0 ws (zn_E Z) → (∀ q, t ≤ q → q ≤ st → zn_G Z ws st op mv q) → zn_L Z st op mv ls → ls[4]? = some (.val (.int (nI t))) → W p l en R s m args below meth c H locs 0 0 (MQ below (zy_QP D N0 zy_T Z P) args s 0 0 (zx_A N0)) (F0 m 98 ls []) := by
      intro ws ls H locs tys hx hF hG hL l4
      obtain ⟨l0, l1, l2, l3⟩ := hL
      refine zv_inc hB hx (n := -1) (v := if t = 0 then nI 4294967295 else nI (t - 1)) (by decide) rfl l4 (by
        rw [show Int32.ofInt (-1) = nI 4294967295 from by decide]
        by_cases hz : t = 0
        · rw [if_pos hz, hz, nI_add]
        · rw [if_neg hz, zv_pred (by omega) (by omega)]) (zv_cat l3 zv_c1) (fun ls2 hx2 q1 q2 => ?_)
      refine lv_goto (tgt := 3) hx0 hb0 rfl (by decide) ?_
      exact ih ws ls2 H locs tys (by omega) hx2 hF hG ⟨q2 0 _ (by decide) l0, q2 1 _ (by decide) l1, q2 2 _ (by decide) l2, q2 3 _ (by decide) l3⟩ q1
    refine lv_iload hx0 hb0 rfl l4 ?_
    refine lv_if_lt (tgt := 104) hx0 hb0 rfl (by decide) (fun h => ?_) (fun _ => ?_)
    · rw [zx_lt', zy_bz_n (by omega), show zx_bz 0 = 2147483648 from by decide] at h
      omega
    refine lv_aload_n hx0 hb0 rfl rfl l0 ?_
    refine zv_getA hB hx (q := (12, 128, 12, 54, 6, 155)) (r := 67) (g := 79) (List.mem_of_getElem? (i := 47) rfl) rfl rfl rfl rfl rfl (by decide) (by decide) (by decide) (by decide) (by decide +kernel) ?_
    refine lv_iload hx0 hb0 rfl l4 ?_
    refine lv_iload hx0 hb0 rfl l4 ?_
    refine lv_iload_n hx0 hb0 rfl rfl l1 ?_
    refine lv_icmp_ne (tgt := 24) hx0 hb0 rfl (by decide) (fun h => ?_) (fun h => ?_)
    · skip
      have hts : t ≠ st := fun z => h (by rw [z])
      refine lv_iconst (v := nI 0) hx0 hb0 rfl (by decide) ?_
      refine zv_ast hB hx (r := 67) (g := 79) (by decide) (by decide) rfl (by decide) rfl (by decide) rfl (show t < 1024 by omega) (by decide) (zv_flo (by decide +kernel)) (zv_fhi (by decide +kernel)) (fun H1 locs1 ws1 hx1 hm1 hp1 hf1 => ?_)
      have hS : zn_S Z t ws ws1 := hf1
      have hF1 := zn_F_S hF hm1 hS
      have hG1 : ∀ q, t < q → q ≤ st → zn_G Z ws1 st op mv q := fun q h1 h2 => zn_G_S H0 hS h1 (hG q h1 h2)
      refine lv_iload hx0 hb0 rfl l4 ?_
      refine lv_iload_n hx0 hb0 rfl rfl l1 ?_
      refine lv_iand hx0 hb0 rfl ?_
      rw [zx_and']
      refine lv_iload hx0 hb0 rfl l4 ?_
      refine lv_icmp_ne (tgt := 98) hx0 hb0 rfl (by decide) (fun h3 => ?_) (fun h3 => ?_)
      · skip
        refine nxt ws1 ls H1 locs1 tys hx1 hF1 (fun q h1 h2 => ?_) hL l4
        rcases (show q = t ∨ t < q by omega) with z | z
        · subst z
          exact fun e _ _ => absurd (by rw [e]) h3
        · exact hG1 q z h2
      · skip
        have hle : t &&& st ≤ t := Nat.and_le_left
        have hsub : t &&& st = t := zn_inj (by omega) (by omega) h3
        refine lv_iload hx0 hb0 rfl l4 ?_
        refine lv_iload_n hx0 hb0 rfl rfl l1 ?_
        refine lv_icmp_ne (tgt := 44) hx0 hb0 rfl (by decide) (fun _ => ?_) (fun h4 => absurd (zn_inj (by omega) (by omega) h4) hts)
        refine lv_iconst (v := nI 0) hx0 hb0 rfl (by decide) ?_
        refine zv_sto hB hx1 (i := 5) (by decide) (Or.inr ⟨rfl, rfl⟩) rfl (zv_cat l4 zv_c1) (fun ls2 hx2 q1 q2 => ?_)
        exact zo_ways_i hB hd hst (by omega) hsub nxt 10 0 ws1 ls2 H1 locs1 tys rfl (by decide) hx2 hF1 hG1 (fun z => absurd (zn_el_of hp1) z) ⟨q2 0 _ (by decide) l0, q2 1 _ (by decide) l1, q2 2 _ (by decide) l2, q2 3 _ (by decide) l3⟩ (q2 4 _ (by decide) l4) q1
    · skip
      have hts : t = st := zn_inj (by omega) (by omega) h
      refine lv_iconst (v := nI 1) hx0 hb0 rfl (by decide) ?_
      refine lv_goto (tgt := 25) hx0 hb0 rfl (by decide) ?_
      refine zv_ast hB hx (r := 67) (g := 79) (by decide) (by decide) rfl (by decide) rfl (by decide) rfl (show t < 1024 by omega) (by decide) (zv_flo (by decide +kernel)) (zv_fhi (by decide +kernel)) (fun H1 locs1 ws1 hx1 hm1 hp1 hf1 => ?_)
      have hS : zn_S Z t ws ws1 := hf1
      have hF1 := zn_F_S hF hm1 hS
      refine lv_iload hx0 hb0 rfl l4 ?_
      refine lv_iload_n hx0 hb0 rfl rfl l1 ?_
      refine lv_iand hx0 hb0 rfl ?_
      rw [zx_and', hts, Nat.and_self]
      refine lv_iload hx0 hb0 rfl l4 ?_
      refine lv_icmp_ne (tgt := 98) hx0 hb0 rfl (by decide) (fun h3 => absurd (by rw [hts]) h3) (fun _ => ?_)
      refine lv_iload hx0 hb0 rfl l4 ?_
      refine lv_iload_n hx0 hb0 rfl rfl l1 ?_
      refine lv_icmp_ne (tgt := 44) hx0 hb0 rfl (by decide) (fun h3 => absurd h h3) (fun _ => ?_)
      refine lv_goto (tgt := 98) hx0 hb0 rfl (by decide) ?_
      exact nxt ws1 ls H1 locs1 tys hx1 hF1 (fun q h1 h2 => (fun _ e _ => absurd (by omega) e)) hL l4
theorem zo_ways (H : zy_H0 Z) (HU : zy_UQ zy_fg Z) {st : Nat} (hst : st < 1024) {op mv : Int32} : zy_OkP l D N0 zy_T Z 16 4 (fun av _ => av = [.ref (zy_fa1 Z 29), .int (nI st), .int op, .int mv]) (fun _ ws vs ws' => zv_Fm Z ws ws' (zn_E Z) ∧ ∃ v, vs = [.int v] ∧ zy_rd ws' (zy_ru Z 67) 0 0 = some (.int v) ∧ ∀ q, q ≤ st → zn_G Z ws' st op mv q) := by
  refine zy_handP (y := zm_16) H HU rfl (fun av ws h => by rw [h]; exact Nat.le_of_ble_eq_true rfl) ?_
  intro d hd av tys ws e p en R s m below meth c hB ls hl hx
  subst e
  obtain ⟨d, rfl⟩ : ∃ d', d = d' + 1 := ⟨d - 1, by omega⟩
  have l0 : ls[0]? = some (.val (.ref (zy_fa1 Z 29))) := hl (0, _) (List.mem_of_getElem? (i := 0) rfl)
  have l1 : ls[1]? = some (.val (.int (nI st))) := hl (1, _) (List.mem_of_getElem? (i := 1) rfl)
  have l2 : ls[2]? = some (.val (.int op)) := hl (2, _) (List.mem_of_getElem? (i := 2) rfl)
  have l3 : ls[3]? = some (.val (.int mv)) := hl (3, _) (List.mem_of_getElem? (i := 3) rfl)
  obtain ⟨hx0, hb0, -⟩ := hB.2.2.1 Z (zy_le_rf Z)
  refine lv_iload_n hx0 hb0 rfl rfl l1 ?_
  refine zv_sto hB hx (i := 4) (by decide) (Or.inr ⟨rfl, rfl⟩) rfl (zv_cat l3 zv_c1) (fun ls2 hx2 q1 q2 => ?_)
  exact zo_ways_o hB (by omega) hst (fun ws' v h1 h2 h3 => ⟨h1, v, rfl, h2, h3⟩) (st + 1) ws ls2 _ _ _ (Nat.le_refl _) hx2 zv_Fm_rf (fun q h1 h2 => by omega) ⟨q2 0 _ (by decide) l0, q2 1 _ (by decide) l1, q2 2 _ (by decide) l2, q2 3 _ (by decide) l3⟩ (by rw [if_neg (Nat.succ_ne_zero st), Nat.add_sub_cancel]; exact q1)
end ZNW
