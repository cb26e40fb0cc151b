/-! a rule is read: e -/
section ZAE
variable {l : Launch} {D : va_G} {N0 : Nat} {Z : zy_V} {p : Program} {en : Env} {R : Room} {s : State} {m : MethodId} {args : Array Value} {below : List Frame} {meth : Method} {c : Code} {Q : State → Prop} {M : zx_M} {dd : Nat} {ls : Array Slot} {H : Heap} {locs : List Loc} {tys : List (ClassId × FieldType)} {ws ws' : va_W}
/-- and written -/
theorem zv_ast2 (hB : zy_Fr p l R s m args meth c N0 Z M dd) (hx : zy_Mx D N0 zy_T Z s M ls H locs tys ws) {r g k i pc : Nat} {y : Int32} {rest : List Value} (h0 : 0 < r) (h1 : r < 100) (hfg : zy_fg[r]? = some g) (hg : g < 512) (hT : zy_T[g]? = some k) (ht : 3 ≤ k % 16 ∧ k % 16 < 6) {ins : Instr} (hi : (k % 16 % 3 = 0 ∧ ins = .iastore) ∨ ((k % 16 % 3 = 1 ∨ k % 16 % 3 = 2) ∧ ins = .bastore)) (hna : vp_nar (zx_ty (k % 16 % 3)) y = y) (hd : decode M.1.2.1 pc = .ok (ins, 1)) (hn : i < zx_cn k) (hn2 : zx_cn k ≤ 2147483647) (hlo : zy_lo k ≤ zx_bz y) (hhi : zx_bz y ≤ zy_hi k)
    (kk : ∀ (H1 : Heap) (locs1 : List Loc) (ws1 : va_W), zy_Mx D N0 zy_T Z s M ls H1 locs1 tys ws1 → ws1.map (fun w => w.1) = ws.map (fun w => w.1) → zy_rd ws1 (zy_ru Z r) 0 i = some (.int y) → (∀ j f a, ¬ (j = zy_ru Z r ∧ f = 0 ∧ a = i) → zy_rd ws1 j f a = zy_rd ws j f a) → W p l en R s m args below meth c H1 locs1 0 0 Q (F0 m (pc + 1) ls rest)) :
    W p l en R s m args below meth c H locs 0 0 Q (F0 m pc ls (.int y :: .int (nI i) :: .ref (zy_fa1 Z r) :: rest)) := by
  obtain ⟨hH, -, hC, -⟩ := hB
  obtain ⟨hW, hS, hl⟩ := hx
  have hr := zv_rr hH h0 h1 hfg hg
  obtain ⟨j, ad, cA, f, e1, h4, hgj, hru, h6, h7⟩ := zy_acell hW.2.2.2 hr (by omega) (k := k) (by rw [show ((r + 256 * g) * 16 + 2) / 16 / 256 = g by omega]; exact hT) (Or.inl (by omega))
  rw [show ((r + 256 * g) * 16 + 2) / 16 / 256 = g by omega] at hgj
  injection e1 with e1
  rw [e1]
  have hj : zy_ru Z r = j := by
    have := hru (by omega)
    rw [show ((r + 256 * g) * 16 + 2) / 16 % 256 = r by omega] at this
    exact this
  rw [hj] at kk
  have ec : (nI i).toNatClampNeg = i := nI_clamp (by omega)
  have eet : ∀ n, zy_et k n = zy_c7v (zy_lo k) (zy_hi k) := fun n => by
    unfold zy_et
    rw [show Nat.beq (zx_tg k) 9 = false from by
      cases q : Nat.beq (zx_tg k) 9
      · rfl
      · have : k % 16 = 9 := zx_beq_t q
        omega]
    rfl
  refine zy_mst (hC Z (zy_le_rf Z)) (k := k) (g := g) hd hi (Or.inl ht) hW hS h4 hgj hT h6 h7 (nI_in hn (by omega)) ?_ (fun H1 locs1 hW1 hS1 => ?_)
  · rw [hna, ec, eet]
    exact zy_r_7 hlo hhi (zy_hi_lt k)
  · rw [hna, ec] at hW1
    have hjl := (List.getElem?_eq_some_iff.mp h4).1
    refine kk H1 locs1 _ ⟨hW1, hS1, hl⟩ ?_ ?_ ?_
    · rw [List.map_set]
      refine List.ext_getElem? fun n => ?_
      by_cases hnj : n = j
      · subst hnj
        rw [List.getElem?_set_self (by rw [List.length_map]; exact hjl), List.getElem?_map, h4]
        rfl
      · rw [List.getElem?_set_ne (Ne.symm hnj)]
    · rw [zy_rd_set h4]
      show (if 0 = 0 ∧ i < zx_cn k then some (Value.int (upd f i y i)) else none) = _
      rw [if_pos ⟨rfl, hn⟩]
      unfold upd
      rw [if_pos rfl]
    · intro j2 f2 a2 hne
      by_cases hjj : j2 = j
      · subst hjj
        rw [zy_rd_set h4, zy_rd_at h4]
        show (if f2 = 0 ∧ a2 < zx_cn k then some (Value.int (upd f i y a2)) else none) = (if f2 = 0 ∧ a2 < zx_cn k then some (Value.int (f a2)) else none)
        by_cases hc : f2 = 0 ∧ a2 < zx_cn k
        · rw [if_pos hc, if_pos hc]
          unfold upd
          rw [if_neg (fun z => hne ⟨rfl, hc.1, z⟩)]
        · rw [if_neg hc, if_neg hc]
      · rw [zy_rd_ne hjj]
end ZAE
section ZEE
variable {l : Launch} {D : va_G} {N0 : Nat} {Z : zy_V} {p : Program} {en : Env} {R : Room} {s : State} {m : MethodId} {args : Array Value} {below : List Frame} {meth : Method} {c : Code}
def zr_Q (Z : zy_V) (b : Nat) (ws0 : va_W) (N v : Nat) (ws : va_W) : Prop := zr_X Z b ws0 ws ∨ zr_D Z b ws0 ws ∨ ∃ (S : List Nat) (w U n : Nat), zr_J Z b ws0 ws (v == 1) S w U n ∧ zr_m (v == 1) S w U < N
set_option maxHeartbeats 1000000 in
set_option maxRecDepth 20000 in
theorem zo_e_l {d : Nat} (hB : zy_Fr p l R s m args meth c N0 Z zm_246 (d + 1)) (hd : 6 ≤ d) {b : Nat} (hb : b < 2) {ws0 : va_W} (hUn : ∀ (S : List Nat) (w U n : Nat), zy_OkP l D N0 zy_T Z 253 5 (fun av ws => av = [.ref (zy_fa1 Z 29)] ∧ zr_J Z b ws0 ws true S w U n) (fun _ _ vs ws' => zr_Po Z b ws0 (zr_m true S w U) vs ws')) {P : List Value → va_W → Prop} (hP : ∀ ws', zr_X Z b ws0 ws' ∨ zr_D Z b ws0 ws' → P [] ws') : ∀ (N v : Nat) (ws : va_W) (ls : Array Slot) (H : Heap) (locs : List Loc) (tys : List (ClassId × FieldType)), v ≤ 1 → zy_Mx D N0 zy_T Z s zm_246 ls H locs tys ws → ls[0]? = some (.val (.ref (zy_fa1 Z 29))) → ls[1]? = some (.val (.int (nI v))) → zr_Q Z b ws0 N v ws → W p l en R s m args below meth c H locs 0 0 (MQ below (zy_QP D N0 zy_T Z P) args s 0 0 (zx_A N0)) (F0 m 19 ls []) := by
  obtain ⟨hx0, hb0, -⟩ := hB.2.2.1 Z (zy_le_rf Z)
  intro N
  induction N with
  | zero =>
    intro v ws ls H locs tys hv hx l0 l1 hQ
    have hQ : zr_X Z b ws0 ws ∨ zr_D Z b ws0 ws := by
      rcases hQ with h | h | ⟨S, w, U, n, -, h⟩
      · exact Or.inl h
      · exact Or.inr h
      · omega
    rcases hQ with hX | hD
    · skip
      obtain ⟨fk, f4, hne⟩ := hX.2.1
      refine lv_aload_n hx0 hb0 rfl rfl l0 ?_
      refine zv_ivM (As := []) (rest := []) (q := (12, 270, 233, 0, 7, 127)) (y := zm_233) (zo_good hB.1 hB.2.1) hB hx (List.mem_of_getElem? (i := 272) rfl) rfl rfl rfl (by decide) rfl (by decide) rfl rfl (Nat.zero_le _) ⟨rfl, f4⟩ rfl (Nat.le_of_ble_eq_true rfl) ?_
      intro vs1 tys1 ws1 H1 locs1 hn1 hq1 hx1
      obtain ⟨rfl, rfl⟩ := hq1
      rw [if_neg hne]
      refine lv_if_eq (tgt := 52) hx0 hb0 rfl (by decide) (fun _ => ?_) (fun h => absurd (by decide) h)
      exact zv_retv hB hx1 rfl rfl (hP _ (Or.inl hX))
    · skip
      have f4 := hD.2.1
      have f47 := hD.2.2.2.1
      refine lv_aload_n hx0 hb0 rfl rfl l0 ?_
      refine zv_ivM (As := []) (rest := []) (q := (12, 270, 233, 0, 7, 127)) (y := zm_233) (zo_good hB.1 hB.2.1) hB hx (List.mem_of_getElem? (i := 272) rfl) rfl rfl rfl (by decide) rfl (by decide) rfl rfl (Nat.zero_le _) ⟨rfl, f4⟩ rfl (Nat.le_of_ble_eq_true rfl) ?_
      intro vs1 tys1 ws1 H1 locs1 hn1 hq1 hx1
      obtain ⟨rfl, rfl⟩ := hq1
      rw [if_pos (by decide)]
      refine lv_if_eq (tgt := 52) hx0 hb0 rfl (by decide) (fun h => absurd h (by decide)) (fun _ => ?_)
      refine lv_aload_n hx0 hb0 rfl rfl l0 ?_
      refine zv_get hB hx1 (q := (12, 360, 12, 47, 6, 148)) (List.mem_of_getElem? (i := 162) rfl) rfl rfl rfl rfl rfl f47 ?_
      refine lv_if_le (tgt := 52) hx0 hb0 rfl (by decide) (fun _ => ?_) (fun h => absurd (by decide) h)
      exact zv_retv hB hx1 rfl rfl (hP _ (Or.inr hD))
  | succ N ih =>
    intro v ws ls H locs tys hv hx l0 l1 hQ
    have hQ : (zr_X Z b ws0 ws ∨ zr_D Z b ws0 ws) ∨ ∃ (S : List Nat) (w U n : Nat), zr_J Z b ws0 ws (v == 1) S w U n ∧ zr_m (v == 1) S w U < N + 1 := by
      rcases hQ with h | h | h
      · exact Or.inl (Or.inl h)
      · exact Or.inl (Or.inr h)
      · exact Or.inr h
    rcases hQ with hQ | ⟨S, w, U, n, hJ, hm⟩
    · skip
      rcases hQ with hX | hD
      · skip
        obtain ⟨fk, f4, hne⟩ := hX.2.1
        refine lv_aload_n hx0 hb0 rfl rfl l0 ?_
        refine zv_ivM (As := []) (rest := []) (q := (12, 270, 233, 0, 7, 127)) (y := zm_233) (zo_good hB.1 hB.2.1) hB hx (List.mem_of_getElem? (i := 272) rfl) rfl rfl rfl (by decide) rfl (by decide) rfl rfl (Nat.zero_le _) ⟨rfl, f4⟩ rfl (Nat.le_of_ble_eq_true rfl) ?_
        intro vs1 tys1 ws1 H1 locs1 hn1 hq1 hx1
        obtain ⟨rfl, rfl⟩ := hq1
        rw [if_neg hne]
        refine lv_if_eq (tgt := 52) hx0 hb0 rfl (by decide) (fun _ => ?_) (fun h => absurd (by decide) h)
        exact zv_retv hB hx1 rfl rfl (hP _ (Or.inl hX))
      · skip
        have f4 := hD.2.1
        have f47 := hD.2.2.2.1
        refine lv_aload_n hx0 hb0 rfl rfl l0 ?_
        refine zv_ivM (As := []) (rest := []) (q := (12, 270, 233, 0, 7, 127)) (y := zm_233) (zo_good hB.1 hB.2.1) hB hx (List.mem_of_getElem? (i := 272) rfl) rfl rfl rfl (by decide) rfl (by decide) rfl rfl (Nat.zero_le _) ⟨rfl, f4⟩ rfl (Nat.le_of_ble_eq_true rfl) ?_
        intro vs1 tys1 ws1 H1 locs1 hn1 hq1 hx1
        obtain ⟨rfl, rfl⟩ := hq1
        rw [if_pos (by decide)]
        refine lv_if_eq (tgt := 52) hx0 hb0 rfl (by decide) (fun h => absurd h (by decide)) (fun _ => ?_)
        refine lv_aload_n hx0 hb0 rfl rfl l0 ?_
        refine zv_get hB hx1 (q := (12, 360, 12, 47, 6, 148)) (List.mem_of_getElem? (i := 162) rfl) rfl rfl rfl rfl rfl f47 ?_
        refine lv_if_le (tgt := 52) hx0 hb0 rfl (by decide) (fun _ => ?_) (fun h => absurd (by decide) h)
        exact zv_retv hB hx1 rfl rfl (hP _ (Or.inr hD))
    · skip
      have nxt : ∀ (v2 : Nat) (ws2 : va_W) (H : Heap) (locs : List Loc) (tys : List (ClassId × FieldType)), v2 ≤ 1 → zy_Mx D N0 zy_T Z s zm_246 ls H locs tys ws2 → zr_Q Z b ws0 N v2 ws2 → W p l en R s m args below meth c H locs 0 0 (MQ below (zy_QP D N0 zy_T Z P) args s 0 0 (zx_A N0)) (F0 m 48 ls [.int (nI v2)]) := by
        intro v2 ws2 H locs tys hv2 hx2 hQ2
        refine zv_sto hB hx2 (i := 1) (by decide) (Or.inl ⟨1, rfl, rfl, rfl⟩) rfl (zv_cat l0 (by show (1 : Nat) ≠ 2; decide)) (fun ls2 hx3 q1 q2 => ?_)
        refine lv_goto (tgt := 19) hx0 hb0 rfl (by decide) ?_
        exact ih v2 ws2 ls2 H locs tys hv2 hx3 (q2 0 _ (by decide) l0) q1 hQ2
      have f4 := hJ.2.1.1
      have f47 := hJ.2.1.2.2.1
      have hl1 := (zr_Pu_len hJ.2.2.2.1).1
      refine lv_aload_n hx0 hb0 rfl rfl l0 ?_
      refine zv_ivM (As := []) (rest := []) (q := (12, 270, 233, 0, 7, 127)) (y := zm_233) (zo_good hB.1 hB.2.1) hB hx (List.mem_of_getElem? (i := 272) rfl) rfl rfl rfl (by decide) rfl (by decide) rfl rfl (Nat.zero_le _) ⟨rfl, f4⟩ rfl (Nat.le_of_ble_eq_true rfl) ?_
      intro vs1 tys1 ws1 H1 locs1 hn1 hq1 hx1
      obtain ⟨rfl, rfl⟩ := hq1
      rw [if_pos (by decide)]
      refine lv_if_eq (tgt := 52) hx0 hb0 rfl (by decide) (fun h => absurd h (by decide)) (fun _ => ?_)
      refine lv_aload_n hx0 hb0 rfl rfl l0 ?_
      refine zv_get hB hx1 (q := (12, 360, 12, 47, 6, 148)) (List.mem_of_getElem? (i := 162) rfl) rfl rfl rfl rfl rfl f47 ?_
      refine lv_if_le (tgt := 52) hx0 hb0 rfl (by decide) (fun h => ?_) (fun _ => ?_)
      · rw [← nI_0, zv_le (by omega) (by decide)] at h
        omega
      refine lv_iload_n hx0 hb0 rfl rfl l1 ?_
      rcases (show v = 0 ∨ v = 1 by omega) with rfl | rfl
      · skip
        refine lv_if_eq (tgt := 44) hx0 hb0 rfl (by decide) (fun _ => ?_) (fun h => absurd (by decide) h)
        refine lv_aload_n hx0 hb0 rfl rfl l0 ?_
        refine zv_ivM (As := []) (rest := []) (q := (12, 372, 247, 0, 7, 231)) (y := zm_247) (zo_beh (ws0 := ws0) (S := S) (w := w) (U := U) (n := n) hB.1 hB.2.1 hb) hB hx1 (List.mem_of_getElem? (i := 292) rfl) rfl rfl rfl (by decide) rfl (by decide) rfl rfl hd ⟨rfl, hJ⟩ rfl (Nat.le_of_ble_eq_true rfl) ?_
        intro vs2 tys2 ws2 H2 locs2 hn2 hq2 hx2
        obtain ⟨v2, hv2, rfl, hst⟩ := hq2
        refine nxt v2 ws2 H2 locs2 tys2 hv2 hx2 ?_
        rcases hst with h | h | ⟨S2, w2, U2, n2, h1, h2⟩
        · exact Or.inl h
        · exact Or.inr (Or.inl h)
        · exact Or.inr (Or.inr ⟨S2, w2, U2, n2, h1, Nat.lt_of_lt_of_le h2 (Nat.le_of_lt_succ hm)⟩)
      · skip
        refine lv_if_eq (tgt := 44) hx0 hb0 rfl (by decide) (fun h => absurd h (by decide)) (fun _ => ?_)
        refine lv_aload_n hx0 hb0 rfl rfl l0 ?_
        refine zv_ivM (As := []) (rest := []) (q := (12, 369, 253, 0, 7, 215)) (y := zm_253) (hUn S w U n) hB hx1 (List.mem_of_getElem? (i := 291) rfl) rfl rfl rfl (by decide) rfl (by decide) rfl rfl (by omega) ⟨rfl, hJ⟩ rfl (Nat.le_of_ble_eq_true rfl) ?_
        intro vs2 tys2 ws2 H2 locs2 hn2 hq2 hx2
        obtain ⟨v2, hv2, rfl, hst⟩ := hq2
        refine lv_goto (tgt := 48) hx0 hb0 rfl (by decide) ?_
        refine nxt v2 ws2 H2 locs2 tys2 hv2 hx2 ?_
        rcases hst with h | h | ⟨S2, w2, U2, n2, h1, h2⟩
        · exact Or.inl h
        · exact Or.inr (Or.inl h)
        · exact Or.inr (Or.inr ⟨S2, w2, U2, n2, h1, Nat.lt_of_lt_of_le h2 (Nat.le_of_lt_succ hm)⟩)
set_option maxHeartbeats 1000000 in
set_option maxRecDepth 20000 in
theorem zo_e (H : zy_H0 Z) (HU : zy_UQ zy_fg Z) {b : Nat} (hb : b < 2) {ws0 : va_W} (hUn : ∀ (S : List Nat) (w U n : Nat), zy_OkP l D N0 zy_T Z 253 5 (fun av ws => av = [.ref (zy_fa1 Z 29)] ∧ zr_J Z b ws0 ws true S w U n) (fun _ _ vs ws' => zr_Po Z b ws0 (zr_m true S w U) vs ws')) : zy_OkP l D N0 zy_T Z 246 7 (fun av ws => av = [.ref (zy_fa1 Z 29)] ∧ zr_W Z b ws0 ws ∧ zy_rd ws (zy_ru Z 29) 4 0 = some (.int (nI 0)) ∧ zr_en Z ws ∧ zy_rd ws (zy_ru Z 29) 48 0 = some (.int (nI 0)) ∧ zy_rd ws (zy_ru Z 29) 45 0 = some (.int (nI (560 * b)))) (fun _ _ vs ws' => vs = [] ∧ (zr_X Z b ws0 ws' ∨ zr_D Z b ws0 ws')) := by
  refine zy_handP (y := zm_246) H HU rfl (fun av ws h => by rw [h.1]; exact Nat.le_of_ble_eq_true rfl) ?_
  intro d hd av tys ws ⟨e, hW, f4, hen, f48, f45⟩ p en R s m below meth c hB ls hl hx
  subst e
  obtain ⟨d, rfl⟩ : ∃ d', d = d' + 1 := ⟨d - 1, by omega⟩
  have l0 : ls[0]? = some (.val (.ref (zy_fa1 Z 29))) := hl (0, _) (List.mem_of_getElem? (i := 0) rfl)
  obtain ⟨hx0, hb0, -⟩ := hB.2.2.1 Z (zy_le_rf Z)
  refine lv_aload_n hx0 hb0 rfl rfl l0 ?_
  refine lv_iconst (v := nI 0) hx0 hb0 rfl (by decide) ?_
  refine zv_put hB hx (q := (12, 360, 12, 47, 6, 148)) (f := 47) (lo := 2147483648) (hi2 := 2147483738) (y := nI 0) (List.mem_of_getElem? (i := 162) rfl) rfl rfl rfl rfl rfl (by decide +kernel) (by decide +kernel) ⟨fun _ => ⟨_, rfl⟩, fun h => absurd h (by decide +kernel), fun h => absurd h (by decide +kernel)⟩ (by decide +kernel) (by rw [zy_bz_n (by omega)]; omega) (by rw [zy_bz_n (by omega)]; omega) (by decide) (fun H1 locs1 ws1 hx1 hm1 hp1 hf1 => ?_)
  obtain ⟨t1, t2, tW⟩ := zr_put_fr (b := b) (ws0 := ws0) H (f0 := 47) (by decide) hm1 hf1
  refine lv_aload_n hx0 hb0 rfl rfl l0 ?_
  refine lv_iconst (v := nI 0) hx0 hb0 rfl (by decide) ?_
  refine zv_put hB hx1 (q := (12, 363, 12, 46, 6, 147)) (f := 46) (lo := 2147483648) (hi2 := 2147483655) (y := nI 0) (List.mem_of_getElem? (i := 163) rfl) rfl rfl rfl rfl rfl (by decide +kernel) (by decide +kernel) ⟨fun _ => ⟨_, rfl⟩, fun h => absurd h (by decide +kernel), fun h => absurd h (by decide +kernel)⟩ (by decide +kernel) (by rw [zy_bz_n (by omega)]; omega) (by rw [zy_bz_n (by omega)]; omega) (by decide) (fun H2 locs2 ws2 hx2 hm2 hp2 hf2 => ?_)
  obtain ⟨u1, u2, uW⟩ := zr_put_fr (b := b) (ws0 := ws0) H (f0 := 46) (by decide) hm2 hf2
  refine lv_aload_n hx0 hb0 rfl rfl l0 ?_
  refine lv_bipush (v := nI 8) hx0 hb0 rfl (by decide) ?_
  refine lv_iconst (v := nI 0) hx0 hb0 rfl (by decide) ?_
  refine zv_ivM (As := [.int (nI 8), .int (nI 0)]) (rest := []) (q := (12, 366, 248, 0, 7, 211)) (y := zm_248) (zo_push H HU (k := 0) (x := nI 8) (y := nI 0) (by decide)) hB hx2 (List.mem_of_getElem? (i := 290) rfl) rfl rfl rfl (by decide) rfl (by decide) rfl rfl (Nat.zero_le _) ⟨rfl, (u1 47 (by decide)).trans hp1⟩ rfl (Nat.le_of_ble_eq_true rfl) ?_
  intro vs3 tys3 ws3 H3 locs3 hn3 hq3 hx3
  obtain ⟨rfl, hpu⟩ := hq3
  obtain ⟨p1, p59, p61, p62, pW⟩ := zr_push_fr (b := b) (ws0 := ws0) H hpu
  refine lv_iconst (v := nI 1) hx0 hb0 rfl (by decide) ?_
  refine zv_sto hB hx3 (i := 1) (by decide) (Or.inl ⟨1, rfl, rfl, rfl⟩) rfl (zv_cat l0 (by show (1 : Nat) ≠ 2; decide)) (fun ls2 hx4 q1 q2 => ?_)
  have ch : ∀ f, f < 128 → f ≠ 47 → f ≠ 46 → zy_rd ws3 (zy_ru Z 29) f 0 = zy_rd ws (zy_ru Z 29) f 0 := fun f h1 h2 h3 => (p1 f h1 h2).trans ((u1 f h3).trans (t1 f h2))
  obtain ⟨ek, he, f7⟩ := hen
  refine zo_e_l hB (by omega) hb hUn (fun ws' h => ⟨rfl, h⟩) 7000 1 ws3 ls2 _ _ _ (by decide) hx4 (q2 0 _ (by decide) l0) q1 (Or.inr (Or.inr ⟨[], 0, 0, 0, ⟨pW (uW (tW hW)), ⟨(ch 4 (by decide) (by decide) (by decide)).trans f4, ⟨ek, he, (ch 7 (by decide) (by decide) (by decide)).trans f7⟩, hpu.2.1, (p1 46 (by decide) (by decide)).trans hp2, (ch 48 (by decide) (by decide) (by decide)).trans f48, (ch 45 (by decide) (by decide) (by decide)).trans f45⟩, hpu.2.2.1, by unfold zr_Pu zr_h; decide, rfl⟩, by decide⟩))
set_option maxHeartbeats 1000000 in
set_option maxRecDepth 20000 in
theorem zo_rule (H : zy_H0 Z) (HU : zy_UQ zy_fg Z) {b : Nat} (hb : b < 2) (hUn : ∀ ws0, zy_rd ws0 (zy_ru Z 29) 44 0 = some (.int (nI b)) → ∀ {S : List Nat} {w U n : Nat}, zy_OkP l D N0 zy_T Z 253 5 (fun av ws => av = [.ref (zy_fa1 Z 29)] ∧ zr_J Z b ws0 ws true S w U n) (fun _ _ vs ws' => zr_Po Z b ws0 (zr_m true S w U) vs ws')) : zy_OkP l D N0 zy_T Z 245 12 (fun av ws => av = [.ref (zy_fa1 Z 29)] ∧ zy_rd ws (zy_ru Z 29) 44 0 = some (.int (nI b)) ∧ zy_rd ws (zy_ru Z 29) 4 0 = some (.int (nI 0)) ∧ zr_en Z ws ∧ zy_rd ws (zy_ru Z 29) 45 0 = some (.int (nI (560 * b)))) (fun _ ws vs ws' => vs = [] ∧ zr_W Z b ws ws' ∧ zr_en Z ws' ∧ ((∃ fk : Int32, zy_rd ws' (zy_ru Z 29) 4 0 = some (.int fk) ∧ 2147483649 ≤ zx_bz fk ∧ zx_bz fk ≤ 2147483653) ∨ (zy_rd ws' (zy_ru Z 29) 4 0 = some (.int (nI 0)) ∧ ∃ n, n ≤ 277 ∧ zy_rd ws' (zy_ru Z 48) 0 b = some (.int (nI (560 * b + n))) ∧ (zy_po (zr_cd Z ws') n (560 * b) 0).isSome = true))) := by
  refine zy_handP (y := zm_245) H HU rfl (fun av ws h => by rw [h.1]; exact Nat.le_of_ble_eq_true rfl) ?_
  intro d hd av tys ws ⟨e, f44, f4, hen, f45⟩ p en R s m below meth c hB ls hl hx
  subst e
  obtain ⟨d, rfl⟩ : ∃ d', d = d' + 1 := ⟨d - 1, by omega⟩
  have l0 : ls[0]? = some (.val (.ref (zy_fa1 Z 29))) := hl (0, _) (List.mem_of_getElem? (i := 0) rfl)
  obtain ⟨hx0, hb0, -⟩ := hB.2.2.1 Z (zy_le_rf Z)
  refine lv_aload_n hx0 hb0 rfl rfl l0 ?_
  refine lv_iconst (v := nI 0) hx0 hb0 rfl (by decide) ?_
  refine zv_put hB hx (q := (12, 354, 12, 48, 6, 149)) (f := 48) (lo := 2147483648) (hi2 := 2147483678) (y := nI 0) (List.mem_of_getElem? (i := 160) rfl) rfl rfl rfl rfl rfl (by decide +kernel) (by decide +kernel) ⟨fun _ => ⟨_, rfl⟩, fun h => absurd h (by decide +kernel), fun h => absurd h (by decide +kernel)⟩ (by decide +kernel) (by rw [zy_bz_n (by omega)]; omega) (by rw [zy_bz_n (by omega)]; omega) (by decide) (fun H1 locs1 ws1 hx1 hm1 hp1 hf1 => ?_)
  have c1 : ∀ f, f ≠ 48 → zy_rd ws1 (zy_ru Z 29) f 0 = zy_rd ws (zy_ru Z 29) f 0 := fun f h => hf1 _ _ _ (fun z => h z.2)
  have g44 : zy_rd ws1 (zy_ru Z 29) 44 0 = some (.int (nI b)) := (c1 44 (by decide)).trans f44
  refine lv_aload_n hx0 hb0 rfl rfl l0 ?_
  refine zv_getA hB hx1 (q := (12, 94, 12, 35, 6, 136)) (r := 56) (g := 68) (List.mem_of_getElem? (i := 119) rfl) rfl rfl rfl rfl rfl (by decide) (by decide) (by decide) (by decide) (by decide +kernel) ?_
  refine lv_aload_n hx0 hb0 rfl rfl l0 ?_
  refine zv_get hB hx1 (q := (12, 291, 12, 44, 6, 145)) (List.mem_of_getElem? (i := 149) rfl) rfl rfl rfl rfl rfl g44 ?_
  refine lv_iconst (v := nI 1) hx0 hb0 rfl (by decide) ?_
  refine zv_ast2 hB hx1 (r := 56) (g := 68) (i := b) (y := nI 1) (by decide) (by decide) rfl (by decide) rfl (by decide) (Or.inr ⟨Or.inr (by decide), rfl⟩) rfl rfl (show b < 2 from hb) (by decide) (by decide +kernel) (by decide +kernel) (fun H2 locs2 ws2 hx2 hm2 hp2 hf2 => ?_)
  have h44 : zy_rd ws2 (zy_ru Z 29) 44 0 = some (.int (nI b)) := (hf2 _ _ _ (fun z => absurd z.2.1 (by decide))).trans g44
  have h45 : zy_rd ws2 (zy_ru Z 29) 45 0 = some (.int (nI (560 * b))) := (hf2 _ _ _ (fun z => absurd z.2.1 (by decide))).trans ((c1 45 (by decide)).trans f45)
  refine lv_aload_n hx0 hb0 rfl rfl l0 ?_
  refine zv_getA hB hx2 (q := (12, 66, 12, 26, 6, 127)) (r := 47) (g := 59) (List.mem_of_getElem? (i := 120) rfl) rfl rfl rfl rfl rfl (by decide) (by decide) (by decide) (by decide) (by decide +kernel) ?_
  refine lv_aload_n hx0 hb0 rfl rfl l0 ?_
  refine zv_get hB hx2 (q := (12, 291, 12, 44, 6, 145)) (List.mem_of_getElem? (i := 149) rfl) rfl rfl rfl rfl rfl h44 ?_
  refine lv_aload_n hx0 hb0 rfl rfl l0 ?_
  refine zv_get hB hx2 (q := (12, 294, 12, 45, 6, 146)) (List.mem_of_getElem? (i := 161) rfl) rfl rfl rfl rfl rfl h45 ?_
  refine zv_ast hB hx2 (r := 47) (g := 59) (by decide) (by decide) rfl (by decide) rfl (by decide) rfl (show b < 2 from hb) (by decide) (by rw [zy_bz_n (by omega)]; show 2147483648 ≤ _; omega) (by rw [zy_bz_n (by omega)]; show _ ≤ 2147484768; omega) (fun H3 locs3 ws3 hx3 hm3 hp3 hf3 => ?_)
  have m3 : ∀ f, f ≠ 0 → f ≠ 48 → zy_rd ws3 (zy_ru Z 29) f 0 = zy_rd ws (zy_ru Z 29) f 0 := fun f h0 h1 => (hf3 _ _ _ (fun z => h0 z.2.1)).trans ((hf2 _ _ _ (fun z => h0 z.2.1)).trans (c1 f h1))
  have hW3 : zr_W Z b ws ws3 := ⟨⟨(hm3.trans hm2).trans hm1, fun j g f a _ _ hE => (hf3 j f a (fun z => hE (Or.inr (Or.inr (Or.inr (Or.inr (Or.inr (Or.inr (Or.inr (Or.inl z)))))))))).trans ((hf2 j f a (fun z => hE (Or.inr (Or.inr (Or.inr (Or.inr (Or.inr (Or.inr (Or.inl z))))))))).trans (hf1 j f a (fun z => hE (Or.inl ⟨z.1, by rw [z.2]; decide⟩))))⟩, (hf3 _ _ _ (fun z => zv_ne H (r := 56) (g := 68) (r' := 47) (g' := 59) (by decide) (by decide) rfl (by decide) (by decide) rfl (by decide) z.1)).trans hp2, hp3⟩
  refine lv_aload_n hx0 hb0 rfl rfl l0 ?_
  obtain ⟨ek, he, f7⟩ := hen
  refine zv_ivM (As := []) (rest := []) (q := (12, 357, 246, 0, 7, 207)) (y := zm_246) (zo_e (ws0 := ws) H HU hb (fun S w U n => hUn ws f44)) hB hx3 (List.mem_of_getElem? (i := 289) rfl) rfl rfl rfl (by decide) rfl (by decide) rfl rfl (by omega) ⟨rfl, hW3, (m3 4 (by decide) (by decide)).trans f4, ⟨ek, he, (m3 7 (by decide) (by decide)).trans f7⟩, (hf3 _ _ _ (fun z => zv_ne H (r := 29) (g := 41) (r' := 47) (g' := 59) (by decide) (by decide) rfl (by decide) (by decide) rfl (by decide) z.1)).trans ((hf2 _ _ _ (fun z => zv_ne H (r := 29) (g := 41) (r' := 56) (g' := 68) (by decide) (by decide) rfl (by decide) (by decide) rfl (by decide) z.1)).trans hp1), (m3 45 (by decide) (by decide)).trans f45⟩ rfl (Nat.le_of_ble_eq_true rfl) ?_
  intro vs4 tys4 ws4 H4 locs4 hn4 hq4 hx4
  obtain ⟨rfl, hst⟩ := hq4
  have hW4 : zr_W Z b ws ws4 := by rcases hst with h | h <;> exact h.1
  have k44 : zy_rd ws4 (zy_ru Z 29) 44 0 = some (.int (nI b)) := (zr_W_f H hW4 (by decide) (by decide)).trans f44
  obtain ⟨cc, hcc, cc1, cc2⟩ := zv_int H hx4.1.2.2.2 (key := 1355037) (lo := 2147483648) (hi := 2147484768) (by decide +kernel) (by decide) (by decide)
  refine lv_aload_n hx0 hb0 rfl rfl l0 ?_
  refine zv_getA hB hx4 (q := (12, 69, 12, 27, 6, 128)) (r := 48) (g := 60) (List.mem_of_getElem? (i := 121) rfl) rfl rfl rfl rfl rfl (by decide) (by decide) (by decide) (by decide) (by decide +kernel) ?_
  refine lv_aload_n hx0 hb0 rfl rfl l0 ?_
  refine zv_get hB hx4 (q := (12, 291, 12, 44, 6, 145)) (List.mem_of_getElem? (i := 149) rfl) rfl rfl rfl rfl rfl k44 ?_
  refine lv_aload_n hx0 hb0 rfl rfl l0 ?_
  refine zv_get hB hx4 (q := (12, 294, 12, 45, 6, 146)) (List.mem_of_getElem? (i := 161) rfl) rfl rfl rfl rfl rfl hcc ?_
  refine zv_ast hB hx4 (r := 48) (g := 60) (by decide) (by decide) rfl (by decide) rfl (by decide) rfl (show b < 2 from hb) (by decide) cc1 cc2 (fun H5 locs5 ws5 hx5 hm5 hp5 hf5 => ?_)
  have e5 : ∀ r g f a, 0 < r → r < 100 → zy_fg[r]? = some g → g ≠ 60 → zy_rd ws5 (zy_ru Z r) f a = zy_rd ws4 (zy_ru Z r) f a := fun r g f a q1 q2 q3 q4 => hf5 _ _ _ (fun z => zv_ne H q1 q2 q3 (r' := 48) (g' := 60) (by decide) (by decide) rfl q4 z.1)
  have e29 : ∀ f, zy_rd ws5 (zy_ru Z 29) f 0 = zy_rd ws4 (zy_ru Z 29) f 0 := fun f => e5 29 41 f 0 (by decide) (by decide) rfl (by decide)
  have hW5 : zr_W Z b ws ws5 := ⟨zv_Fm_tr hW4.1 (E2 := fun j f a => j = zy_ru Z 48 ∧ f = 0 ∧ a = b) ⟨hm5, fun j g f a _ _ hE => hf5 j f a hE⟩ (fun _ _ _ z => z) (fun j f a z => (Or.inr (Or.inr (Or.inr (Or.inr (Or.inr (Or.inr (Or.inr (Or.inr z))))))))), (e5 56 68 0 b (by decide) (by decide) rfl (by decide)).trans hW4.2.1, (e5 47 59 0 b (by decide) (by decide) rfl (by decide)).trans hW4.2.2⟩
  refine zv_retv hB hx5 rfl rfl ⟨rfl, hW5, ?_⟩
  rcases hst with ⟨-, ⟨fk, k1, k2⟩, ⟨ek2, he2, k7⟩⟩ | ⟨-, k4, ⟨ek2, he2, k7⟩, -, n, hn, k45, hpo⟩
  · obtain ⟨fk2, hfk, b1, b2⟩ := zv_int H hx5.1.2.2.2 (key := 1344541) (lo := 2147483648) (hi := 2147483653) (by decide +kernel) (by decide) (by decide)
    have hfk : zy_rd ws5 (zy_ru Z 29) 4 0 = some (.int fk2) := hfk
    have e1 : fk2 = fk := by
      rw [(e29 4).trans k1] at hfk
      injection hfk with hfk
      injection hfk with hfk
      exact hfk.symm
    subst e1
    refine ⟨⟨ek2, he2, (e29 7).trans k7⟩, Or.inl ⟨fk2, hfk, ?_, b2⟩⟩
    rcases Nat.lt_or_ge 2147483648 (zx_bz fk2) with z | z
    · exact z
    · exfalso
      apply k2
      have h1 := zx_of_bz fk2
      rw [show zx_bz fk2 = 2147483648 by omega] at h1
      rw [h1]
      decide
  · refine ⟨⟨ek2, he2, (e29 7).trans k7⟩, Or.inr ⟨(e29 4).trans k4, n, hn, ?_, ?_⟩⟩
    · rw [hp5]
      have hcc : zy_rd ws4 (zy_ru Z 29) 45 0 = some (.int cc) := hcc
      rw [hcc] at k45
      exact k45
    · rw [zr_po_fr (cd := zr_cd Z ws4) (cd' := zr_cd Z ws5) _ _ _ (fun k _ _ => e5 59 71 0 k (by decide) (by decide) rfl (by decide))]
      exact hpo
end ZEE
