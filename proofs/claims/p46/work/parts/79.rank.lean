/-! the rank of the sign at hand; whether something is compared already -/
def zrl_rank : List (Nat × List zx_E) := [(0, [(0, 0, 0, 332, 1), (1, 4, 5, 23, 4), (4, 41, 252, 0, 7), (7, 25, 12, 4, 10), (10, 4, 36, 0, 11), (11, 42, 0, 0, 12)]), (12, [(12, 0, 0, 332, 13), (13, 4, 5, 22, 16), (16, 41, 252, 0, 19), (19, 25, 24, 4, 22), (22, 4, 20, 0, 23), (23, 42, 0, 0, 24)]), (24, [(24, 0, 0, 332, 25), (25, 4, 964, 0, 27)]), (27, [(27, 41, 243, 0, 30), (30, 25, 51, 5, 33), (33, 0, 0, 332, 34), (34, 4, 996, 0, 36), (36, 41, 243, 0, 39), (39, 25, 51, 5, 42), (42, 0, 0, 332, 43), (43, 4, 980, 0, 45), (45, 41, 243, 0, 48), (48, 25, 53, 4, 51)]), (51, [(51, 4, 68, 0, 52), (52, 42, 0, 0, 53)]), (53, [(53, 0, 0, 332, 54), (54, 4, 692, 0, 56), (56, 41, 243, 0, 59), (59, 25, 71, 5, 62), (62, 0, 0, 332, 63), (63, 4, 724, 0, 65), (65, 41, 243, 0, 68), (68, 25, 73, 4, 71)]), (71, [(71, 4, 84, 0, 72), (72, 42, 0, 0, 73)]), (73, [(73, 0, 0, 332, 74), (74, 4, 676, 0, 76), (76, 41, 243, 0, 79), (79, 25, 100, 5, 82), (82, 0, 0, 332, 83), (83, 4, 756, 0, 85), (85, 41, 243, 0, 88), (88, 25, 100, 5, 91), (91, 0, 0, 332, 92), (92, 4, 596, 0, 94), (94, 41, 243, 0, 97), (97, 25, 105, 4, 100)]), (100, [(100, 4, 100, 0, 102), (102, 23, 106, 0, 105)]), (105, [(105, 4, 4, 0, 106)]), (106, [(106, 42, 0, 0, 107)])]
def zc_rank : zx_M := zy_fin zm_251 zrl_rank
theorem zrl_rank_ok : zy_fic zm_251 zrl_rank = true := by decide +kernel
def zrs_rank : List zy_C2 := [(27, [964, 168402], [(0, 168402)], [], ([] : List (Nat × Nat)).foldl zy_pe zy_e1)]
theorem zrk_rank : zx_bk zc_rank.2.2 0 (fun cur => zy_R zy_T zy_fg 0 0 [] zy_mk 400 1 zc_rank (zy_Ke zy_T zy_fg 0 0 [] [([36], []), ([20], [])]) (zy_cf2 zy_T zy_fg (1 + ([] : List (Nat × Nat)).length) 0 100 (zx_eg (([] : List (Nat × Nat)).foldl zy_pe zy_e1) 0) 134217728 zrs_rank) cur 0 (zy_rl [(0, 168402)]) [] [] (([] : List (Nat × Nat)).foldl zy_pe zy_e1)) = true := by decide +kernel
theorem zr_UN0 {Z : zy_V} {ws ws' : va_W} (h : zy_UN (zy_gl Z) 0 ws ws') : zv_Fm Z ws ws' (fun _ _ _ => False) := ⟨h.1, fun j g f a hg hf _ => h.2.1 j g f a hg hf (Nat.zero_testBit _)⟩
def zr_ok (c : Int32) : Prop := c ≠ 126 ∧ ¬ (97 ≤ c ∧ c ≤ 122)
def zr_Rk (Z : zy_V) (ws : va_W) (r : Nat) : Prop := r = 0 ∨ r = 1 ∨ r = 2 ∨ ((r = 4 ∨ r = 5 ∨ r = 6) ∧ ∃ k, k ≤ 1600 ∧ zy_rd ws (zy_ru Z 29) 6 0 = some (.int (nI k)) ∧ zr_ok (zr_sgn Z ws k))
section ZRK
variable {l : Launch} {D : va_G} {N0 : Nat} {Z : zy_V} {p : Program} {en : Env} {R : Room} {s : State} {m : MethodId} {args : Array Value} {below : List Frame} {meth : Method} {c : Code} {ls : Array Slot} {ws : va_W}
set_option maxHeartbeats 1000000 in
theorem zo_rank_c {d : Nat} (hB : zy_Fr p l R s m args meth c N0 Z zc_rank (d + 1)) (hd : 1 ≤ d) {P : List Value → va_W → Prop} (hP : ∀ r, zr_Rk Z ws r → P [.int (nI r)] ws) (l0 : ls[0]? = some (.val (.ref (zy_fa1 Z 29)))) : ∀ (H : Heap) (locs : List Loc) (tys : List (ClassId × FieldType)), zy_Mx D N0 zy_T Z s zc_rank ls H locs tys ws → W p l en R s m args below meth c H locs 0 0 (MQ below (zy_QP D N0 zy_T Z P) args s 0 0 (zx_A N0)) (F0 m 27 ls [.int (nI 60), .ref (zy_fa1 Z 29)]) := by
  obtain ⟨hx0, hb0, -⟩ := hB.2.2.1 Z (zy_le_rf Z)
  have r4 : (∃ k, k ≤ 1600 ∧ zy_rd ws (zy_ru Z 29) 6 0 = some (.int (nI k)) ∧ zr_ok (zr_sgn Z ws k)) → ∀ (H : Heap) (locs : List Loc) (tys : List (ClassId × FieldType)), zy_Mx D N0 zy_T Z s zc_rank ls H locs tys ws → W p l en R s m args below meth c H locs 0 0 (MQ below (zy_QP D N0 zy_T Z P) args s 0 0 (zx_A N0)) (F0 m 51 ls []) := by
    intro hk H locs tys hx
    refine lv_iconst (v := nI 4) hx0 hb0 rfl (by decide) ?_
    exact zv_ret hB hx rfl rfl rfl (hP 4 (Or.inr (Or.inr (Or.inr ⟨Or.inl rfl, hk⟩))))
  have r5 : (∃ k, k ≤ 1600 ∧ zy_rd ws (zy_ru Z 29) 6 0 = some (.int (nI k)) ∧ zr_ok (zr_sgn Z ws k)) → ∀ (H : Heap) (locs : List Loc) (tys : List (ClassId × FieldType)), zy_Mx D N0 zy_T Z s zc_rank ls H locs tys ws → W p l en R s m args below meth c H locs 0 0 (MQ below (zy_QP D N0 zy_T Z P) args s 0 0 (zx_A N0)) (F0 m 71 ls []) := by
    intro hk H locs tys hx
    refine lv_iconst (v := nI 5) hx0 hb0 rfl (by decide) ?_
    exact zv_ret hB hx rfl rfl rfl (hP 5 (Or.inr (Or.inr (Or.inr ⟨Or.inr (Or.inl rfl), hk⟩))))
  have r6 : (∃ k, k ≤ 1600 ∧ zy_rd ws (zy_ru Z 29) 6 0 = some (.int (nI k)) ∧ zr_ok (zr_sgn Z ws k)) → ∀ (H : Heap) (locs : List Loc) (tys : List (ClassId × FieldType)), zy_Mx D N0 zy_T Z s zc_rank ls H locs tys ws → W p l en R s m args below meth c H locs 0 0 (MQ below (zy_QP D N0 zy_T Z P) args s 0 0 (zx_A N0)) (F0 m 100 ls []) := by
    intro hk H locs tys hx
    refine lv_bipush (v := nI 6) hx0 hb0 rfl (by decide) ?_
    refine lv_goto (tgt := 106) hx0 hb0 rfl (by decide) ?_
    exact zv_ret hB hx rfl rfl rfl (hP 6 (Or.inr (Or.inr (Or.inr ⟨Or.inr (Or.inr rfl), hk⟩))))
  have r0 : ∀ (H : Heap) (locs : List Loc) (tys : List (ClassId × FieldType)), zy_Mx D N0 zy_T Z s zc_rank ls H locs tys ws → W p l en R s m args below meth c H locs 0 0 (MQ below (zy_QP D N0 zy_T Z P) args s 0 0 (zx_A N0)) (F0 m 105 ls []) := by
    intro H locs tys hx
    refine lv_iconst (v := nI 0) hx0 hb0 rfl (by decide) ?_
    exact zv_ret hB hx rfl rfl rfl (hP 0 (Or.inl rfl))
  have s8 : ∀ (H : Heap) (locs : List Loc) (tys : List (ClassId × FieldType)), zy_Mx D N0 zy_T Z s zc_rank ls H locs tys ws → W p l en R s m args below meth c H locs 0 0 (MQ below (zy_QP D N0 zy_T Z P) args s 0 0 (zx_A N0)) (F0 m 91 ls []) := by
    intro H locs tys hx
    refine lv_aload_n hx0 hb0 rfl rfl l0 ?_
    refine lv_bipush (v := nI 37) hx0 hb0 rfl (by decide) ?_
    refine zv_ivM (As := [.int (nI 37)]) (rest := []) (q := (12, 321, 243, 0, 7, 219)) (y := zm_243) (zo_ish hB.1 hB.2.1) hB hx (List.mem_of_getElem? (i := 282) rfl) rfl rfl rfl (by decide) rfl (by decide) rfl rfl hd rfl rfl (by decide) ?_
    intro vs1 tys1 ws1 H1 locs1 hn1 hq1 hx1
    obtain ⟨rfl, bb, rfl, hbb⟩ := hq1
    refine lv_if_eq (tgt := 105) hx0 hb0 rfl (by decide) (fun h => ?_) (fun h => ?_)
    · exact r0 _ _ _ hx1
    · obtain ⟨-, k, hk, hat, hs⟩ := hbb (by
        cases bb
        · exact absurd rfl h
        · rfl)
      exact r6 ⟨k, hk, hat, by rw [hs]; unfold zr_ok; decide⟩ _ _ _ hx1
  have s7 : ∀ (H : Heap) (locs : List Loc) (tys : List (ClassId × FieldType)), zy_Mx D N0 zy_T Z s zc_rank ls H locs tys ws → W p l en R s m args below meth c H locs 0 0 (MQ below (zy_QP D N0 zy_T Z P) args s 0 0 (zx_A N0)) (F0 m 82 ls []) := by
    intro H locs tys hx
    refine lv_aload_n hx0 hb0 rfl rfl l0 ?_
    refine lv_bipush (v := nI 47) hx0 hb0 rfl (by decide) ?_
    refine zv_ivM (As := [.int (nI 47)]) (rest := []) (q := (12, 321, 243, 0, 7, 219)) (y := zm_243) (zo_ish hB.1 hB.2.1) hB hx (List.mem_of_getElem? (i := 282) rfl) rfl rfl rfl (by decide) rfl (by decide) rfl rfl hd rfl rfl (by decide) ?_
    intro vs1 tys1 ws1 H1 locs1 hn1 hq1 hx1
    obtain ⟨rfl, bb, rfl, hbb⟩ := hq1
    refine lv_if_ne (tgt := 100) hx0 hb0 rfl (by decide) (fun h => ?_) (fun h => ?_)
    · obtain ⟨-, k, hk, hat, hs⟩ := hbb (by
        cases bb
        · exact absurd rfl h
        · rfl)
      exact r6 ⟨k, hk, hat, by rw [hs]; unfold zr_ok; decide⟩ _ _ _ hx1
    · exact s8 _ _ _ hx1
  have s6 : ∀ (H : Heap) (locs : List Loc) (tys : List (ClassId × FieldType)), zy_Mx D N0 zy_T Z s zc_rank ls H locs tys ws → W p l en R s m args below meth c H locs 0 0 (MQ below (zy_QP D N0 zy_T Z P) args s 0 0 (zx_A N0)) (F0 m 73 ls []) := by
    intro H locs tys hx
    refine lv_aload_n hx0 hb0 rfl rfl l0 ?_
    refine lv_bipush (v := nI 42) hx0 hb0 rfl (by decide) ?_
    refine zv_ivM (As := [.int (nI 42)]) (rest := []) (q := (12, 321, 243, 0, 7, 219)) (y := zm_243) (zo_ish hB.1 hB.2.1) hB hx (List.mem_of_getElem? (i := 282) rfl) rfl rfl rfl (by decide) rfl (by decide) rfl rfl hd rfl rfl (by decide) ?_
    intro vs1 tys1 ws1 H1 locs1 hn1 hq1 hx1
    obtain ⟨rfl, bb, rfl, hbb⟩ := hq1
    refine lv_if_ne (tgt := 100) hx0 hb0 rfl (by decide) (fun h => ?_) (fun h => ?_)
    · obtain ⟨-, k, hk, hat, hs⟩ := hbb (by
        cases bb
        · exact absurd rfl h
        · rfl)
      exact r6 ⟨k, hk, hat, by rw [hs]; unfold zr_ok; decide⟩ _ _ _ hx1
    · exact s7 _ _ _ hx1
  have s5 : ∀ (H : Heap) (locs : List Loc) (tys : List (ClassId × FieldType)), zy_Mx D N0 zy_T Z s zc_rank ls H locs tys ws → W p l en R s m args below meth c H locs 0 0 (MQ below (zy_QP D N0 zy_T Z P) args s 0 0 (zx_A N0)) (F0 m 62 ls []) := by
    intro H locs tys hx
    refine lv_aload_n hx0 hb0 rfl rfl l0 ?_
    refine lv_bipush (v := nI 45) hx0 hb0 rfl (by decide) ?_
    refine zv_ivM (As := [.int (nI 45)]) (rest := []) (q := (12, 321, 243, 0, 7, 219)) (y := zm_243) (zo_ish hB.1 hB.2.1) hB hx (List.mem_of_getElem? (i := 282) rfl) rfl rfl rfl (by decide) rfl (by decide) rfl rfl hd rfl rfl (by decide) ?_
    intro vs1 tys1 ws1 H1 locs1 hn1 hq1 hx1
    obtain ⟨rfl, bb, rfl, hbb⟩ := hq1
    refine lv_if_eq (tgt := 73) hx0 hb0 rfl (by decide) (fun h => ?_) (fun h => ?_)
    · exact s6 _ _ _ hx1
    · obtain ⟨-, k, hk, hat, hs⟩ := hbb (by
        cases bb
        · exact absurd rfl h
        · rfl)
      exact r5 ⟨k, hk, hat, by rw [hs]; unfold zr_ok; decide⟩ _ _ _ hx1
  have s4 : ∀ (H : Heap) (locs : List Loc) (tys : List (ClassId × FieldType)), zy_Mx D N0 zy_T Z s zc_rank ls H locs tys ws → W p l en R s m args below meth c H locs 0 0 (MQ below (zy_QP D N0 zy_T Z P) args s 0 0 (zx_A N0)) (F0 m 53 ls []) := by
    intro H locs tys hx
    refine lv_aload_n hx0 hb0 rfl rfl l0 ?_
    refine lv_bipush (v := nI 43) hx0 hb0 rfl (by decide) ?_
    refine zv_ivM (As := [.int (nI 43)]) (rest := []) (q := (12, 321, 243, 0, 7, 219)) (y := zm_243) (zo_ish hB.1 hB.2.1) hB hx (List.mem_of_getElem? (i := 282) rfl) rfl rfl rfl (by decide) rfl (by decide) rfl rfl hd rfl rfl (by decide) ?_
    intro vs1 tys1 ws1 H1 locs1 hn1 hq1 hx1
    obtain ⟨rfl, bb, rfl, hbb⟩ := hq1
    refine lv_if_ne (tgt := 71) hx0 hb0 rfl (by decide) (fun h => ?_) (fun h => ?_)
    · obtain ⟨-, k, hk, hat, hs⟩ := hbb (by
        cases bb
        · exact absurd rfl h
        · rfl)
      exact r5 ⟨k, hk, hat, by rw [hs]; unfold zr_ok; decide⟩ _ _ _ hx1
    · exact s5 _ _ _ hx1
  have s3 : ∀ (H : Heap) (locs : List Loc) (tys : List (ClassId × FieldType)), zy_Mx D N0 zy_T Z s zc_rank ls H locs tys ws → W p l en R s m args below meth c H locs 0 0 (MQ below (zy_QP D N0 zy_T Z P) args s 0 0 (zx_A N0)) (F0 m 42 ls []) := by
    intro H locs tys hx
    refine lv_aload_n hx0 hb0 rfl rfl l0 ?_
    refine lv_bipush (v := nI 61) hx0 hb0 rfl (by decide) ?_
    refine zv_ivM (As := [.int (nI 61)]) (rest := []) (q := (12, 321, 243, 0, 7, 219)) (y := zm_243) (zo_ish hB.1 hB.2.1) hB hx (List.mem_of_getElem? (i := 282) rfl) rfl rfl rfl (by decide) rfl (by decide) rfl rfl hd rfl rfl (by decide) ?_
    intro vs1 tys1 ws1 H1 locs1 hn1 hq1 hx1
    obtain ⟨rfl, bb, rfl, hbb⟩ := hq1
    refine lv_if_eq (tgt := 53) hx0 hb0 rfl (by decide) (fun h => ?_) (fun h => ?_)
    · exact s4 _ _ _ hx1
    · obtain ⟨-, k, hk, hat, hs⟩ := hbb (by
        cases bb
        · exact absurd rfl h
        · rfl)
      exact r4 ⟨k, hk, hat, by rw [hs]; unfold zr_ok; decide⟩ _ _ _ hx1
  have s2 : ∀ (H : Heap) (locs : List Loc) (tys : List (ClassId × FieldType)), zy_Mx D N0 zy_T Z s zc_rank ls H locs tys ws → W p l en R s m args below meth c H locs 0 0 (MQ below (zy_QP D N0 zy_T Z P) args s 0 0 (zx_A N0)) (F0 m 33 ls []) := by
    intro H locs tys hx
    refine lv_aload_n hx0 hb0 rfl rfl l0 ?_
    refine lv_bipush (v := nI 62) hx0 hb0 rfl (by decide) ?_
    refine zv_ivM (As := [.int (nI 62)]) (rest := []) (q := (12, 321, 243, 0, 7, 219)) (y := zm_243) (zo_ish hB.1 hB.2.1) hB hx (List.mem_of_getElem? (i := 282) rfl) rfl rfl rfl (by decide) rfl (by decide) rfl rfl hd rfl rfl (by decide) ?_
    intro vs1 tys1 ws1 H1 locs1 hn1 hq1 hx1
    obtain ⟨rfl, bb, rfl, hbb⟩ := hq1
    refine lv_if_ne (tgt := 51) hx0 hb0 rfl (by decide) (fun h => ?_) (fun h => ?_)
    · obtain ⟨-, k, hk, hat, hs⟩ := hbb (by
        cases bb
        · exact absurd rfl h
        · rfl)
      exact r4 ⟨k, hk, hat, by rw [hs]; unfold zr_ok; decide⟩ _ _ _ hx1
    · exact s3 _ _ _ hx1
  intro H locs tys hx
  refine zv_ivM (As := [.int (nI 60)]) (rest := []) (q := (12, 321, 243, 0, 7, 219)) (y := zm_243) (zo_ish hB.1 hB.2.1) hB hx (List.mem_of_getElem? (i := 282) rfl) rfl rfl rfl (by decide) rfl (by decide) rfl rfl hd rfl rfl (by decide) ?_
  intro vs1 tys1 ws1 H1 locs1 hn1 hq1 hx1
  obtain ⟨rfl, bb, rfl, hbb⟩ := hq1
  refine lv_if_ne (tgt := 51) hx0 hb0 rfl (by decide) (fun h => ?_) (fun h => ?_)
  · obtain ⟨-, k, hk, hat, hs⟩ := hbb (by
        cases bb
        · exact absurd rfl h
        · rfl)
    exact r4 ⟨k, hk, hat, by rw [hs]; unfold zr_ok; decide⟩ _ _ _ hx1
  · exact s2 _ _ _ hx1
theorem zo_rank (H : zy_H0 Z) (HU : zy_UQ zy_fg Z) : zy_OkP l D N0 zy_T Z 251 2 (fun av _ => av = [.ref (zy_fa1 Z 29)]) (fun _ ws vs ws' => zv_Fm Z ws ws' (fun _ _ _ => False) ∧ ∃ r, vs = [.int (nI r)] ∧ zr_Rk Z ws' r) := by
  refine zy_handP (y := zm_251) H HU rfl (fun av ws h => by rw [h]; exact Nat.le_of_ble_eq_true rfl) ?_
  intro d hd av tys ws e p en R s m below meth c hB0 ls hl hx
  subst e
  obtain ⟨d, rfl⟩ : ∃ d', d = d' + 1 := ⟨d - 1, by omega⟩
  have l0 : ls[0]? = some (.val (.ref (zy_fa1 Z 29))) := hl (0, _) (List.mem_of_getElem? (i := 0) rfl)
  have hB := zy_Fr_fin zrl_rank_ok hB0
  have hB1 : zy_Fr p l R s m [.ref (zy_fa1 Z 29)].toArray meth c N0 Z zc_rank (1 + d) := by rw [Nat.add_comm]; exact hB
  refine zy_seg hB1 zy_g2 [] [] [(0, 168402)] [] [] rfl (by decide) zy_hb0 (zv_rtK hB (fun vs ws' po hpo hsr _ hU => ?_)) zy_Gs0 hx (by decide +kernel) (zy_fa ⟨_, l0, rfl⟩ zy_fa0) rfl zy_fa0 zrk_rank (zy_fa ?_ zy_fa0)
  · refine ⟨zr_UN0 hU, ?_⟩
    rcases List.mem_cons.mp hpo with rfl | hpo
    · exact ⟨2, zv_dm_of (ys := []) H (by decide) hsr rfl, Or.inr (Or.inr (Or.inl rfl))⟩
    · rcases List.mem_singleton.mp hpo with rfl
      exact ⟨1, zv_dm_of (ys := []) H (by decide) hsr rfl, Or.inr (Or.inl rfl)⟩
  · intro ls' vs' H' locs' tys' ws' hx' hrow hst hcr hev hU'
    have e : vs' = [.int (nI 60), .ref (zy_fa1 Z 29)] := zv_dm_of (ys := []) H (by decide) hst rfl
    subst e
    exact zo_rank_c hB (by omega) (fun r hr => ⟨zr_UN0 hU', r, rfl, hr⟩) (zv_dl_of (ys := []) H (by decide) hrow (i := 0) rfl rfl) H' locs' tys' hx'
set_option maxHeartbeats 1000000 in
theorem zo_cmp_l {d : Nat} (hB : zy_Fr p l R s m args meth c N0 Z zm_250 d) {P : List Value → va_W → Prop} (hP : ∀ r, r ≤ 1 → P [.int (nI r)] ws) : ∀ (S : List Nat), S.length < 90 → zr_St Z ws S → ∀ (ls : Array Slot) (H : Heap) (locs : List Loc) (tys : List (ClassId × FieldType)), zy_Mx D N0 zy_T Z s zm_250 ls H locs tys ws → ls[0]? = some (.val (.ref (zy_fa1 Z 29))) → ls[1]? = some (.val (.int (nI S.length))) → W p l en R s m args below meth c H locs 0 0 (MQ below (zy_QP D N0 zy_T Z P) args s 0 0 (zx_A N0)) (F0 m 7 ls []) := by
  obtain ⟨hx0, hb0, -⟩ := hB.2.2.1 Z (zy_le_rf Z)
  intro S
  induction S with
  | nil =>
    intro hn hSt ls H locs tys hx l0 l1
    have hv : zy_rd ws (zy_ru Z 61) 0 0 = some (.int (nI 8)) := hSt
    refine lv_aload_n hx0 hb0 rfl rfl l0 ?_
    refine zv_getA hB hx (q := (12, 110, 12, 40, 6, 141)) (r := 61) (g := 73) (List.mem_of_getElem? (i := 164) rfl) rfl rfl rfl rfl rfl (by decide) (by decide) (by decide) (by decide) (by decide +kernel) ?_
    refine lv_iload_n hx0 hb0 rfl rfl l1 ?_
    refine zv_ald hB hx (r := 61) (g := 73) (by decide) (by decide) rfl (by decide) rfl (Or.inl (by decide)) (Or.inl ⟨by decide, rfl⟩) rfl (show 0 < 90 by decide) (by decide) hv ?_
    refine lv_iconst (v := nI 5) hx0 hb0 rfl (by decide) ?_
    refine lv_icmp_eq (tgt := 28) hx0 hb0 rfl (by decide) (fun h => absurd h (by decide)) (fun _ => ?_)
    refine lv_aload_n hx0 hb0 rfl rfl l0 ?_
    refine zv_getA hB hx (q := (12, 110, 12, 40, 6, 141)) (r := 61) (g := 73) (List.mem_of_getElem? (i := 164) rfl) rfl rfl rfl rfl rfl (by decide) (by decide) (by decide) (by decide) (by decide +kernel) ?_
    refine lv_iload_n hx0 hb0 rfl rfl l1 ?_
    refine zv_ald hB hx (r := 61) (g := 73) (by decide) (by decide) rfl (by decide) rfl (Or.inl (by decide)) (Or.inl ⟨by decide, rfl⟩) rfl (show 0 < 90 by decide) (by decide) hv ?_
    refine lv_bipush (v := nI 6) hx0 hb0 rfl (by decide) ?_
    refine lv_icmp_ne (tgt := 34) hx0 hb0 rfl (by decide) (fun _ => ?_) (fun h => absurd h (by decide))
    refine lv_aload_n hx0 hb0 rfl rfl l0 ?_
    refine zv_getA hB hx (q := (12, 110, 12, 40, 6, 141)) (r := 61) (g := 73) (List.mem_of_getElem? (i := 164) rfl) rfl rfl rfl rfl rfl (by decide) (by decide) (by decide) (by decide) (by decide +kernel) ?_
    refine lv_iload_n hx0 hb0 rfl rfl l1 ?_
    refine zv_ald hB hx (r := 61) (g := 73) (by decide) (by decide) rfl (by decide) rfl (Or.inl (by decide)) (Or.inl ⟨by decide, rfl⟩) rfl (show 0 < 90 by decide) (by decide) hv ?_
    refine lv_iconst (v := nI 4) hx0 hb0 rfl (by decide) ?_
    refine lv_icmp_ne (tgt := 48) hx0 hb0 rfl (by decide) (fun _ => ?_) (fun h => absurd h (by decide))
    refine lv_iconst (v := nI 0) hx0 hb0 rfl (by decide) ?_
    exact zv_ret hB hx rfl rfl rfl (hP 0 (by decide))
  | cons y S ih =>
    intro hn hSt ls H locs tys hx l0 l1
    have hv : zy_rd ws (zy_ru Z 61) 0 (S.length + 1) = some (.int (nI y)) := hSt.1
    have hn : S.length + 1 < 90 := hn
    have l1 : ls[1]? = some (.val (.int (nI (S.length + 1)))) := l1
    refine lv_aload_n hx0 hb0 rfl rfl l0 ?_
    refine zv_getA hB hx (q := (12, 110, 12, 40, 6, 141)) (r := 61) (g := 73) (List.mem_of_getElem? (i := 164) rfl) rfl rfl rfl rfl rfl (by decide) (by decide) (by decide) (by decide) (by decide +kernel) ?_
    refine lv_iload_n hx0 hb0 rfl rfl l1 ?_
    refine zv_ald hB hx (r := 61) (g := 73) (by decide) (by decide) rfl (by decide) rfl (Or.inl (by decide)) (Or.inl ⟨by decide, rfl⟩) rfl (show S.length + 1 < 90 from hn) (by decide) hv ?_
    refine lv_iconst (v := nI 5) hx0 hb0 rfl (by decide) ?_
    refine lv_icmp_eq (tgt := 28) hx0 hb0 rfl (by decide) (fun _ => ?_) (fun _ => ?_)
    · skip
      refine zv_inc hB hx (n := -1) (v := nI S.length) (by decide) rfl l1 (by rw [show Int32.ofInt (-1) = nI 4294967295 from by decide, zv_pred (by omega) (by omega)]; rfl) (zv_cat l0 (by show (1 : Nat) ≠ 2; decide)) (fun ls2 hx2 q1 q2 => ?_)
      refine lv_goto (tgt := 7) hx0 hb0 rfl (by decide) ?_
      exact ih (by omega) hSt.2.2 ls2 H locs tys hx2 (q2 0 _ (by decide) l0) q1
    · skip
      refine lv_aload_n hx0 hb0 rfl rfl l0 ?_
      refine zv_getA hB hx (q := (12, 110, 12, 40, 6, 141)) (r := 61) (g := 73) (List.mem_of_getElem? (i := 164) rfl) rfl rfl rfl rfl rfl (by decide) (by decide) (by decide) (by decide) (by decide +kernel) ?_
      refine lv_iload_n hx0 hb0 rfl rfl l1 ?_
      refine zv_ald hB hx (r := 61) (g := 73) (by decide) (by decide) rfl (by decide) rfl (Or.inl (by decide)) (Or.inl ⟨by decide, rfl⟩) rfl (show S.length + 1 < 90 from hn) (by decide) hv ?_
      refine lv_bipush (v := nI 6) hx0 hb0 rfl (by decide) ?_
      refine lv_icmp_ne (tgt := 34) hx0 hb0 rfl (by decide) (fun _ => ?_) (fun _ => ?_)
      · skip
        refine lv_aload_n hx0 hb0 rfl rfl l0 ?_
        refine zv_getA hB hx (q := (12, 110, 12, 40, 6, 141)) (r := 61) (g := 73) (List.mem_of_getElem? (i := 164) rfl) rfl rfl rfl rfl rfl (by decide) (by decide) (by decide) (by decide) (by decide +kernel) ?_
        refine lv_iload_n hx0 hb0 rfl rfl l1 ?_
        refine zv_ald hB hx (r := 61) (g := 73) (by decide) (by decide) rfl (by decide) rfl (Or.inl (by decide)) (Or.inl ⟨by decide, rfl⟩) rfl (show S.length + 1 < 90 from hn) (by decide) hv ?_
        refine lv_iconst (v := nI 4) hx0 hb0 rfl (by decide) ?_
        refine lv_icmp_ne (tgt := 48) hx0 hb0 rfl (by decide) (fun _ => ?_) (fun _ => ?_)
        · skip
          refine lv_iconst (v := nI 0) hx0 hb0 rfl (by decide) ?_
          exact zv_ret hB hx rfl rfl rfl (hP 0 (by decide))
        · skip
          refine lv_iconst (v := nI 1) hx0 hb0 rfl (by decide) ?_
          refine lv_goto (tgt := 49) hx0 hb0 rfl (by decide) ?_
          exact zv_ret hB hx rfl rfl rfl (hP 1 (by decide))
      · skip
        refine zv_inc hB hx (n := -1) (v := nI S.length) (by decide) rfl l1 (by rw [show Int32.ofInt (-1) = nI 4294967295 from by decide, zv_pred (by omega) (by omega)]; rfl) (zv_cat l0 (by show (1 : Nat) ≠ 2; decide)) (fun ls2 hx2 q1 q2 => ?_)
        refine lv_goto (tgt := 7) hx0 hb0 rfl (by decide) ?_
        exact ih (by omega) hSt.2.2 ls2 H locs tys hx2 (q2 0 _ (by decide) l0) q1
theorem zo_cmp (H : zy_H0 Z) (HU : zy_UQ zy_fg Z) {S : List Nat} (hS : S.length < 90) : zy_OkP l D N0 zy_T Z 250 0 (fun av ws => av = [.ref (zy_fa1 Z 29)] ∧ zy_rd ws (zy_ru Z 29) 47 0 = some (.int (nI (S.length + 1))) ∧ zr_St Z ws S) (fun _ ws vs ws' => ws' = ws ∧ ∃ r, r ≤ 1 ∧ vs = [.int (nI r)]) := by
  refine zy_handP (y := zm_250) H HU rfl (fun av ws h => by rw [h.1]; exact Nat.le_of_ble_eq_true rfl) ?_
  intro d hd av tys ws ⟨e, hp, hSt⟩ p en R s m below meth c hB ls hl hx
  subst e
  obtain ⟨hx0, hb0, -⟩ := hB.2.2.1 Z (zy_le_rf Z)
  have l0 : ls[0]? = some (.val (.ref (zy_fa1 Z 29))) := hl (0, _) (List.mem_of_getElem? (i := 0) rfl)
  refine lv_aload_n hx0 hb0 rfl rfl l0 ?_
  refine zv_get hB hx (q := (12, 360, 12, 47, 6, 148)) (List.mem_of_getElem? (i := 162) rfl) rfl rfl rfl rfl rfl hp ?_
  refine lv_iconst (v := nI 1) hx0 hb0 rfl (by decide) ?_
  refine lv_isub hx0 hb0 rfl ?_
  rw [zv_sub (by omega), Nat.add_sub_cancel]
  refine zv_sto hB hx (i := 1) (by decide) (Or.inl ⟨1, rfl, rfl, rfl⟩) rfl (zv_cat l0 (by show (1 : Nat) ≠ 2; decide)) (fun ls2 hx2 q1 q2 => ?_)
  exact zo_cmp_l hB (fun r hr => ⟨rfl, r, hr, rfl⟩) S hS hSt ls2 _ _ _ hx2 (q2 0 _ (by decide) l0) q1
end ZRK
