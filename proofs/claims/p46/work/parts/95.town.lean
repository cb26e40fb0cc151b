/-! town of the reference is kept -/
section ZTT
variable {l : Launch} {D : va_G} {N0 : Nat} {Z : zy_V}
theorem zt_GR (H : zy_H0 Z) (HU : zy_UQ zy_fg Z) {ws ws' : va_W} {b bk : Nat} (hbk : bk ≤ 1) (hb : b = 1 - bk) (hGV : zy_GV (zy_gl Z) ws) (f43 : zy_rd ws (zy_ru Z 29) 43 0 = some (.int (nI bk))) (g43 : zy_rd ws' (zy_ru Z 29) 43 0 = some (.int (nI bk))) (g44 : zy_rd ws' (zy_ru Z 29) 44 0 = some (.int (nI b))) (g45 : zy_rd ws' (zy_ru Z 29) 45 0 = some (.int (nI (560 * b)))) (gH : zy_rd ws' (zy_ru Z 56) 0 b = some (.int (nI 0))) (sH : zy_rd ws' (zy_ru Z 56) 0 bk = zy_rd ws (zy_ru Z 56) 0 bk) (sF : ∀ a, zy_rd ws' (zy_ru Z 47) 0 a = zy_rd ws (zy_ru Z 47) 0 a) (sT : ∀ a, zy_rd ws' (zy_ru Z 48) 0 a = zy_rd ws (zy_ru Z 48) 0 a) (sC : ∀ a, zy_rd ws' (zy_ru Z 59) 0 a = zy_rd ws (zy_ru Z 59) 0 a) : zy_GR (zy_gl Z) ws' := by
  have uM : ∀ i, (zy_gl Z)[i]? = some 41 → i = zy_ru Z 29 := fun i h => HU 29 41 i (by decide) (by decide) rfl h
  have uH : ∀ i, (zy_gl Z)[i]? = some 68 → i = zy_ru Z 56 := fun i h => HU 56 68 i (by decide) (by decide) rfl h
  have uF : ∀ i, (zy_gl Z)[i]? = some 59 → i = zy_ru Z 47 := fun i h => HU 47 59 i (by decide) (by decide) rfl h
  have uT : ∀ i, (zy_gl Z)[i]? = some 60 → i = zy_ru Z 48 := fun i h => HU 48 60 i (by decide) (by decide) rfl h
  have uC : ∀ i, (zy_gl Z)[i]? = some 71 → i = zy_ru Z 59 := fun i h => HU 59 71 i (by decide) (by decide) rfl h
  have c1 : (nI bk).toNatClampNeg = bk := nI_clamp (by omega)
  have c2 : (nI b).toNatClampNeg = b := nI_clamp (by omega)
  refine ⟨fun i x hi hx => ?_, fun i x y hi hx hy => ?_, fun i y hi hy hz => ?_, fun i iH y z hi hiH hy hh hz => ?_⟩
  · have := uM i hi
    subst this
    rw [g43] at hx
    injection hx with hx
    injection hx with hx
    subst hx
    have hv := hGV _ _ hi f43
    rw [c1] at hv ⊢
    intro iH iF iT iC h f t g1 g2 g3 g4 r1 r2 r3 hne
    have := uH iH g1
    subst this
    have := uF iF g2
    subst this
    have := uT iT g3
    subst this
    have := uC iC g4
    subst this
    rw [sH] at r1
    rw [sF] at r2
    rw [sT] at r3
    have e5 : (fun k => zy_rd ws' (zy_ru Z 59) 0 k) = fun k => zy_rd ws (zy_ru Z 59) 0 k := funext sC
    rw [e5]
    exact hv _ _ _ _ h f t g1 g2 g3 g4 r1 r2 r3 hne
  · have := uM i hi
    subst this
    rw [g43] at hx
    rw [g44] at hy
    injection hx with hx
    injection hx with hx
    injection hy with hy
    injection hy with hy
    rw [← hx, ← hy, hb]
    rcases (show bk = 0 ∨ bk = 1 by omega) with rfl | rfl <;> decide
  · have := uM i hi
    subst this
    rw [g44] at hy
    injection hy with hy
    injection hy with hy
    rw [← hy, c2]
    intro iH iF iT iC h f t g1 g2 g3 g4 r1 r2 r3 hne
    have := uH iH g1
    subst this
    rw [gH] at r1
    injection r1 with r1
    injection r1 with r1
    exact absurd (by rw [← r1]; decide) hne
  · have := uM i hi
    subst this
    rw [g44] at hy
    rw [g45] at hz
    injection hy with hy
    injection hy with hy
    injection hz with hz
    injection hz with hz
    rw [← hy, ← hz, hb]
    rcases (show bk = 0 ∨ bk = 1 by omega) with rfl | rfl <;> decide
theorem zt_cb_r (H : zy_H0 Z) {ws ws' : va_W} {b : Nat} (hF : zv_Fm Z ws ws' (zt_cb Z b)) {r g a : Nat} (h0 : 0 < r) (h1 : r < 100) (hfg : zy_fg[r]? = some g) (h3 : g ≠ 41) (h4 : a ≠ b ∨ ∀ r', r' ∈ [32, 33, 34, 35, 36, 37, 49, 50, 51, 52, 53, 54, 55, 56] → g ≠ r' + 12) : zy_rd ws' (zy_ru Z r) 0 a = zy_rd ws (zy_ru Z r) 0 a := zv_Fm_r H hF h0 h1 hfg (by decide) (fun z => by
  rcases z with z | ⟨-, z2, r', z3, z4⟩
  · exact zv_ne H h0 h1 hfg (r' := 29) (g' := 41) (by decide) (by decide) rfl h3 z.1
  · rcases h4 with h4 | h4
    · exact h4 z2
    · have q : ∀ r', r' ∈ [32, 33, 34, 35, 36, 37, 49, 50, 51, 52, 53, 54, 55, 56] → 0 < r' ∧ r' < 100 ∧ zy_fg[r']? = some (r' + 12) := by decide
      obtain ⟨q1, q2, q3⟩ := q r' z3
      exact zv_ne H h0 h1 hfg q1 q2 q3 (h4 r' z3) z4)
theorem zt_cb_E (H : zy_H0 Z) {b j f a : Nat} (h : zt_cb Z b j f a) : zt_E Z j f a := by
  rcases h with h | ⟨h1, -, r, h3, h4⟩
  · exact ⟨41, by rw [h.1]; exact (H.2.2.2 29 41 (by decide) (by decide) rfl).1, by rw [h.2]; decide +kernel⟩
  · have q : ∀ r', r' ∈ [32, 33, 34, 35, 36, 37, 49, 50, 51, 52, 53, 54, 55, 56] → (0 < r' ∧ r' < 100 ∧ zy_fg[r']? = some (r' + 12)) ∧ zq_86.1.2.2.1.testBit (128 * (r' + 12) + 0) = true := by decide +kernel
    obtain ⟨⟨q1, q2, q3⟩, q4⟩ := q r h3
    exact ⟨r + 12, by rw [h4]; exact (H.2.2.2 r (r + 12) q1 q2 q3).1, by rw [h1]; exact q4⟩
theorem zt_lx_E (H : zy_H0 Z) {j f a : Nat} (h : zr_lx Z j f a) : zt_E Z j f a := by
  have q : ∀ f, f ∈ [4, 5, 6, 7, 8, 9, 10] → zq_86.1.2.2.1.testBit (128 * 41 + f) = true := by decide +kernel
  exact ⟨41, by rw [h.1]; exact (H.2.2.2 29 41 (by decide) (by decide) rfl).1, q f h.2⟩
set_option maxHeartbeats 4000000 in
set_option maxRecDepth 20000 in
theorem zo_town (HH : zy_HH l D N0 Z) (HU : zy_UQ zy_fg Z) : zy_OkP l D N0 zy_T Z 231 14 (fun av ws => av = [.ref (zy_fa1 Z 29)] ∧ zy_GV (zy_gl Z) ws ∧ zt_AU Z ws) (fun _ ws vs ws' => (∃ v : Int32, vs = [.int v]) ∧ zv_Fm Z ws ws' (zt_E Z) ∧ zy_GV (zy_gl Z) ws' ∧ zt_AU Z ws') := by
  have H := HH.1
  refine zy_handP (y := zm_231) H HU rfl (fun av ws h => by rw [h.1]; exact Nat.le_of_ble_eq_true rfl) ?_
  intro d hd av tys ws ⟨e, hGV, hAU⟩ p en R s m below meth c hB ls hl hx
  subst e
  obtain ⟨d, rfl⟩ : ∃ d', d = d' + 1 := ⟨d - 1, by omega⟩
  have l0 : ls[0]? = some (.val (.ref (zy_fa1 Z 29))) := hl (0, _) (List.mem_of_getElem? (i := 0) rfl)
  obtain ⟨hx0, hb0, -⟩ := hB.2.2.1 Z (zy_le_rf Z)
  obtain ⟨bx, hbx, x1, x2⟩ := zv_int H hx.1.2.2.2 (key := 1354525) (lo := 2147483648) (hi := 2147483649) (by decide +kernel) (by decide) (by decide)
  obtain ⟨bk, hbk, rfl⟩ := zv_nn (n := 1) x1 x2
  have f43 : zy_rd ws (zy_ru Z 29) 43 0 = some (.int (nI bk)) := hbx
  obtain ⟨tp, htp, x3, x4⟩ := zv_int H hx.1.2.2.2 (key := 1344029) (lo := 2147483648) (hi := 2147485248) (by decide +kernel) (by decide) (by decide)
  obtain ⟨sz, hsz, rfl⟩ := zv_nn (n := 1600) x3 x4
  have htp : zy_rd ws (zy_ru Z 29) 2 0 = some (.int (nI sz)) := htp
  refine lv_aload_n hx0 hb0 rfl rfl l0 ?_
  refine lv_iconst (v := nI 0) hx0 hb0 rfl (by decide) ?_
  refine zv_put hB hx (q := (12, 179, 12, 4, 6, 105)) (f := 4) (lo := 2147483648) (hi2 := 2147483653) (y := nI 0) (List.mem_of_getElem? (i := 140) rfl) rfl rfl rfl rfl rfl (by decide +kernel) (by decide +kernel) ⟨fun _ => ⟨_, rfl⟩, fun h => absurd h (by decide +kernel), fun h => absurd h (by decide +kernel)⟩ (by decide +kernel) (by rw [zy_bz_n (by omega)]; omega) (by rw [zy_bz_n (by omega)]; omega) (by decide) (fun H1 locs1 ws1 hx1 hm1 hp1 hf1 => ?_)
  refine lv_aload_n hx0 hb0 rfl rfl l0 ?_
  refine lv_iconst (v := nI 4294967295) hx0 hb0 rfl (by decide) ?_
  refine zv_put hB hx1 (q := (12, 16, 12, 5, 6, 106)) (f := 5) (lo := 2147483647) (hi2 := 2147485248) (y := nI 4294967295) (List.mem_of_getElem? (i := 141) rfl) rfl rfl rfl rfl rfl (by decide +kernel) (by decide +kernel) ⟨fun _ => ⟨_, rfl⟩, fun h => absurd h (by decide +kernel), fun h => absurd h (by decide +kernel)⟩ (by decide +kernel) (by decide) (by decide) (by decide) (fun H2 locs2 ws2 hx2 hm2 hp2 hf2 => ?_)
  have htp2 : zy_rd ws2 (zy_ru Z 29) 2 0 = some (.int (nI sz)) := (hf2 _ _ _ (fun z => absurd z.2 (by decide))).trans ((hf1 _ _ _ (fun z => absurd z.2 (by decide))).trans htp)
  refine lv_aload_n hx0 hb0 rfl rfl l0 ?_
  refine lv_aload_n hx0 hb0 rfl rfl l0 ?_
  refine zv_get hB hx2 (q := (12, 297, 12, 2, 6, 103)) (List.mem_of_getElem? (i := 8) rfl) rfl rfl rfl rfl rfl htp2 ?_
  refine zv_put hB hx2 (q := (12, 176, 12, 3, 6, 104)) (f := 3) (lo := 2147483648) (hi2 := 2147485248) (y := nI sz) (List.mem_of_getElem? (i := 145) rfl) rfl rfl rfl rfl rfl (by decide +kernel) (by decide +kernel) ⟨fun _ => ⟨_, rfl⟩, fun h => absurd h (by decide +kernel), fun h => absurd h (by decide +kernel)⟩ (by decide +kernel) (by rw [zy_bz_n (by omega)]; omega) (by rw [zy_bz_n (by omega)]; omega) (by decide) (fun H3 locs3 ws3 hx3 hm3 hp3 hf3 => ?_)
  refine lv_iconst (v := nI 0) hx0 hb0 rfl (by decide) ?_
  refine zv_sto hB hx3 (i := 1) (by decide) (Or.inl ⟨1, rfl, rfl, rfl⟩) rfl (zv_cat l0 (by show (1 : Nat) ≠ 2; decide)) (fun lsA hxA q1 q2 => ?_)
  refine zo_tw_c hB hsz hp3 ?_ sz 0 ws3 lsA _ _ _ (by omega) (Nat.zero_le _) hxA zv_Fm_rf (q2 0 _ (by decide) l0) q1
  intro ws4 ls4 H4 locs4 tys4 hx4 hF4 l0
  refine lv_aload_n hx0 hb0 rfl rfl l0 ?_
  refine lv_iconst (v := nI 0) hx0 hb0 rfl (by decide) ?_
  refine zv_put hB hx4 (q := (12, 297, 12, 2, 6, 103)) (f := 2) (lo := 2147483648) (hi2 := 2147485248) (y := nI 0) (List.mem_of_getElem? (i := 8) rfl) rfl rfl rfl rfl rfl (by decide +kernel) (by decide +kernel) ⟨fun _ => ⟨_, rfl⟩, fun h => absurd h (by decide +kernel), fun h => absurd h (by decide +kernel)⟩ (by decide +kernel) (by rw [zy_bz_n (by omega)]; omega) (by rw [zy_bz_n (by omega)]; omega) (by decide) (fun H5 locs5 ws5 hx5 hm5 hp5 hf5 => ?_)
  refine lv_aload_n hx0 hb0 rfl rfl l0 ?_
  refine lv_iconst (v := nI 0) hx0 hb0 rfl (by decide) ?_
  refine zv_put hB hx5 (q := (12, 232, 12, 7, 6, 108)) (f := 7) (lo := 2147483648) (hi2 := 2147485249) (y := nI 0) (List.mem_of_getElem? (i := 148) rfl) rfl rfl rfl rfl rfl (by decide +kernel) (by decide +kernel) ⟨fun _ => ⟨_, rfl⟩, fun h => absurd h (by decide +kernel), fun h => absurd h (by decide +kernel)⟩ (by decide +kernel) (by rw [zy_bz_n (by omega)]; omega) (by rw [zy_bz_n (by omega)]; omega) (by decide) (fun H6 locs6 ws6 hx6 hm6 hp6 hf6 => ?_)
  have p3 : ∀ f, f ≠ 4 → f ≠ 5 → f ≠ 3 → zy_rd ws3 (zy_ru Z 29) f 0 = zy_rd ws (zy_ru Z 29) f 0 := fun f h1 h2 h3 => (hf3 _ _ _ (fun z => h3 z.2)).trans ((hf2 _ _ _ (fun z => h2 z.2)).trans (hf1 _ _ _ (fun z => h1 z.2)))
  have p4 : ∀ f, f < 128 → f ≠ 0 → zy_rd ws4 (zy_ru Z 29) f 0 = zy_rd ws3 (zy_ru Z 29) f 0 := fun f h1 h2 => zv_Fm_r H hF4 (r := 29) (g := 41) (by decide) (by decide) rfl h1 (fun z => h2 z.2)
  have p6 : ∀ f, f ≠ 2 → f ≠ 7 → zy_rd ws6 (zy_ru Z 29) f 0 = zy_rd ws4 (zy_ru Z 29) f 0 := fun f h1 h2 => (hf6 _ _ _ (fun z => h2 z.2)).trans (hf5 _ _ _ (fun z => h1 z.2))
  have k43 : zy_rd ws6 (zy_ru Z 29) 43 0 = some (.int (nI bk)) := (p6 43 (by decide) (by decide)).trans ((p4 43 (by decide) (by decide)).trans ((p3 43 (by decide) (by decide) (by decide)).trans f43))
  refine lv_aload_n hx0 hb0 rfl rfl l0 ?_
  refine lv_iconst (v := nI 1) hx0 hb0 rfl (by decide) ?_
  refine lv_aload_n hx0 hb0 rfl rfl l0 ?_
  refine zv_get hB hx6 (q := (12, 300, 12, 43, 6, 144)) (List.mem_of_getElem? (i := 1) rfl) rfl rfl rfl rfl rfl k43 ?_
  refine lv_isub hx0 hb0 rfl ?_
  rw [zv_sub (by omega)]
  refine zv_put hB hx6 (q := (12, 291, 12, 44, 6, 145)) (f := 44) (lo := 2147483648) (hi2 := 2147483649) (y := nI (1 - bk)) (List.mem_of_getElem? (i := 149) rfl) rfl rfl rfl rfl rfl (by decide +kernel) (by decide +kernel) ⟨fun _ => ⟨_, rfl⟩, fun h => absurd h (by decide +kernel), fun h => absurd h (by decide +kernel)⟩ (by decide +kernel) (by rw [zy_bz_n (by omega)]; omega) (by rw [zy_bz_n (by omega)]; omega) (by decide) (fun H7 locs7 ws7 hx7 hm7 hp7 hf7 => ?_)
  refine lv_aload_n hx0 hb0 rfl rfl l0 ?_
  refine zv_ivM (As := []) (rest := []) (q := (12, 170, 267, 0, 6, 93)) (y := zm_267) (zo_clr H HU (b := 1 - bk) (by omega)) hB hx7 (List.mem_of_getElem? (i := 270) rfl) rfl rfl rfl (by decide) rfl (by decide) rfl rfl (Nat.zero_le _) ⟨rfl, hp7⟩ rfl (Nat.le_of_ble_eq_true rfl) ?_
  intro vs8 tys8 ws8 H8 locs8 hn8 hq8 hx8
  obtain ⟨rfl, hF8, h8H, h8c⟩ := hq8
  have p8 : ∀ f, f < 128 → f ≠ 0 → f ≠ 45 → zy_rd ws8 (zy_ru Z 29) f 0 = zy_rd ws7 (zy_ru Z 29) f 0 := fun f h1 h2 h3 => zv_Fm_r H hF8 (r := 29) (g := 41) (by decide) (by decide) rfl h1 (fun z => by
    rcases z with z | z
    · exact h3 z.2
    · exact h2 z.1)
  have p7 : ∀ f, f ≠ 44 → zy_rd ws7 (zy_ru Z 29) f 0 = zy_rd ws6 (zy_ru Z 29) f 0 := fun f h1 => hf7 _ _ _ (fun z => h1 z.2)
  have e7 : zy_rd ws8 (zy_ru Z 29) 7 0 = some (.int (nI 0)) := (p8 7 (by decide) (by decide) (by decide)).trans ((p7 7 (by decide)).trans hp6)
  refine lv_aload_n hx0 hb0 rfl rfl l0 ?_
  refine zv_ivM (As := []) (rest := []) (q := (12, 274, 238, 0, 7, 82)) (y := zm_238) (zo_go2 H HU) hB hx8 (List.mem_of_getElem? (i := 271) rfl) rfl rfl rfl (by decide) rfl (by decide) rfl rfl (by omega) ⟨rfl, 0, by decide, e7⟩ rfl (Nat.le_of_ble_eq_true rfl) ?_
  intro vs9 tys9 ws9 H9 locs9 hn9 hq9 hx9
  obtain ⟨rfl, hF9, hen9, h94⟩ := hq9
  have p9 : ∀ f, f < 128 → f ∉ [4, 5, 6, 7, 8, 9, 10] → zy_rd ws9 (zy_ru Z 29) f 0 = zy_rd ws8 (zy_ru Z 29) f 0 := fun f h1 h2 => zv_Fm_r H hF9 (r := 29) (g := 41) (by decide) (by decide) rfl h1 (fun z => h2 z.2)
  have ar7 : ∀ r g a, 0 < r → r < 100 → zy_fg[r]? = some g → g ≠ 41 → g ≠ 43 → zy_rd ws7 (zy_ru Z r) 0 a = zy_rd ws (zy_ru Z r) 0 a := fun r g a q1 q2 q3 q4 q5 => by
    have ne : zy_ru Z r ≠ zy_ru Z 29 := zv_ne H q1 q2 q3 (r' := 29) (g' := 41) (by decide) (by decide) rfl q4
    rw [hf7 _ _ _ (fun z => ne z.1), hf6 _ _ _ (fun z => ne z.1), hf5 _ _ _ (fun z => ne z.1), zv_Fm_r H hF4 q1 q2 q3 (by decide) (fun z => zv_ne H q1 q2 q3 (r' := 31) (g' := 43) (by decide) (by decide) rfl q5 z.1), hf3 _ _ _ (fun z => ne z.1), hf2 _ _ _ (fun z => ne z.1), hf1 _ _ _ (fun z => ne z.1)]
  have ar9 : ∀ r g a, 0 < r → r < 100 → zy_fg[r]? = some g → g ≠ 41 → zy_rd ws9 (zy_ru Z r) 0 a = zy_rd ws8 (zy_ru Z r) 0 a := fun r g a q1 q2 q3 q4 => zv_Fm_r H hF9 q1 q2 q3 (by decide) (fun z => zv_ne H q1 q2 q3 (r' := 29) (g' := 41) (by decide) (by decide) rfl q4 z.1)
  have big : ∀ f, f < 128 → f ∉ [0, 2, 3, 4, 5, 6, 7, 8, 9, 10, 44, 45] → zy_rd ws9 (zy_ru Z 29) f 0 = zy_rd ws (zy_ru Z 29) f 0 := fun f h1 h2 => by
    simp at h2
    rw [p9 f h1 (by simp; omega), p8 f h1 (by omega) (by omega), p7 f (by omega), p6 f (by omega) (by omega), p4 f h1 (by omega), p3 f (by omega) (by omega) (by omega)]
  have g44 : zy_rd ws9 (zy_ru Z 29) 44 0 = some (.int (nI (1 - bk))) := (p9 44 (by decide) (by decide)).trans ((p8 44 (by decide) (by decide) (by decide)).trans hp7)
  have hGR : zy_GR (zy_gl Z) ws9 := zt_GR H HU hbk rfl hGV f43 ((big 43 (by decide) (by decide)).trans f43) g44 ((p9 45 (by decide) (by decide)).trans h8c) ((ar9 56 68 _ (by decide) (by decide) rfl (by decide)).trans h8H) ((ar9 56 68 _ (by decide) (by decide) rfl (by decide)).trans ((zt_cb_r H hF8 (r := 56) (g := 68) (by decide) (by decide) rfl (by decide) (Or.inl (by omega))).trans (ar7 56 68 _ (by decide) (by decide) rfl (by decide) (by decide)))) (fun a => (ar9 47 59 a (by decide) (by decide) rfl (by decide)).trans ((zt_cb_r H hF8 (r := 47) (g := 59) (by decide) (by decide) rfl (by decide) (Or.inr (by decide))).trans (ar7 47 59 a (by decide) (by decide) rfl (by decide) (by decide)))) (fun a => (ar9 48 60 a (by decide) (by decide) rfl (by decide)).trans ((zt_cb_r H hF8 (r := 48) (g := 60) (by decide) (by decide) rfl (by decide) (Or.inr (by decide))).trans (ar7 48 60 a (by decide) (by decide) rfl (by decide) (by decide)))) (fun a => (ar9 59 71 a (by decide) (by decide) rfl (by decide)).trans ((zt_cb_r H hF8 (r := 59) (g := 71) (by decide) (by decide) rfl (by decide) (Or.inr (by decide))).trans (ar7 59 71 a (by decide) (by decide) rfl (by decide) (by decide))))
  have hFm : zv_Fm Z ws ws9 (zt_E Z) := zt_tr (zt_tr (zt_tr (zt_tr (zt_tr (zt_tr (zt_tr (zt_tr (zt_put H (by decide +kernel) hm1 hf1) (zt_put H (by decide +kernel) hm2 hf2)) (zt_put H (by decide +kernel) hm3 hf3)) (zv_Fm_tr hF4 (E2 := zt_E Z) zv_Fm_rf (fun j f a z => ⟨43, by rw [z.1]; exact (H.2.2.2 31 43 (by decide) (by decide) rfl).1, by rw [z.2]; decide +kernel⟩) (fun _ _ _ z => z))) (zt_put H (by decide +kernel) hm5 hf5)) (zt_put H (by decide +kernel) hm6 hf6)) (zt_put H (by decide +kernel) hm7 hf7)) (zv_Fm_tr hF8 (E2 := zt_E Z) zv_Fm_rf (fun j f a z => zt_cb_E H z) (fun _ _ _ z => z))) (zv_Fm_tr hF9 (E2 := zt_E Z) zv_Fm_rf (fun j f a z => zt_lx_E H z) (fun _ _ _ z => z))
  obtain ⟨w0, y0, z0, t0⟩ := zv_el H hx9.1.2.2.2 (r := 32) (g := 44) (by decide) (by decide) rfl (by decide) rfl (by decide) (i := 1 - bk) (show 1 - bk < 2 by omega)
  obtain ⟨n0, b0, rfl⟩ := zv_nn (n := 4) z0 t0
  obtain ⟨w1, y1, z1, t1⟩ := zv_el H hx9.1.2.2.2 (r := 33) (g := 45) (by decide) (by decide) rfl (by decide) rfl (by decide) (i := 1 - bk) (show 1 - bk < 2 by omega)
  obtain ⟨n1, b1, rfl⟩ := zv_nn (n := 10) z1 t1
  obtain ⟨w2, y2, z2, t2⟩ := zv_el H hx9.1.2.2.2 (r := 34) (g := 46) (by decide) (by decide) rfl (by decide) rfl (by decide) (i := 1 - bk) (show 1 - bk < 2 by omega)
  obtain ⟨n2, b2, rfl⟩ := zv_nn (n := 6) z2 t2
  obtain ⟨w3, y3, z3, t3⟩ := zv_el H hx9.1.2.2.2 (r := 56) (g := 68) (by decide) (by decide) rfl (by decide) rfl (by decide) (i := 1 - bk) (show 1 - bk < 2 by omega)
  obtain ⟨n3, b3, rfl⟩ := zv_nn (n := 1) z3 t3
  obtain ⟨w4, y4, z4, t4⟩ := zv_el H hx9.1.2.2.2 (r := 54) (g := 66) (by decide) (by decide) rfl (by decide) rfl (by decide) (i := 1 - bk) (show 1 - bk < 2 by omega)
  obtain ⟨n4, b4, rfl⟩ := zv_nn (n := 1) z4 t4
  obtain ⟨w5, y5, z5, t5⟩ := zv_el H hx9.1.2.2.2 (r := 55) (g := 67) (by decide) (by decide) rfl (by decide) rfl (by decide) (i := 1 - bk) (show 1 - bk < 2 by omega)
  obtain ⟨n5, b5, rfl⟩ := zv_nn (n := 1) z5 t5
  obtain ⟨ac, un, hau, a1, a2⟩ := hAU
  have f4 : zy_rd ws9 (zy_ru Z 29) 4 0 = some (.int (nI 0)) := h94.trans ((p8 4 (by decide) (by decide) (by decide)).trans ((p7 4 (by decide)).trans ((p6 4 (by decide) (by decide)).trans ((p4 4 (by decide) (by decide)).trans ((hf3 _ _ _ (fun z => absurd z.2 (by decide))).trans ((hf2 _ _ _ (fun z => absurd z.2 (by decide))).trans hp1))))))
  have hT : zt_T Z (1 - bk) ws 25 ws9 := ⟨hFm, ⟨ac, un, hau, (big 52 (by decide) (by decide)).trans a1, (big 53 (by decide) (by decide)).trans a2⟩, g44, hGR, hen9, Or.inr ⟨f4, n0, n1, n2, n3, n4, n5, ⟨⟨b0, b1, b2, b3, b4, b5⟩, y0, y1, y2, y3, y4, y5⟩, by unfold zt_m; omega⟩⟩
  rcases (show bk = 0 ∨ bk = 1 by omega) with rfl | rfl
  · exact zo_tw_l hB (by omega) (b := 1) (by decide) (fun v ws' h1 h2 h3 => ⟨⟨v, rfl⟩, h1, h2, h3⟩) (zo_ln1 HH HU) l0 25 ws9 H9 locs9 tys9 hx9 hT
  · exact zo_tw_l hB (by omega) (b := 0) (by decide) (fun v ws' h1 h2 h3 => ⟨⟨v, rfl⟩, h1, h2, h3⟩) (zo_ln0 HH HU) l0 25 ws9 H9 locs9 tys9 hx9 hT
end ZTT
