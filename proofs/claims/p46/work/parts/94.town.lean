/-! town of the reference -/
def zt_cb (Z : zy_V) (b j f a : Nat) : Prop := (j = zy_ru Z 29 ∧ f = 45) ∨ (f = 0 ∧ a = b ∧ ∃ r, r ∈ [32, 33, 34, 35, 36, 37, 49, 50, 51, 52, 53, 54, 55, 56] ∧ j = zy_ru Z r)
def zt_E (Z : zy_V) (j f _ : Nat) : Prop := ∃ g, (zy_gl Z)[j]? = some g ∧ zq_86.1.2.2.1.testBit (128 * g + f) = true
def zt_AU (Z : zy_V) (ws : va_W) : Prop := ∃ a u, a + u ≤ 40 ∧ zy_rd ws (zy_ru Z 29) 52 0 = some (.int (nI a)) ∧ zy_rd ws (zy_ru Z 29) 53 0 = some (.int (nI u))
section ZTW
variable {l : Launch} {D : va_G} {N0 : Nat} {Z : zy_V} {p : Program} {en : Env} {R : Room} {s : State} {m : MethodId} {args : Array Value} {below : List Frame} {meth : Method} {c : Code}
theorem zt_tr {ws ws' ws2 : va_W} (h1 : zv_Fm Z ws ws' (zt_E Z)) (h2 : zv_Fm Z ws' ws2 (zt_E Z)) : zv_Fm Z ws ws2 (zt_E Z) := zv_Fm_tr h1 h2 (fun _ _ _ z => z) (fun _ _ _ z => z)
theorem zt_un {ws ws' : va_W} {Wm : Nat} (h : zy_UN (zy_gl Z) Wm ws ws') (hs : Nat.beq (Nat.land zq_86.1.2.2.1 Wm) Wm = true) : zv_Fm Z ws ws' (zt_E Z) := zv_Fm_un (zy_UN_sub h hs)
theorem zt_put (H : zy_H0 Z) {ws ws' : va_W} {f0 : Nat} (hb : zq_86.1.2.2.1.testBit (5248 + f0) = true) (hm : ws'.map (fun w => w.1) = ws.map (fun w => w.1)) (hf : ∀ j f2 a, ¬ (j = zy_ru Z 29 ∧ f2 = f0) → zy_rd ws' j f2 a = zy_rd ws j f2 a) : zv_Fm Z ws ws' (zt_E Z) := ⟨hm, fun j g f a hg _ hE => hf j f a (fun z => hE ⟨41, by rw [z.1]; exact (H.2.2.2 29 41 (by decide) (by decide) rfl).1, by rw [z.2]; exact hb⟩)⟩
theorem zt_byte {y : Int32} (h1 : 2147483520 ≤ zx_bz y) (h2 : zx_bz y ≤ 2147483775) : vp_nar .byte y = y := by
  have h3 : ∀ j, j < 256 → vp_nar .byte (nI (zx_bi (2147483520 + j))) = nI (zx_bi (2147483520 + j)) := by decide +kernel
  have h4 := zx_of_bz y
  have h5 := h3 (zx_bz y - 2147483520) (by omega)
  rw [show 2147483520 + (zx_bz y - 2147483520) = zx_bz y by omega, ← h4] at h5
  exact h5
set_option maxHeartbeats 2000000 in
set_option maxRecDepth 20000 in
theorem zo_clr (H : zy_H0 Z) (HU : zy_UQ zy_fg Z) {b : Nat} (hb : b ≤ 1) : zy_OkP l D N0 zy_T Z 267 0 (fun av ws => av = [.ref (zy_fa1 Z 29)] ∧ zy_rd ws (zy_ru Z 29) 44 0 = some (.int (nI b))) (fun _ ws vs ws' => vs = [] ∧ zv_Fm Z ws ws' (zt_cb Z b) ∧ zy_rd ws' (zy_ru Z 56) 0 b = some (.int (nI 0)) ∧ zy_rd ws' (zy_ru Z 29) 45 0 = some (.int (nI (560 * b)))) := by
  have hmul : nI 560 * nI b = nI (560 * b) := by rcases (show b = 0 ∨ b = 1 by omega) with rfl | rfl <;> decide
  refine zy_handP (y := zm_267) H HU rfl (fun av ws h => by rw [h.1]; exact Nat.le_of_ble_eq_true rfl) ?_
  intro d hd av tys ws ⟨e, f44⟩ p en R s m below meth c hB ls hl hx
  subst e
  have l0 : ls[0]? = some (.val (.ref (zy_fa1 Z 29))) := hl (0, _) (List.mem_of_getElem? (i := 0) rfl)
  obtain ⟨hx0, hb0, -⟩ := hB.2.2.1 Z (zy_le_rf Z)
  refine lv_aload_n hx0 hb0 rfl rfl l0 ?_
  refine zv_getA hB hx (q := (12, 20, 12, 11, 6, 112)) (r := 32) (g := 44) (List.mem_of_getElem? (i := 0) rfl) rfl rfl rfl rfl rfl (by decide) (by decide) (by decide) (by decide) (by decide +kernel) ?_
  refine lv_aload_n hx0 hb0 rfl rfl l0 ?_
  refine zv_get hB hx (q := (12, 291, 12, 44, 6, 145)) (List.mem_of_getElem? (i := 149) rfl) rfl rfl rfl rfl rfl f44 ?_
  refine lv_iconst (v := nI 0) hx0 hb0 rfl (by decide) ?_
  refine zv_ast hB hx (r := 32) (g := 44) (by decide) (by decide) rfl (by decide) rfl (by decide) rfl (show b < 2 by omega) (by decide) (by decide +kernel) (by decide +kernel) (fun H1 locs1 ws1 hx1 hm1 hp1 hf1 => ?_)
  have F1 : zv_Fm Z ws ws1 (zt_cb Z b) := ⟨hm1, fun j g f a _ _ hE => hf1 j f a (fun z => hE (Or.inr ⟨z.2.1, z.2.2, 32, by decide, z.1⟩))⟩
  have r1 : zy_rd ws1 (zy_ru Z 29) 44 0 = some (.int (nI b)) := (hf1 _ _ _ (fun z => absurd z.2.1 (by decide))).trans f44
  refine lv_aload_n hx0 hb0 rfl rfl l0 ?_
  refine zv_getA hB hx1 (q := (12, 24, 12, 12, 6, 113)) (r := 33) (g := 45) (List.mem_of_getElem? (i := 11) rfl) rfl rfl rfl rfl rfl (by decide) (by decide) (by decide) (by decide) (by decide +kernel) ?_
  refine lv_aload_n hx0 hb0 rfl rfl l0 ?_
  refine zv_get hB hx1 (q := (12, 291, 12, 44, 6, 145)) (List.mem_of_getElem? (i := 149) rfl) rfl rfl rfl rfl rfl r1 ?_
  refine lv_iconst (v := nI 0) hx0 hb0 rfl (by decide) ?_
  refine zv_ast hB hx1 (r := 33) (g := 45) (by decide) (by decide) rfl (by decide) rfl (by decide) rfl (show b < 2 by omega) (by decide) (by decide +kernel) (by decide +kernel) (fun H2 locs2 ws2 hx2 hm2 hp2 hf2 => ?_)
  have F2 : zv_Fm Z ws ws2 (zt_cb Z b) := zv_Fm_tr F1 (E2 := zt_cb Z b) ⟨hm2, fun j g f a _ _ hE => hf2 j f a (fun z => hE (Or.inr ⟨z.2.1, z.2.2, 33, by decide, z.1⟩))⟩ (fun _ _ _ z => z) (fun _ _ _ z => z)
  have r2 : zy_rd ws2 (zy_ru Z 29) 44 0 = some (.int (nI b)) := (hf2 _ _ _ (fun z => absurd z.2.1 (by decide))).trans r1
  refine lv_aload_n hx0 hb0 rfl rfl l0 ?_
  refine zv_getA hB hx2 (q := (12, 27, 12, 13, 6, 114)) (r := 34) (g := 46) (List.mem_of_getElem? (i := 2) rfl) rfl rfl rfl rfl rfl (by decide) (by decide) (by decide) (by decide) (by decide +kernel) ?_
  refine lv_aload_n hx0 hb0 rfl rfl l0 ?_
  refine zv_get hB hx2 (q := (12, 291, 12, 44, 6, 145)) (List.mem_of_getElem? (i := 149) rfl) rfl rfl rfl rfl rfl r2 ?_
  refine lv_iconst (v := nI 0) hx0 hb0 rfl (by decide) ?_
  refine zv_ast hB hx2 (r := 34) (g := 46) (by decide) (by decide) rfl (by decide) rfl (by decide) rfl (show b < 2 by omega) (by decide) (by decide +kernel) (by decide +kernel) (fun H3 locs3 ws3 hx3 hm3 hp3 hf3 => ?_)
  have F3 : zv_Fm Z ws ws3 (zt_cb Z b) := zv_Fm_tr F2 (E2 := zt_cb Z b) ⟨hm3, fun j g f a _ _ hE => hf3 j f a (fun z => hE (Or.inr ⟨z.2.1, z.2.2, 34, by decide, z.1⟩))⟩ (fun _ _ _ z => z) (fun _ _ _ z => z)
  have r3 : zy_rd ws3 (zy_ru Z 29) 44 0 = some (.int (nI b)) := (hf3 _ _ _ (fun z => absurd z.2.1 (by decide))).trans r2
  refine lv_aload_n hx0 hb0 rfl rfl l0 ?_
  refine zv_getA hB hx3 (q := (12, 30, 12, 14, 6, 115)) (r := 35) (g := 47) (List.mem_of_getElem? (i := 9) rfl) rfl rfl rfl rfl rfl (by decide) (by decide) (by decide) (by decide) (by decide +kernel) ?_
  refine lv_aload_n hx0 hb0 rfl rfl l0 ?_
  refine zv_get hB hx3 (q := (12, 291, 12, 44, 6, 145)) (List.mem_of_getElem? (i := 149) rfl) rfl rfl rfl rfl rfl r3 ?_
  refine lv_iconst (v := nI 0) hx0 hb0 rfl (by decide) ?_
  refine zv_ast hB hx3 (r := 35) (g := 47) (by decide) (by decide) rfl (by decide) rfl (by decide) rfl (show b < 2 by omega) (by decide) (by decide +kernel) (by decide +kernel) (fun H4 locs4 ws4 hx4 hm4 hp4 hf4 => ?_)
  have F4 : zv_Fm Z ws ws4 (zt_cb Z b) := zv_Fm_tr F3 (E2 := zt_cb Z b) ⟨hm4, fun j g f a _ _ hE => hf4 j f a (fun z => hE (Or.inr ⟨z.2.1, z.2.2, 35, by decide, z.1⟩))⟩ (fun _ _ _ z => z) (fun _ _ _ z => z)
  have r4 : zy_rd ws4 (zy_ru Z 29) 44 0 = some (.int (nI b)) := (hf4 _ _ _ (fun z => absurd z.2.1 (by decide))).trans r3
  refine lv_aload_n hx0 hb0 rfl rfl l0 ?_
  refine zv_getA hB hx4 (q := (12, 33, 12, 15, 6, 116)) (r := 36) (g := 48) (List.mem_of_getElem? (i := 153) rfl) rfl rfl rfl rfl rfl (by decide) (by decide) (by decide) (by decide) (by decide +kernel) ?_
  refine lv_aload_n hx0 hb0 rfl rfl l0 ?_
  refine zv_get hB hx4 (q := (12, 291, 12, 44, 6, 145)) (List.mem_of_getElem? (i := 149) rfl) rfl rfl rfl rfl rfl r4 ?_
  refine lv_iconst (v := nI 0) hx0 hb0 rfl (by decide) ?_
  refine zv_ast hB hx4 (r := 36) (g := 48) (by decide) (by decide) rfl (by decide) rfl (by decide) rfl (show b < 2 by omega) (by decide) (by decide +kernel) (by decide +kernel) (fun H5 locs5 ws5 hx5 hm5 hp5 hf5 => ?_)
  have F5 : zv_Fm Z ws ws5 (zt_cb Z b) := zv_Fm_tr F4 (E2 := zt_cb Z b) ⟨hm5, fun j g f a _ _ hE => hf5 j f a (fun z => hE (Or.inr ⟨z.2.1, z.2.2, 36, by decide, z.1⟩))⟩ (fun _ _ _ z => z) (fun _ _ _ z => z)
  have r5 : zy_rd ws5 (zy_ru Z 29) 44 0 = some (.int (nI b)) := (hf5 _ _ _ (fun z => absurd z.2.1 (by decide))).trans r4
  refine lv_aload_n hx0 hb0 rfl rfl l0 ?_
  refine zv_getA hB hx5 (q := (12, 36, 12, 16, 6, 117)) (r := 37) (g := 49) (List.mem_of_getElem? (i := 154) rfl) rfl rfl rfl rfl rfl (by decide) (by decide) (by decide) (by decide) (by decide +kernel) ?_
  refine lv_aload_n hx0 hb0 rfl rfl l0 ?_
  refine zv_get hB hx5 (q := (12, 291, 12, 44, 6, 145)) (List.mem_of_getElem? (i := 149) rfl) rfl rfl rfl rfl rfl r5 ?_
  refine lv_iconst (v := nI 0) hx0 hb0 rfl (by decide) ?_
  refine zv_ast hB hx5 (r := 37) (g := 49) (by decide) (by decide) rfl (by decide) rfl (by decide) rfl (show b < 2 by omega) (by decide) (by decide +kernel) (by decide +kernel) (fun H6 locs6 ws6 hx6 hm6 hp6 hf6 => ?_)
  have F6 : zv_Fm Z ws ws6 (zt_cb Z b) := zv_Fm_tr F5 (E2 := zt_cb Z b) ⟨hm6, fun j g f a _ _ hE => hf6 j f a (fun z => hE (Or.inr ⟨z.2.1, z.2.2, 37, by decide, z.1⟩))⟩ (fun _ _ _ z => z) (fun _ _ _ z => z)
  have r6 : zy_rd ws6 (zy_ru Z 29) 44 0 = some (.int (nI b)) := (hf6 _ _ _ (fun z => absurd z.2.1 (by decide))).trans r5
  refine lv_aload_n hx0 hb0 rfl rfl l0 ?_
  refine zv_getA hB hx6 (q := (12, 72, 12, 28, 6, 129)) (r := 49) (g := 61) (List.mem_of_getElem? (i := 151) rfl) rfl rfl rfl rfl rfl (by decide) (by decide) (by decide) (by decide) (by decide +kernel) ?_
  refine lv_aload_n hx0 hb0 rfl rfl l0 ?_
  refine zv_get hB hx6 (q := (12, 291, 12, 44, 6, 145)) (List.mem_of_getElem? (i := 149) rfl) rfl rfl rfl rfl rfl r6 ?_
  refine lv_iconst (v := nI 0) hx0 hb0 rfl (by decide) ?_
  refine zv_ast hB hx6 (r := 49) (g := 61) (by decide) (by decide) rfl (by decide) rfl (by decide) rfl (show b < 2 by omega) (by decide) (by decide +kernel) (by decide +kernel) (fun H7 locs7 ws7 hx7 hm7 hp7 hf7 => ?_)
  have F7 : zv_Fm Z ws ws7 (zt_cb Z b) := zv_Fm_tr F6 (E2 := zt_cb Z b) ⟨hm7, fun j g f a _ _ hE => hf7 j f a (fun z => hE (Or.inr ⟨z.2.1, z.2.2, 49, by decide, z.1⟩))⟩ (fun _ _ _ z => z) (fun _ _ _ z => z)
  have r7 : zy_rd ws7 (zy_ru Z 29) 44 0 = some (.int (nI b)) := (hf7 _ _ _ (fun z => absurd z.2.1 (by decide))).trans r6
  refine lv_aload_n hx0 hb0 rfl rfl l0 ?_
  refine zv_getA hB hx7 (q := (12, 75, 12, 29, 6, 130)) (r := 50) (g := 62) (List.mem_of_getElem? (i := 152) rfl) rfl rfl rfl rfl rfl (by decide) (by decide) (by decide) (by decide) (by decide +kernel) ?_
  refine lv_aload_n hx0 hb0 rfl rfl l0 ?_
  refine zv_get hB hx7 (q := (12, 291, 12, 44, 6, 145)) (List.mem_of_getElem? (i := 149) rfl) rfl rfl rfl rfl rfl r7 ?_
  refine lv_iconst (v := nI 0) hx0 hb0 rfl (by decide) ?_
  refine zv_ast hB hx7 (r := 50) (g := 62) (by decide) (by decide) rfl (by decide) rfl (by decide) rfl (show b < 2 by omega) (by decide) (by decide +kernel) (by decide +kernel) (fun H8 locs8 ws8 hx8 hm8 hp8 hf8 => ?_)
  have F8 : zv_Fm Z ws ws8 (zt_cb Z b) := zv_Fm_tr F7 (E2 := zt_cb Z b) ⟨hm8, fun j g f a _ _ hE => hf8 j f a (fun z => hE (Or.inr ⟨z.2.1, z.2.2, 50, by decide, z.1⟩))⟩ (fun _ _ _ z => z) (fun _ _ _ z => z)
  have r8 : zy_rd ws8 (zy_ru Z 29) 44 0 = some (.int (nI b)) := (hf8 _ _ _ (fun z => absurd z.2.1 (by decide))).trans r7
  refine lv_aload_n hx0 hb0 rfl rfl l0 ?_
  refine zv_getA hB hx8 (q := (12, 78, 12, 30, 6, 131)) (r := 51) (g := 63) (List.mem_of_getElem? (i := 58) rfl) rfl rfl rfl rfl rfl (by decide) (by decide) (by decide) (by decide) (by decide +kernel) ?_
  refine lv_aload_n hx0 hb0 rfl rfl l0 ?_
  refine zv_get hB hx8 (q := (12, 291, 12, 44, 6, 145)) (List.mem_of_getElem? (i := 149) rfl) rfl rfl rfl rfl rfl r8 ?_
  refine lv_iconst (v := nI 0) hx0 hb0 rfl (by decide) ?_
  refine zv_ast hB hx8 (r := 51) (g := 63) (by decide) (by decide) rfl (by decide) rfl (by decide) rfl (show b < 2 by omega) (by decide) (by decide +kernel) (by decide +kernel) (fun H9 locs9 ws9 hx9 hm9 hp9 hf9 => ?_)
  have F9 : zv_Fm Z ws ws9 (zt_cb Z b) := zv_Fm_tr F8 (E2 := zt_cb Z b) ⟨hm9, fun j g f a _ _ hE => hf9 j f a (fun z => hE (Or.inr ⟨z.2.1, z.2.2, 51, by decide, z.1⟩))⟩ (fun _ _ _ z => z) (fun _ _ _ z => z)
  have r9 : zy_rd ws9 (zy_ru Z 29) 44 0 = some (.int (nI b)) := (hf9 _ _ _ (fun z => absurd z.2.1 (by decide))).trans r8
  refine lv_aload_n hx0 hb0 rfl rfl l0 ?_
  refine zv_getA hB hx9 (q := (12, 81, 12, 31, 6, 132)) (r := 52) (g := 64) (List.mem_of_getElem? (i := 108) rfl) rfl rfl rfl rfl rfl (by decide) (by decide) (by decide) (by decide) (by decide +kernel) ?_
  refine lv_aload_n hx0 hb0 rfl rfl l0 ?_
  refine zv_get hB hx9 (q := (12, 291, 12, 44, 6, 145)) (List.mem_of_getElem? (i := 149) rfl) rfl rfl rfl rfl rfl r9 ?_
  refine lv_iconst (v := nI 0) hx0 hb0 rfl (by decide) ?_
  refine zv_ast hB hx9 (r := 52) (g := 64) (by decide) (by decide) rfl (by decide) rfl (by decide) rfl (show b < 2 by omega) (by decide) (by decide +kernel) (by decide +kernel) (fun H10 locs10 ws10 hx10 hm10 hp10 hf10 => ?_)
  have F10 : zv_Fm Z ws ws10 (zt_cb Z b) := zv_Fm_tr F9 (E2 := zt_cb Z b) ⟨hm10, fun j g f a _ _ hE => hf10 j f a (fun z => hE (Or.inr ⟨z.2.1, z.2.2, 52, by decide, z.1⟩))⟩ (fun _ _ _ z => z) (fun _ _ _ z => z)
  have r10 : zy_rd ws10 (zy_ru Z 29) 44 0 = some (.int (nI b)) := (hf10 _ _ _ (fun z => absurd z.2.1 (by decide))).trans r9
  refine lv_aload_n hx0 hb0 rfl rfl l0 ?_
  refine zv_getA hB hx10 (q := (12, 84, 12, 32, 6, 133)) (r := 53) (g := 65) (List.mem_of_getElem? (i := 49) rfl) rfl rfl rfl rfl rfl (by decide) (by decide) (by decide) (by decide) (by decide +kernel) ?_
  refine lv_aload_n hx0 hb0 rfl rfl l0 ?_
  refine zv_get hB hx10 (q := (12, 291, 12, 44, 6, 145)) (List.mem_of_getElem? (i := 149) rfl) rfl rfl rfl rfl rfl r10 ?_
  refine lv_iconst (v := nI 0) hx0 hb0 rfl (by decide) ?_
  refine zv_ast hB hx10 (r := 53) (g := 65) (by decide) (by decide) rfl (by decide) rfl (by decide) rfl (show b < 2 by omega) (by decide) (by decide +kernel) (by decide +kernel) (fun H11 locs11 ws11 hx11 hm11 hp11 hf11 => ?_)
  have F11 : zv_Fm Z ws ws11 (zt_cb Z b) := zv_Fm_tr F10 (E2 := zt_cb Z b) ⟨hm11, fun j g f a _ _ hE => hf11 j f a (fun z => hE (Or.inr ⟨z.2.1, z.2.2, 53, by decide, z.1⟩))⟩ (fun _ _ _ z => z) (fun _ _ _ z => z)
  have r11 : zy_rd ws11 (zy_ru Z 29) 44 0 = some (.int (nI b)) := (hf11 _ _ _ (fun z => absurd z.2.1 (by decide))).trans r10
  refine lv_aload_n hx0 hb0 rfl rfl l0 ?_
  refine zv_getA hB hx11 (q := (12, 87, 12, 33, 6, 134)) (r := 54) (g := 66) (List.mem_of_getElem? (i := 156) rfl) rfl rfl rfl rfl rfl (by decide) (by decide) (by decide) (by decide) (by decide +kernel) ?_
  refine lv_aload_n hx0 hb0 rfl rfl l0 ?_
  refine zv_get hB hx11 (q := (12, 291, 12, 44, 6, 145)) (List.mem_of_getElem? (i := 149) rfl) rfl rfl rfl rfl rfl r11 ?_
  refine lv_iconst (v := nI 0) hx0 hb0 rfl (by decide) ?_
  refine zv_ast2 hB hx11 (r := 54) (g := 66) (i := b) (y := nI 0) (by decide) (by decide) rfl (by decide) rfl (by decide) (Or.inr ⟨Or.inr (by decide), rfl⟩) rfl rfl (show b < 2 by omega) (by decide) (by decide +kernel) (by decide +kernel) (fun H12 locs12 ws12 hx12 hm12 hp12 hf12 => ?_)
  have F12 : zv_Fm Z ws ws12 (zt_cb Z b) := zv_Fm_tr F11 (E2 := zt_cb Z b) ⟨hm12, fun j g f a _ _ hE => hf12 j f a (fun z => hE (Or.inr ⟨z.2.1, z.2.2, 54, by decide, z.1⟩))⟩ (fun _ _ _ z => z) (fun _ _ _ z => z)
  have r12 : zy_rd ws12 (zy_ru Z 29) 44 0 = some (.int (nI b)) := (hf12 _ _ _ (fun z => absurd z.2.1 (by decide))).trans r11
  refine lv_aload_n hx0 hb0 rfl rfl l0 ?_
  refine zv_getA hB hx12 (q := (12, 91, 12, 34, 6, 135)) (r := 55) (g := 67) (List.mem_of_getElem? (i := 157) rfl) rfl rfl rfl rfl rfl (by decide) (by decide) (by decide) (by decide) (by decide +kernel) ?_
  refine lv_aload_n hx0 hb0 rfl rfl l0 ?_
  refine zv_get hB hx12 (q := (12, 291, 12, 44, 6, 145)) (List.mem_of_getElem? (i := 149) rfl) rfl rfl rfl rfl rfl r12 ?_
  refine lv_iconst (v := nI 0) hx0 hb0 rfl (by decide) ?_
  refine zv_ast2 hB hx12 (r := 55) (g := 67) (i := b) (y := nI 0) (by decide) (by decide) rfl (by decide) rfl (by decide) (Or.inr ⟨Or.inr (by decide), rfl⟩) rfl rfl (show b < 2 by omega) (by decide) (by decide +kernel) (by decide +kernel) (fun H13 locs13 ws13 hx13 hm13 hp13 hf13 => ?_)
  have F13 : zv_Fm Z ws ws13 (zt_cb Z b) := zv_Fm_tr F12 (E2 := zt_cb Z b) ⟨hm13, fun j g f a _ _ hE => hf13 j f a (fun z => hE (Or.inr ⟨z.2.1, z.2.2, 55, by decide, z.1⟩))⟩ (fun _ _ _ z => z) (fun _ _ _ z => z)
  have r13 : zy_rd ws13 (zy_ru Z 29) 44 0 = some (.int (nI b)) := (hf13 _ _ _ (fun z => absurd z.2.1 (by decide))).trans r12
  refine lv_aload_n hx0 hb0 rfl rfl l0 ?_
  refine zv_getA hB hx13 (q := (12, 94, 12, 35, 6, 136)) (r := 56) (g := 68) (List.mem_of_getElem? (i := 119) rfl) rfl rfl rfl rfl rfl (by decide) (by decide) (by decide) (by decide) (by decide +kernel) ?_
  refine lv_aload_n hx0 hb0 rfl rfl l0 ?_
  refine zv_get hB hx13 (q := (12, 291, 12, 44, 6, 145)) (List.mem_of_getElem? (i := 149) rfl) rfl rfl rfl rfl rfl r13 ?_
  refine lv_iconst (v := nI 0) hx0 hb0 rfl (by decide) ?_
  refine zv_ast2 hB hx13 (r := 56) (g := 68) (i := b) (y := nI 0) (by decide) (by decide) rfl (by decide) rfl (by decide) (Or.inr ⟨Or.inr (by decide), rfl⟩) rfl rfl (show b < 2 by omega) (by decide) (by decide +kernel) (by decide +kernel) (fun H14 locs14 ws14 hx14 hm14 hp14 hf14 => ?_)
  have F14 : zv_Fm Z ws ws14 (zt_cb Z b) := zv_Fm_tr F13 (E2 := zt_cb Z b) ⟨hm14, fun j g f a _ _ hE => hf14 j f a (fun z => hE (Or.inr ⟨z.2.1, z.2.2, 56, by decide, z.1⟩))⟩ (fun _ _ _ z => z) (fun _ _ _ z => z)
  have r14 : zy_rd ws14 (zy_ru Z 29) 44 0 = some (.int (nI b)) := (hf14 _ _ _ (fun z => absurd z.2.1 (by decide))).trans r13
  refine lv_aload_n hx0 hb0 rfl rfl l0 ?_
  refine lv_sipush (v := nI 560) hx0 hb0 rfl (by decide) ?_
  refine lv_aload_n hx0 hb0 rfl rfl l0 ?_
  refine zv_get hB hx14 (q := (12, 291, 12, 44, 6, 145)) (List.mem_of_getElem? (i := 149) rfl) rfl rfl rfl rfl rfl r14 ?_
  refine lv_imul hx0 hb0 rfl ?_
  rw [hmul]
  refine zv_put hB hx14 (q := (12, 294, 12, 45, 6, 146)) (f := 45) (lo := 2147483648) (hi2 := 2147484768) (y := nI (560 * b)) (List.mem_of_getElem? (i := 161) rfl) rfl rfl rfl rfl rfl (by decide +kernel) (by decide +kernel) ⟨fun _ => ⟨_, rfl⟩, fun h => absurd h (by decide +kernel), fun h => absurd h (by decide +kernel)⟩ (by decide +kernel) (by rw [zy_bz_n (by omega)]; omega) (by rw [zy_bz_n (by omega)]; omega) (by decide) (fun H15 locs15 ws15 hx15 hm15 hp15 hf15 => ?_)
  exact zv_retv hB hx15 rfl rfl ⟨rfl, zv_Fm_tr F14 (E2 := zt_cb Z b) ⟨hm15, fun j g f a _ _ hE => hf15 j f a (fun z => hE (Or.inl z))⟩ (fun _ _ _ z => z) (fun _ _ _ z => z), (hf15 _ _ _ (fun z => zv_ne H (r := 56) (g := 68) (r' := 29) (g' := 41) (by decide) (by decide) rfl (by decide) (by decide) rfl (by decide) z.1)).trans hp14, hp15⟩
def zt_T (Z : zy_V) (b : Nat) (ws0 : va_W) (N : Nat) (ws : va_W) : Prop := zv_Fm Z ws0 ws (zt_E Z) ∧ zt_AU Z ws ∧ zy_rd ws (zy_ru Z 29) 44 0 = some (.int (nI b)) ∧ zy_GR (zy_gl Z) ws ∧ zr_en Z ws ∧ ((∃ fk : Int32, zy_rd ws (zy_ru Z 29) 4 0 = some (.int fk) ∧ fk ≠ 0) ∨ (zy_rd ws (zy_ru Z 29) 4 0 = some (.int (nI 0)) ∧ ∃ n1 n2 n3 f1 f2 f3, zt_C Z b ws n1 n2 n3 f1 f2 f3 ∧ zt_m n1 n2 n3 f1 f2 f3 < N))
set_option maxHeartbeats 2000000 in
set_option maxRecDepth 20000 in
theorem zo_tw_e {d : Nat} (hB : zy_Fr p l R s m args meth c N0 Z zm_231 (d + 1)) (hd : 13 ≤ d) {b : Nat} (hb : b ≤ 1) {ws0 : va_W} {P : List Value → va_W → Prop} (hP : ∀ (v : Int32) (ws' : va_W), zv_Fm Z ws0 ws' (zt_E Z) → zy_GV (zy_gl Z) ws' → zt_AU Z ws' → P [.int v] ws') {ws : va_W} {ls : Array Slot} {H : Heap} {locs : List Loc} {tys : List (ClassId × FieldType)} (hx : zy_Mx D N0 zy_T Z s zm_231 ls H locs tys ws) (l0 : ls[0]? = some (.val (.ref (zy_fa1 Z 29)))) {N : Nat} (hT : zt_T Z b ws0 N ws) : W p l en R s m args below meth c H locs 0 0 (MQ below (zy_QP D N0 zy_T Z P) args s 0 0 (zx_A N0)) (F0 m 95 ls []) := by
  obtain ⟨hx0, hb0, -⟩ := hB.2.2.1 Z (zy_le_rf Z)
  have H0 := hB.1
  obtain ⟨hF, hAU, f44, hGR, hen, hst⟩ := hT
  have hfk : ∃ fk : Int32, zy_rd ws (zy_ru Z 29) 4 0 = some (.int fk) := by
    rcases hst with ⟨fk, h, -⟩ | ⟨h, -⟩
    · exact ⟨fk, h⟩
    · exact ⟨_, h⟩
  obtain ⟨fk, f4⟩ := hfk
  refine lv_aload_n hx0 hb0 rfl rfl l0 ?_
  refine zv_ivM (As := []) (rest := []) (q := (12, 270, 233, 0, 7, 127)) (y := zm_233) (zo_good hB.1 hB.2.1) hB hx (List.mem_of_getElem? (i := 272) rfl) rfl rfl rfl (by decide) rfl (by decide) rfl rfl (Nat.zero_le _) ⟨rfl, f4⟩ rfl (Nat.le_of_ble_eq_true rfl) ?_
  intro vs1 tys1 ws1 H1 locs1 hn1 hq1 hx1
  obtain ⟨rfl, rfl⟩ := hq1
  by_cases hz : fk = 0
  · skip
    rw [if_pos hz]
    refine lv_if_ne (tgt := 104) hx0 hb0 rfl (by decide) (fun _ => ?_) (fun h => absurd h (by decide))
    refine lv_aload_n hx0 hb0 rfl rfl l0 ?_
    refine lv_aload_n hx0 hb0 rfl rfl l0 ?_
    refine zv_get hB hx1 (q := (12, 291, 12, 44, 6, 145)) (List.mem_of_getElem? (i := 149) rfl) rfl rfl rfl rfl rfl f44 ?_
    refine zv_put hB hx1 (q := (12, 300, 12, 43, 6, 144)) (f := 43) (lo := 2147483648) (hi2 := 2147483649) (y := nI b) (List.mem_of_getElem? (i := 1) rfl) rfl rfl rfl rfl rfl (by decide +kernel) (by decide +kernel) ⟨fun _ => ⟨_, rfl⟩, fun h => absurd h (by decide +kernel), fun h => absurd h (by decide +kernel)⟩ (by decide +kernel) (by rw [zy_bz_n (by omega)]; omega) (by rw [zy_bz_n (by omega)]; omega) (by decide) (fun H2 locs2 ws2 hx2 hm2 hp2 hf2 => ?_)
    have hV2 : zy_GV (zy_gl Z) ws2 := by
      intro i xb hi hxb
      have e := hB.2.1 29 41 i (by decide) (by decide) rfl hi
      subst e
      rw [hp2] at hxb
      injection hxb with hxb
      injection hxb with hxb
      subst hxb
      have hv := hGR.2.2.1 _ (nI b) hi f44 (by rw [f4, hz])
      have same : ∀ r g a, 0 < r → r < 100 → zy_fg[r]? = some g → g ≠ 41 → zy_rd ws2 (zy_ru Z r) 0 a = zy_rd ws1 (zy_ru Z r) 0 a := fun r g a q1 q2 q3 q4 => hf2 _ _ _ (fun z => zv_ne H0 q1 q2 q3 (r' := 29) (g' := 41) (by decide) (by decide) rfl q4 z.1)
      intro iH iF iT iC h f t g1 g2 g3 g4 r1 r2 r3 hne
      have e1 := hB.2.1 56 68 iH (by decide) (by decide) rfl g1
      have e2 := hB.2.1 47 59 iF (by decide) (by decide) rfl g2
      have e3 := hB.2.1 48 60 iT (by decide) (by decide) rfl g3
      have e4 := hB.2.1 59 71 iC (by decide) (by decide) rfl g4
      subst e1
      subst e2
      subst e3
      subst e4
      rw [same 56 68 _ (by decide) (by decide) rfl (by decide)] at r1
      rw [same 47 59 _ (by decide) (by decide) rfl (by decide)] at r2
      rw [same 48 60 _ (by decide) (by decide) rfl (by decide)] at r3
      have e5 : (fun k => zy_rd ws2 (zy_ru Z 59) 0 k) = fun k => zy_rd ws1 (zy_ru Z 59) 0 k := funext fun k => same 59 71 k (by decide) (by decide) rfl (by decide)
      rw [e5]
      exact hv _ _ _ _ h f t g1 g2 g3 g4 r1 r2 r3 hne
    refine lv_aload_n hx0 hb0 rfl rfl l0 ?_
    refine zv_ivM (As := []) (rest := []) (q := (12, 173, 232, 0, 6, 97)) (y := zm_232) (zy_OkP_of (zo_85 H0)) hB hx2 (List.mem_of_getElem? (i := 274) rfl) rfl rfl rfl (by decide) rfl (by decide) rfl rfl (Nat.zero_le _) ⟨⟨zv_rr H0 (r := 29) (g := 41) (by decide) (by decide) rfl (by decide), trivial⟩, zy_Gs0, zy_CR0⟩ rfl (Nat.le_of_ble_eq_true rfl) ?_
    intro vs3 tys3 ws3 H3 locs3 hn3 hq3 hx3
    obtain ⟨po, o1, o2, o3, hU3⟩ := hq3
    rcases List.mem_singleton.mp o1 with rfl
    have e : vs3 = [] := zv_dm_of (ys := []) H0 (by decide) o2 rfl
    subst e
    have a1 : zy_rd ws3 (zy_ru Z 29) 52 0 = some (.int (nI 0)) := zv_dc_of (ys := []) H0 (by decide) (o3 _ List.mem_cons_self).1 (i := 0) rfl (by decide) rfl
    have a2 : zy_rd ws3 (zy_ru Z 29) 53 0 = some (.int (nI 0)) := zv_dc_of (ys := []) H0 (by decide) (o3 _ (List.mem_of_getElem? (i := 1) rfl)).1 (i := 0) rfl (by decide) rfl
    have f43 : zy_rd ws3 (zy_ru Z 29) 43 0 = some (.int (nI b)) := (zv_un H0 hU3 (r := 29) (g := 41) (f := 43) (by decide) (by decide) rfl (by decide) (by decide +kernel) 0).trans hp2
    obtain ⟨dv, hdv, -⟩ := zv_el H0 hx3.1.2.2.2 (r := 33) (g := 45) (by decide) (by decide) rfl (by decide) rfl (by decide) (i := b) (show b < 2 by omega)
    refine lv_aload_n hx0 hb0 rfl rfl l0 ?_
    refine zv_getA hB hx3 (q := (12, 24, 12, 12, 6, 113)) (r := 33) (g := 45) (List.mem_of_getElem? (i := 11) rfl) rfl rfl rfl rfl rfl (by decide) (by decide) (by decide) (by decide) (by decide +kernel) ?_
    refine lv_aload_n hx0 hb0 rfl rfl l0 ?_
    refine zv_get hB hx3 (q := (12, 300, 12, 43, 6, 144)) (List.mem_of_getElem? (i := 1) rfl) rfl rfl rfl rfl rfl f43 ?_
    refine zv_ald hB hx3 (r := 33) (g := 45) (by decide) (by decide) rfl (by decide) rfl (Or.inl (by decide)) (Or.inl ⟨by decide, rfl⟩) rfl (show b < 2 by omega) (by decide) hdv ?_
    exact zv_ret hB hx3 rfl rfl rfl (hP _ _ (zt_tr (zt_tr hF (zt_put H0 (by decide +kernel) hm2 hf2)) (zt_un hU3 (by decide +kernel))) (hU3.2.2.1 hV2) ⟨0, 0, by decide, a1, a2⟩)
  · skip
    rw [if_neg hz]
    refine lv_if_ne (tgt := 104) hx0 hb0 rfl (by decide) (fun h => absurd (by decide) h) (fun _ => ?_)
    refine lv_iconst (v := nI 4294967295) hx0 hb0 rfl (by decide) ?_
    exact zv_ret hB hx1 rfl rfl rfl (hP _ _ hF hGR.1 hAU)
set_option maxHeartbeats 2000000 in
set_option maxRecDepth 20000 in
theorem zo_tw_l {d : Nat} (hB : zy_Fr p l R s m args meth c N0 Z zm_231 (d + 1)) (hd : 13 ≤ d) {b : Nat} (hb : b ≤ 1) {ws0 : va_W} {P : List Value → va_W → Prop} (hP : ∀ (v : Int32) (ws' : va_W), zv_Fm Z ws0 ws' (zt_E Z) → zy_GV (zy_gl Z) ws' → zt_AU Z ws' → P [.int v] ws') (hLn : ∀ {n1 n2 n3 f1 f2 f3 : Nat}, zy_OkP l D N0 zy_T Z 234 13 (fun av ws => av = [.ref (zy_fa1 Z 29)] ∧ zy_GR (zy_gl Z) ws ∧ zy_rd ws (zy_ru Z 29) 44 0 = some (.int (nI b)) ∧ zy_rd ws (zy_ru Z 29) 4 0 = some (.int (nI 0)) ∧ zr_en Z ws ∧ zt_C Z b ws n1 n2 n3 f1 f2 f3) (fun _ ws vs ws' => vs = [] ∧ zt_P Z b (zt_m n1 n2 n3 f1 f2 f3) ws ws')) {ls : Array Slot} (l0 : ls[0]? = some (.val (.ref (zy_fa1 Z 29)))) : ∀ (N : Nat) (ws : va_W) (H : Heap) (locs : List Loc) (tys : List (ClassId × FieldType)), zy_Mx D N0 zy_T Z s zm_231 ls H locs tys ws → zt_T Z b ws0 N ws → W p l en R s m args below meth c H locs 0 0 (MQ below (zy_QP D N0 zy_T Z P) args s 0 0 (zx_A N0)) (F0 m 74 ls []) := by
  obtain ⟨hx0, hb0, -⟩ := hB.2.2.1 Z (zy_le_rf Z)
  have H0 := hB.1
  intro N
  induction N with
  | zero =>
    intro ws H locs tys hx hT
    have hT' := hT
    obtain ⟨hF, hAU, f44, hGR, hen, hst⟩ := hT'
    rcases hst with ⟨fk, f4, hne⟩ | ⟨f4, n1, n2, n3, f1, f2, f3, hC, hm⟩
    · skip
      refine lv_aload_n hx0 hb0 rfl rfl l0 ?_
      refine zv_ivM (As := []) (rest := []) (q := (12, 270, 233, 0, 7, 127)) (y := zm_233) (zo_good hB.1 hB.2.1) hB hx (List.mem_of_getElem? (i := 272) rfl) rfl rfl rfl (by decide) rfl (by decide) rfl rfl (Nat.zero_le _) ⟨rfl, f4⟩ rfl (Nat.le_of_ble_eq_true rfl) ?_
      intro vs1 tys1 ws1 H1 locs1 hn1 hq1 hx1
      obtain ⟨rfl, rfl⟩ := hq1
      rw [if_neg hne]
      refine lv_if_eq (tgt := 95) hx0 hb0 rfl (by decide) (fun _ => zo_tw_e hB hd hb hP hx1 l0 hT) (fun h => absurd (by decide) h)
    · skip
      omega
  | succ N ih =>
    intro ws H locs tys hx hT
    have hT' := hT
    obtain ⟨hF, hAU, f44, hGR, hen, hst⟩ := hT'
    rcases hst with ⟨fk, f4, hne⟩ | ⟨f4, n1, n2, n3, f1, f2, f3, hC, hm⟩
    · skip
      refine lv_aload_n hx0 hb0 rfl rfl l0 ?_
      refine zv_ivM (As := []) (rest := []) (q := (12, 270, 233, 0, 7, 127)) (y := zm_233) (zo_good hB.1 hB.2.1) hB hx (List.mem_of_getElem? (i := 272) rfl) rfl rfl rfl (by decide) rfl (by decide) rfl rfl (Nat.zero_le _) ⟨rfl, f4⟩ rfl (Nat.le_of_ble_eq_true rfl) ?_
      intro vs1 tys1 ws1 H1 locs1 hn1 hq1 hx1
      obtain ⟨rfl, rfl⟩ := hq1
      rw [if_neg hne]
      refine lv_if_eq (tgt := 95) hx0 hb0 rfl (by decide) (fun _ => zo_tw_e hB hd hb hP hx1 l0 hT) (fun h => absurd (by decide) h)
    · skip
      obtain ⟨tk, htk, -, -⟩ := zv_int H0 hx.1.2.2.2 (key := 1345565) (lo := 2147483648) (hi := 2147483653) (by decide +kernel) (by decide) (by decide)
      have htk : zy_rd ws (zy_ru Z 29) 8 0 = some (.int tk) := htk
      refine lv_aload_n hx0 hb0 rfl rfl l0 ?_
      refine zv_ivM (As := []) (rest := []) (q := (12, 270, 233, 0, 7, 127)) (y := zm_233) (zo_good hB.1 hB.2.1) hB hx (List.mem_of_getElem? (i := 272) rfl) rfl rfl rfl (by decide) rfl (by decide) rfl rfl (Nat.zero_le _) ⟨rfl, f4⟩ rfl (Nat.le_of_ble_eq_true rfl) ?_
      intro vs1 tys1 ws1 H1 locs1 hn1 hq1 hx1
      obtain ⟨rfl, rfl⟩ := hq1
      rw [if_pos (by decide)]
      refine lv_if_eq (tgt := 95) hx0 hb0 rfl (by decide) (fun h => absurd h (by decide)) (fun _ => ?_)
      refine lv_aload_n hx0 hb0 rfl rfl l0 ?_
      refine zv_get hB hx1 (q := (12, 242, 12, 8, 6, 109)) (List.mem_of_getElem? (i := 150) rfl) rfl rfl rfl rfl rfl htk ?_
      refine lv_if_eq (tgt := 95) hx0 hb0 rfl (by decide) (fun _ => zo_tw_e hB hd hb hP hx1 l0 hT) (fun _ => ?_)
      refine lv_aload_n hx0 hb0 rfl rfl l0 ?_
      refine zv_ivM (As := []) (rest := []) (q := (12, 303, 234, 0, 7, 131)) (y := zm_234) hLn hB hx1 (List.mem_of_getElem? (i := 273) rfl) rfl rfl rfl (by decide) rfl (by decide) rfl rfl hd ⟨rfl, hGR, f44, f4, hen, hC⟩ rfl (Nat.le_of_ble_eq_true rfl) ?_
      intro vs2 tys2 ws2 H2 locs2 hn2 hq2 hx2
      obtain ⟨rfl, hU2, he2, hs2⟩ := hq2
      refine lv_goto (tgt := 74) hx0 hb0 rfl (by decide) ?_
      obtain ⟨ac, un, hau, a1, a2⟩ := hAU
      have un2 : ∀ f, f < 128 → zl_W.testBit (5248 + f) = false → zy_rd ws2 (zy_ru Z 29) f 0 = zy_rd ws1 (zy_ru Z 29) f 0 := fun f q1 q2 => zv_un H0 hU2 (r := 29) (g := 41) (by decide) (by decide) rfl q1 q2 0
      refine ih ws2 H2 locs2 tys2 hx2 ⟨zt_tr hF (zt_un hU2 (by decide +kernel)), ⟨ac, un, hau, (un2 52 (by decide) (by decide +kernel)).trans a1, (un2 53 (by decide) (by decide +kernel)).trans a2⟩, (un2 44 (by decide) (by decide +kernel)).trans f44, hU2.2.2.2.1 hGR, he2, ?_⟩
      rcases hs2 with h | ⟨h, m1, m2, m3, g1, g2, g3, h1, h2⟩
      · exact Or.inl h
      · exact Or.inr ⟨h, m1, m2, m3, g1, g2, g3, h1, by omega⟩
set_option maxHeartbeats 2000000 in
set_option maxRecDepth 20000 in
theorem zo_tw_c {dd : Nat} (hB : zy_Fr p l R s m args meth c N0 Z zm_231 dd) {sz : Nat} (hsz : sz ≤ 1600) {ws0 : va_W} {Q : State → Prop} (h3 : zy_rd ws0 (zy_ru Z 29) 3 0 = some (.int (nI sz))) (kk : ∀ (ws : va_W) (ls : Array Slot) (H : Heap) (locs : List Loc) (tys : List (ClassId × FieldType)), zy_Mx D N0 zy_T Z s zm_231 ls H locs tys ws → zv_Fm Z ws0 ws (fun j f _ => j = zy_ru Z 31 ∧ f = 0) → ls[0]? = some (.val (.ref (zy_fa1 Z 29))) → W p l en R s m args below meth c H locs 0 0 Q (F0 m 46 ls [])) : ∀ (K k : Nat) (ws : va_W) (ls : Array Slot) (H : Heap) (locs : List Loc) (tys : List (ClassId × FieldType)), sz - k = K → k ≤ sz → zy_Mx D N0 zy_T Z s zm_231 ls H locs tys ws → zv_Fm Z ws0 ws (fun j f _ => j = zy_ru Z 31 ∧ f = 0) → ls[0]? = some (.val (.ref (zy_fa1 Z 29))) → ls[1]? = some (.val (.int (nI k))) → W p l en R s m args below meth c H locs 0 0 Q (F0 m 20 ls []) := by
  obtain ⟨hx0, hb0, -⟩ := hB.2.2.1 Z (zy_le_rf Z)
  have H0 := hB.1
  intro K
  induction K with
  | zero =>
    intro k ws ls H locs tys hK hk hx hF l0 l1
    have g3 : zy_rd ws (zy_ru Z 29) 3 0 = some (.int (nI sz)) := (zv_Fm_r H0 hF (r := 29) (g := 41) (by decide) (by decide) rfl (by decide) (fun z => absurd z.2 (by decide))).trans h3
    refine lv_iload_n hx0 hb0 rfl rfl l1 ?_
    refine lv_aload_n hx0 hb0 rfl rfl l0 ?_
    refine zv_get hB hx (q := (12, 176, 12, 3, 6, 104)) (List.mem_of_getElem? (i := 145) rfl) rfl rfl rfl rfl rfl g3 ?_
    refine lv_icmp_ge (tgt := 46) hx0 hb0 rfl (by decide) (fun _ => kk ws ls H locs tys hx hF l0) (fun h => absurd ((zv_le (by omega) (by omega)).mpr (by omega)) h)
  | succ K ih =>
    intro k ws ls H locs tys hK hk hx hF l0 l1
    have g3 : zy_rd ws (zy_ru Z 29) 3 0 = some (.int (nI sz)) := (zv_Fm_r H0 hF (r := 29) (g := 41) (by decide) (by decide) rfl (by decide) (fun z => absurd z.2 (by decide))).trans h3
    obtain ⟨tv, htv, t1, t2⟩ := zv_el H0 hx.1.2.2.2 (r := 30) (g := 42) (by decide) (by decide) rfl (by decide) rfl (by decide) (i := k) (show k < 1620 by omega)
    have t1 : 2147483520 ≤ zx_bz tv := t1
    have t2 : zx_bz tv ≤ 2147483775 := t2
    refine lv_iload_n hx0 hb0 rfl rfl l1 ?_
    refine lv_aload_n hx0 hb0 rfl rfl l0 ?_
    refine zv_get hB hx (q := (12, 176, 12, 3, 6, 104)) (List.mem_of_getElem? (i := 145) rfl) rfl rfl rfl rfl rfl g3 ?_
    refine lv_icmp_ge (tgt := 46) hx0 hb0 rfl (by decide) (fun h => absurd ((zv_le (by omega) (by omega)).mp h) (by omega)) (fun _ => ?_)
    refine lv_aload_n hx0 hb0 rfl rfl l0 ?_
    refine zv_getA hB hx (q := (12, 13, 12, 1, 6, 102)) (r := 31) (g := 43) (List.mem_of_getElem? (i := 146) rfl) rfl rfl rfl rfl rfl (by decide) (by decide) (by decide) (by decide) (by decide +kernel) ?_
    refine lv_iload_n hx0 hb0 rfl rfl l1 ?_
    refine lv_aload_n hx0 hb0 rfl rfl l0 ?_
    refine zv_getA hB hx (q := (12, 7, 12, 0, 6, 101)) (r := 30) (g := 42) (List.mem_of_getElem? (i := 147) rfl) rfl rfl rfl rfl rfl (by decide) (by decide) (by decide) (by decide) (by decide +kernel) ?_
    refine lv_iload_n hx0 hb0 rfl rfl l1 ?_
    refine zv_ald hB hx (r := 30) (g := 42) (by decide) (by decide) rfl (by decide) rfl (Or.inl (by decide)) (Or.inr ⟨Or.inl (by decide), rfl⟩) rfl (show k < 1620 by omega) (by decide) htv ?_
    refine zv_ast2 hB hx (r := 31) (g := 43) (i := k) (by decide) (by decide) rfl (by decide) rfl (by decide) (Or.inr ⟨Or.inl (by decide), rfl⟩) (zt_byte t1 t2) rfl (show k < 1600 by omega) (by decide) t1 t2 (fun H1 locs1 ws1 hx1 hm1 hp1 hf1 => ?_)
    refine zv_inc hB hx1 (n := 1) (v := nI (k + 1)) (by decide) rfl l1 (by rw [show Int32.ofInt 1 = nI 1 from by decide, nI_add]) (zv_cat l0 (by show (1 : Nat) ≠ 2; decide)) (fun ls2 hx2 q1 q2 => ?_)
    refine lv_goto (tgt := 20) hx0 hb0 rfl (by decide) ?_
    exact ih (k + 1) ws1 ls2 H1 locs1 tys (by omega) (by omega) hx2 (zv_Fm_tr hF (E2 := fun j f _ => j = zy_ru Z 31 ∧ f = 0) ⟨hm1, fun j g f a _ _ hE => hf1 j f a (fun z => hE ⟨z.1, z.2.1⟩)⟩ (fun _ _ _ z => z) (fun _ _ _ z => z)) (q2 0 _ (by decide) l0) q1
end ZTW
