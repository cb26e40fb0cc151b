/-! a line of the text, by its meaning -/
def zt_C (Z : zy_V) (b : Nat) (ws : va_W) (n1 n2 n3 f1 f2 f3 : Nat) : Prop := (n1 ≤ 4 ∧ n2 ≤ 10 ∧ n3 ≤ 6 ∧ f1 ≤ 1 ∧ f2 ≤ 1 ∧ f3 ≤ 1) ∧ zy_rd ws (zy_ru Z 32) 0 b = some (.int (nI n1)) ∧ zy_rd ws (zy_ru Z 33) 0 b = some (.int (nI n2)) ∧ zy_rd ws (zy_ru Z 34) 0 b = some (.int (nI n3)) ∧ zy_rd ws (zy_ru Z 56) 0 b = some (.int (nI f1)) ∧ zy_rd ws (zy_ru Z 54) 0 b = some (.int (nI f2)) ∧ zy_rd ws (zy_ru Z 55) 0 b = some (.int (nI f3))
def zt_m (n1 n2 n3 f1 f2 f3 : Nat) : Nat := (4 - n1) + (10 - n2) + (6 - n3) + (1 - f1) + (1 - f2) + (1 - f3)
def zt_P (Z : zy_V) (b mm : Nat) (ws ws' : va_W) : Prop := zy_UN (zy_gl Z) zl_W ws ws' ∧ zr_en Z ws' ∧ ((∃ fk : Int32, zy_rd ws' (zy_ru Z 29) 4 0 = some (.int fk) ∧ fk ≠ 0) ∨ (zy_rd ws' (zy_ru Z 29) 4 0 = some (.int (nI 0)) ∧ ∃ n1 n2 n3 f1 f2 f3, zt_C Z b ws' n1 n2 n3 f1 f2 f3 ∧ zt_m n1 n2 n3 f1 f2 f3 < mm))
section ZLN
variable {l : Launch} {D : va_G} {N0 : Nat} {Z : zy_V}
theorem zt_src (H : zy_H0 Z) {loc : Nat → Option Value} {ws ws' : va_W} {key off lo hi n : Nat} (h : zy_FS Z loc ws ws' (key, 2 + 2 * key, off, zy_c7v lo hi)) (hk : key % 256 < 100) (hl : lo < 4294967296) (hh : hi < 4294967296) (hold : zv_ro Z ws key = some (.int (nI n))) (hn : n + off < 2147483648) : zv_ro Z ws' key = some (.int (nI (n + off))) ∧ n + off + 2147483648 ≤ hi := by
  obtain ⟨h1, h2⟩ := h
  obtain ⟨x, y, e1, e2, e3⟩ := h2 (by show 2 + 2 * key ≠ 0; omega)
  unfold zy_so at e1
  rw [if_neg (by show ¬ (2 + 2 * key) % 2 = 1; omega), show (2 + 2 * key) / 2 - 1 = key by omega] at e1
  have hold : zy_rd ws (zy_ru Z (key % 256)) (key / 256 % 128) (key / 16777216) = some (.int (nI n)) := hold
  rw [hold] at e1
  injection e1 with e1
  injection e1 with e1
  rw [← e1, nI_add] at e3
  obtain ⟨y2, g1, -, g3⟩ := zv_dc_7 (ys := []) H h1 (i := 0) (key := key) (lo := lo) (hi := hi) rfl hk hl hh
  have g0 : zv_ro Z ws' key = some (.int y) := e2
  rw [g0] at g1
  injection g1 with g1
  injection g1 with g1
  rw [← g1, e3, zy_bz_n hn] at g3
  rw [g0, e3]
  exact ⟨rfl, g3⟩
set_option maxHeartbeats 1000000 in
theorem zo_ln00 (HH : zy_HH l D N0 Z) (HU : zy_UQ zy_fg Z) {n1 n2 n3 : Nat} : zy_OkP l D N0 zy_T Z 234 13 (fun av ws => av = [.ref (zy_fa1 Z 29)] ∧ zy_GR (zy_gl Z) ws ∧ zy_rd ws (zy_ru Z 29) 44 0 = some (.int (nI 0)) ∧ zy_rd ws (zy_ru Z 29) 4 0 = some (.int (nI 0)) ∧ zr_en Z ws ∧ zt_C Z 0 ws n1 n2 n3 0 0 0) (fun _ ws vs ws' => vs = [] ∧ zt_P Z 0 (zt_m n1 n2 n3 0 0 0) ws ws') := by
  have H := HH.1
  refine zy_OkP_mono (zy_OkP_of (zo_r00 HH)) (Nat.le_refl _) (fun av ws h => ?_) (fun av ws vs ws' h0 h => ?_)
  · obtain ⟨e, hGR, f44, f4, hen, hb, c1, c2, c3, c4, c5, c6⟩ := h
    rw [e]
    have r7 : ∀ (n N : Nat), n ≤ N → N < 1000 → zy_r Z (zy_c7v 2147483648 (2147483648 + N)) (.int (nI n)) := fun n N h1 h2 => zy_r_7 (by rw [zy_bz_n (by omega)]; omega) (by rw [zy_bz_n (by omega)]; omega) (by omega)
    exact ⟨⟨zv_rr H (r := 29) (g := 41) (by decide) (by decide) rfl (by decide), trivial⟩, ⟨fun z => absurd z (by decide), fun _ => hGR, fun z => absurd z (by decide)⟩, zv_cr2 (zv_cr H (by decide) (by decide) rfl f44 (zy_r_c (n := 0) (by decide))) (zv_cr2 (zv_cr H (by decide) (by decide) rfl f4 (zy_r_c (n := 0) (by decide))) (zv_cr2 (zr_en_cr H hen) (zv_cr2 (zv_cr H (by decide) (by decide) rfl c1 (r7 n1 4 (by omega) (by decide))) (zv_cr2 (zv_cr H (by decide) (by decide) rfl c2 (r7 n2 10 (by omega) (by decide))) (zv_cr2 (zv_cr H (by decide) (by decide) rfl c3 (r7 n3 6 (by omega) (by decide))) (zv_cr2 (zv_cr H (by decide) (by decide) rfl c4 (zy_r_c (n := 0) (by decide))) (zv_cr2 (zv_cr H (by decide) (by decide) rfl c5 (zy_r_c (n := 0) (by decide))) (zv_cr H (by decide) (by decide) rfl c6 (zy_r_c (n := 0) (by decide))))))))))⟩
  · obtain ⟨e, hGR, f44, f4, hen, ⟨b1, b2, b3, -, -, -⟩, c1, c2, c3, c4, c5, c6⟩ := h0
    obtain ⟨po, p1, p2, p3, p4⟩ := h
    rcases List.mem_cons.mp p1 with rfl | p1
    · obtain ⟨fk, k1, k2, -⟩ := zv_dc_7 (ys := []) H (p3 _ List.mem_cons_self).1 (i := 0) (key := 1344541) (lo := 2147483649) (hi := 2147483653) rfl (by decide) (by decide) (by decide)
      refine ⟨zv_dm_of (ys := []) H (by decide) p2 rfl, p4, zr_en_of H (p3 _ (List.mem_of_getElem? (i := 1) rfl)).1, Or.inl ⟨fk, k1, fun z => ?_⟩⟩
      rw [z, show zx_bz 0 = 2147483648 from by decide] at k2
      omega
    rcases List.mem_cons.mp p1 with rfl | p1
    · obtain ⟨d1, m1⟩ := zt_src H (off := 1) (lo := 2147483648) (hi := 2147483652) (p3 _ (List.mem_of_getElem? (i := 2) rfl)) (by decide) (by decide) (by decide) c1 (by omega)
      obtain ⟨d2, m2⟩ := zt_src H (off := 0) (lo := 2147483648) (hi := 2147483658) (p3 _ (List.mem_of_getElem? (i := 3) rfl)) (by decide) (by decide) (by decide) c2 (by omega)
      obtain ⟨d3, m3⟩ := zt_src H (off := 0) (lo := 2147483648) (hi := 2147483654) (p3 _ (List.mem_of_getElem? (i := 4) rfl)) (by decide) (by decide) (by decide) c3 (by omega)
      have g1 : zv_ro Z ws' 2228280 = some (.int (nI 0)) := zv_dc_of (ys := []) H (by decide) (p3 _ (List.mem_of_getElem? (i := 5) rfl)).1 (i := 0) rfl (by decide) rfl
      have g2 : zv_ro Z ws' 2162742 = some (.int (nI 0)) := zv_dc_of (ys := []) H (by decide) (p3 _ (List.mem_of_getElem? (i := 6) rfl)).1 (i := 0) rfl (by decide) rfl
      have g3 : zv_ro Z ws' 2195511 = some (.int (nI 0)) := zv_dc_of (ys := []) H (by decide) (p3 _ (List.mem_of_getElem? (i := 7) rfl)).1 (i := 0) rfl (by decide) rfl
      have g4 : zv_ro Z ws' 1344541 = some (.int (nI 0)) := zv_dc_of (ys := []) H (by decide) (p3 _ (List.mem_of_getElem? (i := 0) rfl)).1 (i := 0) rfl (by decide) rfl
      refine ⟨zv_dm_of (ys := []) H (by decide) p2 rfl, p4, zr_en_of H (p3 _ (List.mem_of_getElem? (i := 1) rfl)).1, Or.inr ⟨g4, _, _, _, _, _, _, ⟨⟨?_, ?_, ?_, ?_, ?_, ?_⟩, d1, d2, d3, g1, g2, g3⟩, ?_⟩⟩
      all_goals first | omega | (unfold zt_m; omega)
    rcases List.mem_cons.mp p1 with rfl | p1
    · obtain ⟨d1, m1⟩ := zt_src H (off := 0) (lo := 2147483648) (hi := 2147483652) (p3 _ (List.mem_of_getElem? (i := 2) rfl)) (by decide) (by decide) (by decide) c1 (by omega)
      obtain ⟨d2, m2⟩ := zt_src H (off := 1) (lo := 2147483648) (hi := 2147483658) (p3 _ (List.mem_of_getElem? (i := 3) rfl)) (by decide) (by decide) (by decide) c2 (by omega)
      obtain ⟨d3, m3⟩ := zt_src H (off := 0) (lo := 2147483648) (hi := 2147483654) (p3 _ (List.mem_of_getElem? (i := 4) rfl)) (by decide) (by decide) (by decide) c3 (by omega)
      have g1 : zv_ro Z ws' 2228280 = some (.int (nI 0)) := zv_dc_of (ys := []) H (by decide) (p3 _ (List.mem_of_getElem? (i := 5) rfl)).1 (i := 0) rfl (by decide) rfl
      have g2 : zv_ro Z ws' 2162742 = some (.int (nI 0)) := zv_dc_of (ys := []) H (by decide) (p3 _ (List.mem_of_getElem? (i := 6) rfl)).1 (i := 0) rfl (by decide) rfl
      have g3 : zv_ro Z ws' 2195511 = some (.int (nI 0)) := zv_dc_of (ys := []) H (by decide) (p3 _ (List.mem_of_getElem? (i := 7) rfl)).1 (i := 0) rfl (by decide) rfl
      have g4 : zv_ro Z ws' 1344541 = some (.int (nI 0)) := zv_dc_of (ys := []) H (by decide) (p3 _ (List.mem_of_getElem? (i := 0) rfl)).1 (i := 0) rfl (by decide) rfl
      refine ⟨zv_dm_of (ys := []) H (by decide) p2 rfl, p4, zr_en_of H (p3 _ (List.mem_of_getElem? (i := 1) rfl)).1, Or.inr ⟨g4, _, _, _, _, _, _, ⟨⟨?_, ?_, ?_, ?_, ?_, ?_⟩, d1, d2, d3, g1, g2, g3⟩, ?_⟩⟩
      all_goals first | omega | (unfold zt_m; omega)
    rcases List.mem_cons.mp p1 with rfl | p1
    · obtain ⟨d1, m1⟩ := zt_src H (off := 0) (lo := 2147483648) (hi := 2147483652) (p3 _ (List.mem_of_getElem? (i := 2) rfl)) (by decide) (by decide) (by decide) c1 (by omega)
      obtain ⟨d2, m2⟩ := zt_src H (off := 0) (lo := 2147483648) (hi := 2147483658) (p3 _ (List.mem_of_getElem? (i := 3) rfl)) (by decide) (by decide) (by decide) c2 (by omega)
      obtain ⟨d3, m3⟩ := zt_src H (off := 1) (lo := 2147483648) (hi := 2147483654) (p3 _ (List.mem_of_getElem? (i := 4) rfl)) (by decide) (by decide) (by decide) c3 (by omega)
      have g1 : zv_ro Z ws' 2228280 = some (.int (nI 0)) := zv_dc_of (ys := []) H (by decide) (p3 _ (List.mem_of_getElem? (i := 5) rfl)).1 (i := 0) rfl (by decide) rfl
      have g2 : zv_ro Z ws' 2162742 = some (.int (nI 0)) := zv_dc_of (ys := []) H (by decide) (p3 _ (List.mem_of_getElem? (i := 6) rfl)).1 (i := 0) rfl (by decide) rfl
      have g3 : zv_ro Z ws' 2195511 = some (.int (nI 0)) := zv_dc_of (ys := []) H (by decide) (p3 _ (List.mem_of_getElem? (i := 7) rfl)).1 (i := 0) rfl (by decide) rfl
      have g4 : zv_ro Z ws' 1344541 = some (.int (nI 0)) := zv_dc_of (ys := []) H (by decide) (p3 _ (List.mem_of_getElem? (i := 0) rfl)).1 (i := 0) rfl (by decide) rfl
      refine ⟨zv_dm_of (ys := []) H (by decide) p2 rfl, p4, zr_en_of H (p3 _ (List.mem_of_getElem? (i := 1) rfl)).1, Or.inr ⟨g4, _, _, _, _, _, _, ⟨⟨?_, ?_, ?_, ?_, ?_, ?_⟩, d1, d2, d3, g1, g2, g3⟩, ?_⟩⟩
      all_goals first | omega | (unfold zt_m; omega)
    rcases List.mem_cons.mp p1 with rfl | p1
    · obtain ⟨d1, m1⟩ := zt_src H (off := 0) (lo := 2147483648) (hi := 2147483652) (p3 _ (List.mem_of_getElem? (i := 2) rfl)) (by decide) (by decide) (by decide) c1 (by omega)
      obtain ⟨d2, m2⟩ := zt_src H (off := 0) (lo := 2147483648) (hi := 2147483658) (p3 _ (List.mem_of_getElem? (i := 3) rfl)) (by decide) (by decide) (by decide) c2 (by omega)
      obtain ⟨d3, m3⟩ := zt_src H (off := 0) (lo := 2147483648) (hi := 2147483654) (p3 _ (List.mem_of_getElem? (i := 4) rfl)) (by decide) (by decide) (by decide) c3 (by omega)
      have g1 : zv_ro Z ws' 2228280 = some (.int (nI 1)) := zv_dc_of (ys := []) H (by decide) (p3 _ (List.mem_of_getElem? (i := 5) rfl)).1 (i := 0) rfl (by decide) rfl
      have g2 : zv_ro Z ws' 2162742 = some (.int (nI 0)) := zv_dc_of (ys := []) H (by decide) (p3 _ (List.mem_of_getElem? (i := 6) rfl)).1 (i := 0) rfl (by decide) rfl
      have g3 : zv_ro Z ws' 2195511 = some (.int (nI 0)) := zv_dc_of (ys := []) H (by decide) (p3 _ (List.mem_of_getElem? (i := 7) rfl)).1 (i := 0) rfl (by decide) rfl
      have g4 : zv_ro Z ws' 1344541 = some (.int (nI 0)) := zv_dc_of (ys := []) H (by decide) (p3 _ (List.mem_of_getElem? (i := 0) rfl)).1 (i := 0) rfl (by decide) rfl
      refine ⟨zv_dm_of (ys := []) H (by decide) p2 rfl, p4, zr_en_of H (p3 _ (List.mem_of_getElem? (i := 1) rfl)).1, Or.inr ⟨g4, _, _, _, _, _, _, ⟨⟨?_, ?_, ?_, ?_, ?_, ?_⟩, d1, d2, d3, g1, g2, g3⟩, ?_⟩⟩
      all_goals first | omega | (unfold zt_m; omega)
    rcases List.mem_cons.mp p1 with rfl | p1
    · obtain ⟨d1, m1⟩ := zt_src H (off := 0) (lo := 2147483648) (hi := 2147483652) (p3 _ (List.mem_of_getElem? (i := 2) rfl)) (by decide) (by decide) (by decide) c1 (by omega)
      obtain ⟨d2, m2⟩ := zt_src H (off := 0) (lo := 2147483648) (hi := 2147483658) (p3 _ (List.mem_of_getElem? (i := 3) rfl)) (by decide) (by decide) (by decide) c2 (by omega)
      obtain ⟨d3, m3⟩ := zt_src H (off := 0) (lo := 2147483648) (hi := 2147483654) (p3 _ (List.mem_of_getElem? (i := 4) rfl)) (by decide) (by decide) (by decide) c3 (by omega)
      have g1 : zv_ro Z ws' 2228280 = some (.int (nI 0)) := zv_dc_of (ys := []) H (by decide) (p3 _ (List.mem_of_getElem? (i := 5) rfl)).1 (i := 0) rfl (by decide) rfl
      have g2 : zv_ro Z ws' 2162742 = some (.int (nI 1)) := zv_dc_of (ys := []) H (by decide) (p3 _ (List.mem_of_getElem? (i := 6) rfl)).1 (i := 0) rfl (by decide) rfl
      have g3 : zv_ro Z ws' 2195511 = some (.int (nI 0)) := zv_dc_of (ys := []) H (by decide) (p3 _ (List.mem_of_getElem? (i := 7) rfl)).1 (i := 0) rfl (by decide) rfl
      have g4 : zv_ro Z ws' 1344541 = some (.int (nI 0)) := zv_dc_of (ys := []) H (by decide) (p3 _ (List.mem_of_getElem? (i := 0) rfl)).1 (i := 0) rfl (by decide) rfl
      refine ⟨zv_dm_of (ys := []) H (by decide) p2 rfl, p4, zr_en_of H (p3 _ (List.mem_of_getElem? (i := 1) rfl)).1, Or.inr ⟨g4, _, _, _, _, _, _, ⟨⟨?_, ?_, ?_, ?_, ?_, ?_⟩, d1, d2, d3, g1, g2, g3⟩, ?_⟩⟩
      all_goals first | omega | (unfold zt_m; omega)
    rcases List.mem_singleton.mp p1 with rfl
    obtain ⟨d1, m1⟩ := zt_src H (off := 0) (lo := 2147483648) (hi := 2147483652) (p3 _ (List.mem_of_getElem? (i := 2) rfl)) (by decide) (by decide) (by decide) c1 (by omega)
    obtain ⟨d2, m2⟩ := zt_src H (off := 0) (lo := 2147483648) (hi := 2147483658) (p3 _ (List.mem_of_getElem? (i := 3) rfl)) (by decide) (by decide) (by decide) c2 (by omega)
    obtain ⟨d3, m3⟩ := zt_src H (off := 0) (lo := 2147483648) (hi := 2147483654) (p3 _ (List.mem_of_getElem? (i := 4) rfl)) (by decide) (by decide) (by decide) c3 (by omega)
    have g1 : zv_ro Z ws' 2228280 = some (.int (nI 0)) := zv_dc_of (ys := []) H (by decide) (p3 _ (List.mem_of_getElem? (i := 5) rfl)).1 (i := 0) rfl (by decide) rfl
    have g2 : zv_ro Z ws' 2162742 = some (.int (nI 0)) := zv_dc_of (ys := []) H (by decide) (p3 _ (List.mem_of_getElem? (i := 6) rfl)).1 (i := 0) rfl (by decide) rfl
    have g3 : zv_ro Z ws' 2195511 = some (.int (nI 1)) := zv_dc_of (ys := []) H (by decide) (p3 _ (List.mem_of_getElem? (i := 7) rfl)).1 (i := 0) rfl (by decide) rfl
    have g4 : zv_ro Z ws' 1344541 = some (.int (nI 0)) := zv_dc_of (ys := []) H (by decide) (p3 _ (List.mem_of_getElem? (i := 0) rfl)).1 (i := 0) rfl (by decide) rfl
    refine ⟨zv_dm_of (ys := []) H (by decide) p2 rfl, p4, zr_en_of H (p3 _ (List.mem_of_getElem? (i := 1) rfl)).1, Or.inr ⟨g4, _, _, _, _, _, _, ⟨⟨?_, ?_, ?_, ?_, ?_, ?_⟩, d1, d2, d3, g1, g2, g3⟩, ?_⟩⟩
    all_goals first | omega | (unfold zt_m; omega)
set_option maxHeartbeats 1000000 in
theorem zo_ln01 (HH : zy_HH l D N0 Z) (HU : zy_UQ zy_fg Z) {n1 n2 n3 : Nat} : zy_OkP l D N0 zy_T Z 234 13 (fun av ws => av = [.ref (zy_fa1 Z 29)] ∧ zy_GR (zy_gl Z) ws ∧ zy_rd ws (zy_ru Z 29) 44 0 = some (.int (nI 0)) ∧ zy_rd ws (zy_ru Z 29) 4 0 = some (.int (nI 0)) ∧ zr_en Z ws ∧ zt_C Z 0 ws n1 n2 n3 1 0 0) (fun _ ws vs ws' => vs = [] ∧ zt_P Z 0 (zt_m n1 n2 n3 1 0 0) ws ws') := by
  have H := HH.1
  refine zy_OkP_mono (zy_OkP_of (zo_r01 HH)) (Nat.le_refl _) (fun av ws h => ?_) (fun av ws vs ws' h0 h => ?_)
  · obtain ⟨e, hGR, f44, f4, hen, hb, c1, c2, c3, c4, c5, c6⟩ := h
    rw [e]
    have r7 : ∀ (n N : Nat), n ≤ N → N < 1000 → zy_r Z (zy_c7v 2147483648 (2147483648 + N)) (.int (nI n)) := fun n N h1 h2 => zy_r_7 (by rw [zy_bz_n (by omega)]; omega) (by rw [zy_bz_n (by omega)]; omega) (by omega)
    exact ⟨⟨zv_rr H (r := 29) (g := 41) (by decide) (by decide) rfl (by decide), trivial⟩, ⟨fun z => absurd z (by decide), fun _ => hGR, fun z => absurd z (by decide)⟩, zv_cr2 (zv_cr H (by decide) (by decide) rfl f44 (zy_r_c (n := 0) (by decide))) (zv_cr2 (zv_cr H (by decide) (by decide) rfl f4 (zy_r_c (n := 0) (by decide))) (zv_cr2 (zr_en_cr H hen) (zv_cr2 (zv_cr H (by decide) (by decide) rfl c1 (r7 n1 4 (by omega) (by decide))) (zv_cr2 (zv_cr H (by decide) (by decide) rfl c2 (r7 n2 10 (by omega) (by decide))) (zv_cr2 (zv_cr H (by decide) (by decide) rfl c3 (r7 n3 6 (by omega) (by decide))) (zv_cr2 (zv_cr H (by decide) (by decide) rfl c4 (zy_r_c (n := 1) (by decide))) (zv_cr2 (zv_cr H (by decide) (by decide) rfl c5 (zy_r_c (n := 0) (by decide))) (zv_cr H (by decide) (by decide) rfl c6 (zy_r_c (n := 0) (by decide))))))))))⟩
  · obtain ⟨e, hGR, f44, f4, hen, ⟨b1, b2, b3, -, -, -⟩, c1, c2, c3, c4, c5, c6⟩ := h0
    obtain ⟨po, p1, p2, p3, p4⟩ := h
    rcases List.mem_cons.mp p1 with rfl | p1
    · obtain ⟨fk, k1, k2, -⟩ := zv_dc_7 (ys := []) H (p3 _ List.mem_cons_self).1 (i := 0) (key := 1344541) (lo := 2147483649) (hi := 2147483653) rfl (by decide) (by decide) (by decide)
      refine ⟨zv_dm_of (ys := []) H (by decide) p2 rfl, p4, zr_en_of H (p3 _ (List.mem_of_getElem? (i := 1) rfl)).1, Or.inl ⟨fk, k1, fun z => ?_⟩⟩
      rw [z, show zx_bz 0 = 2147483648 from by decide] at k2
      omega
    rcases List.mem_cons.mp p1 with rfl | p1
    · obtain ⟨d1, m1⟩ := zt_src H (off := 1) (lo := 2147483648) (hi := 2147483652) (p3 _ (List.mem_of_getElem? (i := 2) rfl)) (by decide) (by decide) (by decide) c1 (by omega)
      obtain ⟨d2, m2⟩ := zt_src H (off := 0) (lo := 2147483648) (hi := 2147483658) (p3 _ (List.mem_of_getElem? (i := 3) rfl)) (by decide) (by decide) (by decide) c2 (by omega)
      obtain ⟨d3, m3⟩ := zt_src H (off := 0) (lo := 2147483648) (hi := 2147483654) (p3 _ (List.mem_of_getElem? (i := 4) rfl)) (by decide) (by decide) (by decide) c3 (by omega)
      have g1 : zv_ro Z ws' 2228280 = some (.int (nI 1)) := zv_dc_of (ys := []) H (by decide) (p3 _ (List.mem_of_getElem? (i := 5) rfl)).1 (i := 0) rfl (by decide) rfl
      have g2 : zv_ro Z ws' 2162742 = some (.int (nI 0)) := zv_dc_of (ys := []) H (by decide) (p3 _ (List.mem_of_getElem? (i := 6) rfl)).1 (i := 0) rfl (by decide) rfl
      have g3 : zv_ro Z ws' 2195511 = some (.int (nI 0)) := zv_dc_of (ys := []) H (by decide) (p3 _ (List.mem_of_getElem? (i := 7) rfl)).1 (i := 0) rfl (by decide) rfl
      have g4 : zv_ro Z ws' 1344541 = some (.int (nI 0)) := zv_dc_of (ys := []) H (by decide) (p3 _ (List.mem_of_getElem? (i := 0) rfl)).1 (i := 0) rfl (by decide) rfl
      refine ⟨zv_dm_of (ys := []) H (by decide) p2 rfl, p4, zr_en_of H (p3 _ (List.mem_of_getElem? (i := 1) rfl)).1, Or.inr ⟨g4, _, _, _, _, _, _, ⟨⟨?_, ?_, ?_, ?_, ?_, ?_⟩, d1, d2, d3, g1, g2, g3⟩, ?_⟩⟩
      all_goals first | omega | (unfold zt_m; omega)
    rcases List.mem_cons.mp p1 with rfl | p1
    · obtain ⟨d1, m1⟩ := zt_src H (off := 0) (lo := 2147483648) (hi := 2147483652) (p3 _ (List.mem_of_getElem? (i := 2) rfl)) (by decide) (by decide) (by decide) c1 (by omega)
      obtain ⟨d2, m2⟩ := zt_src H (off := 1) (lo := 2147483648) (hi := 2147483658) (p3 _ (List.mem_of_getElem? (i := 3) rfl)) (by decide) (by decide) (by decide) c2 (by omega)
      obtain ⟨d3, m3⟩ := zt_src H (off := 0) (lo := 2147483648) (hi := 2147483654) (p3 _ (List.mem_of_getElem? (i := 4) rfl)) (by decide) (by decide) (by decide) c3 (by omega)
      have g1 : zv_ro Z ws' 2228280 = some (.int (nI 1)) := zv_dc_of (ys := []) H (by decide) (p3 _ (List.mem_of_getElem? (i := 5) rfl)).1 (i := 0) rfl (by decide) rfl
      have g2 : zv_ro Z ws' 2162742 = some (.int (nI 0)) := zv_dc_of (ys := []) H (by decide) (p3 _ (List.mem_of_getElem? (i := 6) rfl)).1 (i := 0) rfl (by decide) rfl
      have g3 : zv_ro Z ws' 2195511 = some (.int (nI 0)) := zv_dc_of (ys := []) H (by decide) (p3 _ (List.mem_of_getElem? (i := 7) rfl)).1 (i := 0) rfl (by decide) rfl
      have g4 : zv_ro Z ws' 1344541 = some (.int (nI 0)) := zv_dc_of (ys := []) H (by decide) (p3 _ (List.mem_of_getElem? (i := 0) rfl)).1 (i := 0) rfl (by decide) rfl
      refine ⟨zv_dm_of (ys := []) H (by decide) p2 rfl, p4, zr_en_of H (p3 _ (List.mem_of_getElem? (i := 1) rfl)).1, Or.inr ⟨g4, _, _, _, _, _, _, ⟨⟨?_, ?_, ?_, ?_, ?_, ?_⟩, d1, d2, d3, g1, g2, g3⟩, ?_⟩⟩
      all_goals first | omega | (unfold zt_m; omega)
    rcases List.mem_cons.mp p1 with rfl | p1
    · obtain ⟨d1, m1⟩ := zt_src H (off := 0) (lo := 2147483648) (hi := 2147483652) (p3 _ (List.mem_of_getElem? (i := 2) rfl)) (by decide) (by decide) (by decide) c1 (by omega)
      obtain ⟨d2, m2⟩ := zt_src H (off := 0) (lo := 2147483648) (hi := 2147483658) (p3 _ (List.mem_of_getElem? (i := 3) rfl)) (by decide) (by decide) (by decide) c2 (by omega)
      obtain ⟨d3, m3⟩ := zt_src H (off := 1) (lo := 2147483648) (hi := 2147483654) (p3 _ (List.mem_of_getElem? (i := 4) rfl)) (by decide) (by decide) (by decide) c3 (by omega)
      have g1 : zv_ro Z ws' 2228280 = some (.int (nI 1)) := zv_dc_of (ys := []) H (by decide) (p3 _ (List.mem_of_getElem? (i := 5) rfl)).1 (i := 0) rfl (by decide) rfl
      have g2 : zv_ro Z ws' 2162742 = some (.int (nI 0)) := zv_dc_of (ys := []) H (by decide) (p3 _ (List.mem_of_getElem? (i := 6) rfl)).1 (i := 0) rfl (by decide) rfl
      have g3 : zv_ro Z ws' 2195511 = some (.int (nI 0)) := zv_dc_of (ys := []) H (by decide) (p3 _ (List.mem_of_getElem? (i := 7) rfl)).1 (i := 0) rfl (by decide) rfl
      have g4 : zv_ro Z ws' 1344541 = some (.int (nI 0)) := zv_dc_of (ys := []) H (by decide) (p3 _ (List.mem_of_getElem? (i := 0) rfl)).1 (i := 0) rfl (by decide) rfl
      refine ⟨zv_dm_of (ys := []) H (by decide) p2 rfl, p4, zr_en_of H (p3 _ (List.mem_of_getElem? (i := 1) rfl)).1, Or.inr ⟨g4, _, _, _, _, _, _, ⟨⟨?_, ?_, ?_, ?_, ?_, ?_⟩, d1, d2, d3, g1, g2, g3⟩, ?_⟩⟩
      all_goals first | omega | (unfold zt_m; omega)
    rcases List.mem_cons.mp p1 with rfl | p1
    · obtain ⟨d1, m1⟩ := zt_src H (off := 0) (lo := 2147483648) (hi := 2147483652) (p3 _ (List.mem_of_getElem? (i := 2) rfl)) (by decide) (by decide) (by decide) c1 (by omega)
      obtain ⟨d2, m2⟩ := zt_src H (off := 0) (lo := 2147483648) (hi := 2147483658) (p3 _ (List.mem_of_getElem? (i := 3) rfl)) (by decide) (by decide) (by decide) c2 (by omega)
      obtain ⟨d3, m3⟩ := zt_src H (off := 0) (lo := 2147483648) (hi := 2147483654) (p3 _ (List.mem_of_getElem? (i := 4) rfl)) (by decide) (by decide) (by decide) c3 (by omega)
      have g1 : zv_ro Z ws' 2228280 = some (.int (nI 1)) := zv_dc_of (ys := []) H (by decide) (p3 _ (List.mem_of_getElem? (i := 5) rfl)).1 (i := 0) rfl (by decide) rfl
      have g2 : zv_ro Z ws' 2162742 = some (.int (nI 1)) := zv_dc_of (ys := []) H (by decide) (p3 _ (List.mem_of_getElem? (i := 6) rfl)).1 (i := 0) rfl (by decide) rfl
      have g3 : zv_ro Z ws' 2195511 = some (.int (nI 0)) := zv_dc_of (ys := []) H (by decide) (p3 _ (List.mem_of_getElem? (i := 7) rfl)).1 (i := 0) rfl (by decide) rfl
      have g4 : zv_ro Z ws' 1344541 = some (.int (nI 0)) := zv_dc_of (ys := []) H (by decide) (p3 _ (List.mem_of_getElem? (i := 0) rfl)).1 (i := 0) rfl (by decide) rfl
      refine ⟨zv_dm_of (ys := []) H (by decide) p2 rfl, p4, zr_en_of H (p3 _ (List.mem_of_getElem? (i := 1) rfl)).1, Or.inr ⟨g4, _, _, _, _, _, _, ⟨⟨?_, ?_, ?_, ?_, ?_, ?_⟩, d1, d2, d3, g1, g2, g3⟩, ?_⟩⟩
      all_goals first | omega | (unfold zt_m; omega)
    rcases List.mem_singleton.mp p1 with rfl
    obtain ⟨d1, m1⟩ := zt_src H (off := 0) (lo := 2147483648) (hi := 2147483652) (p3 _ (List.mem_of_getElem? (i := 2) rfl)) (by decide) (by decide) (by decide) c1 (by omega)
    obtain ⟨d2, m2⟩ := zt_src H (off := 0) (lo := 2147483648) (hi := 2147483658) (p3 _ (List.mem_of_getElem? (i := 3) rfl)) (by decide) (by decide) (by decide) c2 (by omega)
    obtain ⟨d3, m3⟩ := zt_src H (off := 0) (lo := 2147483648) (hi := 2147483654) (p3 _ (List.mem_of_getElem? (i := 4) rfl)) (by decide) (by decide) (by decide) c3 (by omega)
    have g1 : zv_ro Z ws' 2228280 = some (.int (nI 1)) := zv_dc_of (ys := []) H (by decide) (p3 _ (List.mem_of_getElem? (i := 5) rfl)).1 (i := 0) rfl (by decide) rfl
    have g2 : zv_ro Z ws' 2162742 = some (.int (nI 0)) := zv_dc_of (ys := []) H (by decide) (p3 _ (List.mem_of_getElem? (i := 6) rfl)).1 (i := 0) rfl (by decide) rfl
    have g3 : zv_ro Z ws' 2195511 = some (.int (nI 1)) := zv_dc_of (ys := []) H (by decide) (p3 _ (List.mem_of_getElem? (i := 7) rfl)).1 (i := 0) rfl (by decide) rfl
    have g4 : zv_ro Z ws' 1344541 = some (.int (nI 0)) := zv_dc_of (ys := []) H (by decide) (p3 _ (List.mem_of_getElem? (i := 0) rfl)).1 (i := 0) rfl (by decide) rfl
    refine ⟨zv_dm_of (ys := []) H (by decide) p2 rfl, p4, zr_en_of H (p3 _ (List.mem_of_getElem? (i := 1) rfl)).1, Or.inr ⟨g4, _, _, _, _, _, _, ⟨⟨?_, ?_, ?_, ?_, ?_, ?_⟩, d1, d2, d3, g1, g2, g3⟩, ?_⟩⟩
    all_goals first | omega | (unfold zt_m; omega)
set_option maxHeartbeats 1000000 in
theorem zo_ln02 (HH : zy_HH l D N0 Z) (HU : zy_UQ zy_fg Z) {n1 n2 n3 : Nat} : zy_OkP l D N0 zy_T Z 234 13 (fun av ws => av = [.ref (zy_fa1 Z 29)] ∧ zy_GR (zy_gl Z) ws ∧ zy_rd ws (zy_ru Z 29) 44 0 = some (.int (nI 0)) ∧ zy_rd ws (zy_ru Z 29) 4 0 = some (.int (nI 0)) ∧ zr_en Z ws ∧ zt_C Z 0 ws n1 n2 n3 0 1 0) (fun _ ws vs ws' => vs = [] ∧ zt_P Z 0 (zt_m n1 n2 n3 0 1 0) ws ws') := by
  have H := HH.1
  refine zy_OkP_mono (zy_OkP_of (zo_r02 HH)) (Nat.le_refl _) (fun av ws h => ?_) (fun av ws vs ws' h0 h => ?_)
  · obtain ⟨e, hGR, f44, f4, hen, hb, c1, c2, c3, c4, c5, c6⟩ := h
    rw [e]
    have r7 : ∀ (n N : Nat), n ≤ N → N < 1000 → zy_r Z (zy_c7v 2147483648 (2147483648 + N)) (.int (nI n)) := fun n N h1 h2 => zy_r_7 (by rw [zy_bz_n (by omega)]; omega) (by rw [zy_bz_n (by omega)]; omega) (by omega)
    exact ⟨⟨zv_rr H (r := 29) (g := 41) (by decide) (by decide) rfl (by decide), trivial⟩, ⟨fun z => absurd z (by decide), fun _ => hGR, fun z => absurd z (by decide)⟩, zv_cr2 (zv_cr H (by decide) (by decide) rfl f44 (zy_r_c (n := 0) (by decide))) (zv_cr2 (zv_cr H (by decide) (by decide) rfl f4 (zy_r_c (n := 0) (by decide))) (zv_cr2 (zr_en_cr H hen) (zv_cr2 (zv_cr H (by decide) (by decide) rfl c1 (r7 n1 4 (by omega) (by decide))) (zv_cr2 (zv_cr H (by decide) (by decide) rfl c2 (r7 n2 10 (by omega) (by decide))) (zv_cr2 (zv_cr H (by decide) (by decide) rfl c3 (r7 n3 6 (by omega) (by decide))) (zv_cr2 (zv_cr H (by decide) (by decide) rfl c4 (zy_r_c (n := 0) (by decide))) (zv_cr2 (zv_cr H (by decide) (by decide) rfl c5 (zy_r_c (n := 1) (by decide))) (zv_cr H (by decide) (by decide) rfl c6 (zy_r_c (n := 0) (by decide))))))))))⟩
  · obtain ⟨e, hGR, f44, f4, hen, ⟨b1, b2, b3, -, -, -⟩, c1, c2, c3, c4, c5, c6⟩ := h0
    obtain ⟨po, p1, p2, p3, p4⟩ := h
    rcases List.mem_cons.mp p1 with rfl | p1
    · obtain ⟨fk, k1, k2, -⟩ := zv_dc_7 (ys := []) H (p3 _ List.mem_cons_self).1 (i := 0) (key := 1344541) (lo := 2147483649) (hi := 2147483653) rfl (by decide) (by decide) (by decide)
      refine ⟨zv_dm_of (ys := []) H (by decide) p2 rfl, p4, zr_en_of H (p3 _ (List.mem_of_getElem? (i := 1) rfl)).1, Or.inl ⟨fk, k1, fun z => ?_⟩⟩
      rw [z, show zx_bz 0 = 2147483648 from by decide] at k2
      omega
    rcases List.mem_cons.mp p1 with rfl | p1
    · obtain ⟨d1, m1⟩ := zt_src H (off := 1) (lo := 2147483648) (hi := 2147483652) (p3 _ (List.mem_of_getElem? (i := 2) rfl)) (by decide) (by decide) (by decide) c1 (by omega)
      obtain ⟨d2, m2⟩ := zt_src H (off := 0) (lo := 2147483648) (hi := 2147483658) (p3 _ (List.mem_of_getElem? (i := 3) rfl)) (by decide) (by decide) (by decide) c2 (by omega)
      obtain ⟨d3, m3⟩ := zt_src H (off := 0) (lo := 2147483648) (hi := 2147483654) (p3 _ (List.mem_of_getElem? (i := 4) rfl)) (by decide) (by decide) (by decide) c3 (by omega)
      have g1 : zv_ro Z ws' 2228280 = some (.int (nI 0)) := zv_dc_of (ys := []) H (by decide) (p3 _ (List.mem_of_getElem? (i := 5) rfl)).1 (i := 0) rfl (by decide) rfl
      have g2 : zv_ro Z ws' 2162742 = some (.int (nI 1)) := zv_dc_of (ys := []) H (by decide) (p3 _ (List.mem_of_getElem? (i := 6) rfl)).1 (i := 0) rfl (by decide) rfl
      have g3 : zv_ro Z ws' 2195511 = some (.int (nI 0)) := zv_dc_of (ys := []) H (by decide) (p3 _ (List.mem_of_getElem? (i := 7) rfl)).1 (i := 0) rfl (by decide) rfl
      have g4 : zv_ro Z ws' 1344541 = some (.int (nI 0)) := zv_dc_of (ys := []) H (by decide) (p3 _ (List.mem_of_getElem? (i := 0) rfl)).1 (i := 0) rfl (by decide) rfl
      refine ⟨zv_dm_of (ys := []) H (by decide) p2 rfl, p4, zr_en_of H (p3 _ (List.mem_of_getElem? (i := 1) rfl)).1, Or.inr ⟨g4, _, _, _, _, _, _, ⟨⟨?_, ?_, ?_, ?_, ?_, ?_⟩, d1, d2, d3, g1, g2, g3⟩, ?_⟩⟩
      all_goals first | omega | (unfold zt_m; omega)
    rcases List.mem_cons.mp p1 with rfl | p1
    · obtain ⟨d1, m1⟩ := zt_src H (off := 0) (lo := 2147483648) (hi := 2147483652) (p3 _ (List.mem_of_getElem? (i := 2) rfl)) (by decide) (by decide) (by decide) c1 (by omega)
      obtain ⟨d2, m2⟩ := zt_src H (off := 1) (lo := 2147483648) (hi := 2147483658) (p3 _ (List.mem_of_getElem? (i := 3) rfl)) (by decide) (by decide) (by decide) c2 (by omega)
      obtain ⟨d3, m3⟩ := zt_src H (off := 0) (lo := 2147483648) (hi := 2147483654) (p3 _ (List.mem_of_getElem? (i := 4) rfl)) (by decide) (by decide) (by decide) c3 (by omega)
      have g1 : zv_ro Z ws' 2228280 = some (.int (nI 0)) := zv_dc_of (ys := []) H (by decide) (p3 _ (List.mem_of_getElem? (i := 5) rfl)).1 (i := 0) rfl (by decide) rfl
      have g2 : zv_ro Z ws' 2162742 = some (.int (nI 1)) := zv_dc_of (ys := []) H (by decide) (p3 _ (List.mem_of_getElem? (i := 6) rfl)).1 (i := 0) rfl (by decide) rfl
      have g3 : zv_ro Z ws' 2195511 = some (.int (nI 0)) := zv_dc_of (ys := []) H (by decide) (p3 _ (List.mem_of_getElem? (i := 7) rfl)).1 (i := 0) rfl (by decide) rfl
      have g4 : zv_ro Z ws' 1344541 = some (.int (nI 0)) := zv_dc_of (ys := []) H (by decide) (p3 _ (List.mem_of_getElem? (i := 0) rfl)).1 (i := 0) rfl (by decide) rfl
      refine ⟨zv_dm_of (ys := []) H (by decide) p2 rfl, p4, zr_en_of H (p3 _ (List.mem_of_getElem? (i := 1) rfl)).1, Or.inr ⟨g4, _, _, _, _, _, _, ⟨⟨?_, ?_, ?_, ?_, ?_, ?_⟩, d1, d2, d3, g1, g2, g3⟩, ?_⟩⟩
      all_goals first | omega | (unfold zt_m; omega)
    rcases List.mem_cons.mp p1 with rfl | p1
    · obtain ⟨d1, m1⟩ := zt_src H (off := 0) (lo := 2147483648) (hi := 2147483652) (p3 _ (List.mem_of_getElem? (i := 2) rfl)) (by decide) (by decide) (by decide) c1 (by omega)
      obtain ⟨d2, m2⟩ := zt_src H (off := 0) (lo := 2147483648) (hi := 2147483658) (p3 _ (List.mem_of_getElem? (i := 3) rfl)) (by decide) (by decide) (by decide) c2 (by omega)
      obtain ⟨d3, m3⟩ := zt_src H (off := 1) (lo := 2147483648) (hi := 2147483654) (p3 _ (List.mem_of_getElem? (i := 4) rfl)) (by decide) (by decide) (by decide) c3 (by omega)
      have g1 : zv_ro Z ws' 2228280 = some (.int (nI 0)) := zv_dc_of (ys := []) H (by decide) (p3 _ (List.mem_of_getElem? (i := 5) rfl)).1 (i := 0) rfl (by decide) rfl
      have g2 : zv_ro Z ws' 2162742 = some (.int (nI 1)) := zv_dc_of (ys := []) H (by decide) (p3 _ (List.mem_of_getElem? (i := 6) rfl)).1 (i := 0) rfl (by decide) rfl
      have g3 : zv_ro Z ws' 2195511 = some (.int (nI 0)) := zv_dc_of (ys := []) H (by decide) (p3 _ (List.mem_of_getElem? (i := 7) rfl)).1 (i := 0) rfl (by decide) rfl
      have g4 : zv_ro Z ws' 1344541 = some (.int (nI 0)) := zv_dc_of (ys := []) H (by decide) (p3 _ (List.mem_of_getElem? (i := 0) rfl)).1 (i := 0) rfl (by decide) rfl
      refine ⟨zv_dm_of (ys := []) H (by decide) p2 rfl, p4, zr_en_of H (p3 _ (List.mem_of_getElem? (i := 1) rfl)).1, Or.inr ⟨g4, _, _, _, _, _, _, ⟨⟨?_, ?_, ?_, ?_, ?_, ?_⟩, d1, d2, d3, g1, g2, g3⟩, ?_⟩⟩
      all_goals first | omega | (unfold zt_m; omega)
    rcases List.mem_cons.mp p1 with rfl | p1
    · obtain ⟨d1, m1⟩ := zt_src H (off := 0) (lo := 2147483648) (hi := 2147483652) (p3 _ (List.mem_of_getElem? (i := 2) rfl)) (by decide) (by decide) (by decide) c1 (by omega)
      obtain ⟨d2, m2⟩ := zt_src H (off := 0) (lo := 2147483648) (hi := 2147483658) (p3 _ (List.mem_of_getElem? (i := 3) rfl)) (by decide) (by decide) (by decide) c2 (by omega)
      obtain ⟨d3, m3⟩ := zt_src H (off := 0) (lo := 2147483648) (hi := 2147483654) (p3 _ (List.mem_of_getElem? (i := 4) rfl)) (by decide) (by decide) (by decide) c3 (by omega)
      have g1 : zv_ro Z ws' 2228280 = some (.int (nI 1)) := zv_dc_of (ys := []) H (by decide) (p3 _ (List.mem_of_getElem? (i := 5) rfl)).1 (i := 0) rfl (by decide) rfl
      have g2 : zv_ro Z ws' 2162742 = some (.int (nI 1)) := zv_dc_of (ys := []) H (by decide) (p3 _ (List.mem_of_getElem? (i := 6) rfl)).1 (i := 0) rfl (by decide) rfl
      have g3 : zv_ro Z ws' 2195511 = some (.int (nI 0)) := zv_dc_of (ys := []) H (by decide) (p3 _ (List.mem_of_getElem? (i := 7) rfl)).1 (i := 0) rfl (by decide) rfl
      have g4 : zv_ro Z ws' 1344541 = some (.int (nI 0)) := zv_dc_of (ys := []) H (by decide) (p3 _ (List.mem_of_getElem? (i := 0) rfl)).1 (i := 0) rfl (by decide) rfl
      refine ⟨zv_dm_of (ys := []) H (by decide) p2 rfl, p4, zr_en_of H (p3 _ (List.mem_of_getElem? (i := 1) rfl)).1, Or.inr ⟨g4, _, _, _, _, _, _, ⟨⟨?_, ?_, ?_, ?_, ?_, ?_⟩, d1, d2, d3, g1, g2, g3⟩, ?_⟩⟩
      all_goals first | omega | (unfold zt_m; omega)
    rcases List.mem_singleton.mp p1 with rfl
    obtain ⟨d1, m1⟩ := zt_src H (off := 0) (lo := 2147483648) (hi := 2147483652) (p3 _ (List.mem_of_getElem? (i := 2) rfl)) (by decide) (by decide) (by decide) c1 (by omega)
    obtain ⟨d2, m2⟩ := zt_src H (off := 0) (lo := 2147483648) (hi := 2147483658) (p3 _ (List.mem_of_getElem? (i := 3) rfl)) (by decide) (by decide) (by decide) c2 (by omega)
    obtain ⟨d3, m3⟩ := zt_src H (off := 0) (lo := 2147483648) (hi := 2147483654) (p3 _ (List.mem_of_getElem? (i := 4) rfl)) (by decide) (by decide) (by decide) c3 (by omega)
    have g1 : zv_ro Z ws' 2228280 = some (.int (nI 0)) := zv_dc_of (ys := []) H (by decide) (p3 _ (List.mem_of_getElem? (i := 5) rfl)).1 (i := 0) rfl (by decide) rfl
    have g2 : zv_ro Z ws' 2162742 = some (.int (nI 1)) := zv_dc_of (ys := []) H (by decide) (p3 _ (List.mem_of_getElem? (i := 6) rfl)).1 (i := 0) rfl (by decide) rfl
    have g3 : zv_ro Z ws' 2195511 = some (.int (nI 1)) := zv_dc_of (ys := []) H (by decide) (p3 _ (List.mem_of_getElem? (i := 7) rfl)).1 (i := 0) rfl (by decide) rfl
    have g4 : zv_ro Z ws' 1344541 = some (.int (nI 0)) := zv_dc_of (ys := []) H (by decide) (p3 _ (List.mem_of_getElem? (i := 0) rfl)).1 (i := 0) rfl (by decide) rfl
    refine ⟨zv_dm_of (ys := []) H (by decide) p2 rfl, p4, zr_en_of H (p3 _ (List.mem_of_getElem? (i := 1) rfl)).1, Or.inr ⟨g4, _, _, _, _, _, _, ⟨⟨?_, ?_, ?_, ?_, ?_, ?_⟩, d1, d2, d3, g1, g2, g3⟩, ?_⟩⟩
    all_goals first | omega | (unfold zt_m; omega)
set_option maxHeartbeats 1000000 in
theorem zo_ln03 (HH : zy_HH l D N0 Z) (HU : zy_UQ zy_fg Z) {n1 n2 n3 : Nat} : zy_OkP l D N0 zy_T Z 234 13 (fun av ws => av = [.ref (zy_fa1 Z 29)] ∧ zy_GR (zy_gl Z) ws ∧ zy_rd ws (zy_ru Z 29) 44 0 = some (.int (nI 0)) ∧ zy_rd ws (zy_ru Z 29) 4 0 = some (.int (nI 0)) ∧ zr_en Z ws ∧ zt_C Z 0 ws n1 n2 n3 1 1 0) (fun _ ws vs ws' => vs = [] ∧ zt_P Z 0 (zt_m n1 n2 n3 1 1 0) ws ws') := by
  have H := HH.1
  refine zy_OkP_mono (zy_OkP_of (zo_r03 HH)) (Nat.le_refl _) (fun av ws h => ?_) (fun av ws vs ws' h0 h => ?_)
  · obtain ⟨e, hGR, f44, f4, hen, hb, c1, c2, c3, c4, c5, c6⟩ := h
    rw [e]
    have r7 : ∀ (n N : Nat), n ≤ N → N < 1000 → zy_r Z (zy_c7v 2147483648 (2147483648 + N)) (.int (nI n)) := fun n N h1 h2 => zy_r_7 (by rw [zy_bz_n (by omega)]; omega) (by rw [zy_bz_n (by omega)]; omega) (by omega)
    exact ⟨⟨zv_rr H (r := 29) (g := 41) (by decide) (by decide) rfl (by decide), trivial⟩, ⟨fun z => absurd z (by decide), fun _ => hGR, fun z => absurd z (by decide)⟩, zv_cr2 (zv_cr H (by decide) (by decide) rfl f44 (zy_r_c (n := 0) (by decide))) (zv_cr2 (zv_cr H (by decide) (by decide) rfl f4 (zy_r_c (n := 0) (by decide))) (zv_cr2 (zr_en_cr H hen) (zv_cr2 (zv_cr H (by decide) (by decide) rfl c1 (r7 n1 4 (by omega) (by decide))) (zv_cr2 (zv_cr H (by decide) (by decide) rfl c2 (r7 n2 10 (by omega) (by decide))) (zv_cr2 (zv_cr H (by decide) (by decide) rfl c3 (r7 n3 6 (by omega) (by decide))) (zv_cr2 (zv_cr H (by decide) (by decide) rfl c4 (zy_r_c (n := 1) (by decide))) (zv_cr2 (zv_cr H (by decide) (by decide) rfl c5 (zy_r_c (n := 1) (by decide))) (zv_cr H (by decide) (by decide) rfl c6 (zy_r_c (n := 0) (by decide))))))))))⟩
  · obtain ⟨e, hGR, f44, f4, hen, ⟨b1, b2, b3, -, -, -⟩, c1, c2, c3, c4, c5, c6⟩ := h0
    obtain ⟨po, p1, p2, p3, p4⟩ := h
    rcases List.mem_cons.mp p1 with rfl | p1
    · obtain ⟨fk, k1, k2, -⟩ := zv_dc_7 (ys := []) H (p3 _ List.mem_cons_self).1 (i := 0) (key := 1344541) (lo := 2147483649) (hi := 2147483653) rfl (by decide) (by decide) (by decide)
      refine ⟨zv_dm_of (ys := []) H (by decide) p2 rfl, p4, zr_en_of H (p3 _ (List.mem_of_getElem? (i := 1) rfl)).1, Or.inl ⟨fk, k1, fun z => ?_⟩⟩
      rw [z, show zx_bz 0 = 2147483648 from by decide] at k2
      omega
    rcases List.mem_cons.mp p1 with rfl | p1
    · obtain ⟨d1, m1⟩ := zt_src H (off := 1) (lo := 2147483648) (hi := 2147483652) (p3 _ (List.mem_of_getElem? (i := 2) rfl)) (by decide) (by decide) (by decide) c1 (by omega)
      obtain ⟨d2, m2⟩ := zt_src H (off := 0) (lo := 2147483648) (hi := 2147483658) (p3 _ (List.mem_of_getElem? (i := 3) rfl)) (by decide) (by decide) (by decide) c2 (by omega)
      obtain ⟨d3, m3⟩ := zt_src H (off := 0) (lo := 2147483648) (hi := 2147483654) (p3 _ (List.mem_of_getElem? (i := 4) rfl)) (by decide) (by decide) (by decide) c3 (by omega)
      have g1 : zv_ro Z ws' 2228280 = some (.int (nI 1)) := zv_dc_of (ys := []) H (by decide) (p3 _ (List.mem_of_getElem? (i := 5) rfl)).1 (i := 0) rfl (by decide) rfl
      have g2 : zv_ro Z ws' 2162742 = some (.int (nI 1)) := zv_dc_of (ys := []) H (by decide) (p3 _ (List.mem_of_getElem? (i := 6) rfl)).1 (i := 0) rfl (by decide) rfl
      have g3 : zv_ro Z ws' 2195511 = some (.int (nI 0)) := zv_dc_of (ys := []) H (by decide) (p3 _ (List.mem_of_getElem? (i := 7) rfl)).1 (i := 0) rfl (by decide) rfl
      have g4 : zv_ro Z ws' 1344541 = some (.int (nI 0)) := zv_dc_of (ys := []) H (by decide) (p3 _ (List.mem_of_getElem? (i := 0) rfl)).1 (i := 0) rfl (by decide) rfl
      refine ⟨zv_dm_of (ys := []) H (by decide) p2 rfl, p4, zr_en_of H (p3 _ (List.mem_of_getElem? (i := 1) rfl)).1, Or.inr ⟨g4, _, _, _, _, _, _, ⟨⟨?_, ?_, ?_, ?_, ?_, ?_⟩, d1, d2, d3, g1, g2, g3⟩, ?_⟩⟩
      all_goals first | omega | (unfold zt_m; omega)
    rcases List.mem_cons.mp p1 with rfl | p1
    · obtain ⟨d1, m1⟩ := zt_src H (off := 0) (lo := 2147483648) (hi := 2147483652) (p3 _ (List.mem_of_getElem? (i := 2) rfl)) (by decide) (by decide) (by decide) c1 (by omega)
      obtain ⟨d2, m2⟩ := zt_src H (off := 1) (lo := 2147483648) (hi := 2147483658) (p3 _ (List.mem_of_getElem? (i := 3) rfl)) (by decide) (by decide) (by decide) c2 (by omega)
      obtain ⟨d3, m3⟩ := zt_src H (off := 0) (lo := 2147483648) (hi := 2147483654) (p3 _ (List.mem_of_getElem? (i := 4) rfl)) (by decide) (by decide) (by decide) c3 (by omega)
      have g1 : zv_ro Z ws' 2228280 = some (.int (nI 1)) := zv_dc_of (ys := []) H (by decide) (p3 _ (List.mem_of_getElem? (i := 5) rfl)).1 (i := 0) rfl (by decide) rfl
      have g2 : zv_ro Z ws' 2162742 = some (.int (nI 1)) := zv_dc_of (ys := []) H (by decide) (p3 _ (List.mem_of_getElem? (i := 6) rfl)).1 (i := 0) rfl (by decide) rfl
      have g3 : zv_ro Z ws' 2195511 = some (.int (nI 0)) := zv_dc_of (ys := []) H (by decide) (p3 _ (List.mem_of_getElem? (i := 7) rfl)).1 (i := 0) rfl (by decide) rfl
      have g4 : zv_ro Z ws' 1344541 = some (.int (nI 0)) := zv_dc_of (ys := []) H (by decide) (p3 _ (List.mem_of_getElem? (i := 0) rfl)).1 (i := 0) rfl (by decide) rfl
      refine ⟨zv_dm_of (ys := []) H (by decide) p2 rfl, p4, zr_en_of H (p3 _ (List.mem_of_getElem? (i := 1) rfl)).1, Or.inr ⟨g4, _, _, _, _, _, _, ⟨⟨?_, ?_, ?_, ?_, ?_, ?_⟩, d1, d2, d3, g1, g2, g3⟩, ?_⟩⟩
      all_goals first | omega | (unfold zt_m; omega)
    rcases List.mem_cons.mp p1 with rfl | p1
    · obtain ⟨d1, m1⟩ := zt_src H (off := 0) (lo := 2147483648) (hi := 2147483652) (p3 _ (List.mem_of_getElem? (i := 2) rfl)) (by decide) (by decide) (by decide) c1 (by omega)
      obtain ⟨d2, m2⟩ := zt_src H (off := 0) (lo := 2147483648) (hi := 2147483658) (p3 _ (List.mem_of_getElem? (i := 3) rfl)) (by decide) (by decide) (by decide) c2 (by omega)
      obtain ⟨d3, m3⟩ := zt_src H (off := 1) (lo := 2147483648) (hi := 2147483654) (p3 _ (List.mem_of_getElem? (i := 4) rfl)) (by decide) (by decide) (by decide) c3 (by omega)
      have g1 : zv_ro Z ws' 2228280 = some (.int (nI 1)) := zv_dc_of (ys := []) H (by decide) (p3 _ (List.mem_of_getElem? (i := 5) rfl)).1 (i := 0) rfl (by decide) rfl
      have g2 : zv_ro Z ws' 2162742 = some (.int (nI 1)) := zv_dc_of (ys := []) H (by decide) (p3 _ (List.mem_of_getElem? (i := 6) rfl)).1 (i := 0) rfl (by decide) rfl
      have g3 : zv_ro Z ws' 2195511 = some (.int (nI 0)) := zv_dc_of (ys := []) H (by decide) (p3 _ (List.mem_of_getElem? (i := 7) rfl)).1 (i := 0) rfl (by decide) rfl
      have g4 : zv_ro Z ws' 1344541 = some (.int (nI 0)) := zv_dc_of (ys := []) H (by decide) (p3 _ (List.mem_of_getElem? (i := 0) rfl)).1 (i := 0) rfl (by decide) rfl
      refine ⟨zv_dm_of (ys := []) H (by decide) p2 rfl, p4, zr_en_of H (p3 _ (List.mem_of_getElem? (i := 1) rfl)).1, Or.inr ⟨g4, _, _, _, _, _, _, ⟨⟨?_, ?_, ?_, ?_, ?_, ?_⟩, d1, d2, d3, g1, g2, g3⟩, ?_⟩⟩
      all_goals first | omega | (unfold zt_m; omega)
    rcases List.mem_singleton.mp p1 with rfl
    obtain ⟨d1, m1⟩ := zt_src H (off := 0) (lo := 2147483648) (hi := 2147483652) (p3 _ (List.mem_of_getElem? (i := 2) rfl)) (by decide) (by decide) (by decide) c1 (by omega)
    obtain ⟨d2, m2⟩ := zt_src H (off := 0) (lo := 2147483648) (hi := 2147483658) (p3 _ (List.mem_of_getElem? (i := 3) rfl)) (by decide) (by decide) (by decide) c2 (by omega)
    obtain ⟨d3, m3⟩ := zt_src H (off := 0) (lo := 2147483648) (hi := 2147483654) (p3 _ (List.mem_of_getElem? (i := 4) rfl)) (by decide) (by decide) (by decide) c3 (by omega)
    have g1 : zv_ro Z ws' 2228280 = some (.int (nI 1)) := zv_dc_of (ys := []) H (by decide) (p3 _ (List.mem_of_getElem? (i := 5) rfl)).1 (i := 0) rfl (by decide) rfl
    have g2 : zv_ro Z ws' 2162742 = some (.int (nI 1)) := zv_dc_of (ys := []) H (by decide) (p3 _ (List.mem_of_getElem? (i := 6) rfl)).1 (i := 0) rfl (by decide) rfl
    have g3 : zv_ro Z ws' 2195511 = some (.int (nI 1)) := zv_dc_of (ys := []) H (by decide) (p3 _ (List.mem_of_getElem? (i := 7) rfl)).1 (i := 0) rfl (by decide) rfl
    have g4 : zv_ro Z ws' 1344541 = some (.int (nI 0)) := zv_dc_of (ys := []) H (by decide) (p3 _ (List.mem_of_getElem? (i := 0) rfl)).1 (i := 0) rfl (by decide) rfl
    refine ⟨zv_dm_of (ys := []) H (by decide) p2 rfl, p4, zr_en_of H (p3 _ (List.mem_of_getElem? (i := 1) rfl)).1, Or.inr ⟨g4, _, _, _, _, _, _, ⟨⟨?_, ?_, ?_, ?_, ?_, ?_⟩, d1, d2, d3, g1, g2, g3⟩, ?_⟩⟩
    all_goals first | omega | (unfold zt_m; omega)
set_option maxHeartbeats 1000000 in
theorem zo_ln04 (HH : zy_HH l D N0 Z) (HU : zy_UQ zy_fg Z) {n1 n2 n3 : Nat} : zy_OkP l D N0 zy_T Z 234 13 (fun av ws => av = [.ref (zy_fa1 Z 29)] ∧ zy_GR (zy_gl Z) ws ∧ zy_rd ws (zy_ru Z 29) 44 0 = some (.int (nI 0)) ∧ zy_rd ws (zy_ru Z 29) 4 0 = some (.int (nI 0)) ∧ zr_en Z ws ∧ zt_C Z 0 ws n1 n2 n3 0 0 1) (fun _ ws vs ws' => vs = [] ∧ zt_P Z 0 (zt_m n1 n2 n3 0 0 1) ws ws') := by
  have H := HH.1
  refine zy_OkP_mono (zy_OkP_of (zo_r04 HH)) (Nat.le_refl _) (fun av ws h => ?_) (fun av ws vs ws' h0 h => ?_)
  · obtain ⟨e, hGR, f44, f4, hen, hb, c1, c2, c3, c4, c5, c6⟩ := h
    rw [e]
    have r7 : ∀ (n N : Nat), n ≤ N → N < 1000 → zy_r Z (zy_c7v 2147483648 (2147483648 + N)) (.int (nI n)) := fun n N h1 h2 => zy_r_7 (by rw [zy_bz_n (by omega)]; omega) (by rw [zy_bz_n (by omega)]; omega) (by omega)
    exact ⟨⟨zv_rr H (r := 29) (g := 41) (by decide) (by decide) rfl (by decide), trivial⟩, ⟨fun z => absurd z (by decide), fun _ => hGR, fun z => absurd z (by decide)⟩, zv_cr2 (zv_cr H (by decide) (by decide) rfl f44 (zy_r_c (n := 0) (by decide))) (zv_cr2 (zv_cr H (by decide) (by decide) rfl f4 (zy_r_c (n := 0) (by decide))) (zv_cr2 (zr_en_cr H hen) (zv_cr2 (zv_cr H (by decide) (by decide) rfl c1 (r7 n1 4 (by omega) (by decide))) (zv_cr2 (zv_cr H (by decide) (by decide) rfl c2 (r7 n2 10 (by omega) (by decide))) (zv_cr2 (zv_cr H (by decide) (by decide) rfl c3 (r7 n3 6 (by omega) (by decide))) (zv_cr2 (zv_cr H (by decide) (by decide) rfl c4 (zy_r_c (n := 0) (by decide))) (zv_cr2 (zv_cr H (by decide) (by decide) rfl c5 (zy_r_c (n := 0) (by decide))) (zv_cr H (by decide) (by decide) rfl c6 (zy_r_c (n := 1) (by decide))))))))))⟩
  · obtain ⟨e, hGR, f44, f4, hen, ⟨b1, b2, b3, -, -, -⟩, c1, c2, c3, c4, c5, c6⟩ := h0
    obtain ⟨po, p1, p2, p3, p4⟩ := h
    rcases List.mem_cons.mp p1 with rfl | p1
    · obtain ⟨fk, k1, k2, -⟩ := zv_dc_7 (ys := []) H (p3 _ List.mem_cons_self).1 (i := 0) (key := 1344541) (lo := 2147483649) (hi := 2147483653) rfl (by decide) (by decide) (by decide)
      refine ⟨zv_dm_of (ys := []) H (by decide) p2 rfl, p4, zr_en_of H (p3 _ (List.mem_of_getElem? (i := 1) rfl)).1, Or.inl ⟨fk, k1, fun z => ?_⟩⟩
      rw [z, show zx_bz 0 = 2147483648 from by decide] at k2
      omega
    rcases List.mem_cons.mp p1 with rfl | p1
    · obtain ⟨d1, m1⟩ := zt_src H (off := 1) (lo := 2147483648) (hi := 2147483652) (p3 _ (List.mem_of_getElem? (i := 2) rfl)) (by decide) (by decide) (by decide) c1 (by omega)
      obtain ⟨d2, m2⟩ := zt_src H (off := 0) (lo := 2147483648) (hi := 2147483658) (p3 _ (List.mem_of_getElem? (i := 3) rfl)) (by decide) (by decide) (by decide) c2 (by omega)
      obtain ⟨d3, m3⟩ := zt_src H (off := 0) (lo := 2147483648) (hi := 2147483654) (p3 _ (List.mem_of_getElem? (i := 4) rfl)) (by decide) (by decide) (by decide) c3 (by omega)
      have g1 : zv_ro Z ws' 2228280 = some (.int (nI 0)) := zv_dc_of (ys := []) H (by decide) (p3 _ (List.mem_of_getElem? (i := 5) rfl)).1 (i := 0) rfl (by decide) rfl
      have g2 : zv_ro Z ws' 2162742 = some (.int (nI 0)) := zv_dc_of (ys := []) H (by decide) (p3 _ (List.mem_of_getElem? (i := 6) rfl)).1 (i := 0) rfl (by decide) rfl
      have g3 : zv_ro Z ws' 2195511 = some (.int (nI 1)) := zv_dc_of (ys := []) H (by decide) (p3 _ (List.mem_of_getElem? (i := 7) rfl)).1 (i := 0) rfl (by decide) rfl
      have g4 : zv_ro Z ws' 1344541 = some (.int (nI 0)) := zv_dc_of (ys := []) H (by decide) (p3 _ (List.mem_of_getElem? (i := 0) rfl)).1 (i := 0) rfl (by decide) rfl
      refine ⟨zv_dm_of (ys := []) H (by decide) p2 rfl, p4, zr_en_of H (p3 _ (List.mem_of_getElem? (i := 1) rfl)).1, Or.inr ⟨g4, _, _, _, _, _, _, ⟨⟨?_, ?_, ?_, ?_, ?_, ?_⟩, d1, d2, d3, g1, g2, g3⟩, ?_⟩⟩
      all_goals first | omega | (unfold zt_m; omega)
    rcases List.mem_cons.mp p1 with rfl | p1
    · obtain ⟨d1, m1⟩ := zt_src H (off := 0) (lo := 2147483648) (hi := 2147483652) (p3 _ (List.mem_of_getElem? (i := 2) rfl)) (by decide) (by decide) (by decide) c1 (by omega)
      obtain ⟨d2, m2⟩ := zt_src H (off := 1) (lo := 2147483648) (hi := 2147483658) (p3 _ (List.mem_of_getElem? (i := 3) rfl)) (by decide) (by decide) (by decide) c2 (by omega)
      obtain ⟨d3, m3⟩ := zt_src H (off := 0) (lo := 2147483648) (hi := 2147483654) (p3 _ (List.mem_of_getElem? (i := 4) rfl)) (by decide) (by decide) (by decide) c3 (by omega)
      have g1 : zv_ro Z ws' 2228280 = some (.int (nI 0)) := zv_dc_of (ys := []) H (by decide) (p3 _ (List.mem_of_getElem? (i := 5) rfl)).1 (i := 0) rfl (by decide) rfl
      have g2 : zv_ro Z ws' 2162742 = some (.int (nI 0)) := zv_dc_of (ys := []) H (by decide) (p3 _ (List.mem_of_getElem? (i := 6) rfl)).1 (i := 0) rfl (by decide) rfl
      have g3 : zv_ro Z ws' 2195511 = some (.int (nI 1)) := zv_dc_of (ys := []) H (by decide) (p3 _ (List.mem_of_getElem? (i := 7) rfl)).1 (i := 0) rfl (by decide) rfl
      have g4 : zv_ro Z ws' 1344541 = some (.int (nI 0)) := zv_dc_of (ys := []) H (by decide) (p3 _ (List.mem_of_getElem? (i := 0) rfl)).1 (i := 0) rfl (by decide) rfl
      refine ⟨zv_dm_of (ys := []) H (by decide) p2 rfl, p4, zr_en_of H (p3 _ (List.mem_of_getElem? (i := 1) rfl)).1, Or.inr ⟨g4, _, _, _, _, _, _, ⟨⟨?_, ?_, ?_, ?_, ?_, ?_⟩, d1, d2, d3, g1, g2, g3⟩, ?_⟩⟩
      all_goals first | omega | (unfold zt_m; omega)
    rcases List.mem_cons.mp p1 with rfl | p1
    · obtain ⟨d1, m1⟩ := zt_src H (off := 0) (lo := 2147483648) (hi := 2147483652) (p3 _ (List.mem_of_getElem? (i := 2) rfl)) (by decide) (by decide) (by decide) c1 (by omega)
      obtain ⟨d2, m2⟩ := zt_src H (off := 0) (lo := 2147483648) (hi := 2147483658) (p3 _ (List.mem_of_getElem? (i := 3) rfl)) (by decide) (by decide) (by decide) c2 (by omega)
      obtain ⟨d3, m3⟩ := zt_src H (off := 1) (lo := 2147483648) (hi := 2147483654) (p3 _ (List.mem_of_getElem? (i := 4) rfl)) (by decide) (by decide) (by decide) c3 (by omega)
      have g1 : zv_ro Z ws' 2228280 = some (.int (nI 0)) := zv_dc_of (ys := []) H (by decide) (p3 _ (List.mem_of_getElem? (i := 5) rfl)).1 (i := 0) rfl (by decide) rfl
      have g2 : zv_ro Z ws' 2162742 = some (.int (nI 0)) := zv_dc_of (ys := []) H (by decide) (p3 _ (List.mem_of_getElem? (i := 6) rfl)).1 (i := 0) rfl (by decide) rfl
      have g3 : zv_ro Z ws' 2195511 = some (.int (nI 1)) := zv_dc_of (ys := []) H (by decide) (p3 _ (List.mem_of_getElem? (i := 7) rfl)).1 (i := 0) rfl (by decide) rfl
      have g4 : zv_ro Z ws' 1344541 = some (.int (nI 0)) := zv_dc_of (ys := []) H (by decide) (p3 _ (List.mem_of_getElem? (i := 0) rfl)).1 (i := 0) rfl (by decide) rfl
      refine ⟨zv_dm_of (ys := []) H (by decide) p2 rfl, p4, zr_en_of H (p3 _ (List.mem_of_getElem? (i := 1) rfl)).1, Or.inr ⟨g4, _, _, _, _, _, _, ⟨⟨?_, ?_, ?_, ?_, ?_, ?_⟩, d1, d2, d3, g1, g2, g3⟩, ?_⟩⟩
      all_goals first | omega | (unfold zt_m; omega)
    rcases List.mem_cons.mp p1 with rfl | p1
    · obtain ⟨d1, m1⟩ := zt_src H (off := 0) (lo := 2147483648) (hi := 2147483652) (p3 _ (List.mem_of_getElem? (i := 2) rfl)) (by decide) (by decide) (by decide) c1 (by omega)
      obtain ⟨d2, m2⟩ := zt_src H (off := 0) (lo := 2147483648) (hi := 2147483658) (p3 _ (List.mem_of_getElem? (i := 3) rfl)) (by decide) (by decide) (by decide) c2 (by omega)
      obtain ⟨d3, m3⟩ := zt_src H (off := 0) (lo := 2147483648) (hi := 2147483654) (p3 _ (List.mem_of_getElem? (i := 4) rfl)) (by decide) (by decide) (by decide) c3 (by omega)
      have g1 : zv_ro Z ws' 2228280 = some (.int (nI 1)) := zv_dc_of (ys := []) H (by decide) (p3 _ (List.mem_of_getElem? (i := 5) rfl)).1 (i := 0) rfl (by decide) rfl
      have g2 : zv_ro Z ws' 2162742 = some (.int (nI 0)) := zv_dc_of (ys := []) H (by decide) (p3 _ (List.mem_of_getElem? (i := 6) rfl)).1 (i := 0) rfl (by decide) rfl
      have g3 : zv_ro Z ws' 2195511 = some (.int (nI 1)) := zv_dc_of (ys := []) H (by decide) (p3 _ (List.mem_of_getElem? (i := 7) rfl)).1 (i := 0) rfl (by decide) rfl
      have g4 : zv_ro Z ws' 1344541 = some (.int (nI 0)) := zv_dc_of (ys := []) H (by decide) (p3 _ (List.mem_of_getElem? (i := 0) rfl)).1 (i := 0) rfl (by decide) rfl
      refine ⟨zv_dm_of (ys := []) H (by decide) p2 rfl, p4, zr_en_of H (p3 _ (List.mem_of_getElem? (i := 1) rfl)).1, Or.inr ⟨g4, _, _, _, _, _, _, ⟨⟨?_, ?_, ?_, ?_, ?_, ?_⟩, d1, d2, d3, g1, g2, g3⟩, ?_⟩⟩
      all_goals first | omega | (unfold zt_m; omega)
    rcases List.mem_singleton.mp p1 with rfl
    obtain ⟨d1, m1⟩ := zt_src H (off := 0) (lo := 2147483648) (hi := 2147483652) (p3 _ (List.mem_of_getElem? (i := 2) rfl)) (by decide) (by decide) (by decide) c1 (by omega)
    obtain ⟨d2, m2⟩ := zt_src H (off := 0) (lo := 2147483648) (hi := 2147483658) (p3 _ (List.mem_of_getElem? (i := 3) rfl)) (by decide) (by decide) (by decide) c2 (by omega)
    obtain ⟨d3, m3⟩ := zt_src H (off := 0) (lo := 2147483648) (hi := 2147483654) (p3 _ (List.mem_of_getElem? (i := 4) rfl)) (by decide) (by decide) (by decide) c3 (by omega)
    have g1 : zv_ro Z ws' 2228280 = some (.int (nI 0)) := zv_dc_of (ys := []) H (by decide) (p3 _ (List.mem_of_getElem? (i := 5) rfl)).1 (i := 0) rfl (by decide) rfl
    have g2 : zv_ro Z ws' 2162742 = some (.int (nI 1)) := zv_dc_of (ys := []) H (by decide) (p3 _ (List.mem_of_getElem? (i := 6) rfl)).1 (i := 0) rfl (by decide) rfl
    have g3 : zv_ro Z ws' 2195511 = some (.int (nI 1)) := zv_dc_of (ys := []) H (by decide) (p3 _ (List.mem_of_getElem? (i := 7) rfl)).1 (i := 0) rfl (by decide) rfl
    have g4 : zv_ro Z ws' 1344541 = some (.int (nI 0)) := zv_dc_of (ys := []) H (by decide) (p3 _ (List.mem_of_getElem? (i := 0) rfl)).1 (i := 0) rfl (by decide) rfl
    refine ⟨zv_dm_of (ys := []) H (by decide) p2 rfl, p4, zr_en_of H (p3 _ (List.mem_of_getElem? (i := 1) rfl)).1, Or.inr ⟨g4, _, _, _, _, _, _, ⟨⟨?_, ?_, ?_, ?_, ?_, ?_⟩, d1, d2, d3, g1, g2, g3⟩, ?_⟩⟩
    all_goals first | omega | (unfold zt_m; omega)
set_option maxHeartbeats 1000000 in
theorem zo_ln05 (HH : zy_HH l D N0 Z) (HU : zy_UQ zy_fg Z) {n1 n2 n3 : Nat} : zy_OkP l D N0 zy_T Z 234 13 (fun av ws => av = [.ref (zy_fa1 Z 29)] ∧ zy_GR (zy_gl Z) ws ∧ zy_rd ws (zy_ru Z 29) 44 0 = some (.int (nI 0)) ∧ zy_rd ws (zy_ru Z 29) 4 0 = some (.int (nI 0)) ∧ zr_en Z ws ∧ zt_C Z 0 ws n1 n2 n3 1 0 1) (fun _ ws vs ws' => vs = [] ∧ zt_P Z 0 (zt_m n1 n2 n3 1 0 1) ws ws') := by
  have H := HH.1
  refine zy_OkP_mono (zy_OkP_of (zo_r05 HH)) (Nat.le_refl _) (fun av ws h => ?_) (fun av ws vs ws' h0 h => ?_)
  · obtain ⟨e, hGR, f44, f4, hen, hb, c1, c2, c3, c4, c5, c6⟩ := h
    rw [e]
    have r7 : ∀ (n N : Nat), n ≤ N → N < 1000 → zy_r Z (zy_c7v 2147483648 (2147483648 + N)) (.int (nI n)) := fun n N h1 h2 => zy_r_7 (by rw [zy_bz_n (by omega)]; omega) (by rw [zy_bz_n (by omega)]; omega) (by omega)
    exact ⟨⟨zv_rr H (r := 29) (g := 41) (by decide) (by decide) rfl (by decide), trivial⟩, ⟨fun z => absurd z (by decide), fun _ => hGR, fun z => absurd z (by decide)⟩, zv_cr2 (zv_cr H (by decide) (by decide) rfl f44 (zy_r_c (n := 0) (by decide))) (zv_cr2 (zv_cr H (by decide) (by decide) rfl f4 (zy_r_c (n := 0) (by decide))) (zv_cr2 (zr_en_cr H hen) (zv_cr2 (zv_cr H (by decide) (by decide) rfl c1 (r7 n1 4 (by omega) (by decide))) (zv_cr2 (zv_cr H (by decide) (by decide) rfl c2 (r7 n2 10 (by omega) (by decide))) (zv_cr2 (zv_cr H (by decide) (by decide) rfl c3 (r7 n3 6 (by omega) (by decide))) (zv_cr2 (zv_cr H (by decide) (by decide) rfl c4 (zy_r_c (n := 1) (by decide))) (zv_cr2 (zv_cr H (by decide) (by decide) rfl c5 (zy_r_c (n := 0) (by decide))) (zv_cr H (by decide) (by decide) rfl c6 (zy_r_c (n := 1) (by decide))))))))))⟩
  · obtain ⟨e, hGR, f44, f4, hen, ⟨b1, b2, b3, -, -, -⟩, c1, c2, c3, c4, c5, c6⟩ := h0
    obtain ⟨po, p1, p2, p3, p4⟩ := h
    rcases List.mem_cons.mp p1 with rfl | p1
    · obtain ⟨fk, k1, k2, -⟩ := zv_dc_7 (ys := []) H (p3 _ List.mem_cons_self).1 (i := 0) (key := 1344541) (lo := 2147483649) (hi := 2147483653) rfl (by decide) (by decide) (by decide)
      refine ⟨zv_dm_of (ys := []) H (by decide) p2 rfl, p4, zr_en_of H (p3 _ (List.mem_of_getElem? (i := 1) rfl)).1, Or.inl ⟨fk, k1, fun z => ?_⟩⟩
      rw [z, show zx_bz 0 = 2147483648 from by decide] at k2
      omega
    rcases List.mem_cons.mp p1 with rfl | p1
    · obtain ⟨d1, m1⟩ := zt_src H (off := 1) (lo := 2147483648) (hi := 2147483652) (p3 _ (List.mem_of_getElem? (i := 2) rfl)) (by decide) (by decide) (by decide) c1 (by omega)
      obtain ⟨d2, m2⟩ := zt_src H (off := 0) (lo := 2147483648) (hi := 2147483658) (p3 _ (List.mem_of_getElem? (i := 3) rfl)) (by decide) (by decide) (by decide) c2 (by omega)
      obtain ⟨d3, m3⟩ := zt_src H (off := 0) (lo := 2147483648) (hi := 2147483654) (p3 _ (List.mem_of_getElem? (i := 4) rfl)) (by decide) (by decide) (by decide) c3 (by omega)
      have g1 : zv_ro Z ws' 2228280 = some (.int (nI 1)) := zv_dc_of (ys := []) H (by decide) (p3 _ (List.mem_of_getElem? (i := 5) rfl)).1 (i := 0) rfl (by decide) rfl
      have g2 : zv_ro Z ws' 2162742 = some (.int (nI 0)) := zv_dc_of (ys := []) H (by decide) (p3 _ (List.mem_of_getElem? (i := 6) rfl)).1 (i := 0) rfl (by decide) rfl
      have g3 : zv_ro Z ws' 2195511 = some (.int (nI 1)) := zv_dc_of (ys := []) H (by decide) (p3 _ (List.mem_of_getElem? (i := 7) rfl)).1 (i := 0) rfl (by decide) rfl
      have g4 : zv_ro Z ws' 1344541 = some (.int (nI 0)) := zv_dc_of (ys := []) H (by decide) (p3 _ (List.mem_of_getElem? (i := 0) rfl)).1 (i := 0) rfl (by decide) rfl
      refine ⟨zv_dm_of (ys := []) H (by decide) p2 rfl, p4, zr_en_of H (p3 _ (List.mem_of_getElem? (i := 1) rfl)).1, Or.inr ⟨g4, _, _, _, _, _, _, ⟨⟨?_, ?_, ?_, ?_, ?_, ?_⟩, d1, d2, d3, g1, g2, g3⟩, ?_⟩⟩
      all_goals first | omega | (unfold zt_m; omega)
    rcases List.mem_cons.mp p1 with rfl | p1
    · obtain ⟨d1, m1⟩ := zt_src H (off := 0) (lo := 2147483648) (hi := 2147483652) (p3 _ (List.mem_of_getElem? (i := 2) rfl)) (by decide) (by decide) (by decide) c1 (by omega)
      obtain ⟨d2, m2⟩ := zt_src H (off := 1) (lo := 2147483648) (hi := 2147483658) (p3 _ (List.mem_of_getElem? (i := 3) rfl)) (by decide) (by decide) (by decide) c2 (by omega)
      obtain ⟨d3, m3⟩ := zt_src H (off := 0) (lo := 2147483648) (hi := 2147483654) (p3 _ (List.mem_of_getElem? (i := 4) rfl)) (by decide) (by decide) (by decide) c3 (by omega)
      have g1 : zv_ro Z ws' 2228280 = some (.int (nI 1)) := zv_dc_of (ys := []) H (by decide) (p3 _ (List.mem_of_getElem? (i := 5) rfl)).1 (i := 0) rfl (by decide) rfl
      have g2 : zv_ro Z ws' 2162742 = some (.int (nI 0)) := zv_dc_of (ys := []) H (by decide) (p3 _ (List.mem_of_getElem? (i := 6) rfl)).1 (i := 0) rfl (by decide) rfl
      have g3 : zv_ro Z ws' 2195511 = some (.int (nI 1)) := zv_dc_of (ys := []) H (by decide) (p3 _ (List.mem_of_getElem? (i := 7) rfl)).1 (i := 0) rfl (by decide) rfl
      have g4 : zv_ro Z ws' 1344541 = some (.int (nI 0)) := zv_dc_of (ys := []) H (by decide) (p3 _ (List.mem_of_getElem? (i := 0) rfl)).1 (i := 0) rfl (by decide) rfl
      refine ⟨zv_dm_of (ys := []) H (by decide) p2 rfl, p4, zr_en_of H (p3 _ (List.mem_of_getElem? (i := 1) rfl)).1, Or.inr ⟨g4, _, _, _, _, _, _, ⟨⟨?_, ?_, ?_, ?_, ?_, ?_⟩, d1, d2, d3, g1, g2, g3⟩, ?_⟩⟩
      all_goals first | omega | (unfold zt_m; omega)
    rcases List.mem_cons.mp p1 with rfl | p1
    · obtain ⟨d1, m1⟩ := zt_src H (off := 0) (lo := 2147483648) (hi := 2147483652) (p3 _ (List.mem_of_getElem? (i := 2) rfl)) (by decide) (by decide) (by decide) c1 (by omega)
      obtain ⟨d2, m2⟩ := zt_src H (off := 0) (lo := 2147483648) (hi := 2147483658) (p3 _ (List.mem_of_getElem? (i := 3) rfl)) (by decide) (by decide) (by decide) c2 (by omega)
      obtain ⟨d3, m3⟩ := zt_src H (off := 1) (lo := 2147483648) (hi := 2147483654) (p3 _ (List.mem_of_getElem? (i := 4) rfl)) (by decide) (by decide) (by decide) c3 (by omega)
      have g1 : zv_ro Z ws' 2228280 = some (.int (nI 1)) := zv_dc_of (ys := []) H (by decide) (p3 _ (List.mem_of_getElem? (i := 5) rfl)).1 (i := 0) rfl (by decide) rfl
      have g2 : zv_ro Z ws' 2162742 = some (.int (nI 0)) := zv_dc_of (ys := []) H (by decide) (p3 _ (List.mem_of_getElem? (i := 6) rfl)).1 (i := 0) rfl (by decide) rfl
      have g3 : zv_ro Z ws' 2195511 = some (.int (nI 1)) := zv_dc_of (ys := []) H (by decide) (p3 _ (List.mem_of_getElem? (i := 7) rfl)).1 (i := 0) rfl (by decide) rfl
      have g4 : zv_ro Z ws' 1344541 = some (.int (nI 0)) := zv_dc_of (ys := []) H (by decide) (p3 _ (List.mem_of_getElem? (i := 0) rfl)).1 (i := 0) rfl (by decide) rfl
      refine ⟨zv_dm_of (ys := []) H (by decide) p2 rfl, p4, zr_en_of H (p3 _ (List.mem_of_getElem? (i := 1) rfl)).1, Or.inr ⟨g4, _, _, _, _, _, _, ⟨⟨?_, ?_, ?_, ?_, ?_, ?_⟩, d1, d2, d3, g1, g2, g3⟩, ?_⟩⟩
      all_goals first | omega | (unfold zt_m; omega)
    rcases List.mem_singleton.mp p1 with rfl
    obtain ⟨d1, m1⟩ := zt_src H (off := 0) (lo := 2147483648) (hi := 2147483652) (p3 _ (List.mem_of_getElem? (i := 2) rfl)) (by decide) (by decide) (by decide) c1 (by omega)
    obtain ⟨d2, m2⟩ := zt_src H (off := 0) (lo := 2147483648) (hi := 2147483658) (p3 _ (List.mem_of_getElem? (i := 3) rfl)) (by decide) (by decide) (by decide) c2 (by omega)
    obtain ⟨d3, m3⟩ := zt_src H (off := 0) (lo := 2147483648) (hi := 2147483654) (p3 _ (List.mem_of_getElem? (i := 4) rfl)) (by decide) (by decide) (by decide) c3 (by omega)
    have g1 : zv_ro Z ws' 2228280 = some (.int (nI 1)) := zv_dc_of (ys := []) H (by decide) (p3 _ (List.mem_of_getElem? (i := 5) rfl)).1 (i := 0) rfl (by decide) rfl
    have g2 : zv_ro Z ws' 2162742 = some (.int (nI 1)) := zv_dc_of (ys := []) H (by decide) (p3 _ (List.mem_of_getElem? (i := 6) rfl)).1 (i := 0) rfl (by decide) rfl
    have g3 : zv_ro Z ws' 2195511 = some (.int (nI 1)) := zv_dc_of (ys := []) H (by decide) (p3 _ (List.mem_of_getElem? (i := 7) rfl)).1 (i := 0) rfl (by decide) rfl
    have g4 : zv_ro Z ws' 1344541 = some (.int (nI 0)) := zv_dc_of (ys := []) H (by decide) (p3 _ (List.mem_of_getElem? (i := 0) rfl)).1 (i := 0) rfl (by decide) rfl
    refine ⟨zv_dm_of (ys := []) H (by decide) p2 rfl, p4, zr_en_of H (p3 _ (List.mem_of_getElem? (i := 1) rfl)).1, Or.inr ⟨g4, _, _, _, _, _, _, ⟨⟨?_, ?_, ?_, ?_, ?_, ?_⟩, d1, d2, d3, g1, g2, g3⟩, ?_⟩⟩
    all_goals first | omega | (unfold zt_m; omega)
set_option maxHeartbeats 1000000 in
theorem zo_ln06 (HH : zy_HH l D N0 Z) (HU : zy_UQ zy_fg Z) {n1 n2 n3 : Nat} : zy_OkP l D N0 zy_T Z 234 13 (fun av ws => av = [.ref (zy_fa1 Z 29)] ∧ zy_GR (zy_gl Z) ws ∧ zy_rd ws (zy_ru Z 29) 44 0 = some (.int (nI 0)) ∧ zy_rd ws (zy_ru Z 29) 4 0 = some (.int (nI 0)) ∧ zr_en Z ws ∧ zt_C Z 0 ws n1 n2 n3 0 1 1) (fun _ ws vs ws' => vs = [] ∧ zt_P Z 0 (zt_m n1 n2 n3 0 1 1) ws ws') := by
  have H := HH.1
  refine zy_OkP_mono (zy_OkP_of (zo_r06 HH)) (Nat.le_refl _) (fun av ws h => ?_) (fun av ws vs ws' h0 h => ?_)
  · obtain ⟨e, hGR, f44, f4, hen, hb, c1, c2, c3, c4, c5, c6⟩ := h
    rw [e]
    have r7 : ∀ (n N : Nat), n ≤ N → N < 1000 → zy_r Z (zy_c7v 2147483648 (2147483648 + N)) (.int (nI n)) := fun n N h1 h2 => zy_r_7 (by rw [zy_bz_n (by omega)]; omega) (by rw [zy_bz_n (by omega)]; omega) (by omega)
    exact ⟨⟨zv_rr H (r := 29) (g := 41) (by decide) (by decide) rfl (by decide), trivial⟩, ⟨fun z => absurd z (by decide), fun _ => hGR, fun z => absurd z (by decide)⟩, zv_cr2 (zv_cr H (by decide) (by decide) rfl f44 (zy_r_c (n := 0) (by decide))) (zv_cr2 (zv_cr H (by decide) (by decide) rfl f4 (zy_r_c (n := 0) (by decide))) (zv_cr2 (zr_en_cr H hen) (zv_cr2 (zv_cr H (by decide) (by decide) rfl c1 (r7 n1 4 (by omega) (by decide))) (zv_cr2 (zv_cr H (by decide) (by decide) rfl c2 (r7 n2 10 (by omega) (by decide))) (zv_cr2 (zv_cr H (by decide) (by decide) rfl c3 (r7 n3 6 (by omega) (by decide))) (zv_cr2 (zv_cr H (by decide) (by decide) rfl c4 (zy_r_c (n := 0) (by decide))) (zv_cr2 (zv_cr H (by decide) (by decide) rfl c5 (zy_r_c (n := 1) (by decide))) (zv_cr H (by decide) (by decide) rfl c6 (zy_r_c (n := 1) (by decide))))))))))⟩
  · obtain ⟨e, hGR, f44, f4, hen, ⟨b1, b2, b3, -, -, -⟩, c1, c2, c3, c4, c5, c6⟩ := h0
    obtain ⟨po, p1, p2, p3, p4⟩ := h
    rcases List.mem_cons.mp p1 with rfl | p1
    · obtain ⟨fk, k1, k2, -⟩ := zv_dc_7 (ys := []) H (p3 _ List.mem_cons_self).1 (i := 0) (key := 1344541) (lo := 2147483649) (hi := 2147483653) rfl (by decide) (by decide) (by decide)
      refine ⟨zv_dm_of (ys := []) H (by decide) p2 rfl, p4, zr_en_of H (p3 _ (List.mem_of_getElem? (i := 1) rfl)).1, Or.inl ⟨fk, k1, fun z => ?_⟩⟩
      rw [z, show zx_bz 0 = 2147483648 from by decide] at k2
      omega
    rcases List.mem_cons.mp p1 with rfl | p1
    · obtain ⟨d1, m1⟩ := zt_src H (off := 1) (lo := 2147483648) (hi := 2147483652) (p3 _ (List.mem_of_getElem? (i := 2) rfl)) (by decide) (by decide) (by decide) c1 (by omega)
      obtain ⟨d2, m2⟩ := zt_src H (off := 0) (lo := 2147483648) (hi := 2147483658) (p3 _ (List.mem_of_getElem? (i := 3) rfl)) (by decide) (by decide) (by decide) c2 (by omega)
      obtain ⟨d3, m3⟩ := zt_src H (off := 0) (lo := 2147483648) (hi := 2147483654) (p3 _ (List.mem_of_getElem? (i := 4) rfl)) (by decide) (by decide) (by decide) c3 (by omega)
      have g1 : zv_ro Z ws' 2228280 = some (.int (nI 0)) := zv_dc_of (ys := []) H (by decide) (p3 _ (List.mem_of_getElem? (i := 5) rfl)).1 (i := 0) rfl (by decide) rfl
      have g2 : zv_ro Z ws' 2162742 = some (.int (nI 1)) := zv_dc_of (ys := []) H (by decide) (p3 _ (List.mem_of_getElem? (i := 6) rfl)).1 (i := 0) rfl (by decide) rfl
      have g3 : zv_ro Z ws' 2195511 = some (.int (nI 1)) := zv_dc_of (ys := []) H (by decide) (p3 _ (List.mem_of_getElem? (i := 7) rfl)).1 (i := 0) rfl (by decide) rfl
      have g4 : zv_ro Z ws' 1344541 = some (.int (nI 0)) := zv_dc_of (ys := []) H (by decide) (p3 _ (List.mem_of_getElem? (i := 0) rfl)).1 (i := 0) rfl (by decide) rfl
      refine ⟨zv_dm_of (ys := []) H (by decide) p2 rfl, p4, zr_en_of H (p3 _ (List.mem_of_getElem? (i := 1) rfl)).1, Or.inr ⟨g4, _, _, _, _, _, _, ⟨⟨?_, ?_, ?_, ?_, ?_, ?_⟩, d1, d2, d3, g1, g2, g3⟩, ?_⟩⟩
      all_goals first | omega | (unfold zt_m; omega)
    rcases List.mem_cons.mp p1 with rfl | p1
    · obtain ⟨d1, m1⟩ := zt_src H (off := 0) (lo := 2147483648) (hi := 2147483652) (p3 _ (List.mem_of_getElem? (i := 2) rfl)) (by decide) (by decide) (by decide) c1 (by omega)
      obtain ⟨d2, m2⟩ := zt_src H (off := 1) (lo := 2147483648) (hi := 2147483658) (p3 _ (List.mem_of_getElem? (i := 3) rfl)) (by decide) (by decide) (by decide) c2 (by omega)
      obtain ⟨d3, m3⟩ := zt_src H (off := 0) (lo := 2147483648) (hi := 2147483654) (p3 _ (List.mem_of_getElem? (i := 4) rfl)) (by decide) (by decide) (by decide) c3 (by omega)
      have g1 : zv_ro Z ws' 2228280 = some (.int (nI 0)) := zv_dc_of (ys := []) H (by decide) (p3 _ (List.mem_of_getElem? (i := 5) rfl)).1 (i := 0) rfl (by decide) rfl
      have g2 : zv_ro Z ws' 2162742 = some (.int (nI 1)) := zv_dc_of (ys := []) H (by decide) (p3 _ (List.mem_of_getElem? (i := 6) rfl)).1 (i := 0) rfl (by decide) rfl
      have g3 : zv_ro Z ws' 2195511 = some (.int (nI 1)) := zv_dc_of (ys := []) H (by decide) (p3 _ (List.mem_of_getElem? (i := 7) rfl)).1 (i := 0) rfl (by decide) rfl
      have g4 : zv_ro Z ws' 1344541 = some (.int (nI 0)) := zv_dc_of (ys := []) H (by decide) (p3 _ (List.mem_of_getElem? (i := 0) rfl)).1 (i := 0) rfl (by decide) rfl
      refine ⟨zv_dm_of (ys := []) H (by decide) p2 rfl, p4, zr_en_of H (p3 _ (List.mem_of_getElem? (i := 1) rfl)).1, Or.inr ⟨g4, _, _, _, _, _, _, ⟨⟨?_, ?_, ?_, ?_, ?_, ?_⟩, d1, d2, d3, g1, g2, g3⟩, ?_⟩⟩
      all_goals first | omega | (unfold zt_m; omega)
    rcases List.mem_cons.mp p1 with rfl | p1
    · obtain ⟨d1, m1⟩ := zt_src H (off := 0) (lo := 2147483648) (hi := 2147483652) (p3 _ (List.mem_of_getElem? (i := 2) rfl)) (by decide) (by decide) (by decide) c1 (by omega)
      obtain ⟨d2, m2⟩ := zt_src H (off := 0) (lo := 2147483648) (hi := 2147483658) (p3 _ (List.mem_of_getElem? (i := 3) rfl)) (by decide) (by decide) (by decide) c2 (by omega)
      obtain ⟨d3, m3⟩ := zt_src H (off := 1) (lo := 2147483648) (hi := 2147483654) (p3 _ (List.mem_of_getElem? (i := 4) rfl)) (by decide) (by decide) (by decide) c3 (by omega)
      have g1 : zv_ro Z ws' 2228280 = some (.int (nI 0)) := zv_dc_of (ys := []) H (by decide) (p3 _ (List.mem_of_getElem? (i := 5) rfl)).1 (i := 0) rfl (by decide) rfl
      have g2 : zv_ro Z ws' 2162742 = some (.int (nI 1)) := zv_dc_of (ys := []) H (by decide) (p3 _ (List.mem_of_getElem? (i := 6) rfl)).1 (i := 0) rfl (by decide) rfl
      have g3 : zv_ro Z ws' 2195511 = some (.int (nI 1)) := zv_dc_of (ys := []) H (by decide) (p3 _ (List.mem_of_getElem? (i := 7) rfl)).1 (i := 0) rfl (by decide) rfl
      have g4 : zv_ro Z ws' 1344541 = some (.int (nI 0)) := zv_dc_of (ys := []) H (by decide) (p3 _ (List.mem_of_getElem? (i := 0) rfl)).1 (i := 0) rfl (by decide) rfl
      refine ⟨zv_dm_of (ys := []) H (by decide) p2 rfl, p4, zr_en_of H (p3 _ (List.mem_of_getElem? (i := 1) rfl)).1, Or.inr ⟨g4, _, _, _, _, _, _, ⟨⟨?_, ?_, ?_, ?_, ?_, ?_⟩, d1, d2, d3, g1, g2, g3⟩, ?_⟩⟩
      all_goals first | omega | (unfold zt_m; omega)
    rcases List.mem_singleton.mp p1 with rfl
    obtain ⟨d1, m1⟩ := zt_src H (off := 0) (lo := 2147483648) (hi := 2147483652) (p3 _ (List.mem_of_getElem? (i := 2) rfl)) (by decide) (by decide) (by decide) c1 (by omega)
    obtain ⟨d2, m2⟩ := zt_src H (off := 0) (lo := 2147483648) (hi := 2147483658) (p3 _ (List.mem_of_getElem? (i := 3) rfl)) (by decide) (by decide) (by decide) c2 (by omega)
    obtain ⟨d3, m3⟩ := zt_src H (off := 0) (lo := 2147483648) (hi := 2147483654) (p3 _ (List.mem_of_getElem? (i := 4) rfl)) (by decide) (by decide) (by decide) c3 (by omega)
    have g1 : zv_ro Z ws' 2228280 = some (.int (nI 1)) := zv_dc_of (ys := []) H (by decide) (p3 _ (List.mem_of_getElem? (i := 5) rfl)).1 (i := 0) rfl (by decide) rfl
    have g2 : zv_ro Z ws' 2162742 = some (.int (nI 1)) := zv_dc_of (ys := []) H (by decide) (p3 _ (List.mem_of_getElem? (i := 6) rfl)).1 (i := 0) rfl (by decide) rfl
    have g3 : zv_ro Z ws' 2195511 = some (.int (nI 1)) := zv_dc_of (ys := []) H (by decide) (p3 _ (List.mem_of_getElem? (i := 7) rfl)).1 (i := 0) rfl (by decide) rfl
    have g4 : zv_ro Z ws' 1344541 = some (.int (nI 0)) := zv_dc_of (ys := []) H (by decide) (p3 _ (List.mem_of_getElem? (i := 0) rfl)).1 (i := 0) rfl (by decide) rfl
    refine ⟨zv_dm_of (ys := []) H (by decide) p2 rfl, p4, zr_en_of H (p3 _ (List.mem_of_getElem? (i := 1) rfl)).1, Or.inr ⟨g4, _, _, _, _, _, _, ⟨⟨?_, ?_, ?_, ?_, ?_, ?_⟩, d1, d2, d3, g1, g2, g3⟩, ?_⟩⟩
    all_goals first | omega | (unfold zt_m; omega)
set_option maxHeartbeats 1000000 in
theorem zo_ln07 (HH : zy_HH l D N0 Z) (HU : zy_UQ zy_fg Z) {n1 n2 n3 : Nat} : zy_OkP l D N0 zy_T Z 234 13 (fun av ws => av = [.ref (zy_fa1 Z 29)] ∧ zy_GR (zy_gl Z) ws ∧ zy_rd ws (zy_ru Z 29) 44 0 = some (.int (nI 0)) ∧ zy_rd ws (zy_ru Z 29) 4 0 = some (.int (nI 0)) ∧ zr_en Z ws ∧ zt_C Z 0 ws n1 n2 n3 1 1 1) (fun _ ws vs ws' => vs = [] ∧ zt_P Z 0 (zt_m n1 n2 n3 1 1 1) ws ws') := by
  have H := HH.1
  refine zy_OkP_mono (zy_OkP_of (zo_r07 HH)) (Nat.le_refl _) (fun av ws h => ?_) (fun av ws vs ws' h0 h => ?_)
  · obtain ⟨e, hGR, f44, f4, hen, hb, c1, c2, c3, c4, c5, c6⟩ := h
    rw [e]
    have r7 : ∀ (n N : Nat), n ≤ N → N < 1000 → zy_r Z (zy_c7v 2147483648 (2147483648 + N)) (.int (nI n)) := fun n N h1 h2 => zy_r_7 (by rw [zy_bz_n (by omega)]; omega) (by rw [zy_bz_n (by omega)]; omega) (by omega)
    exact ⟨⟨zv_rr H (r := 29) (g := 41) (by decide) (by decide) rfl (by decide), trivial⟩, ⟨fun z => absurd z (by decide), fun _ => hGR, fun z => absurd z (by decide)⟩, zv_cr2 (zv_cr H (by decide) (by decide) rfl f44 (zy_r_c (n := 0) (by decide))) (zv_cr2 (zv_cr H (by decide) (by decide) rfl f4 (zy_r_c (n := 0) (by decide))) (zv_cr2 (zr_en_cr H hen) (zv_cr2 (zv_cr H (by decide) (by decide) rfl c1 (r7 n1 4 (by omega) (by decide))) (zv_cr2 (zv_cr H (by decide) (by decide) rfl c2 (r7 n2 10 (by omega) (by decide))) (zv_cr2 (zv_cr H (by decide) (by decide) rfl c3 (r7 n3 6 (by omega) (by decide))) (zv_cr2 (zv_cr H (by decide) (by decide) rfl c4 (zy_r_c (n := 1) (by decide))) (zv_cr2 (zv_cr H (by decide) (by decide) rfl c5 (zy_r_c (n := 1) (by decide))) (zv_cr H (by decide) (by decide) rfl c6 (zy_r_c (n := 1) (by decide))))))))))⟩
  · obtain ⟨e, hGR, f44, f4, hen, ⟨b1, b2, b3, -, -, -⟩, c1, c2, c3, c4, c5, c6⟩ := h0
    obtain ⟨po, p1, p2, p3, p4⟩ := h
    rcases List.mem_cons.mp p1 with rfl | p1
    · obtain ⟨fk, k1, k2, -⟩ := zv_dc_7 (ys := []) H (p3 _ List.mem_cons_self).1 (i := 0) (key := 1344541) (lo := 2147483649) (hi := 2147483653) rfl (by decide) (by decide) (by decide)
      refine ⟨zv_dm_of (ys := []) H (by decide) p2 rfl, p4, zr_en_of H (p3 _ (List.mem_of_getElem? (i := 1) rfl)).1, Or.inl ⟨fk, k1, fun z => ?_⟩⟩
      rw [z, show zx_bz 0 = 2147483648 from by decide] at k2
      omega
    rcases List.mem_cons.mp p1 with rfl | p1
    · obtain ⟨d1, m1⟩ := zt_src H (off := 1) (lo := 2147483648) (hi := 2147483652) (p3 _ (List.mem_of_getElem? (i := 2) rfl)) (by decide) (by decide) (by decide) c1 (by omega)
      obtain ⟨d2, m2⟩ := zt_src H (off := 0) (lo := 2147483648) (hi := 2147483658) (p3 _ (List.mem_of_getElem? (i := 3) rfl)) (by decide) (by decide) (by decide) c2 (by omega)
      obtain ⟨d3, m3⟩ := zt_src H (off := 0) (lo := 2147483648) (hi := 2147483654) (p3 _ (List.mem_of_getElem? (i := 4) rfl)) (by decide) (by decide) (by decide) c3 (by omega)
      have g1 : zv_ro Z ws' 2228280 = some (.int (nI 1)) := zv_dc_of (ys := []) H (by decide) (p3 _ (List.mem_of_getElem? (i := 5) rfl)).1 (i := 0) rfl (by decide) rfl
      have g2 : zv_ro Z ws' 2162742 = some (.int (nI 1)) := zv_dc_of (ys := []) H (by decide) (p3 _ (List.mem_of_getElem? (i := 6) rfl)).1 (i := 0) rfl (by decide) rfl
      have g3 : zv_ro Z ws' 2195511 = some (.int (nI 1)) := zv_dc_of (ys := []) H (by decide) (p3 _ (List.mem_of_getElem? (i := 7) rfl)).1 (i := 0) rfl (by decide) rfl
      have g4 : zv_ro Z ws' 1344541 = some (.int (nI 0)) := zv_dc_of (ys := []) H (by decide) (p3 _ (List.mem_of_getElem? (i := 0) rfl)).1 (i := 0) rfl (by decide) rfl
      refine ⟨zv_dm_of (ys := []) H (by decide) p2 rfl, p4, zr_en_of H (p3 _ (List.mem_of_getElem? (i := 1) rfl)).1, Or.inr ⟨g4, _, _, _, _, _, _, ⟨⟨?_, ?_, ?_, ?_, ?_, ?_⟩, d1, d2, d3, g1, g2, g3⟩, ?_⟩⟩
      all_goals first | omega | (unfold zt_m; omega)
    rcases List.mem_cons.mp p1 with rfl | p1
    · obtain ⟨d1, m1⟩ := zt_src H (off := 0) (lo := 2147483648) (hi := 2147483652) (p3 _ (List.mem_of_getElem? (i := 2) rfl)) (by decide) (by decide) (by decide) c1 (by omega)
      obtain ⟨d2, m2⟩ := zt_src H (off := 1) (lo := 2147483648) (hi := 2147483658) (p3 _ (List.mem_of_getElem? (i := 3) rfl)) (by decide) (by decide) (by decide) c2 (by omega)
      obtain ⟨d3, m3⟩ := zt_src H (off := 0) (lo := 2147483648) (hi := 2147483654) (p3 _ (List.mem_of_getElem? (i := 4) rfl)) (by decide) (by decide) (by decide) c3 (by omega)
      have g1 : zv_ro Z ws' 2228280 = some (.int (nI 1)) := zv_dc_of (ys := []) H (by decide) (p3 _ (List.mem_of_getElem? (i := 5) rfl)).1 (i := 0) rfl (by decide) rfl
      have g2 : zv_ro Z ws' 2162742 = some (.int (nI 1)) := zv_dc_of (ys := []) H (by decide) (p3 _ (List.mem_of_getElem? (i := 6) rfl)).1 (i := 0) rfl (by decide) rfl
      have g3 : zv_ro Z ws' 2195511 = some (.int (nI 1)) := zv_dc_of (ys := []) H (by decide) (p3 _ (List.mem_of_getElem? (i := 7) rfl)).1 (i := 0) rfl (by decide) rfl
      have g4 : zv_ro Z ws' 1344541 = some (.int (nI 0)) := zv_dc_of (ys := []) H (by decide) (p3 _ (List.mem_of_getElem? (i := 0) rfl)).1 (i := 0) rfl (by decide) rfl
      refine ⟨zv_dm_of (ys := []) H (by decide) p2 rfl, p4, zr_en_of H (p3 _ (List.mem_of_getElem? (i := 1) rfl)).1, Or.inr ⟨g4, _, _, _, _, _, _, ⟨⟨?_, ?_, ?_, ?_, ?_, ?_⟩, d1, d2, d3, g1, g2, g3⟩, ?_⟩⟩
      all_goals first | omega | (unfold zt_m; omega)
    rcases List.mem_singleton.mp p1 with rfl
    obtain ⟨d1, m1⟩ := zt_src H (off := 0) (lo := 2147483648) (hi := 2147483652) (p3 _ (List.mem_of_getElem? (i := 2) rfl)) (by decide) (by decide) (by decide) c1 (by omega)
    obtain ⟨d2, m2⟩ := zt_src H (off := 0) (lo := 2147483648) (hi := 2147483658) (p3 _ (List.mem_of_getElem? (i := 3) rfl)) (by decide) (by decide) (by decide) c2 (by omega)
    obtain ⟨d3, m3⟩ := zt_src H (off := 1) (lo := 2147483648) (hi := 2147483654) (p3 _ (List.mem_of_getElem? (i := 4) rfl)) (by decide) (by decide) (by decide) c3 (by omega)
    have g1 : zv_ro Z ws' 2228280 = some (.int (nI 1)) := zv_dc_of (ys := []) H (by decide) (p3 _ (List.mem_of_getElem? (i := 5) rfl)).1 (i := 0) rfl (by decide) rfl
    have g2 : zv_ro Z ws' 2162742 = some (.int (nI 1)) := zv_dc_of (ys := []) H (by decide) (p3 _ (List.mem_of_getElem? (i := 6) rfl)).1 (i := 0) rfl (by decide) rfl
    have g3 : zv_ro Z ws' 2195511 = some (.int (nI 1)) := zv_dc_of (ys := []) H (by decide) (p3 _ (List.mem_of_getElem? (i := 7) rfl)).1 (i := 0) rfl (by decide) rfl
    have g4 : zv_ro Z ws' 1344541 = some (.int (nI 0)) := zv_dc_of (ys := []) H (by decide) (p3 _ (List.mem_of_getElem? (i := 0) rfl)).1 (i := 0) rfl (by decide) rfl
    refine ⟨zv_dm_of (ys := []) H (by decide) p2 rfl, p4, zr_en_of H (p3 _ (List.mem_of_getElem? (i := 1) rfl)).1, Or.inr ⟨g4, _, _, _, _, _, _, ⟨⟨?_, ?_, ?_, ?_, ?_, ?_⟩, d1, d2, d3, g1, g2, g3⟩, ?_⟩⟩
    all_goals first | omega | (unfold zt_m; omega)
theorem zo_ln0 (HH : zy_HH l D N0 Z) (HU : zy_UQ zy_fg Z) {n1 n2 n3 f1 f2 f3 : Nat} : zy_OkP l D N0 zy_T Z 234 13 (fun av ws => av = [.ref (zy_fa1 Z 29)] ∧ zy_GR (zy_gl Z) ws ∧ zy_rd ws (zy_ru Z 29) 44 0 = some (.int (nI 0)) ∧ zy_rd ws (zy_ru Z 29) 4 0 = some (.int (nI 0)) ∧ zr_en Z ws ∧ zt_C Z 0 ws n1 n2 n3 f1 f2 f3) (fun _ ws vs ws' => vs = [] ∧ zt_P Z 0 (zt_m n1 n2 n3 f1 f2 f3) ws ws') := by
  intro y hy d hd av tys ws hp hD hH
  have hb := hp.2.2.2.2.2.1
  rcases (show f1 = 0 ∨ f1 = 1 by omega) with rfl | rfl <;> rcases (show f2 = 0 ∨ f2 = 1 by omega) with rfl | rfl <;> rcases (show f3 = 0 ∨ f3 = 1 by omega) with rfl | rfl
  · exact zo_ln00 HH HU y hy d hd av tys ws hp hD hH
  · exact zo_ln04 HH HU y hy d hd av tys ws hp hD hH
  · exact zo_ln02 HH HU y hy d hd av tys ws hp hD hH
  · exact zo_ln06 HH HU y hy d hd av tys ws hp hD hH
  · exact zo_ln01 HH HU y hy d hd av tys ws hp hD hH
  · exact zo_ln05 HH HU y hy d hd av tys ws hp hD hH
  · exact zo_ln03 HH HU y hy d hd av tys ws hp hD hH
  · exact zo_ln07 HH HU y hy d hd av tys ws hp hD hH
set_option maxHeartbeats 1000000 in
theorem zo_ln10 (HH : zy_HH l D N0 Z) (HU : zy_UQ zy_fg Z) {n1 n2 n3 : Nat} : zy_OkP l D N0 zy_T Z 234 13 (fun av ws => av = [.ref (zy_fa1 Z 29)] ∧ zy_GR (zy_gl Z) ws ∧ zy_rd ws (zy_ru Z 29) 44 0 = some (.int (nI 1)) ∧ zy_rd ws (zy_ru Z 29) 4 0 = some (.int (nI 0)) ∧ zr_en Z ws ∧ zt_C Z 1 ws n1 n2 n3 0 0 0) (fun _ ws vs ws' => vs = [] ∧ zt_P Z 1 (zt_m n1 n2 n3 0 0 0) ws ws') := by
  have H := HH.1
  refine zy_OkP_mono (zy_OkP_of (zo_r10 HH)) (Nat.le_refl _) (fun av ws h => ?_) (fun av ws vs ws' h0 h => ?_)
  · obtain ⟨e, hGR, f44, f4, hen, hb, c1, c2, c3, c4, c5, c6⟩ := h
    rw [e]
    have r7 : ∀ (n N : Nat), n ≤ N → N < 1000 → zy_r Z (zy_c7v 2147483648 (2147483648 + N)) (.int (nI n)) := fun n N h1 h2 => zy_r_7 (by rw [zy_bz_n (by omega)]; omega) (by rw [zy_bz_n (by omega)]; omega) (by omega)
    exact ⟨⟨zv_rr H (r := 29) (g := 41) (by decide) (by decide) rfl (by decide), trivial⟩, ⟨fun z => absurd z (by decide), fun _ => hGR, fun z => absurd z (by decide)⟩, zv_cr2 (zv_cr H (by decide) (by decide) rfl f44 (zy_r_c (n := 1) (by decide))) (zv_cr2 (zv_cr H (by decide) (by decide) rfl f4 (zy_r_c (n := 0) (by decide))) (zv_cr2 (zr_en_cr H hen) (zv_cr2 (zv_cr H (by decide) (by decide) rfl c1 (r7 n1 4 (by omega) (by decide))) (zv_cr2 (zv_cr H (by decide) (by decide) rfl c2 (r7 n2 10 (by omega) (by decide))) (zv_cr2 (zv_cr H (by decide) (by decide) rfl c3 (r7 n3 6 (by omega) (by decide))) (zv_cr2 (zv_cr H (by decide) (by decide) rfl c4 (zy_r_c (n := 0) (by decide))) (zv_cr2 (zv_cr H (by decide) (by decide) rfl c5 (zy_r_c (n := 0) (by decide))) (zv_cr H (by decide) (by decide) rfl c6 (zy_r_c (n := 0) (by decide))))))))))⟩
  · obtain ⟨e, hGR, f44, f4, hen, ⟨b1, b2, b3, -, -, -⟩, c1, c2, c3, c4, c5, c6⟩ := h0
    obtain ⟨po, p1, p2, p3, p4⟩ := h
    rcases List.mem_cons.mp p1 with rfl | p1
    · obtain ⟨fk, k1, k2, -⟩ := zv_dc_7 (ys := []) H (p3 _ List.mem_cons_self).1 (i := 0) (key := 1344541) (lo := 2147483649) (hi := 2147483653) rfl (by decide) (by decide) (by decide)
      refine ⟨zv_dm_of (ys := []) H (by decide) p2 rfl, p4, zr_en_of H (p3 _ (List.mem_of_getElem? (i := 1) rfl)).1, Or.inl ⟨fk, k1, fun z => ?_⟩⟩
      rw [z, show zx_bz 0 = 2147483648 from by decide] at k2
      omega
    rcases List.mem_cons.mp p1 with rfl | p1
    · obtain ⟨d1, m1⟩ := zt_src H (off := 1) (lo := 2147483648) (hi := 2147483652) (p3 _ (List.mem_of_getElem? (i := 2) rfl)) (by decide) (by decide) (by decide) c1 (by omega)
      obtain ⟨d2, m2⟩ := zt_src H (off := 0) (lo := 2147483648) (hi := 2147483658) (p3 _ (List.mem_of_getElem? (i := 3) rfl)) (by decide) (by decide) (by decide) c2 (by omega)
      obtain ⟨d3, m3⟩ := zt_src H (off := 0) (lo := 2147483648) (hi := 2147483654) (p3 _ (List.mem_of_getElem? (i := 4) rfl)) (by decide) (by decide) (by decide) c3 (by omega)
      have g1 : zv_ro Z ws' 19005496 = some (.int (nI 0)) := zv_dc_of (ys := []) H (by decide) (p3 _ (List.mem_of_getElem? (i := 5) rfl)).1 (i := 0) rfl (by decide) rfl
      have g2 : zv_ro Z ws' 18939958 = some (.int (nI 0)) := zv_dc_of (ys := []) H (by decide) (p3 _ (List.mem_of_getElem? (i := 6) rfl)).1 (i := 0) rfl (by decide) rfl
      have g3 : zv_ro Z ws' 18972727 = some (.int (nI 0)) := zv_dc_of (ys := []) H (by decide) (p3 _ (List.mem_of_getElem? (i := 7) rfl)).1 (i := 0) rfl (by decide) rfl
      have g4 : zv_ro Z ws' 1344541 = some (.int (nI 0)) := zv_dc_of (ys := []) H (by decide) (p3 _ (List.mem_of_getElem? (i := 0) rfl)).1 (i := 0) rfl (by decide) rfl
      refine ⟨zv_dm_of (ys := []) H (by decide) p2 rfl, p4, zr_en_of H (p3 _ (List.mem_of_getElem? (i := 1) rfl)).1, Or.inr ⟨g4, _, _, _, _, _, _, ⟨⟨?_, ?_, ?_, ?_, ?_, ?_⟩, d1, d2, d3, g1, g2, g3⟩, ?_⟩⟩
      all_goals first | omega | (unfold zt_m; omega)
    rcases List.mem_cons.mp p1 with rfl | p1
    · obtain ⟨d1, m1⟩ := zt_src H (off := 0) (lo := 2147483648) (hi := 2147483652) (p3 _ (List.mem_of_getElem? (i := 2) rfl)) (by decide) (by decide) (by decide) c1 (by omega)
      obtain ⟨d2, m2⟩ := zt_src H (off := 1) (lo := 2147483648) (hi := 2147483658) (p3 _ (List.mem_of_getElem? (i := 3) rfl)) (by decide) (by decide) (by decide) c2 (by omega)
      obtain ⟨d3, m3⟩ := zt_src H (off := 0) (lo := 2147483648) (hi := 2147483654) (p3 _ (List.mem_of_getElem? (i := 4) rfl)) (by decide) (by decide) (by decide) c3 (by omega)
      have g1 : zv_ro Z ws' 19005496 = some (.int (nI 0)) := zv_dc_of (ys := []) H (by decide) (p3 _ (List.mem_of_getElem? (i := 5) rfl)).1 (i := 0) rfl (by decide) rfl
      have g2 : zv_ro Z ws' 18939958 = some (.int (nI 0)) := zv_dc_of (ys := []) H (by decide) (p3 _ (List.mem_of_getElem? (i := 6) rfl)).1 (i := 0) rfl (by decide) rfl
      have g3 : zv_ro Z ws' 18972727 = some (.int (nI 0)) := zv_dc_of (ys := []) H (by decide) (p3 _ (List.mem_of_getElem? (i := 7) rfl)).1 (i := 0) rfl (by decide) rfl
      have g4 : zv_ro Z ws' 1344541 = some (.int (nI 0)) := zv_dc_of (ys := []) H (by decide) (p3 _ (List.mem_of_getElem? (i := 0) rfl)).1 (i := 0) rfl (by decide) rfl
      refine ⟨zv_dm_of (ys := []) H (by decide) p2 rfl, p4, zr_en_of H (p3 _ (List.mem_of_getElem? (i := 1) rfl)).1, Or.inr ⟨g4, _, _, _, _, _, _, ⟨⟨?_, ?_, ?_, ?_, ?_, ?_⟩, d1, d2, d3, g1, g2, g3⟩, ?_⟩⟩
      all_goals first | omega | (unfold zt_m; omega)
    rcases List.mem_cons.mp p1 with rfl | p1
    · obtain ⟨d1, m1⟩ := zt_src H (off := 0) (lo := 2147483648) (hi := 2147483652) (p3 _ (List.mem_of_getElem? (i := 2) rfl)) (by decide) (by decide) (by decide) c1 (by omega)
      obtain ⟨d2, m2⟩ := zt_src H (off := 0) (lo := 2147483648) (hi := 2147483658) (p3 _ (List.mem_of_getElem? (i := 3) rfl)) (by decide) (by decide) (by decide) c2 (by omega)
      obtain ⟨d3, m3⟩ := zt_src H (off := 1) (lo := 2147483648) (hi := 2147483654) (p3 _ (List.mem_of_getElem? (i := 4) rfl)) (by decide) (by decide) (by decide) c3 (by omega)
      have g1 : zv_ro Z ws' 19005496 = some (.int (nI 0)) := zv_dc_of (ys := []) H (by decide) (p3 _ (List.mem_of_getElem? (i := 5) rfl)).1 (i := 0) rfl (by decide) rfl
      have g2 : zv_ro Z ws' 18939958 = some (.int (nI 0)) := zv_dc_of (ys := []) H (by decide) (p3 _ (List.mem_of_getElem? (i := 6) rfl)).1 (i := 0) rfl (by decide) rfl
      have g3 : zv_ro Z ws' 18972727 = some (.int (nI 0)) := zv_dc_of (ys := []) H (by decide) (p3 _ (List.mem_of_getElem? (i := 7) rfl)).1 (i := 0) rfl (by decide) rfl
      have g4 : zv_ro Z ws' 1344541 = some (.int (nI 0)) := zv_dc_of (ys := []) H (by decide) (p3 _ (List.mem_of_getElem? (i := 0) rfl)).1 (i := 0) rfl (by decide) rfl
      refine ⟨zv_dm_of (ys := []) H (by decide) p2 rfl, p4, zr_en_of H (p3 _ (List.mem_of_getElem? (i := 1) rfl)).1, Or.inr ⟨g4, _, _, _, _, _, _, ⟨⟨?_, ?_, ?_, ?_, ?_, ?_⟩, d1, d2, d3, g1, g2, g3⟩, ?_⟩⟩
      all_goals first | omega | (unfold zt_m; omega)
    rcases List.mem_cons.mp p1 with rfl | p1
    · obtain ⟨d1, m1⟩ := zt_src H (off := 0) (lo := 2147483648) (hi := 2147483652) (p3 _ (List.mem_of_getElem? (i := 2) rfl)) (by decide) (by decide) (by decide) c1 (by omega)
      obtain ⟨d2, m2⟩ := zt_src H (off := 0) (lo := 2147483648) (hi := 2147483658) (p3 _ (List.mem_of_getElem? (i := 3) rfl)) (by decide) (by decide) (by decide) c2 (by omega)
      obtain ⟨d3, m3⟩ := zt_src H (off := 0) (lo := 2147483648) (hi := 2147483654) (p3 _ (List.mem_of_getElem? (i := 4) rfl)) (by decide) (by decide) (by decide) c3 (by omega)
      have g1 : zv_ro Z ws' 19005496 = some (.int (nI 1)) := zv_dc_of (ys := []) H (by decide) (p3 _ (List.mem_of_getElem? (i := 5) rfl)).1 (i := 0) rfl (by decide) rfl
      have g2 : zv_ro Z ws' 18939958 = some (.int (nI 0)) := zv_dc_of (ys := []) H (by decide) (p3 _ (List.mem_of_getElem? (i := 6) rfl)).1 (i := 0) rfl (by decide) rfl
      have g3 : zv_ro Z ws' 18972727 = some (.int (nI 0)) := zv_dc_of (ys := []) H (by decide) (p3 _ (List.mem_of_getElem? (i := 7) rfl)).1 (i := 0) rfl (by decide) rfl
      have g4 : zv_ro Z ws' 1344541 = some (.int (nI 0)) := zv_dc_of (ys := []) H (by decide) (p3 _ (List.mem_of_getElem? (i := 0) rfl)).1 (i := 0) rfl (by decide) rfl
      refine ⟨zv_dm_of (ys := []) H (by decide) p2 rfl, p4, zr_en_of H (p3 _ (List.mem_of_getElem? (i := 1) rfl)).1, Or.inr ⟨g4, _, _, _, _, _, _, ⟨⟨?_, ?_, ?_, ?_, ?_, ?_⟩, d1, d2, d3, g1, g2, g3⟩, ?_⟩⟩
      all_goals first | omega | (unfold zt_m; omega)
    rcases List.mem_cons.mp p1 with rfl | p1
    · obtain ⟨d1, m1⟩ := zt_src H (off := 0) (lo := 2147483648) (hi := 2147483652) (p3 _ (List.mem_of_getElem? (i := 2) rfl)) (by decide) (by decide) (by decide) c1 (by omega)
      obtain ⟨d2, m2⟩ := zt_src H (off := 0) (lo := 2147483648) (hi := 2147483658) (p3 _ (List.mem_of_getElem? (i := 3) rfl)) (by decide) (by decide) (by decide) c2 (by omega)
      obtain ⟨d3, m3⟩ := zt_src H (off := 0) (lo := 2147483648) (hi := 2147483654) (p3 _ (List.mem_of_getElem? (i := 4) rfl)) (by decide) (by decide) (by decide) c3 (by omega)
      have g1 : zv_ro Z ws' 19005496 = some (.int (nI 0)) := zv_dc_of (ys := []) H (by decide) (p3 _ (List.mem_of_getElem? (i := 5) rfl)).1 (i := 0) rfl (by decide) rfl
      have g2 : zv_ro Z ws' 18939958 = some (.int (nI 1)) := zv_dc_of (ys := []) H (by decide) (p3 _ (List.mem_of_getElem? (i := 6) rfl)).1 (i := 0) rfl (by decide) rfl
      have g3 : zv_ro Z ws' 18972727 = some (.int (nI 0)) := zv_dc_of (ys := []) H (by decide) (p3 _ (List.mem_of_getElem? (i := 7) rfl)).1 (i := 0) rfl (by decide) rfl
      have g4 : zv_ro Z ws' 1344541 = some (.int (nI 0)) := zv_dc_of (ys := []) H (by decide) (p3 _ (List.mem_of_getElem? (i := 0) rfl)).1 (i := 0) rfl (by decide) rfl
      refine ⟨zv_dm_of (ys := []) H (by decide) p2 rfl, p4, zr_en_of H (p3 _ (List.mem_of_getElem? (i := 1) rfl)).1, Or.inr ⟨g4, _, _, _, _, _, _, ⟨⟨?_, ?_, ?_, ?_, ?_, ?_⟩, d1, d2, d3, g1, g2, g3⟩, ?_⟩⟩
      all_goals first | omega | (unfold zt_m; omega)
    rcases List.mem_singleton.mp p1 with rfl
    obtain ⟨d1, m1⟩ := zt_src H (off := 0) (lo := 2147483648) (hi := 2147483652) (p3 _ (List.mem_of_getElem? (i := 2) rfl)) (by decide) (by decide) (by decide) c1 (by omega)
    obtain ⟨d2, m2⟩ := zt_src H (off := 0) (lo := 2147483648) (hi := 2147483658) (p3 _ (List.mem_of_getElem? (i := 3) rfl)) (by decide) (by decide) (by decide) c2 (by omega)
    obtain ⟨d3, m3⟩ := zt_src H (off := 0) (lo := 2147483648) (hi := 2147483654) (p3 _ (List.mem_of_getElem? (i := 4) rfl)) (by decide) (by decide) (by decide) c3 (by omega)
    have g1 : zv_ro Z ws' 19005496 = some (.int (nI 0)) := zv_dc_of (ys := []) H (by decide) (p3 _ (List.mem_of_getElem? (i := 5) rfl)).1 (i := 0) rfl (by decide) rfl
    have g2 : zv_ro Z ws' 18939958 = some (.int (nI 0)) := zv_dc_of (ys := []) H (by decide) (p3 _ (List.mem_of_getElem? (i := 6) rfl)).1 (i := 0) rfl (by decide) rfl
    have g3 : zv_ro Z ws' 18972727 = some (.int (nI 1)) := zv_dc_of (ys := []) H (by decide) (p3 _ (List.mem_of_getElem? (i := 7) rfl)).1 (i := 0) rfl (by decide) rfl
    have g4 : zv_ro Z ws' 1344541 = some (.int (nI 0)) := zv_dc_of (ys := []) H (by decide) (p3 _ (List.mem_of_getElem? (i := 0) rfl)).1 (i := 0) rfl (by decide) rfl
    refine ⟨zv_dm_of (ys := []) H (by decide) p2 rfl, p4, zr_en_of H (p3 _ (List.mem_of_getElem? (i := 1) rfl)).1, Or.inr ⟨g4, _, _, _, _, _, _, ⟨⟨?_, ?_, ?_, ?_, ?_, ?_⟩, d1, d2, d3, g1, g2, g3⟩, ?_⟩⟩
    all_goals first | omega | (unfold zt_m; omega)
set_option maxHeartbeats 1000000 in
theorem zo_ln11 (HH : zy_HH l D N0 Z) (HU : zy_UQ zy_fg Z) {n1 n2 n3 : Nat} : zy_OkP l D N0 zy_T Z 234 13 (fun av ws => av = [.ref (zy_fa1 Z 29)] ∧ zy_GR (zy_gl Z) ws ∧ zy_rd ws (zy_ru Z 29) 44 0 = some (.int (nI 1)) ∧ zy_rd ws (zy_ru Z 29) 4 0 = some (.int (nI 0)) ∧ zr_en Z ws ∧ zt_C Z 1 ws n1 n2 n3 1 0 0) (fun _ ws vs ws' => vs = [] ∧ zt_P Z 1 (zt_m n1 n2 n3 1 0 0) ws ws') := by
  have H := HH.1
  refine zy_OkP_mono (zy_OkP_of (zo_r11 HH)) (Nat.le_refl _) (fun av ws h => ?_) (fun av ws vs ws' h0 h => ?_)
  · obtain ⟨e, hGR, f44, f4, hen, hb, c1, c2, c3, c4, c5, c6⟩ := h
    rw [e]
    have r7 : ∀ (n N : Nat), n ≤ N → N < 1000 → zy_r Z (zy_c7v 2147483648 (2147483648 + N)) (.int (nI n)) := fun n N h1 h2 => zy_r_7 (by rw [zy_bz_n (by omega)]; omega) (by rw [zy_bz_n (by omega)]; omega) (by omega)
    exact ⟨⟨zv_rr H (r := 29) (g := 41) (by decide) (by decide) rfl (by decide), trivial⟩, ⟨fun z => absurd z (by decide), fun _ => hGR, fun z => absurd z (by decide)⟩, zv_cr2 (zv_cr H (by decide) (by decide) rfl f44 (zy_r_c (n := 1) (by decide))) (zv_cr2 (zv_cr H (by decide) (by decide) rfl f4 (zy_r_c (n := 0) (by decide))) (zv_cr2 (zr_en_cr H hen) (zv_cr2 (zv_cr H (by decide) (by decide) rfl c1 (r7 n1 4 (by omega) (by decide))) (zv_cr2 (zv_cr H (by decide) (by decide) rfl c2 (r7 n2 10 (by omega) (by decide))) (zv_cr2 (zv_cr H (by decide) (by decide) rfl c3 (r7 n3 6 (by omega) (by decide))) (zv_cr2 (zv_cr H (by decide) (by decide) rfl c4 (zy_r_c (n := 1) (by decide))) (zv_cr2 (zv_cr H (by decide) (by decide) rfl c5 (zy_r_c (n := 0) (by decide))) (zv_cr H (by decide) (by decide) rfl c6 (zy_r_c (n := 0) (by decide))))))))))⟩
  · obtain ⟨e, hGR, f44, f4, hen, ⟨b1, b2, b3, -, -, -⟩, c1, c2, c3, c4, c5, c6⟩ := h0
    obtain ⟨po, p1, p2, p3, p4⟩ := h
    rcases List.mem_cons.mp p1 with rfl | p1
    · obtain ⟨fk, k1, k2, -⟩ := zv_dc_7 (ys := []) H (p3 _ List.mem_cons_self).1 (i := 0) (key := 1344541) (lo := 2147483649) (hi := 2147483653) rfl (by decide) (by decide) (by decide)
      refine ⟨zv_dm_of (ys := []) H (by decide) p2 rfl, p4, zr_en_of H (p3 _ (List.mem_of_getElem? (i := 1) rfl)).1, Or.inl ⟨fk, k1, fun z => ?_⟩⟩
      rw [z, show zx_bz 0 = 2147483648 from by decide] at k2
      omega
    rcases List.mem_cons.mp p1 with rfl | p1
    · obtain ⟨d1, m1⟩ := zt_src H (off := 1) (lo := 2147483648) (hi := 2147483652) (p3 _ (List.mem_of_getElem? (i := 2) rfl)) (by decide) (by decide) (by decide) c1 (by omega)
      obtain ⟨d2, m2⟩ := zt_src H (off := 0) (lo := 2147483648) (hi := 2147483658) (p3 _ (List.mem_of_getElem? (i := 3) rfl)) (by decide) (by decide) (by decide) c2 (by omega)
      obtain ⟨d3, m3⟩ := zt_src H (off := 0) (lo := 2147483648) (hi := 2147483654) (p3 _ (List.mem_of_getElem? (i := 4) rfl)) (by decide) (by decide) (by decide) c3 (by omega)
      have g1 : zv_ro Z ws' 19005496 = some (.int (nI 1)) := zv_dc_of (ys := []) H (by decide) (p3 _ (List.mem_of_getElem? (i := 5) rfl)).1 (i := 0) rfl (by decide) rfl
      have g2 : zv_ro Z ws' 18939958 = some (.int (nI 0)) := zv_dc_of (ys := []) H (by decide) (p3 _ (List.mem_of_getElem? (i := 6) rfl)).1 (i := 0) rfl (by decide) rfl
      have g3 : zv_ro Z ws' 18972727 = some (.int (nI 0)) := zv_dc_of (ys := []) H (by decide) (p3 _ (List.mem_of_getElem? (i := 7) rfl)).1 (i := 0) rfl (by decide) rfl
      have g4 : zv_ro Z ws' 1344541 = some (.int (nI 0)) := zv_dc_of (ys := []) H (by decide) (p3 _ (List.mem_of_getElem? (i := 0) rfl)).1 (i := 0) rfl (by decide) rfl
      refine ⟨zv_dm_of (ys := []) H (by decide) p2 rfl, p4, zr_en_of H (p3 _ (List.mem_of_getElem? (i := 1) rfl)).1, Or.inr ⟨g4, _, _, _, _, _, _, ⟨⟨?_, ?_, ?_, ?_, ?_, ?_⟩, d1, d2, d3, g1, g2, g3⟩, ?_⟩⟩
      all_goals first | omega | (unfold zt_m; omega)
    rcases List.mem_cons.mp p1 with rfl | p1
    · obtain ⟨d1, m1⟩ := zt_src H (off := 0) (lo := 2147483648) (hi := 2147483652) (p3 _ (List.mem_of_getElem? (i := 2) rfl)) (by decide) (by decide) (by decide) c1 (by omega)
      obtain ⟨d2, m2⟩ := zt_src H (off := 1) (lo := 2147483648) (hi := 2147483658) (p3 _ (List.mem_of_getElem? (i := 3) rfl)) (by decide) (by decide) (by decide) c2 (by omega)
      obtain ⟨d3, m3⟩ := zt_src H (off := 0) (lo := 2147483648) (hi := 2147483654) (p3 _ (List.mem_of_getElem? (i := 4) rfl)) (by decide) (by decide) (by decide) c3 (by omega)
      have g1 : zv_ro Z ws' 19005496 = some (.int (nI 1)) := zv_dc_of (ys := []) H (by decide) (p3 _ (List.mem_of_getElem? (i := 5) rfl)).1 (i := 0) rfl (by decide) rfl
      have g2 : zv_ro Z ws' 18939958 = some (.int (nI 0)) := zv_dc_of (ys := []) H (by decide) (p3 _ (List.mem_of_getElem? (i := 6) rfl)).1 (i := 0) rfl (by decide) rfl
      have g3 : zv_ro Z ws' 18972727 = some (.int (nI 0)) := zv_dc_of (ys := []) H (by decide) (p3 _ (List.mem_of_getElem? (i := 7) rfl)).1 (i := 0) rfl (by decide) rfl
      have g4 : zv_ro Z ws' 1344541 = some (.int (nI 0)) := zv_dc_of (ys := []) H (by decide) (p3 _ (List.mem_of_getElem? (i := 0) rfl)).1 (i := 0) rfl (by decide) rfl
      refine ⟨zv_dm_of (ys := []) H (by decide) p2 rfl, p4, zr_en_of H (p3 _ (List.mem_of_getElem? (i := 1) rfl)).1, Or.inr ⟨g4, _, _, _, _, _, _, ⟨⟨?_, ?_, ?_, ?_, ?_, ?_⟩, d1, d2, d3, g1, g2, g3⟩, ?_⟩⟩
      all_goals first | omega | (unfold zt_m; omega)
    rcases List.mem_cons.mp p1 with rfl | p1
    · obtain ⟨d1, m1⟩ := zt_src H (off := 0) (lo := 2147483648) (hi := 2147483652) (p3 _ (List.mem_of_getElem? (i := 2) rfl)) (by decide) (by decide) (by decide) c1 (by omega)
      obtain ⟨d2, m2⟩ := zt_src H (off := 0) (lo := 2147483648) (hi := 2147483658) (p3 _ (List.mem_of_getElem? (i := 3) rfl)) (by decide) (by decide) (by decide) c2 (by omega)
      obtain ⟨d3, m3⟩ := zt_src H (off := 1) (lo := 2147483648) (hi := 2147483654) (p3 _ (List.mem_of_getElem? (i := 4) rfl)) (by decide) (by decide) (by decide) c3 (by omega)
      have g1 : zv_ro Z ws' 19005496 = some (.int (nI 1)) := zv_dc_of (ys := []) H (by decide) (p3 _ (List.mem_of_getElem? (i := 5) rfl)).1 (i := 0) rfl (by decide) rfl
      have g2 : zv_ro Z ws' 18939958 = some (.int (nI 0)) := zv_dc_of (ys := []) H (by decide) (p3 _ (List.mem_of_getElem? (i := 6) rfl)).1 (i := 0) rfl (by decide) rfl
      have g3 : zv_ro Z ws' 18972727 = some (.int (nI 0)) := zv_dc_of (ys := []) H (by decide) (p3 _ (List.mem_of_getElem? (i := 7) rfl)).1 (i := 0) rfl (by decide) rfl
      have g4 : zv_ro Z ws' 1344541 = some (.int (nI 0)) := zv_dc_of (ys := []) H (by decide) (p3 _ (List.mem_of_getElem? (i := 0) rfl)).1 (i := 0) rfl (by decide) rfl
      refine ⟨zv_dm_of (ys := []) H (by decide) p2 rfl, p4, zr_en_of H (p3 _ (List.mem_of_getElem? (i := 1) rfl)).1, Or.inr ⟨g4, _, _, _, _, _, _, ⟨⟨?_, ?_, ?_, ?_, ?_, ?_⟩, d1, d2, d3, g1, g2, g3⟩, ?_⟩⟩
      all_goals first | omega | (unfold zt_m; omega)
    rcases List.mem_cons.mp p1 with rfl | p1
    · obtain ⟨d1, m1⟩ := zt_src H (off := 0) (lo := 2147483648) (hi := 2147483652) (p3 _ (List.mem_of_getElem? (i := 2) rfl)) (by decide) (by decide) (by decide) c1 (by omega)
      obtain ⟨d2, m2⟩ := zt_src H (off := 0) (lo := 2147483648) (hi := 2147483658) (p3 _ (List.mem_of_getElem? (i := 3) rfl)) (by decide) (by decide) (by decide) c2 (by omega)
      obtain ⟨d3, m3⟩ := zt_src H (off := 0) (lo := 2147483648) (hi := 2147483654) (p3 _ (List.mem_of_getElem? (i := 4) rfl)) (by decide) (by decide) (by decide) c3 (by omega)
      have g1 : zv_ro Z ws' 19005496 = some (.int (nI 1)) := zv_dc_of (ys := []) H (by decide) (p3 _ (List.mem_of_getElem? (i := 5) rfl)).1 (i := 0) rfl (by decide) rfl
      have g2 : zv_ro Z ws' 18939958 = some (.int (nI 1)) := zv_dc_of (ys := []) H (by decide) (p3 _ (List.mem_of_getElem? (i := 6) rfl)).1 (i := 0) rfl (by decide) rfl
      have g3 : zv_ro Z ws' 18972727 = some (.int (nI 0)) := zv_dc_of (ys := []) H (by decide) (p3 _ (List.mem_of_getElem? (i := 7) rfl)).1 (i := 0) rfl (by decide) rfl
      have g4 : zv_ro Z ws' 1344541 = some (.int (nI 0)) := zv_dc_of (ys := []) H (by decide) (p3 _ (List.mem_of_getElem? (i := 0) rfl)).1 (i := 0) rfl (by decide) rfl
      refine ⟨zv_dm_of (ys := []) H (by decide) p2 rfl, p4, zr_en_of H (p3 _ (List.mem_of_getElem? (i := 1) rfl)).1, Or.inr ⟨g4, _, _, _, _, _, _, ⟨⟨?_, ?_, ?_, ?_, ?_, ?_⟩, d1, d2, d3, g1, g2, g3⟩, ?_⟩⟩
      all_goals first | omega | (unfold zt_m; omega)
    rcases List.mem_singleton.mp p1 with rfl
    obtain ⟨d1, m1⟩ := zt_src H (off := 0) (lo := 2147483648) (hi := 2147483652) (p3 _ (List.mem_of_getElem? (i := 2) rfl)) (by decide) (by decide) (by decide) c1 (by omega)
    obtain ⟨d2, m2⟩ := zt_src H (off := 0) (lo := 2147483648) (hi := 2147483658) (p3 _ (List.mem_of_getElem? (i := 3) rfl)) (by decide) (by decide) (by decide) c2 (by omega)
    obtain ⟨d3, m3⟩ := zt_src H (off := 0) (lo := 2147483648) (hi := 2147483654) (p3 _ (List.mem_of_getElem? (i := 4) rfl)) (by decide) (by decide) (by decide) c3 (by omega)
    have g1 : zv_ro Z ws' 19005496 = some (.int (nI 1)) := zv_dc_of (ys := []) H (by decide) (p3 _ (List.mem_of_getElem? (i := 5) rfl)).1 (i := 0) rfl (by decide) rfl
    have g2 : zv_ro Z ws' 18939958 = some (.int (nI 0)) := zv_dc_of (ys := []) H (by decide) (p3 _ (List.mem_of_getElem? (i := 6) rfl)).1 (i := 0) rfl (by decide) rfl
    have g3 : zv_ro Z ws' 18972727 = some (.int (nI 1)) := zv_dc_of (ys := []) H (by decide) (p3 _ (List.mem_of_getElem? (i := 7) rfl)).1 (i := 0) rfl (by decide) rfl
    have g4 : zv_ro Z ws' 1344541 = some (.int (nI 0)) := zv_dc_of (ys := []) H (by decide) (p3 _ (List.mem_of_getElem? (i := 0) rfl)).1 (i := 0) rfl (by decide) rfl
    refine ⟨zv_dm_of (ys := []) H (by decide) p2 rfl, p4, zr_en_of H (p3 _ (List.mem_of_getElem? (i := 1) rfl)).1, Or.inr ⟨g4, _, _, _, _, _, _, ⟨⟨?_, ?_, ?_, ?_, ?_, ?_⟩, d1, d2, d3, g1, g2, g3⟩, ?_⟩⟩
    all_goals first | omega | (unfold zt_m; omega)
set_option maxHeartbeats 1000000 in
theorem zo_ln12 (HH : zy_HH l D N0 Z) (HU : zy_UQ zy_fg Z) {n1 n2 n3 : Nat} : zy_OkP l D N0 zy_T Z 234 13 (fun av ws => av = [.ref (zy_fa1 Z 29)] ∧ zy_GR (zy_gl Z) ws ∧ zy_rd ws (zy_ru Z 29) 44 0 = some (.int (nI 1)) ∧ zy_rd ws (zy_ru Z 29) 4 0 = some (.int (nI 0)) ∧ zr_en Z ws ∧ zt_C Z 1 ws n1 n2 n3 0 1 0) (fun _ ws vs ws' => vs = [] ∧ zt_P Z 1 (zt_m n1 n2 n3 0 1 0) ws ws') := by
  have H := HH.1
  refine zy_OkP_mono (zy_OkP_of (zo_r12 HH)) (Nat.le_refl _) (fun av ws h => ?_) (fun av ws vs ws' h0 h => ?_)
  · obtain ⟨e, hGR, f44, f4, hen, hb, c1, c2, c3, c4, c5, c6⟩ := h
    rw [e]
    have r7 : ∀ (n N : Nat), n ≤ N → N < 1000 → zy_r Z (zy_c7v 2147483648 (2147483648 + N)) (.int (nI n)) := fun n N h1 h2 => zy_r_7 (by rw [zy_bz_n (by omega)]; omega) (by rw [zy_bz_n (by omega)]; omega) (by omega)
    exact ⟨⟨zv_rr H (r := 29) (g := 41) (by decide) (by decide) rfl (by decide), trivial⟩, ⟨fun z => absurd z (by decide), fun _ => hGR, fun z => absurd z (by decide)⟩, zv_cr2 (zv_cr H (by decide) (by decide) rfl f44 (zy_r_c (n := 1) (by decide))) (zv_cr2 (zv_cr H (by decide) (by decide) rfl f4 (zy_r_c (n := 0) (by decide))) (zv_cr2 (zr_en_cr H hen) (zv_cr2 (zv_cr H (by decide) (by decide) rfl c1 (r7 n1 4 (by omega) (by decide))) (zv_cr2 (zv_cr H (by decide) (by decide) rfl c2 (r7 n2 10 (by omega) (by decide))) (zv_cr2 (zv_cr H (by decide) (by decide) rfl c3 (r7 n3 6 (by omega) (by decide))) (zv_cr2 (zv_cr H (by decide) (by decide) rfl c4 (zy_r_c (n := 0) (by decide))) (zv_cr2 (zv_cr H (by decide) (by decide) rfl c5 (zy_r_c (n := 1) (by decide))) (zv_cr H (by decide) (by decide) rfl c6 (zy_r_c (n := 0) (by decide))))))))))⟩
  · obtain ⟨e, hGR, f44, f4, hen, ⟨b1, b2, b3, -, -, -⟩, c1, c2, c3, c4, c5, c6⟩ := h0
    obtain ⟨po, p1, p2, p3, p4⟩ := h
    rcases List.mem_cons.mp p1 with rfl | p1
    · obtain ⟨fk, k1, k2, -⟩ := zv_dc_7 (ys := []) H (p3 _ List.mem_cons_self).1 (i := 0) (key := 1344541) (lo := 2147483649) (hi := 2147483653) rfl (by decide) (by decide) (by decide)
      refine ⟨zv_dm_of (ys := []) H (by decide) p2 rfl, p4, zr_en_of H (p3 _ (List.mem_of_getElem? (i := 1) rfl)).1, Or.inl ⟨fk, k1, fun z => ?_⟩⟩
      rw [z, show zx_bz 0 = 2147483648 from by decide] at k2
      omega
    rcases List.mem_cons.mp p1 with rfl | p1
    · obtain ⟨d1, m1⟩ := zt_src H (off := 1) (lo := 2147483648) (hi := 2147483652) (p3 _ (List.mem_of_getElem? (i := 2) rfl)) (by decide) (by decide) (by decide) c1 (by omega)
      obtain ⟨d2, m2⟩ := zt_src H (off := 0) (lo := 2147483648) (hi := 2147483658) (p3 _ (List.mem_of_getElem? (i := 3) rfl)) (by decide) (by decide) (by decide) c2 (by omega)
      obtain ⟨d3, m3⟩ := zt_src H (off := 0) (lo := 2147483648) (hi := 2147483654) (p3 _ (List.mem_of_getElem? (i := 4) rfl)) (by decide) (by decide) (by decide) c3 (by omega)
      have g1 : zv_ro Z ws' 19005496 = some (.int (nI 0)) := zv_dc_of (ys := []) H (by decide) (p3 _ (List.mem_of_getElem? (i := 5) rfl)).1 (i := 0) rfl (by decide) rfl
      have g2 : zv_ro Z ws' 18939958 = some (.int (nI 1)) := zv_dc_of (ys := []) H (by decide) (p3 _ (List.mem_of_getElem? (i := 6) rfl)).1 (i := 0) rfl (by decide) rfl
      have g3 : zv_ro Z ws' 18972727 = some (.int (nI 0)) := zv_dc_of (ys := []) H (by decide) (p3 _ (List.mem_of_getElem? (i := 7) rfl)).1 (i := 0) rfl (by decide) rfl
      have g4 : zv_ro Z ws' 1344541 = some (.int (nI 0)) := zv_dc_of (ys := []) H (by decide) (p3 _ (List.mem_of_getElem? (i := 0) rfl)).1 (i := 0) rfl (by decide) rfl
      refine ⟨zv_dm_of (ys := []) H (by decide) p2 rfl, p4, zr_en_of H (p3 _ (List.mem_of_getElem? (i := 1) rfl)).1, Or.inr ⟨g4, _, _, _, _, _, _, ⟨⟨?_, ?_, ?_, ?_, ?_, ?_⟩, d1, d2, d3, g1, g2, g3⟩, ?_⟩⟩
      all_goals first | omega | (unfold zt_m; omega)
    rcases List.mem_cons.mp p1 with rfl | p1
    · obtain ⟨d1, m1⟩ := zt_src H (off := 0) (lo := 2147483648) (hi := 2147483652) (p3 _ (List.mem_of_getElem? (i := 2) rfl)) (by decide) (by decide) (by decide) c1 (by omega)
      obtain ⟨d2, m2⟩ := zt_src H (off := 1) (lo := 2147483648) (hi := 2147483658) (p3 _ (List.mem_of_getElem? (i := 3) rfl)) (by decide) (by decide) (by decide) c2 (by omega)
      obtain ⟨d3, m3⟩ := zt_src H (off := 0) (lo := 2147483648) (hi := 2147483654) (p3 _ (List.mem_of_getElem? (i := 4) rfl)) (by decide) (by decide) (by decide) c3 (by omega)
      have g1 : zv_ro Z ws' 19005496 = some (.int (nI 0)) := zv_dc_of (ys := []) H (by decide) (p3 _ (List.mem_of_getElem? (i := 5) rfl)).1 (i := 0) rfl (by decide) rfl
      have g2 : zv_ro Z ws' 18939958 = some (.int (nI 1)) := zv_dc_of (ys := []) H (by decide) (p3 _ (List.mem_of_getElem? (i := 6) rfl)).1 (i := 0) rfl (by decide) rfl
      have g3 : zv_ro Z ws' 18972727 = some (.int (nI 0)) := zv_dc_of (ys := []) H (by decide) (p3 _ (List.mem_of_getElem? (i := 7) rfl)).1 (i := 0) rfl (by decide) rfl
      have g4 : zv_ro Z ws' 1344541 = some (.int (nI 0)) := zv_dc_of (ys := []) H (by decide) (p3 _ (List.mem_of_getElem? (i := 0) rfl)).1 (i := 0) rfl (by decide) rfl
      refine ⟨zv_dm_of (ys := []) H (by decide) p2 rfl, p4, zr_en_of H (p3 _ (List.mem_of_getElem? (i := 1) rfl)).1, Or.inr ⟨g4, _, _, _, _, _, _, ⟨⟨?_, ?_, ?_, ?_, ?_, ?_⟩, d1, d2, d3, g1, g2, g3⟩, ?_⟩⟩
      all_goals first | omega | (unfold zt_m; omega)
    rcases List.mem_cons.mp p1 with rfl | p1
    · obtain ⟨d1, m1⟩ := zt_src H (off := 0) (lo := 2147483648) (hi := 2147483652) (p3 _ (List.mem_of_getElem? (i := 2) rfl)) (by decide) (by decide) (by decide) c1 (by omega)
      obtain ⟨d2, m2⟩ := zt_src H (off := 0) (lo := 2147483648) (hi := 2147483658) (p3 _ (List.mem_of_getElem? (i := 3) rfl)) (by decide) (by decide) (by decide) c2 (by omega)
      obtain ⟨d3, m3⟩ := zt_src H (off := 1) (lo := 2147483648) (hi := 2147483654) (p3 _ (List.mem_of_getElem? (i := 4) rfl)) (by decide) (by decide) (by decide) c3 (by omega)
      have g1 : zv_ro Z ws' 19005496 = some (.int (nI 0)) := zv_dc_of (ys := []) H (by decide) (p3 _ (List.mem_of_getElem? (i := 5) rfl)).1 (i := 0) rfl (by decide) rfl
      have g2 : zv_ro Z ws' 18939958 = some (.int (nI 1)) := zv_dc_of (ys := []) H (by decide) (p3 _ (List.mem_of_getElem? (i := 6) rfl)).1 (i := 0) rfl (by decide) rfl
      have g3 : zv_ro Z ws' 18972727 = some (.int (nI 0)) := zv_dc_of (ys := []) H (by decide) (p3 _ (List.mem_of_getElem? (i := 7) rfl)).1 (i := 0) rfl (by decide) rfl
      have g4 : zv_ro Z ws' 1344541 = some (.int (nI 0)) := zv_dc_of (ys := []) H (by decide) (p3 _ (List.mem_of_getElem? (i := 0) rfl)).1 (i := 0) rfl (by decide) rfl
      refine ⟨zv_dm_of (ys := []) H (by decide) p2 rfl, p4, zr_en_of H (p3 _ (List.mem_of_getElem? (i := 1) rfl)).1, Or.inr ⟨g4, _, _, _, _, _, _, ⟨⟨?_, ?_, ?_, ?_, ?_, ?_⟩, d1, d2, d3, g1, g2, g3⟩, ?_⟩⟩
      all_goals first | omega | (unfold zt_m; omega)
    rcases List.mem_cons.mp p1 with rfl | p1
    · obtain ⟨d1, m1⟩ := zt_src H (off := 0) (lo := 2147483648) (hi := 2147483652) (p3 _ (List.mem_of_getElem? (i := 2) rfl)) (by decide) (by decide) (by decide) c1 (by omega)
      obtain ⟨d2, m2⟩ := zt_src H (off := 0) (lo := 2147483648) (hi := 2147483658) (p3 _ (List.mem_of_getElem? (i := 3) rfl)) (by decide) (by decide) (by decide) c2 (by omega)
      obtain ⟨d3, m3⟩ := zt_src H (off := 0) (lo := 2147483648) (hi := 2147483654) (p3 _ (List.mem_of_getElem? (i := 4) rfl)) (by decide) (by decide) (by decide) c3 (by omega)
      have g1 : zv_ro Z ws' 19005496 = some (.int (nI 1)) := zv_dc_of (ys := []) H (by decide) (p3 _ (List.mem_of_getElem? (i := 5) rfl)).1 (i := 0) rfl (by decide) rfl
      have g2 : zv_ro Z ws' 18939958 = some (.int (nI 1)) := zv_dc_of (ys := []) H (by decide) (p3 _ (List.mem_of_getElem? (i := 6) rfl)).1 (i := 0) rfl (by decide) rfl
      have g3 : zv_ro Z ws' 18972727 = some (.int (nI 0)) := zv_dc_of (ys := []) H (by decide) (p3 _ (List.mem_of_getElem? (i := 7) rfl)).1 (i := 0) rfl (by decide) rfl
      have g4 : zv_ro Z ws' 1344541 = some (.int (nI 0)) := zv_dc_of (ys := []) H (by decide) (p3 _ (List.mem_of_getElem? (i := 0) rfl)).1 (i := 0) rfl (by decide) rfl
      refine ⟨zv_dm_of (ys := []) H (by decide) p2 rfl, p4, zr_en_of H (p3 _ (List.mem_of_getElem? (i := 1) rfl)).1, Or.inr ⟨g4, _, _, _, _, _, _, ⟨⟨?_, ?_, ?_, ?_, ?_, ?_⟩, d1, d2, d3, g1, g2, g3⟩, ?_⟩⟩
      all_goals first | omega | (unfold zt_m; omega)
    rcases List.mem_singleton.mp p1 with rfl
    obtain ⟨d1, m1⟩ := zt_src H (off := 0) (lo := 2147483648) (hi := 2147483652) (p3 _ (List.mem_of_getElem? (i := 2) rfl)) (by decide) (by decide) (by decide) c1 (by omega)
    obtain ⟨d2, m2⟩ := zt_src H (off := 0) (lo := 2147483648) (hi := 2147483658) (p3 _ (List.mem_of_getElem? (i := 3) rfl)) (by decide) (by decide) (by decide) c2 (by omega)
    obtain ⟨d3, m3⟩ := zt_src H (off := 0) (lo := 2147483648) (hi := 2147483654) (p3 _ (List.mem_of_getElem? (i := 4) rfl)) (by decide) (by decide) (by decide) c3 (by omega)
    have g1 : zv_ro Z ws' 19005496 = some (.int (nI 0)) := zv_dc_of (ys := []) H (by decide) (p3 _ (List.mem_of_getElem? (i := 5) rfl)).1 (i := 0) rfl (by decide) rfl
    have g2 : zv_ro Z ws' 18939958 = some (.int (nI 1)) := zv_dc_of (ys := []) H (by decide) (p3 _ (List.mem_of_getElem? (i := 6) rfl)).1 (i := 0) rfl (by decide) rfl
    have g3 : zv_ro Z ws' 18972727 = some (.int (nI 1)) := zv_dc_of (ys := []) H (by decide) (p3 _ (List.mem_of_getElem? (i := 7) rfl)).1 (i := 0) rfl (by decide) rfl
    have g4 : zv_ro Z ws' 1344541 = some (.int (nI 0)) := zv_dc_of (ys := []) H (by decide) (p3 _ (List.mem_of_getElem? (i := 0) rfl)).1 (i := 0) rfl (by decide) rfl
    refine ⟨zv_dm_of (ys := []) H (by decide) p2 rfl, p4, zr_en_of H (p3 _ (List.mem_of_getElem? (i := 1) rfl)).1, Or.inr ⟨g4, _, _, _, _, _, _, ⟨⟨?_, ?_, ?_, ?_, ?_, ?_⟩, d1, d2, d3, g1, g2, g3⟩, ?_⟩⟩
    all_goals first | omega | (unfold zt_m; omega)
set_option maxHeartbeats 1000000 in
theorem zo_ln13 (HH : zy_HH l D N0 Z) (HU : zy_UQ zy_fg Z) {n1 n2 n3 : Nat} : zy_OkP l D N0 zy_T Z 234 13 (fun av ws => av = [.ref (zy_fa1 Z 29)] ∧ zy_GR (zy_gl Z) ws ∧ zy_rd ws (zy_ru Z 29) 44 0 = some (.int (nI 1)) ∧ zy_rd ws (zy_ru Z 29) 4 0 = some (.int (nI 0)) ∧ zr_en Z ws ∧ zt_C Z 1 ws n1 n2 n3 1 1 0) (fun _ ws vs ws' => vs = [] ∧ zt_P Z 1 (zt_m n1 n2 n3 1 1 0) ws ws') := by
  have H := HH.1
  refine zy_OkP_mono (zy_OkP_of (zo_r13 HH)) (Nat.le_refl _) (fun av ws h => ?_) (fun av ws vs ws' h0 h => ?_)
  · obtain ⟨e, hGR, f44, f4, hen, hb, c1, c2, c3, c4, c5, c6⟩ := h
    rw [e]
    have r7 : ∀ (n N : Nat), n ≤ N → N < 1000 → zy_r Z (zy_c7v 2147483648 (2147483648 + N)) (.int (nI n)) := fun n N h1 h2 => zy_r_7 (by rw [zy_bz_n (by omega)]; omega) (by rw [zy_bz_n (by omega)]; omega) (by omega)
    exact ⟨⟨zv_rr H (r := 29) (g := 41) (by decide) (by decide) rfl (by decide), trivial⟩, ⟨fun z => absurd z (by decide), fun _ => hGR, fun z => absurd z (by decide)⟩, zv_cr2 (zv_cr H (by decide) (by decide) rfl f44 (zy_r_c (n := 1) (by decide))) (zv_cr2 (zv_cr H (by decide) (by decide) rfl f4 (zy_r_c (n := 0) (by decide))) (zv_cr2 (zr_en_cr H hen) (zv_cr2 (zv_cr H (by decide) (by decide) rfl c1 (r7 n1 4 (by omega) (by decide))) (zv_cr2 (zv_cr H (by decide) (by decide) rfl c2 (r7 n2 10 (by omega) (by decide))) (zv_cr2 (zv_cr H (by decide) (by decide) rfl c3 (r7 n3 6 (by omega) (by decide))) (zv_cr2 (zv_cr H (by decide) (by decide) rfl c4 (zy_r_c (n := 1) (by decide))) (zv_cr2 (zv_cr H (by decide) (by decide) rfl c5 (zy_r_c (n := 1) (by decide))) (zv_cr H (by decide) (by decide) rfl c6 (zy_r_c (n := 0) (by decide))))))))))⟩
  · obtain ⟨e, hGR, f44, f4, hen, ⟨b1, b2, b3, -, -, -⟩, c1, c2, c3, c4, c5, c6⟩ := h0
    obtain ⟨po, p1, p2, p3, p4⟩ := h
    rcases List.mem_cons.mp p1 with rfl | p1
    · obtain ⟨fk, k1, k2, -⟩ := zv_dc_7 (ys := []) H (p3 _ List.mem_cons_self).1 (i := 0) (key := 1344541) (lo := 2147483649) (hi := 2147483653) rfl (by decide) (by decide) (by decide)
      refine ⟨zv_dm_of (ys := []) H (by decide) p2 rfl, p4, zr_en_of H (p3 _ (List.mem_of_getElem? (i := 1) rfl)).1, Or.inl ⟨fk, k1, fun z => ?_⟩⟩
      rw [z, show zx_bz 0 = 2147483648 from by decide] at k2
      omega
    rcases List.mem_cons.mp p1 with rfl | p1
    · obtain ⟨d1, m1⟩ := zt_src H (off := 1) (lo := 2147483648) (hi := 2147483652) (p3 _ (List.mem_of_getElem? (i := 2) rfl)) (by decide) (by decide) (by decide) c1 (by omega)
      obtain ⟨d2, m2⟩ := zt_src H (off := 0) (lo := 2147483648) (hi := 2147483658) (p3 _ (List.mem_of_getElem? (i := 3) rfl)) (by decide) (by decide) (by decide) c2 (by omega)
      obtain ⟨d3, m3⟩ := zt_src H (off := 0) (lo := 2147483648) (hi := 2147483654) (p3 _ (List.mem_of_getElem? (i := 4) rfl)) (by decide) (by decide) (by decide) c3 (by omega)
      have g1 : zv_ro Z ws' 19005496 = some (.int (nI 1)) := zv_dc_of (ys := []) H (by decide) (p3 _ (List.mem_of_getElem? (i := 5) rfl)).1 (i := 0) rfl (by decide) rfl
      have g2 : zv_ro Z ws' 18939958 = some (.int (nI 1)) := zv_dc_of (ys := []) H (by decide) (p3 _ (List.mem_of_getElem? (i := 6) rfl)).1 (i := 0) rfl (by decide) rfl
      have g3 : zv_ro Z ws' 18972727 = some (.int (nI 0)) := zv_dc_of (ys := []) H (by decide) (p3 _ (List.mem_of_getElem? (i := 7) rfl)).1 (i := 0) rfl (by decide) rfl
      have g4 : zv_ro Z ws' 1344541 = some (.int (nI 0)) := zv_dc_of (ys := []) H (by decide) (p3 _ (List.mem_of_getElem? (i := 0) rfl)).1 (i := 0) rfl (by decide) rfl
      refine ⟨zv_dm_of (ys := []) H (by decide) p2 rfl, p4, zr_en_of H (p3 _ (List.mem_of_getElem? (i := 1) rfl)).1, Or.inr ⟨g4, _, _, _, _, _, _, ⟨⟨?_, ?_, ?_, ?_, ?_, ?_⟩, d1, d2, d3, g1, g2, g3⟩, ?_⟩⟩
      all_goals first | omega | (unfold zt_m; omega)
    rcases List.mem_cons.mp p1 with rfl | p1
    · obtain ⟨d1, m1⟩ := zt_src H (off := 0) (lo := 2147483648) (hi := 2147483652) (p3 _ (List.mem_of_getElem? (i := 2) rfl)) (by decide) (by decide) (by decide) c1 (by omega)
      obtain ⟨d2, m2⟩ := zt_src H (off := 1) (lo := 2147483648) (hi := 2147483658) (p3 _ (List.mem_of_getElem? (i := 3) rfl)) (by decide) (by decide) (by decide) c2 (by omega)
      obtain ⟨d3, m3⟩ := zt_src H (off := 0) (lo := 2147483648) (hi := 2147483654) (p3 _ (List.mem_of_getElem? (i := 4) rfl)) (by decide) (by decide) (by decide) c3 (by omega)
      have g1 : zv_ro Z ws' 19005496 = some (.int (nI 1)) := zv_dc_of (ys := []) H (by decide) (p3 _ (List.mem_of_getElem? (i := 5) rfl)).1 (i := 0) rfl (by decide) rfl
      have g2 : zv_ro Z ws' 18939958 = some (.int (nI 1)) := zv_dc_of (ys := []) H (by decide) (p3 _ (List.mem_of_getElem? (i := 6) rfl)).1 (i := 0) rfl (by decide) rfl
      have g3 : zv_ro Z ws' 18972727 = some (.int (nI 0)) := zv_dc_of (ys := []) H (by decide) (p3 _ (List.mem_of_getElem? (i := 7) rfl)).1 (i := 0) rfl (by decide) rfl
      have g4 : zv_ro Z ws' 1344541 = some (.int (nI 0)) := zv_dc_of (ys := []) H (by decide) (p3 _ (List.mem_of_getElem? (i := 0) rfl)).1 (i := 0) rfl (by decide) rfl
      refine ⟨zv_dm_of (ys := []) H (by decide) p2 rfl, p4, zr_en_of H (p3 _ (List.mem_of_getElem? (i := 1) rfl)).1, Or.inr ⟨g4, _, _, _, _, _, _, ⟨⟨?_, ?_, ?_, ?_, ?_, ?_⟩, d1, d2, d3, g1, g2, g3⟩, ?_⟩⟩
      all_goals first | omega | (unfold zt_m; omega)
    rcases List.mem_cons.mp p1 with rfl | p1
    · obtain ⟨d1, m1⟩ := zt_src H (off := 0) (lo := 2147483648) (hi := 2147483652) (p3 _ (List.mem_of_getElem? (i := 2) rfl)) (by decide) (by decide) (by decide) c1 (by omega)
      obtain ⟨d2, m2⟩ := zt_src H (off := 0) (lo := 2147483648) (hi := 2147483658) (p3 _ (List.mem_of_getElem? (i := 3) rfl)) (by decide) (by decide) (by decide) c2 (by omega)
      obtain ⟨d3, m3⟩ := zt_src H (off := 1) (lo := 2147483648) (hi := 2147483654) (p3 _ (List.mem_of_getElem? (i := 4) rfl)) (by decide) (by decide) (by decide) c3 (by omega)
      have g1 : zv_ro Z ws' 19005496 = some (.int (nI 1)) := zv_dc_of (ys := []) H (by decide) (p3 _ (List.mem_of_getElem? (i := 5) rfl)).1 (i := 0) rfl (by decide) rfl
      have g2 : zv_ro Z ws' 18939958 = some (.int (nI 1)) := zv_dc_of (ys := []) H (by decide) (p3 _ (List.mem_of_getElem? (i := 6) rfl)).1 (i := 0) rfl (by decide) rfl
      have g3 : zv_ro Z ws' 18972727 = some (.int (nI 0)) := zv_dc_of (ys := []) H (by decide) (p3 _ (List.mem_of_getElem? (i := 7) rfl)).1 (i := 0) rfl (by decide) rfl
      have g4 : zv_ro Z ws' 1344541 = some (.int (nI 0)) := zv_dc_of (ys := []) H (by decide) (p3 _ (List.mem_of_getElem? (i := 0) rfl)).1 (i := 0) rfl (by decide) rfl
      refine ⟨zv_dm_of (ys := []) H (by decide) p2 rfl, p4, zr_en_of H (p3 _ (List.mem_of_getElem? (i := 1) rfl)).1, Or.inr ⟨g4, _, _, _, _, _, _, ⟨⟨?_, ?_, ?_, ?_, ?_, ?_⟩, d1, d2, d3, g1, g2, g3⟩, ?_⟩⟩
      all_goals first | omega | (unfold zt_m; omega)
    rcases List.mem_singleton.mp p1 with rfl
    obtain ⟨d1, m1⟩ := zt_src H (off := 0) (lo := 2147483648) (hi := 2147483652) (p3 _ (List.mem_of_getElem? (i := 2) rfl)) (by decide) (by decide) (by decide) c1 (by omega)
    obtain ⟨d2, m2⟩ := zt_src H (off := 0) (lo := 2147483648) (hi := 2147483658) (p3 _ (List.mem_of_getElem? (i := 3) rfl)) (by decide) (by decide) (by decide) c2 (by omega)
    obtain ⟨d3, m3⟩ := zt_src H (off := 0) (lo := 2147483648) (hi := 2147483654) (p3 _ (List.mem_of_getElem? (i := 4) rfl)) (by decide) (by decide) (by decide) c3 (by omega)
    have g1 : zv_ro Z ws' 19005496 = some (.int (nI 1)) := zv_dc_of (ys := []) H (by decide) (p3 _ (List.mem_of_getElem? (i := 5) rfl)).1 (i := 0) rfl (by decide) rfl
    have g2 : zv_ro Z ws' 18939958 = some (.int (nI 1)) := zv_dc_of (ys := []) H (by decide) (p3 _ (List.mem_of_getElem? (i := 6) rfl)).1 (i := 0) rfl (by decide) rfl
    have g3 : zv_ro Z ws' 18972727 = some (.int (nI 1)) := zv_dc_of (ys := []) H (by decide) (p3 _ (List.mem_of_getElem? (i := 7) rfl)).1 (i := 0) rfl (by decide) rfl
    have g4 : zv_ro Z ws' 1344541 = some (.int (nI 0)) := zv_dc_of (ys := []) H (by decide) (p3 _ (List.mem_of_getElem? (i := 0) rfl)).1 (i := 0) rfl (by decide) rfl
    refine ⟨zv_dm_of (ys := []) H (by decide) p2 rfl, p4, zr_en_of H (p3 _ (List.mem_of_getElem? (i := 1) rfl)).1, Or.inr ⟨g4, _, _, _, _, _, _, ⟨⟨?_, ?_, ?_, ?_, ?_, ?_⟩, d1, d2, d3, g1, g2, g3⟩, ?_⟩⟩
    all_goals first | omega | (unfold zt_m; omega)
set_option maxHeartbeats 1000000 in
theorem zo_ln14 (HH : zy_HH l D N0 Z) (HU : zy_UQ zy_fg Z) {n1 n2 n3 : Nat} : zy_OkP l D N0 zy_T Z 234 13 (fun av ws => av = [.ref (zy_fa1 Z 29)] ∧ zy_GR (zy_gl Z) ws ∧ zy_rd ws (zy_ru Z 29) 44 0 = some (.int (nI 1)) ∧ zy_rd ws (zy_ru Z 29) 4 0 = some (.int (nI 0)) ∧ zr_en Z ws ∧ zt_C Z 1 ws n1 n2 n3 0 0 1) (fun _ ws vs ws' => vs = [] ∧ zt_P Z 1 (zt_m n1 n2 n3 0 0 1) ws ws') := by
  have H := HH.1
  refine zy_OkP_mono (zy_OkP_of (zo_r14 HH)) (Nat.le_refl _) (fun av ws h => ?_) (fun av ws vs ws' h0 h => ?_)
  · obtain ⟨e, hGR, f44, f4, hen, hb, c1, c2, c3, c4, c5, c6⟩ := h
    rw [e]
    have r7 : ∀ (n N : Nat), n ≤ N → N < 1000 → zy_r Z (zy_c7v 2147483648 (2147483648 + N)) (.int (nI n)) := fun n N h1 h2 => zy_r_7 (by rw [zy_bz_n (by omega)]; omega) (by rw [zy_bz_n (by omega)]; omega) (by omega)
    exact ⟨⟨zv_rr H (r := 29) (g := 41) (by decide) (by decide) rfl (by decide), trivial⟩, ⟨fun z => absurd z (by decide), fun _ => hGR, fun z => absurd z (by decide)⟩, zv_cr2 (zv_cr H (by decide) (by decide) rfl f44 (zy_r_c (n := 1) (by decide))) (zv_cr2 (zv_cr H (by decide) (by decide) rfl f4 (zy_r_c (n := 0) (by decide))) (zv_cr2 (zr_en_cr H hen) (zv_cr2 (zv_cr H (by decide) (by decide) rfl c1 (r7 n1 4 (by omega) (by decide))) (zv_cr2 (zv_cr H (by decide) (by decide) rfl c2 (r7 n2 10 (by omega) (by decide))) (zv_cr2 (zv_cr H (by decide) (by decide) rfl c3 (r7 n3 6 (by omega) (by decide))) (zv_cr2 (zv_cr H (by decide) (by decide) rfl c4 (zy_r_c (n := 0) (by decide))) (zv_cr2 (zv_cr H (by decide) (by decide) rfl c5 (zy_r_c (n := 0) (by decide))) (zv_cr H (by decide) (by decide) rfl c6 (zy_r_c (n := 1) (by decide))))))))))⟩
  · obtain ⟨e, hGR, f44, f4, hen, ⟨b1, b2, b3, -, -, -⟩, c1, c2, c3, c4, c5, c6⟩ := h0
    obtain ⟨po, p1, p2, p3, p4⟩ := h
    rcases List.mem_cons.mp p1 with rfl | p1
    · obtain ⟨fk, k1, k2, -⟩ := zv_dc_7 (ys := []) H (p3 _ List.mem_cons_self).1 (i := 0) (key := 1344541) (lo := 2147483649) (hi := 2147483653) rfl (by decide) (by decide) (by decide)
      refine ⟨zv_dm_of (ys := []) H (by decide) p2 rfl, p4, zr_en_of H (p3 _ (List.mem_of_getElem? (i := 1) rfl)).1, Or.inl ⟨fk, k1, fun z => ?_⟩⟩
      rw [z, show zx_bz 0 = 2147483648 from by decide] at k2
      omega
    rcases List.mem_cons.mp p1 with rfl | p1
    · obtain ⟨d1, m1⟩ := zt_src H (off := 1) (lo := 2147483648) (hi := 2147483652) (p3 _ (List.mem_of_getElem? (i := 2) rfl)) (by decide) (by decide) (by decide) c1 (by omega)
      obtain ⟨d2, m2⟩ := zt_src H (off := 0) (lo := 2147483648) (hi := 2147483658) (p3 _ (List.mem_of_getElem? (i := 3) rfl)) (by decide) (by decide) (by decide) c2 (by omega)
      obtain ⟨d3, m3⟩ := zt_src H (off := 0) (lo := 2147483648) (hi := 2147483654) (p3 _ (List.mem_of_getElem? (i := 4) rfl)) (by decide) (by decide) (by decide) c3 (by omega)
      have g1 : zv_ro Z ws' 19005496 = some (.int (nI 0)) := zv_dc_of (ys := []) H (by decide) (p3 _ (List.mem_of_getElem? (i := 5) rfl)).1 (i := 0) rfl (by decide) rfl
      have g2 : zv_ro Z ws' 18939958 = some (.int (nI 0)) := zv_dc_of (ys := []) H (by decide) (p3 _ (List.mem_of_getElem? (i := 6) rfl)).1 (i := 0) rfl (by decide) rfl
      have g3 : zv_ro Z ws' 18972727 = some (.int (nI 1)) := zv_dc_of (ys := []) H (by decide) (p3 _ (List.mem_of_getElem? (i := 7) rfl)).1 (i := 0) rfl (by decide) rfl
      have g4 : zv_ro Z ws' 1344541 = some (.int (nI 0)) := zv_dc_of (ys := []) H (by decide) (p3 _ (List.mem_of_getElem? (i := 0) rfl)).1 (i := 0) rfl (by decide) rfl
      refine ⟨zv_dm_of (ys := []) H (by decide) p2 rfl, p4, zr_en_of H (p3 _ (List.mem_of_getElem? (i := 1) rfl)).1, Or.inr ⟨g4, _, _, _, _, _, _, ⟨⟨?_, ?_, ?_, ?_, ?_, ?_⟩, d1, d2, d3, g1, g2, g3⟩, ?_⟩⟩
      all_goals first | omega | (unfold zt_m; omega)
    rcases List.mem_cons.mp p1 with rfl | p1
    · obtain ⟨d1, m1⟩ := zt_src H (off := 0) (lo := 2147483648) (hi := 2147483652) (p3 _ (List.mem_of_getElem? (i := 2) rfl)) (by decide) (by decide) (by decide) c1 (by omega)
      obtain ⟨d2, m2⟩ := zt_src H (off := 1) (lo := 2147483648) (hi := 2147483658) (p3 _ (List.mem_of_getElem? (i := 3) rfl)) (by decide) (by decide) (by decide) c2 (by omega)
      obtain ⟨d3, m3⟩ := zt_src H (off := 0) (lo := 2147483648) (hi := 2147483654) (p3 _ (List.mem_of_getElem? (i := 4) rfl)) (by decide) (by decide) (by decide) c3 (by omega)
      have g1 : zv_ro Z ws' 19005496 = some (.int (nI 0)) := zv_dc_of (ys := []) H (by decide) (p3 _ (List.mem_of_getElem? (i := 5) rfl)).1 (i := 0) rfl (by decide) rfl
      have g2 : zv_ro Z ws' 18939958 = some (.int (nI 0)) := zv_dc_of (ys := []) H (by decide) (p3 _ (List.mem_of_getElem? (i := 6) rfl)).1 (i := 0) rfl (by decide) rfl
      have g3 : zv_ro Z ws' 18972727 = some (.int (nI 1)) := zv_dc_of (ys := []) H (by decide) (p3 _ (List.mem_of_getElem? (i := 7) rfl)).1 (i := 0) rfl (by decide) rfl
      have g4 : zv_ro Z ws' 1344541 = some (.int (nI 0)) := zv_dc_of (ys := []) H (by decide) (p3 _ (List.mem_of_getElem? (i := 0) rfl)).1 (i := 0) rfl (by decide) rfl
      refine ⟨zv_dm_of (ys := []) H (by decide) p2 rfl, p4, zr_en_of H (p3 _ (List.mem_of_getElem? (i := 1) rfl)).1, Or.inr ⟨g4, _, _, _, _, _, _, ⟨⟨?_, ?_, ?_, ?_, ?_, ?_⟩, d1, d2, d3, g1, g2, g3⟩, ?_⟩⟩
      all_goals first | omega | (unfold zt_m; omega)
    rcases List.mem_cons.mp p1 with rfl | p1
    · obtain ⟨d1, m1⟩ := zt_src H (off := 0) (lo := 2147483648) (hi := 2147483652) (p3 _ (List.mem_of_getElem? (i := 2) rfl)) (by decide) (by decide) (by decide) c1 (by omega)
      obtain ⟨d2, m2⟩ := zt_src H (off := 0) (lo := 2147483648) (hi := 2147483658) (p3 _ (List.mem_of_getElem? (i := 3) rfl)) (by decide) (by decide) (by decide) c2 (by omega)
      obtain ⟨d3, m3⟩ := zt_src H (off := 1) (lo := 2147483648) (hi := 2147483654) (p3 _ (List.mem_of_getElem? (i := 4) rfl)) (by decide) (by decide) (by decide) c3 (by omega)
      have g1 : zv_ro Z ws' 19005496 = some (.int (nI 0)) := zv_dc_of (ys := []) H (by decide) (p3 _ (List.mem_of_getElem? (i := 5) rfl)).1 (i := 0) rfl (by decide) rfl
      have g2 : zv_ro Z ws' 18939958 = some (.int (nI 0)) := zv_dc_of (ys := []) H (by decide) (p3 _ (List.mem_of_getElem? (i := 6) rfl)).1 (i := 0) rfl (by decide) rfl
      have g3 : zv_ro Z ws' 18972727 = some (.int (nI 1)) := zv_dc_of (ys := []) H (by decide) (p3 _ (List.mem_of_getElem? (i := 7) rfl)).1 (i := 0) rfl (by decide) rfl
      have g4 : zv_ro Z ws' 1344541 = some (.int (nI 0)) := zv_dc_of (ys := []) H (by decide) (p3 _ (List.mem_of_getElem? (i := 0) rfl)).1 (i := 0) rfl (by decide) rfl
      refine ⟨zv_dm_of (ys := []) H (by decide) p2 rfl, p4, zr_en_of H (p3 _ (List.mem_of_getElem? (i := 1) rfl)).1, Or.inr ⟨g4, _, _, _, _, _, _, ⟨⟨?_, ?_, ?_, ?_, ?_, ?_⟩, d1, d2, d3, g1, g2, g3⟩, ?_⟩⟩
      all_goals first | omega | (unfold zt_m; omega)
    rcases List.mem_cons.mp p1 with rfl | p1
    · obtain ⟨d1, m1⟩ := zt_src H (off := 0) (lo := 2147483648) (hi := 2147483652) (p3 _ (List.mem_of_getElem? (i := 2) rfl)) (by decide) (by decide) (by decide) c1 (by omega)
      obtain ⟨d2, m2⟩ := zt_src H (off := 0) (lo := 2147483648) (hi := 2147483658) (p3 _ (List.mem_of_getElem? (i := 3) rfl)) (by decide) (by decide) (by decide) c2 (by omega)
      obtain ⟨d3, m3⟩ := zt_src H (off := 0) (lo := 2147483648) (hi := 2147483654) (p3 _ (List.mem_of_getElem? (i := 4) rfl)) (by decide) (by decide) (by decide) c3 (by omega)
      have g1 : zv_ro Z ws' 19005496 = some (.int (nI 1)) := zv_dc_of (ys := []) H (by decide) (p3 _ (List.mem_of_getElem? (i := 5) rfl)).1 (i := 0) rfl (by decide) rfl
      have g2 : zv_ro Z ws' 18939958 = some (.int (nI 0)) := zv_dc_of (ys := []) H (by decide) (p3 _ (List.mem_of_getElem? (i := 6) rfl)).1 (i := 0) rfl (by decide) rfl
      have g3 : zv_ro Z ws' 18972727 = some (.int (nI 1)) := zv_dc_of (ys := []) H (by decide) (p3 _ (List.mem_of_getElem? (i := 7) rfl)).1 (i := 0) rfl (by decide) rfl
      have g4 : zv_ro Z ws' 1344541 = some (.int (nI 0)) := zv_dc_of (ys := []) H (by decide) (p3 _ (List.mem_of_getElem? (i := 0) rfl)).1 (i := 0) rfl (by decide) rfl
      refine ⟨zv_dm_of (ys := []) H (by decide) p2 rfl, p4, zr_en_of H (p3 _ (List.mem_of_getElem? (i := 1) rfl)).1, Or.inr ⟨g4, _, _, _, _, _, _, ⟨⟨?_, ?_, ?_, ?_, ?_, ?_⟩, d1, d2, d3, g1, g2, g3⟩, ?_⟩⟩
      all_goals first | omega | (unfold zt_m; omega)
    rcases List.mem_singleton.mp p1 with rfl
    obtain ⟨d1, m1⟩ := zt_src H (off := 0) (lo := 2147483648) (hi := 2147483652) (p3 _ (List.mem_of_getElem? (i := 2) rfl)) (by decide) (by decide) (by decide) c1 (by omega)
    obtain ⟨d2, m2⟩ := zt_src H (off := 0) (lo := 2147483648) (hi := 2147483658) (p3 _ (List.mem_of_getElem? (i := 3) rfl)) (by decide) (by decide) (by decide) c2 (by omega)
    obtain ⟨d3, m3⟩ := zt_src H (off := 0) (lo := 2147483648) (hi := 2147483654) (p3 _ (List.mem_of_getElem? (i := 4) rfl)) (by decide) (by decide) (by decide) c3 (by omega)
    have g1 : zv_ro Z ws' 19005496 = some (.int (nI 0)) := zv_dc_of (ys := []) H (by decide) (p3 _ (List.mem_of_getElem? (i := 5) rfl)).1 (i := 0) rfl (by decide) rfl
    have g2 : zv_ro Z ws' 18939958 = some (.int (nI 1)) := zv_dc_of (ys := []) H (by decide) (p3 _ (List.mem_of_getElem? (i := 6) rfl)).1 (i := 0) rfl (by decide) rfl
    have g3 : zv_ro Z ws' 18972727 = some (.int (nI 1)) := zv_dc_of (ys := []) H (by decide) (p3 _ (List.mem_of_getElem? (i := 7) rfl)).1 (i := 0) rfl (by decide) rfl
    have g4 : zv_ro Z ws' 1344541 = some (.int (nI 0)) := zv_dc_of (ys := []) H (by decide) (p3 _ (List.mem_of_getElem? (i := 0) rfl)).1 (i := 0) rfl (by decide) rfl
    refine ⟨zv_dm_of (ys := []) H (by decide) p2 rfl, p4, zr_en_of H (p3 _ (List.mem_of_getElem? (i := 1) rfl)).1, Or.inr ⟨g4, _, _, _, _, _, _, ⟨⟨?_, ?_, ?_, ?_, ?_, ?_⟩, d1, d2, d3, g1, g2, g3⟩, ?_⟩⟩
    all_goals first | omega | (unfold zt_m; omega)
set_option maxHeartbeats 1000000 in
theorem zo_ln15 (HH : zy_HH l D N0 Z) (HU : zy_UQ zy_fg Z) {n1 n2 n3 : Nat} : zy_OkP l D N0 zy_T Z 234 13 (fun av ws => av = [.ref (zy_fa1 Z 29)] ∧ zy_GR (zy_gl Z) ws ∧ zy_rd ws (zy_ru Z 29) 44 0 = some (.int (nI 1)) ∧ zy_rd ws (zy_ru Z 29) 4 0 = some (.int (nI 0)) ∧ zr_en Z ws ∧ zt_C Z 1 ws n1 n2 n3 1 0 1) (fun _ ws vs ws' => vs = [] ∧ zt_P Z 1 (zt_m n1 n2 n3 1 0 1) ws ws') := by
  have H := HH.1
  refine zy_OkP_mono (zy_OkP_of (zo_r15 HH)) (Nat.le_refl _) (fun av ws h => ?_) (fun av ws vs ws' h0 h => ?_)
  · obtain ⟨e, hGR, f44, f4, hen, hb, c1, c2, c3, c4, c5, c6⟩ := h
    rw [e]
    have r7 : ∀ (n N : Nat), n ≤ N → N < 1000 → zy_r Z (zy_c7v 2147483648 (2147483648 + N)) (.int (nI n)) := fun n N h1 h2 => zy_r_7 (by rw [zy_bz_n (by omega)]; omega) (by rw [zy_bz_n (by omega)]; omega) (by omega)
    exact ⟨⟨zv_rr H (r := 29) (g := 41) (by decide) (by decide) rfl (by decide), trivial⟩, ⟨fun z => absurd z (by decide), fun _ => hGR, fun z => absurd z (by decide)⟩, zv_cr2 (zv_cr H (by decide) (by decide) rfl f44 (zy_r_c (n := 1) (by decide))) (zv_cr2 (zv_cr H (by decide) (by decide) rfl f4 (zy_r_c (n := 0) (by decide))) (zv_cr2 (zr_en_cr H hen) (zv_cr2 (zv_cr H (by decide) (by decide) rfl c1 (r7 n1 4 (by omega) (by decide))) (zv_cr2 (zv_cr H (by decide) (by decide) rfl c2 (r7 n2 10 (by omega) (by decide))) (zv_cr2 (zv_cr H (by decide) (by decide) rfl c3 (r7 n3 6 (by omega) (by decide))) (zv_cr2 (zv_cr H (by decide) (by decide) rfl c4 (zy_r_c (n := 1) (by decide))) (zv_cr2 (zv_cr H (by decide) (by decide) rfl c5 (zy_r_c (n := 0) (by decide))) (zv_cr H (by decide) (by decide) rfl c6 (zy_r_c (n := 1) (by decide))))))))))⟩
  · obtain ⟨e, hGR, f44, f4, hen, ⟨b1, b2, b3, -, -, -⟩, c1, c2, c3, c4, c5, c6⟩ := h0
    obtain ⟨po, p1, p2, p3, p4⟩ := h
    rcases List.mem_cons.mp p1 with rfl | p1
    · obtain ⟨fk, k1, k2, -⟩ := zv_dc_7 (ys := []) H (p3 _ List.mem_cons_self).1 (i := 0) (key := 1344541) (lo := 2147483649) (hi := 2147483653) rfl (by decide) (by decide) (by decide)
      refine ⟨zv_dm_of (ys := []) H (by decide) p2 rfl, p4, zr_en_of H (p3 _ (List.mem_of_getElem? (i := 1) rfl)).1, Or.inl ⟨fk, k1, fun z => ?_⟩⟩
      rw [z, show zx_bz 0 = 2147483648 from by decide] at k2
      omega
    rcases List.mem_cons.mp p1 with rfl | p1
    · obtain ⟨d1, m1⟩ := zt_src H (off := 1) (lo := 2147483648) (hi := 2147483652) (p3 _ (List.mem_of_getElem? (i := 2) rfl)) (by decide) (by decide) (by decide) c1 (by omega)
      obtain ⟨d2, m2⟩ := zt_src H (off := 0) (lo := 2147483648) (hi := 2147483658) (p3 _ (List.mem_of_getElem? (i := 3) rfl)) (by decide) (by decide) (by decide) c2 (by omega)
      obtain ⟨d3, m3⟩ := zt_src H (off := 0) (lo := 2147483648) (hi := 2147483654) (p3 _ (List.mem_of_getElem? (i := 4) rfl)) (by decide) (by decide) (by decide) c3 (by omega)
      have g1 : zv_ro Z ws' 19005496 = some (.int (nI 1)) := zv_dc_of (ys := []) H (by decide) (p3 _ (List.mem_of_getElem? (i := 5) rfl)).1 (i := 0) rfl (by decide) rfl
      have g2 : zv_ro Z ws' 18939958 = some (.int (nI 0)) := zv_dc_of (ys := []) H (by decide) (p3 _ (List.mem_of_getElem? (i := 6) rfl)).1 (i := 0) rfl (by decide) rfl
      have g3 : zv_ro Z ws' 18972727 = some (.int (nI 1)) := zv_dc_of (ys := []) H (by decide) (p3 _ (List.mem_of_getElem? (i := 7) rfl)).1 (i := 0) rfl (by decide) rfl
      have g4 : zv_ro Z ws' 1344541 = some (.int (nI 0)) := zv_dc_of (ys := []) H (by decide) (p3 _ (List.mem_of_getElem? (i := 0) rfl)).1 (i := 0) rfl (by decide) rfl
      refine ⟨zv_dm_of (ys := []) H (by decide) p2 rfl, p4, zr_en_of H (p3 _ (List.mem_of_getElem? (i := 1) rfl)).1, Or.inr ⟨g4, _, _, _, _, _, _, ⟨⟨?_, ?_, ?_, ?_, ?_, ?_⟩, d1, d2, d3, g1, g2, g3⟩, ?_⟩⟩
      all_goals first | omega | (unfold zt_m; omega)
    rcases List.mem_cons.mp p1 with rfl | p1
    · obtain ⟨d1, m1⟩ := zt_src H (off := 0) (lo := 2147483648) (hi := 2147483652) (p3 _ (List.mem_of_getElem? (i := 2) rfl)) (by decide) (by decide) (by decide) c1 (by omega)
      obtain ⟨d2, m2⟩ := zt_src H (off := 1) (lo := 2147483648) (hi := 2147483658) (p3 _ (List.mem_of_getElem? (i := 3) rfl)) (by decide) (by decide) (by decide) c2 (by omega)
      obtain ⟨d3, m3⟩ := zt_src H (off := 0) (lo := 2147483648) (hi := 2147483654) (p3 _ (List.mem_of_getElem? (i := 4) rfl)) (by decide) (by decide) (by decide) c3 (by omega)
      have g1 : zv_ro Z ws' 19005496 = some (.int (nI 1)) := zv_dc_of (ys := []) H (by decide) (p3 _ (List.mem_of_getElem? (i := 5) rfl)).1 (i := 0) rfl (by decide) rfl
      have g2 : zv_ro Z ws' 18939958 = some (.int (nI 0)) := zv_dc_of (ys := []) H (by decide) (p3 _ (List.mem_of_getElem? (i := 6) rfl)).1 (i := 0) rfl (by decide) rfl
      have g3 : zv_ro Z ws' 18972727 = some (.int (nI 1)) := zv_dc_of (ys := []) H (by decide) (p3 _ (List.mem_of_getElem? (i := 7) rfl)).1 (i := 0) rfl (by decide) rfl
      have g4 : zv_ro Z ws' 1344541 = some (.int (nI 0)) := zv_dc_of (ys := []) H (by decide) (p3 _ (List.mem_of_getElem? (i := 0) rfl)).1 (i := 0) rfl (by decide) rfl
      refine ⟨zv_dm_of (ys := []) H (by decide) p2 rfl, p4, zr_en_of H (p3 _ (List.mem_of_getElem? (i := 1) rfl)).1, Or.inr ⟨g4, _, _, _, _, _, _, ⟨⟨?_, ?_, ?_, ?_, ?_, ?_⟩, d1, d2, d3, g1, g2, g3⟩, ?_⟩⟩
      all_goals first | omega | (unfold zt_m; omega)
    rcases List.mem_cons.mp p1 with rfl | p1
    · obtain ⟨d1, m1⟩ := zt_src H (off := 0) (lo := 2147483648) (hi := 2147483652) (p3 _ (List.mem_of_getElem? (i := 2) rfl)) (by decide) (by decide) (by decide) c1 (by omega)
      obtain ⟨d2, m2⟩ := zt_src H (off := 0) (lo := 2147483648) (hi := 2147483658) (p3 _ (List.mem_of_getElem? (i := 3) rfl)) (by decide) (by decide) (by decide) c2 (by omega)
      obtain ⟨d3, m3⟩ := zt_src H (off := 1) (lo := 2147483648) (hi := 2147483654) (p3 _ (List.mem_of_getElem? (i := 4) rfl)) (by decide) (by decide) (by decide) c3 (by omega)
      have g1 : zv_ro Z ws' 19005496 = some (.int (nI 1)) := zv_dc_of (ys := []) H (by decide) (p3 _ (List.mem_of_getElem? (i := 5) rfl)).1 (i := 0) rfl (by decide) rfl
      have g2 : zv_ro Z ws' 18939958 = some (.int (nI 0)) := zv_dc_of (ys := []) H (by decide) (p3 _ (List.mem_of_getElem? (i := 6) rfl)).1 (i := 0) rfl (by decide) rfl
      have g3 : zv_ro Z ws' 18972727 = some (.int (nI 1)) := zv_dc_of (ys := []) H (by decide) (p3 _ (List.mem_of_getElem? (i := 7) rfl)).1 (i := 0) rfl (by decide) rfl
      have g4 : zv_ro Z ws' 1344541 = some (.int (nI 0)) := zv_dc_of (ys := []) H (by decide) (p3 _ (List.mem_of_getElem? (i := 0) rfl)).1 (i := 0) rfl (by decide) rfl
      refine ⟨zv_dm_of (ys := []) H (by decide) p2 rfl, p4, zr_en_of H (p3 _ (List.mem_of_getElem? (i := 1) rfl)).1, Or.inr ⟨g4, _, _, _, _, _, _, ⟨⟨?_, ?_, ?_, ?_, ?_, ?_⟩, d1, d2, d3, g1, g2, g3⟩, ?_⟩⟩
      all_goals first | omega | (unfold zt_m; omega)
    rcases List.mem_singleton.mp p1 with rfl
    obtain ⟨d1, m1⟩ := zt_src H (off := 0) (lo := 2147483648) (hi := 2147483652) (p3 _ (List.mem_of_getElem? (i := 2) rfl)) (by decide) (by decide) (by decide) c1 (by omega)
    obtain ⟨d2, m2⟩ := zt_src H (off := 0) (lo := 2147483648) (hi := 2147483658) (p3 _ (List.mem_of_getElem? (i := 3) rfl)) (by decide) (by decide) (by decide) c2 (by omega)
    obtain ⟨d3, m3⟩ := zt_src H (off := 0) (lo := 2147483648) (hi := 2147483654) (p3 _ (List.mem_of_getElem? (i := 4) rfl)) (by decide) (by decide) (by decide) c3 (by omega)
    have g1 : zv_ro Z ws' 19005496 = some (.int (nI 1)) := zv_dc_of (ys := []) H (by decide) (p3 _ (List.mem_of_getElem? (i := 5) rfl)).1 (i := 0) rfl (by decide) rfl
    have g2 : zv_ro Z ws' 18939958 = some (.int (nI 1)) := zv_dc_of (ys := []) H (by decide) (p3 _ (List.mem_of_getElem? (i := 6) rfl)).1 (i := 0) rfl (by decide) rfl
    have g3 : zv_ro Z ws' 18972727 = some (.int (nI 1)) := zv_dc_of (ys := []) H (by decide) (p3 _ (List.mem_of_getElem? (i := 7) rfl)).1 (i := 0) rfl (by decide) rfl
    have g4 : zv_ro Z ws' 1344541 = some (.int (nI 0)) := zv_dc_of (ys := []) H (by decide) (p3 _ (List.mem_of_getElem? (i := 0) rfl)).1 (i := 0) rfl (by decide) rfl
    refine ⟨zv_dm_of (ys := []) H (by decide) p2 rfl, p4, zr_en_of H (p3 _ (List.mem_of_getElem? (i := 1) rfl)).1, Or.inr ⟨g4, _, _, _, _, _, _, ⟨⟨?_, ?_, ?_, ?_, ?_, ?_⟩, d1, d2, d3, g1, g2, g3⟩, ?_⟩⟩
    all_goals first | omega | (unfold zt_m; omega)
set_option maxHeartbeats 1000000 in
theorem zo_ln16 (HH : zy_HH l D N0 Z) (HU : zy_UQ zy_fg Z) {n1 n2 n3 : Nat} : zy_OkP l D N0 zy_T Z 234 13 (fun av ws => av = [.ref (zy_fa1 Z 29)] ∧ zy_GR (zy_gl Z) ws ∧ zy_rd ws (zy_ru Z 29) 44 0 = some (.int (nI 1)) ∧ zy_rd ws (zy_ru Z 29) 4 0 = some (.int (nI 0)) ∧ zr_en Z ws ∧ zt_C Z 1 ws n1 n2 n3 0 1 1) (fun _ ws vs ws' => vs = [] ∧ zt_P Z 1 (zt_m n1 n2 n3 0 1 1) ws ws') := by
  have H := HH.1
  refine zy_OkP_mono (zy_OkP_of (zo_r16 HH)) (Nat.le_refl _) (fun av ws h => ?_) (fun av ws vs ws' h0 h => ?_)
  · obtain ⟨e, hGR, f44, f4, hen, hb, c1, c2, c3, c4, c5, c6⟩ := h
    rw [e]
    have r7 : ∀ (n N : Nat), n ≤ N → N < 1000 → zy_r Z (zy_c7v 2147483648 (2147483648 + N)) (.int (nI n)) := fun n N h1 h2 => zy_r_7 (by rw [zy_bz_n (by omega)]; omega) (by rw [zy_bz_n (by omega)]; omega) (by omega)
    exact ⟨⟨zv_rr H (r := 29) (g := 41) (by decide) (by decide) rfl (by decide), trivial⟩, ⟨fun z => absurd z (by decide), fun _ => hGR, fun z => absurd z (by decide)⟩, zv_cr2 (zv_cr H (by decide) (by decide) rfl f44 (zy_r_c (n := 1) (by decide))) (zv_cr2 (zv_cr H (by decide) (by decide) rfl f4 (zy_r_c (n := 0) (by decide))) (zv_cr2 (zr_en_cr H hen) (zv_cr2 (zv_cr H (by decide) (by decide) rfl c1 (r7 n1 4 (by omega) (by decide))) (zv_cr2 (zv_cr H (by decide) (by decide) rfl c2 (r7 n2 10 (by omega) (by decide))) (zv_cr2 (zv_cr H (by decide) (by decide) rfl c3 (r7 n3 6 (by omega) (by decide))) (zv_cr2 (zv_cr H (by decide) (by decide) rfl c4 (zy_r_c (n := 0) (by decide))) (zv_cr2 (zv_cr H (by decide) (by decide) rfl c5 (zy_r_c (n := 1) (by decide))) (zv_cr H (by decide) (by decide) rfl c6 (zy_r_c (n := 1) (by decide))))))))))⟩
  · obtain ⟨e, hGR, f44, f4, hen, ⟨b1, b2, b3, -, -, -⟩, c1, c2, c3, c4, c5, c6⟩ := h0
    obtain ⟨po, p1, p2, p3, p4⟩ := h
    rcases List.mem_cons.mp p1 with rfl | p1
    · obtain ⟨fk, k1, k2, -⟩ := zv_dc_7 (ys := []) H (p3 _ List.mem_cons_self).1 (i := 0) (key := 1344541) (lo := 2147483649) (hi := 2147483653) rfl (by decide) (by decide) (by decide)
      refine ⟨zv_dm_of (ys := []) H (by decide) p2 rfl, p4, zr_en_of H (p3 _ (List.mem_of_getElem? (i := 1) rfl)).1, Or.inl ⟨fk, k1, fun z => ?_⟩⟩
      rw [z, show zx_bz 0 = 2147483648 from by decide] at k2
      omega
    rcases List.mem_cons.mp p1 with rfl | p1
    · obtain ⟨d1, m1⟩ := zt_src H (off := 1) (lo := 2147483648) (hi := 2147483652) (p3 _ (List.mem_of_getElem? (i := 2) rfl)) (by decide) (by decide) (by decide) c1 (by omega)
      obtain ⟨d2, m2⟩ := zt_src H (off := 0) (lo := 2147483648) (hi := 2147483658) (p3 _ (List.mem_of_getElem? (i := 3) rfl)) (by decide) (by decide) (by decide) c2 (by omega)
      obtain ⟨d3, m3⟩ := zt_src H (off := 0) (lo := 2147483648) (hi := 2147483654) (p3 _ (List.mem_of_getElem? (i := 4) rfl)) (by decide) (by decide) (by decide) c3 (by omega)
      have g1 : zv_ro Z ws' 19005496 = some (.int (nI 0)) := zv_dc_of (ys := []) H (by decide) (p3 _ (List.mem_of_getElem? (i := 5) rfl)).1 (i := 0) rfl (by decide) rfl
      have g2 : zv_ro Z ws' 18939958 = some (.int (nI 1)) := zv_dc_of (ys := []) H (by decide) (p3 _ (List.mem_of_getElem? (i := 6) rfl)).1 (i := 0) rfl (by decide) rfl
      have g3 : zv_ro Z ws' 18972727 = some (.int (nI 1)) := zv_dc_of (ys := []) H (by decide) (p3 _ (List.mem_of_getElem? (i := 7) rfl)).1 (i := 0) rfl (by decide) rfl
      have g4 : zv_ro Z ws' 1344541 = some (.int (nI 0)) := zv_dc_of (ys := []) H (by decide) (p3 _ (List.mem_of_getElem? (i := 0) rfl)).1 (i := 0) rfl (by decide) rfl
      refine ⟨zv_dm_of (ys := []) H (by decide) p2 rfl, p4, zr_en_of H (p3 _ (List.mem_of_getElem? (i := 1) rfl)).1, Or.inr ⟨g4, _, _, _, _, _, _, ⟨⟨?_, ?_, ?_, ?_, ?_, ?_⟩, d1, d2, d3, g1, g2, g3⟩, ?_⟩⟩
      all_goals first | omega | (unfold zt_m; omega)
    rcases List.mem_cons.mp p1 with rfl | p1
    · obtain ⟨d1, m1⟩ := zt_src H (off := 0) (lo := 2147483648) (hi := 2147483652) (p3 _ (List.mem_of_getElem? (i := 2) rfl)) (by decide) (by decide) (by decide) c1 (by omega)
      obtain ⟨d2, m2⟩ := zt_src H (off := 1) (lo := 2147483648) (hi := 2147483658) (p3 _ (List.mem_of_getElem? (i := 3) rfl)) (by decide) (by decide) (by decide) c2 (by omega)
      obtain ⟨d3, m3⟩ := zt_src H (off := 0) (lo := 2147483648) (hi := 2147483654) (p3 _ (List.mem_of_getElem? (i := 4) rfl)) (by decide) (by decide) (by decide) c3 (by omega)
      have g1 : zv_ro Z ws' 19005496 = some (.int (nI 0)) := zv_dc_of (ys := []) H (by decide) (p3 _ (List.mem_of_getElem? (i := 5) rfl)).1 (i := 0) rfl (by decide) rfl
      have g2 : zv_ro Z ws' 18939958 = some (.int (nI 1)) := zv_dc_of (ys := []) H (by decide) (p3 _ (List.mem_of_getElem? (i := 6) rfl)).1 (i := 0) rfl (by decide) rfl
      have g3 : zv_ro Z ws' 18972727 = some (.int (nI 1)) := zv_dc_of (ys := []) H (by decide) (p3 _ (List.mem_of_getElem? (i := 7) rfl)).1 (i := 0) rfl (by decide) rfl
      have g4 : zv_ro Z ws' 1344541 = some (.int (nI 0)) := zv_dc_of (ys := []) H (by decide) (p3 _ (List.mem_of_getElem? (i := 0) rfl)).1 (i := 0) rfl (by decide) rfl
      refine ⟨zv_dm_of (ys := []) H (by decide) p2 rfl, p4, zr_en_of H (p3 _ (List.mem_of_getElem? (i := 1) rfl)).1, Or.inr ⟨g4, _, _, _, _, _, _, ⟨⟨?_, ?_, ?_, ?_, ?_, ?_⟩, d1, d2, d3, g1, g2, g3⟩, ?_⟩⟩
      all_goals first | omega | (unfold zt_m; omega)
    rcases List.mem_cons.mp p1 with rfl | p1
    · obtain ⟨d1, m1⟩ := zt_src H (off := 0) (lo := 2147483648) (hi := 2147483652) (p3 _ (List.mem_of_getElem? (i := 2) rfl)) (by decide) (by decide) (by decide) c1 (by omega)
      obtain ⟨d2, m2⟩ := zt_src H (off := 0) (lo := 2147483648) (hi := 2147483658) (p3 _ (List.mem_of_getElem? (i := 3) rfl)) (by decide) (by decide) (by decide) c2 (by omega)
      obtain ⟨d3, m3⟩ := zt_src H (off := 1) (lo := 2147483648) (hi := 2147483654) (p3 _ (List.mem_of_getElem? (i := 4) rfl)) (by decide) (by decide) (by decide) c3 (by omega)
      have g1 : zv_ro Z ws' 19005496 = some (.int (nI 0)) := zv_dc_of (ys := []) H (by decide) (p3 _ (List.mem_of_getElem? (i := 5) rfl)).1 (i := 0) rfl (by decide) rfl
      have g2 : zv_ro Z ws' 18939958 = some (.int (nI 1)) := zv_dc_of (ys := []) H (by decide) (p3 _ (List.mem_of_getElem? (i := 6) rfl)).1 (i := 0) rfl (by decide) rfl
      have g3 : zv_ro Z ws' 18972727 = some (.int (nI 1)) := zv_dc_of (ys := []) H (by decide) (p3 _ (List.mem_of_getElem? (i := 7) rfl)).1 (i := 0) rfl (by decide) rfl
      have g4 : zv_ro Z ws' 1344541 = some (.int (nI 0)) := zv_dc_of (ys := []) H (by decide) (p3 _ (List.mem_of_getElem? (i := 0) rfl)).1 (i := 0) rfl (by decide) rfl
      refine ⟨zv_dm_of (ys := []) H (by decide) p2 rfl, p4, zr_en_of H (p3 _ (List.mem_of_getElem? (i := 1) rfl)).1, Or.inr ⟨g4, _, _, _, _, _, _, ⟨⟨?_, ?_, ?_, ?_, ?_, ?_⟩, d1, d2, d3, g1, g2, g3⟩, ?_⟩⟩
      all_goals first | omega | (unfold zt_m; omega)
    rcases List.mem_singleton.mp p1 with rfl
    obtain ⟨d1, m1⟩ := zt_src H (off := 0) (lo := 2147483648) (hi := 2147483652) (p3 _ (List.mem_of_getElem? (i := 2) rfl)) (by decide) (by decide) (by decide) c1 (by omega)
    obtain ⟨d2, m2⟩ := zt_src H (off := 0) (lo := 2147483648) (hi := 2147483658) (p3 _ (List.mem_of_getElem? (i := 3) rfl)) (by decide) (by decide) (by decide) c2 (by omega)
    obtain ⟨d3, m3⟩ := zt_src H (off := 0) (lo := 2147483648) (hi := 2147483654) (p3 _ (List.mem_of_getElem? (i := 4) rfl)) (by decide) (by decide) (by decide) c3 (by omega)
    have g1 : zv_ro Z ws' 19005496 = some (.int (nI 1)) := zv_dc_of (ys := []) H (by decide) (p3 _ (List.mem_of_getElem? (i := 5) rfl)).1 (i := 0) rfl (by decide) rfl
    have g2 : zv_ro Z ws' 18939958 = some (.int (nI 1)) := zv_dc_of (ys := []) H (by decide) (p3 _ (List.mem_of_getElem? (i := 6) rfl)).1 (i := 0) rfl (by decide) rfl
    have g3 : zv_ro Z ws' 18972727 = some (.int (nI 1)) := zv_dc_of (ys := []) H (by decide) (p3 _ (List.mem_of_getElem? (i := 7) rfl)).1 (i := 0) rfl (by decide) rfl
    have g4 : zv_ro Z ws' 1344541 = some (.int (nI 0)) := zv_dc_of (ys := []) H (by decide) (p3 _ (List.mem_of_getElem? (i := 0) rfl)).1 (i := 0) rfl (by decide) rfl
    refine ⟨zv_dm_of (ys := []) H (by decide) p2 rfl, p4, zr_en_of H (p3 _ (List.mem_of_getElem? (i := 1) rfl)).1, Or.inr ⟨g4, _, _, _, _, _, _, ⟨⟨?_, ?_, ?_, ?_, ?_, ?_⟩, d1, d2, d3, g1, g2, g3⟩, ?_⟩⟩
    all_goals first | omega | (unfold zt_m; omega)
set_option maxHeartbeats 1000000 in
theorem zo_ln17 (HH : zy_HH l D N0 Z) (HU : zy_UQ zy_fg Z) {n1 n2 n3 : Nat} : zy_OkP l D N0 zy_T Z 234 13 (fun av ws => av = [.ref (zy_fa1 Z 29)] ∧ zy_GR (zy_gl Z) ws ∧ zy_rd ws (zy_ru Z 29) 44 0 = some (.int (nI 1)) ∧ zy_rd ws (zy_ru Z 29) 4 0 = some (.int (nI 0)) ∧ zr_en Z ws ∧ zt_C Z 1 ws n1 n2 n3 1 1 1) (fun _ ws vs ws' => vs = [] ∧ zt_P Z 1 (zt_m n1 n2 n3 1 1 1) ws ws') := by
  have H := HH.1
  refine zy_OkP_mono (zy_OkP_of (zo_r17 HH)) (Nat.le_refl _) (fun av ws h => ?_) (fun av ws vs ws' h0 h => ?_)
  · obtain ⟨e, hGR, f44, f4, hen, hb, c1, c2, c3, c4, c5, c6⟩ := h
    rw [e]
    have r7 : ∀ (n N : Nat), n ≤ N → N < 1000 → zy_r Z (zy_c7v 2147483648 (2147483648 + N)) (.int (nI n)) := fun n N h1 h2 => zy_r_7 (by rw [zy_bz_n (by omega)]; omega) (by rw [zy_bz_n (by omega)]; omega) (by omega)
    exact ⟨⟨zv_rr H (r := 29) (g := 41) (by decide) (by decide) rfl (by decide), trivial⟩, ⟨fun z => absurd z (by decide), fun _ => hGR, fun z => absurd z (by decide)⟩, zv_cr2 (zv_cr H (by decide) (by decide) rfl f44 (zy_r_c (n := 1) (by decide))) (zv_cr2 (zv_cr H (by decide) (by decide) rfl f4 (zy_r_c (n := 0) (by decide))) (zv_cr2 (zr_en_cr H hen) (zv_cr2 (zv_cr H (by decide) (by decide) rfl c1 (r7 n1 4 (by omega) (by decide))) (zv_cr2 (zv_cr H (by decide) (by decide) rfl c2 (r7 n2 10 (by omega) (by decide))) (zv_cr2 (zv_cr H (by decide) (by decide) rfl c3 (r7 n3 6 (by omega) (by decide))) (zv_cr2 (zv_cr H (by decide) (by decide) rfl c4 (zy_r_c (n := 1) (by decide))) (zv_cr2 (zv_cr H (by decide) (by decide) rfl c5 (zy_r_c (n := 1) (by decide))) (zv_cr H (by decide) (by decide) rfl c6 (zy_r_c (n := 1) (by decide))))))))))⟩
  · obtain ⟨e, hGR, f44, f4, hen, ⟨b1, b2, b3, -, -, -⟩, c1, c2, c3, c4, c5, c6⟩ := h0
    obtain ⟨po, p1, p2, p3, p4⟩ := h
    rcases List.mem_cons.mp p1 with rfl | p1
    · obtain ⟨fk, k1, k2, -⟩ := zv_dc_7 (ys := []) H (p3 _ List.mem_cons_self).1 (i := 0) (key := 1344541) (lo := 2147483649) (hi := 2147483653) rfl (by decide) (by decide) (by decide)
      refine ⟨zv_dm_of (ys := []) H (by decide) p2 rfl, p4, zr_en_of H (p3 _ (List.mem_of_getElem? (i := 1) rfl)).1, Or.inl ⟨fk, k1, fun z => ?_⟩⟩
      rw [z, show zx_bz 0 = 2147483648 from by decide] at k2
      omega
    rcases List.mem_cons.mp p1 with rfl | p1
    · obtain ⟨d1, m1⟩ := zt_src H (off := 1) (lo := 2147483648) (hi := 2147483652) (p3 _ (List.mem_of_getElem? (i := 2) rfl)) (by decide) (by decide) (by decide) c1 (by omega)
      obtain ⟨d2, m2⟩ := zt_src H (off := 0) (lo := 2147483648) (hi := 2147483658) (p3 _ (List.mem_of_getElem? (i := 3) rfl)) (by decide) (by decide) (by decide) c2 (by omega)
      obtain ⟨d3, m3⟩ := zt_src H (off := 0) (lo := 2147483648) (hi := 2147483654) (p3 _ (List.mem_of_getElem? (i := 4) rfl)) (by decide) (by decide) (by decide) c3 (by omega)
      have g1 : zv_ro Z ws' 19005496 = some (.int (nI 1)) := zv_dc_of (ys := []) H (by decide) (p3 _ (List.mem_of_getElem? (i := 5) rfl)).1 (i := 0) rfl (by decide) rfl
      have g2 : zv_ro Z ws' 18939958 = some (.int (nI 1)) := zv_dc_of (ys := []) H (by decide) (p3 _ (List.mem_of_getElem? (i := 6) rfl)).1 (i := 0) rfl (by decide) rfl
      have g3 : zv_ro Z ws' 18972727 = some (.int (nI 1)) := zv_dc_of (ys := []) H (by decide) (p3 _ (List.mem_of_getElem? (i := 7) rfl)).1 (i := 0) rfl (by decide) rfl
      have g4 : zv_ro Z ws' 1344541 = some (.int (nI 0)) := zv_dc_of (ys := []) H (by decide) (p3 _ (List.mem_of_getElem? (i := 0) rfl)).1 (i := 0) rfl (by decide) rfl
      refine ⟨zv_dm_of (ys := []) H (by decide) p2 rfl, p4, zr_en_of H (p3 _ (List.mem_of_getElem? (i := 1) rfl)).1, Or.inr ⟨g4, _, _, _, _, _, _, ⟨⟨?_, ?_, ?_, ?_, ?_, ?_⟩, d1, d2, d3, g1, g2, g3⟩, ?_⟩⟩
      all_goals first | omega | (unfold zt_m; omega)
    rcases List.mem_cons.mp p1 with rfl | p1
    · obtain ⟨d1, m1⟩ := zt_src H (off := 0) (lo := 2147483648) (hi := 2147483652) (p3 _ (List.mem_of_getElem? (i := 2) rfl)) (by decide) (by decide) (by decide) c1 (by omega)
      obtain ⟨d2, m2⟩ := zt_src H (off := 1) (lo := 2147483648) (hi := 2147483658) (p3 _ (List.mem_of_getElem? (i := 3) rfl)) (by decide) (by decide) (by decide) c2 (by omega)
      obtain ⟨d3, m3⟩ := zt_src H (off := 0) (lo := 2147483648) (hi := 2147483654) (p3 _ (List.mem_of_getElem? (i := 4) rfl)) (by decide) (by decide) (by decide) c3 (by omega)
      have g1 : zv_ro Z ws' 19005496 = some (.int (nI 1)) := zv_dc_of (ys := []) H (by decide) (p3 _ (List.mem_of_getElem? (i := 5) rfl)).1 (i := 0) rfl (by decide) rfl
      have g2 : zv_ro Z ws' 18939958 = some (.int (nI 1)) := zv_dc_of (ys := []) H (by decide) (p3 _ (List.mem_of_getElem? (i := 6) rfl)).1 (i := 0) rfl (by decide) rfl
      have g3 : zv_ro Z ws' 18972727 = some (.int (nI 1)) := zv_dc_of (ys := []) H (by decide) (p3 _ (List.mem_of_getElem? (i := 7) rfl)).1 (i := 0) rfl (by decide) rfl
      have g4 : zv_ro Z ws' 1344541 = some (.int (nI 0)) := zv_dc_of (ys := []) H (by decide) (p3 _ (List.mem_of_getElem? (i := 0) rfl)).1 (i := 0) rfl (by decide) rfl
      refine ⟨zv_dm_of (ys := []) H (by decide) p2 rfl, p4, zr_en_of H (p3 _ (List.mem_of_getElem? (i := 1) rfl)).1, Or.inr ⟨g4, _, _, _, _, _, _, ⟨⟨?_, ?_, ?_, ?_, ?_, ?_⟩, d1, d2, d3, g1, g2, g3⟩, ?_⟩⟩
      all_goals first | omega | (unfold zt_m; omega)
    rcases List.mem_singleton.mp p1 with rfl
    obtain ⟨d1, m1⟩ := zt_src H (off := 0) (lo := 2147483648) (hi := 2147483652) (p3 _ (List.mem_of_getElem? (i := 2) rfl)) (by decide) (by decide) (by decide) c1 (by omega)
    obtain ⟨d2, m2⟩ := zt_src H (off := 0) (lo := 2147483648) (hi := 2147483658) (p3 _ (List.mem_of_getElem? (i := 3) rfl)) (by decide) (by decide) (by decide) c2 (by omega)
    obtain ⟨d3, m3⟩ := zt_src H (off := 1) (lo := 2147483648) (hi := 2147483654) (p3 _ (List.mem_of_getElem? (i := 4) rfl)) (by decide) (by decide) (by decide) c3 (by omega)
    have g1 : zv_ro Z ws' 19005496 = some (.int (nI 1)) := zv_dc_of (ys := []) H (by decide) (p3 _ (List.mem_of_getElem? (i := 5) rfl)).1 (i := 0) rfl (by decide) rfl
    have g2 : zv_ro Z ws' 18939958 = some (.int (nI 1)) := zv_dc_of (ys := []) H (by decide) (p3 _ (List.mem_of_getElem? (i := 6) rfl)).1 (i := 0) rfl (by decide) rfl
    have g3 : zv_ro Z ws' 18972727 = some (.int (nI 1)) := zv_dc_of (ys := []) H (by decide) (p3 _ (List.mem_of_getElem? (i := 7) rfl)).1 (i := 0) rfl (by decide) rfl
    have g4 : zv_ro Z ws' 1344541 = some (.int (nI 0)) := zv_dc_of (ys := []) H (by decide) (p3 _ (List.mem_of_getElem? (i := 0) rfl)).1 (i := 0) rfl (by decide) rfl
    refine ⟨zv_dm_of (ys := []) H (by decide) p2 rfl, p4, zr_en_of H (p3 _ (List.mem_of_getElem? (i := 1) rfl)).1, Or.inr ⟨g4, _, _, _, _, _, _, ⟨⟨?_, ?_, ?_, ?_, ?_, ?_⟩, d1, d2, d3, g1, g2, g3⟩, ?_⟩⟩
    all_goals first | omega | (unfold zt_m; omega)
theorem zo_ln1 (HH : zy_HH l D N0 Z) (HU : zy_UQ zy_fg Z) {n1 n2 n3 f1 f2 f3 : Nat} : zy_OkP l D N0 zy_T Z 234 13 (fun av ws => av = [.ref (zy_fa1 Z 29)] ∧ zy_GR (zy_gl Z) ws ∧ zy_rd ws (zy_ru Z 29) 44 0 = some (.int (nI 1)) ∧ zy_rd ws (zy_ru Z 29) 4 0 = some (.int (nI 0)) ∧ zr_en Z ws ∧ zt_C Z 1 ws n1 n2 n3 f1 f2 f3) (fun _ ws vs ws' => vs = [] ∧ zt_P Z 1 (zt_m n1 n2 n3 f1 f2 f3) ws ws') := by
  intro y hy d hd av tys ws hp hD hH
  have hb := hp.2.2.2.2.2.1
  rcases (show f1 = 0 ∨ f1 = 1 by omega) with rfl | rfl <;> rcases (show f2 = 0 ∨ f2 = 1 by omega) with rfl | rfl <;> rcases (show f3 = 0 ∨ f3 = 1 by omega) with rfl | rfl
  · exact zo_ln10 HH HU y hy d hd av tys ws hp hD hH
  · exact zo_ln14 HH HU y hy d hd av tys ws hp hD hH
  · exact zo_ln12 HH HU y hy d hd av tys ws hp hD hH
  · exact zo_ln16 HH HU y hy d hd av tys ws hp hD hH
  · exact zo_ln11 HH HU y hy d hd av tys ws hp hD hH
  · exact zo_ln15 HH HU y hy d hd av tys ws hp hD hH
  · exact zo_ln13 HH HU y hy d hd av tys ws hp hD hH
  · exact zo_ln17 HH HU y hy d hd av tys ws hp hD hH
end ZLN
