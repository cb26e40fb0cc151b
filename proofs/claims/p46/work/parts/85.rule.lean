/-! readRule is kept -/
section ZRU
variable {l : Launch} {D : va_G} {N0 : Nat} {Z : zy_V}
theorem zr_W_a (H : zy_H0 Z) {b : Nat} {ws0 ws : va_W} (hW : zr_W Z b ws0 ws) {r g a : Nat} (h0 : 0 < r) (h1 : r < 100) (hfg : zy_fg[r]? = some g) (hg : g ≠ 41 ∧ g ≠ 47 ∧ g ≠ 72 ∧ g ≠ 73 ∧ g ≠ 74) (h71 : g = 71 → ¬ (560 * b ≤ a ∧ a < 560 * b + 560)) (hab : g = 68 ∨ g = 59 ∨ g = 60 → a ≠ b) : zy_rd ws (zy_ru Z r) 0 a = zy_rd ws0 (zy_ru Z r) 0 a := by
  have ne : ∀ r' g', 0 < r' → r' < 100 → zy_fg[r']? = some g' → g ≠ g' → zy_ru Z r ≠ zy_ru Z r' := fun r' g' q0 q1 q2 q3 => zv_ne H h0 h1 hfg q0 q1 q2 q3
  refine zv_Fm_r H hW.1 h0 h1 hfg (by decide) (fun z => ?_)
  rcases z with z | z | z | z | z | z | z | z | z
  · exact ne 29 41 (by decide) (by decide) rfl hg.1 z.1
  · exact ne 35 47 (by decide) (by decide) rfl hg.2.1 z.1
  · by_cases hq : g = 71
    · exact h71 hq z.2.2
    · exact ne 59 71 (by decide) (by decide) rfl hq z.1
  · exact ne 60 72 (by decide) (by decide) rfl hg.2.2.1 z.1
  · exact ne 61 73 (by decide) (by decide) rfl hg.2.2.2.1 z.1
  · exact ne 62 74 (by decide) (by decide) rfl hg.2.2.2.2 z.1
  · by_cases hq : g = 68
    · exact hab (Or.inl hq) z.2.2
    · exact ne 56 68 (by decide) (by decide) rfl hq z.1
  · by_cases hq : g = 59
    · exact hab (Or.inr (Or.inl hq)) z.2.2
    · exact ne 47 59 (by decide) (by decide) rfl hq z.1
  · by_cases hq : g = 60
    · exact hab (Or.inr (Or.inr hq)) z.2.2
    · exact ne 48 60 (by decide) (by decide) rfl hq z.1
theorem zr_ghost (H : zy_H0 Z) (HU : zy_UQ zy_fg Z) {b : Nat} (hb : b < 2) {ws ws' : va_W} (hW : zr_W Z b ws ws') (hGR : zy_GR (zy_gl Z) ws) (h44 : zy_rd ws (zy_ru Z 29) 44 0 = some (.int (nI b))) (hst : (∃ fk : Int32, zy_rd ws' (zy_ru Z 29) 4 0 = some (.int fk) ∧ 2147483649 ≤ zx_bz fk ∧ zx_bz fk ≤ 2147483653) ∨ (zy_rd ws' (zy_ru Z 29) 4 0 = some (.int (nI 0)) ∧ ∃ n, n ≤ 277 ∧ zy_rd ws' (zy_ru Z 48) 0 b = some (.int (nI (560 * b + n))) ∧ (zy_po (zr_cd Z ws') n (560 * b) 0).isSome = true)) : zy_Ga (zy_gl Z) ws ws' := by
  have uM : ∀ i, (zy_gl Z)[i]? = some 41 → i = zy_ru Z 29 := fun i h => HU 29 41 i (by decide) (by decide) rfl h
  have uH : ∀ i, (zy_gl Z)[i]? = some 68 → i = zy_ru Z 56 := fun i h => HU 56 68 i (by decide) (by decide) rfl h
  have uF : ∀ i, (zy_gl Z)[i]? = some 59 → i = zy_ru Z 47 := fun i h => HU 47 59 i (by decide) (by decide) rfl h
  have uT : ∀ i, (zy_gl Z)[i]? = some 60 → i = zy_ru Z 48 := fun i h => HU 48 60 i (by decide) (by decide) rfl h
  have uC : ∀ i, (zy_gl Z)[i]? = some 71 → i = zy_ru Z 59 := fun i h => HU 59 71 i (by decide) (by decide) rfl h
  have gM := (H.2.2.2 29 41 (by decide) (by decide) rfl).1
  have e43 : zy_rd ws' (zy_ru Z 29) 43 0 = zy_rd ws (zy_ru Z 29) 43 0 := zr_W_f H hW (by decide) (by decide)
  have e44 : zy_rd ws' (zy_ru Z 29) 44 0 = zy_rd ws (zy_ru Z 29) 44 0 := zr_W_f H hW (by decide) (by decide)
  have e61 : zy_rd ws' (zy_ru Z 29) 61 0 = zy_rd ws (zy_ru Z 29) 61 0 := zr_W_f H hW (by decide) (by decide)
  have hV : zy_GV (zy_gl Z) ws' := by
    intro i x hi hx
    have := uM i hi
    subst this
    rw [e43] at hx
    have h1 := hGR.2.1 _ x (nI b) hi hx h44
    have hb' : x.toNatClampNeg = 1 - b := by
      have e : x = 1 - nI b := by
        have h2 : nI b + x = 1 := by rw [h1, Int32.sub_add_cancel]
        rw [← h2, Int32.add_comm, Int32.add_sub_cancel]
      rw [e]
      rcases (show b = 0 ∨ b = 1 by omega) with rfl | rfl <;> decide
    have hv := hGR.1 _ x hi hx
    rw [hb'] at hv ⊢
    intro iH iF iT iC h f t g1 g2 g3 g4 r1 r2 r3 hne
    have := uH iH g1
    subst this
    have := uF iF g2
    subst this
    have := uT iT g3
    subst this
    have := uC iC g4
    subst this
    rw [zr_W_a H hW (r := 56) (g := 68) (by decide) (by decide) rfl (by decide) (fun z => absurd z (by decide)) (fun _ => by omega)] at r1
    rw [zr_W_a H hW (r := 47) (g := 59) (by decide) (by decide) rfl (by decide) (fun z => absurd z (by decide)) (fun _ => by omega)] at r2
    rw [zr_W_a H hW (r := 48) (g := 60) (by decide) (by decide) rfl (by decide) (fun z => absurd z (by decide)) (fun _ => by omega)] at r3
    obtain ⟨v1, v2, v3⟩ := hv _ _ _ _ h f t g1 g2 g3 g4 r1 r2 r3 hne
    refine ⟨v1, v2, ?_⟩
    rw [zr_po_fr (cd := fun k => zy_rd ws (zy_ru Z 59) 0 k) _ _ _ (fun k k1 k2 => zr_W_a H hW (r := 59) (g := 71) (by decide) (by decide) rfl (by decide) (fun _ => by omega) (fun z => absurd z (by decide)))]
    exact v3
  refine ⟨fun _ => hV, fun _ => ⟨hV, fun i x y hi hx hy => ?_, fun i y hi hy hz => ?_, fun i iH y z hi hiH hy hh hz => ?_⟩, fun hS i iS q hi hiS hq => ?_⟩
  · have := uM i hi
    subst this
    rw [e43] at hx
    rw [e44] at hy
    exact hGR.2.1 _ x y hi hx hy
  · have := uM i hi
    subst this
    rw [e44, h44] at hy
    injection hy with hy
    injection hy with hy
    subst hy
    rw [show (nI b).toNatClampNeg = b from nI_clamp (by omega)]
    rcases hst with ⟨fk, k1, k2, -⟩ | ⟨-, n, hn, k48, hpo⟩
    · exfalso
      rw [hz] at k1
      injection k1 with k1
      injection k1 with k1
      rw [← k1, show zx_bz 0 = 2147483648 from by decide] at k2
      omega
    · intro iH iF iT iC h f t g1 g2 g3 g4 r1 r2 r3 hne
      have := uF iF g2
      subst this
      have := uT iT g3
      subst this
      have := uC iC g4
      subst this
      rw [hW.2.2] at r2
      rw [k48] at r3
      injection r2 with r2
      injection r2 with r2
      injection r3 with r3
      injection r3 with r3
      rw [← r2, ← r3, show (nI (560 * b)).toNatClampNeg = 560 * b from nI_clamp (by omega), show (nI (560 * b + n)).toNatClampNeg = 560 * b + n from nI_clamp (by omega), show 560 * b + n - 560 * b = n by omega]
      exact ⟨Nat.le_refl _, by omega, hpo⟩
  · have := uM i hi
    subst this
    have := uH iH hiH
    subst this
    rw [e44, h44] at hy
    injection hy with hy
    injection hy with hy
    subst hy
    rw [show (nI b).toNatClampNeg = b from nI_clamp (by omega), hW.2.1] at hh
    injection hh with hh
    injection hh with hh
    exact absurd hh (by decide)
  · have := uM i hi
    subst this
    have := HU 71 83 iS (by decide) (by decide) rfl hiS
    subst this
    rw [e61] at hq
    obtain ⟨f, g1, g2⟩ := hS _ _ q hi hiS hq
    exact ⟨f, fun k hk => (zr_W_a H hW (r := 71) (g := 83) (by decide) (by decide) rfl (by decide) (fun z => absurd z (by decide)) (fun z => absurd z (by decide))).trans (g1 k hk), g2⟩
theorem zr_UN_rule (H : zy_H0 Z) {b Wm : Nat} {ws ws' : va_W} (hW : zr_W Z b ws ws') (hga : zy_Ga (zy_gl Z) ws ws') (hm : (zr_fs.all (fun f => Wm.testBit (5248 + f)) && ([6016, 9088, 9216, 9344, 9472, 8704, 7552, 7680].all (fun k => Wm.testBit k))) = true) : zy_UN (zy_gl Z) Wm ws ws' := by
  obtain ⟨m1, m2⟩ := zx_and_b hm
  have m1 := List.all_eq_true.mp m1
  have m2 := List.all_eq_true.mp m2
  have gl : ∀ r g, 0 < r → r < 100 → zy_fg[r]? = some g → (zy_gl Z)[zy_ru Z r]? = some g := fun r g h0 h1 h2 => (H.2.2.2 r g h0 h1 h2).1
  refine ⟨hW.1.1, fun i g f a hg hf hb => hW.1.2 i g f a hg hf (fun z => ?_), hga⟩
  have key : ∀ r g', 0 < r → r < 100 → zy_fg[r]? = some g' → i = zy_ru Z r → g = g' := fun r g' h0 h1 h2 h3 => by
    rw [h3, gl r g' h0 h1 h2] at hg
    exact (Option.some.inj hg).symm
  rcases z with z | z | z | z | z | z | z | z | z
  · have := key 29 41 (by decide) (by decide) rfl z.1
    subst this
    have := m1 f z.2
    rw [show 128 * 41 + f = 5248 + f by omega, this] at hb
    cases hb
  · rw [key 35 47 (by decide) (by decide) rfl z.1, z.2, m2 6016 (by decide)] at hb
    cases hb
  · rw [key 59 71 (by decide) (by decide) rfl z.1, z.2.1, m2 9088 (by decide)] at hb
    cases hb
  · rw [key 60 72 (by decide) (by decide) rfl z.1, z.2, m2 9216 (by decide)] at hb
    cases hb
  · rw [key 61 73 (by decide) (by decide) rfl z.1, z.2, m2 9344 (by decide)] at hb
    cases hb
  · rw [key 62 74 (by decide) (by decide) rfl z.1, z.2, m2 9472 (by decide)] at hb
    cases hb
  · rw [key 56 68 (by decide) (by decide) rfl z.1, z.2.1, m2 8704 (by decide)] at hb
    cases hb
  · rw [key 47 59 (by decide) (by decide) rfl z.1, z.2.1, m2 7552 (by decide)] at hb
    cases hb
  · rw [key 48 60 (by decide) (by decide) rfl z.1, z.2.1, m2 7680 (by decide)] at hb
    cases hb
set_option maxRecDepth 20000 in
theorem zo_rule0 (H : zy_H0 Z) (HU : zy_UQ zy_fg Z) : zy_Ok l D N0 zy_T Z zq_h2 := by
  refine zy_Ok_of (Post := fun _ ws vs ws' => vs = [] ∧ zr_W Z 0 ws ws' ∧ zr_en Z ws' ∧ ((∃ fk : Int32, zy_rd ws' (zy_ru Z 29) 4 0 = some (.int fk) ∧ 2147483649 ≤ zx_bz fk ∧ zx_bz fk ≤ 2147483653) ∨ (zy_rd ws' (zy_ru Z 29) 4 0 = some (.int (nI 0)) ∧ ∃ n, n ≤ 277 ∧ zy_rd ws' (zy_ru Z 48) 0 0 = some (.int (nI (560 * 0 + n))) ∧ (zy_po (zr_cd Z ws') n (560 * 0) 0).isSome = true))) ?_ ?_
  · intro y hy d hd av tys ws hp hD hH
    obtain ⟨h1, h2, h3⟩ := hp
    have hGR := h2.2.1 (by decide)
    have f44 : zy_rd ws (zy_ru Z 29) 44 0 = some (.int (nI 0)) := zv_dc_of (ys := []) H (by decide) h3 (i := 0) rfl (by decide) rfl
    have f4 : zy_rd ws (zy_ru Z 29) 4 0 = some (.int (nI 0)) := zv_dc_of (ys := []) H (by decide) h3 (i := 1) rfl (by decide) rfl
    have fH : zy_rd ws (zy_ru Z 56) 0 0 = some (.int (nI 0)) := zv_dc_of (ys := []) H (by decide) h3 (i := 2) rfl (by decide) rfl
    obtain ⟨cc, hcc, -⟩ := zv_int H hH (key := 1355037) (lo := 2147483648) (hi := 2147484768) (by decide +kernel) (by decide) (by decide)
    have hcc : zy_rd ws (zy_ru Z 29) 45 0 = some (.int cc) := hcc
    have e45 := hGR.2.2.2 _ _ (nI 0) cc (H.2.2.2 29 41 (by decide) (by decide) rfl).1 (H.2.2.2 56 68 (by decide) (by decide) rfl).1 f44 (by rw [show (nI 0).toNatClampNeg = 0 from by decide, fH]; rfl) hcc
    have e45 : cc = nI (560 * 0) := by rw [e45]; decide
    rw [e45] at hcc
    exact zo_rule (b := 0) H HU (by decide) (fun ws0 h => zo_unit0 H HU h) y hy d hd av tys ws ⟨zv_dm_of (ys := []) H (by decide) h1 rfl, f44, f4, zr_en_of H (fun q hq => h3 q (by
      rcases List.mem_singleton.mp hq with rfl
      exact List.mem_of_getElem? (i := 3) rfl)), hcc⟩ hD hH
  · intro av ws vs ws' h1 h2 h3 ⟨e1, hW, hen, hst⟩
    have hGR := h2.2.1 (by decide)
    have f44 : zy_rd ws (zy_ru Z 29) 44 0 = some (.int (nI 0)) := zv_dc_of (ys := []) H (by decide) h3 (i := 0) rfl (by decide) rfl
    have hU := zr_UN_rule H hW (zr_ghost H HU (by decide) hW hGR f44 hst) (Wm := zq_h2.1.2.2.1) (by decide +kernel)
    have cE := zr_en_cr H hen
    have cH : zy_CR Z ws' [(2228280, 20)] := zv_cr H (by decide) (by decide) rfl hW.2.1 (zy_r_c (n := 1) (by decide))
    subst e1
    rcases hst with ⟨fk, k1, k2, k3⟩ | ⟨k4, -⟩
    · have cF : zy_CR Z ws' [(1344541, 147573952692755628119)] := zv_cr H (by decide) (by decide) rfl k1 (zy_r_7 (l := 2147483649) (u := 2147483653) k2 k3 (by decide))
      exact ⟨_, List.mem_of_getElem? (i := 1) rfl, trivial, zy_fa ⟨cF, fun z => absurd rfl z⟩ (zy_fa ⟨cE, fun z => absurd rfl z⟩ (zy_fa ⟨cH, fun z => absurd rfl z⟩ zy_fa0)), hU⟩
    · have cF : zy_CR Z ws' [(1344541, 4)] := zv_cr H (by decide) (by decide) rfl k4 (zy_r_c (n := 0) (by decide))
      exact ⟨_, List.mem_of_getElem? (i := 0) rfl, trivial, zy_fa ⟨cF, fun z => absurd rfl z⟩ (zy_fa ⟨cE, fun z => absurd rfl z⟩ (zy_fa ⟨cH, fun z => absurd rfl z⟩ zy_fa0)), hU⟩
set_option maxRecDepth 20000 in
theorem zo_rule1 (H : zy_H0 Z) (HU : zy_UQ zy_fg Z) : zy_Ok l D N0 zy_T Z zq_h3 := by
  refine zy_Ok_of (Post := fun _ ws vs ws' => vs = [] ∧ zr_W Z 1 ws ws' ∧ zr_en Z ws' ∧ ((∃ fk : Int32, zy_rd ws' (zy_ru Z 29) 4 0 = some (.int fk) ∧ 2147483649 ≤ zx_bz fk ∧ zx_bz fk ≤ 2147483653) ∨ (zy_rd ws' (zy_ru Z 29) 4 0 = some (.int (nI 0)) ∧ ∃ n, n ≤ 277 ∧ zy_rd ws' (zy_ru Z 48) 0 1 = some (.int (nI (560 * 1 + n))) ∧ (zy_po (zr_cd Z ws') n (560 * 1) 0).isSome = true))) ?_ ?_
  · intro y hy d hd av tys ws hp hD hH
    obtain ⟨h1, h2, h3⟩ := hp
    have hGR := h2.2.1 (by decide)
    have f44 : zy_rd ws (zy_ru Z 29) 44 0 = some (.int (nI 1)) := zv_dc_of (ys := []) H (by decide) h3 (i := 0) rfl (by decide) rfl
    have f4 : zy_rd ws (zy_ru Z 29) 4 0 = some (.int (nI 0)) := zv_dc_of (ys := []) H (by decide) h3 (i := 1) rfl (by decide) rfl
    have fH : zy_rd ws (zy_ru Z 56) 0 1 = some (.int (nI 0)) := zv_dc_of (ys := []) H (by decide) h3 (i := 2) rfl (by decide) rfl
    obtain ⟨cc, hcc, -⟩ := zv_int H hH (key := 1355037) (lo := 2147483648) (hi := 2147484768) (by decide +kernel) (by decide) (by decide)
    have hcc : zy_rd ws (zy_ru Z 29) 45 0 = some (.int cc) := hcc
    have e45 := hGR.2.2.2 _ _ (nI 1) cc (H.2.2.2 29 41 (by decide) (by decide) rfl).1 (H.2.2.2 56 68 (by decide) (by decide) rfl).1 f44 (by rw [show (nI 1).toNatClampNeg = 1 from by decide, fH]; rfl) hcc
    have e45 : cc = nI (560 * 1) := by rw [e45]; decide
    rw [e45] at hcc
    exact zo_rule (b := 1) H HU (by decide) (fun ws0 h => zo_unit1 H HU h) y hy d hd av tys ws ⟨zv_dm_of (ys := []) H (by decide) h1 rfl, f44, f4, zr_en_of H (fun q hq => h3 q (by
      rcases List.mem_singleton.mp hq with rfl
      exact List.mem_of_getElem? (i := 3) rfl)), hcc⟩ hD hH
  · intro av ws vs ws' h1 h2 h3 ⟨e1, hW, hen, hst⟩
    have hGR := h2.2.1 (by decide)
    have f44 : zy_rd ws (zy_ru Z 29) 44 0 = some (.int (nI 1)) := zv_dc_of (ys := []) H (by decide) h3 (i := 0) rfl (by decide) rfl
    have hU := zr_UN_rule H hW (zr_ghost H HU (by decide) hW hGR f44 hst) (Wm := zq_h3.1.2.2.1) (by decide +kernel)
    have cE := zr_en_cr H hen
    have cH : zy_CR Z ws' [(19005496, 20)] := zv_cr H (by decide) (by decide) rfl hW.2.1 (zy_r_c (n := 1) (by decide))
    subst e1
    rcases hst with ⟨fk, k1, k2, k3⟩ | ⟨k4, -⟩
    · have cF : zy_CR Z ws' [(1344541, 147573952692755628119)] := zv_cr H (by decide) (by decide) rfl k1 (zy_r_7 (l := 2147483649) (u := 2147483653) k2 k3 (by decide))
      exact ⟨_, List.mem_of_getElem? (i := 1) rfl, trivial, zy_fa ⟨cF, fun z => absurd rfl z⟩ (zy_fa ⟨cE, fun z => absurd rfl z⟩ (zy_fa ⟨cH, fun z => absurd rfl z⟩ zy_fa0)), hU⟩
    · have cF : zy_CR Z ws' [(1344541, 4)] := zv_cr H (by decide) (by decide) rfl k4 (zy_r_c (n := 0) (by decide))
      exact ⟨_, List.mem_of_getElem? (i := 0) rfl, trivial, zy_fa ⟨cF, fun z => absurd rfl z⟩ (zy_fa ⟨cE, fun z => absurd rfl z⟩ (zy_fa ⟨cH, fun z => absurd rfl z⟩ zy_fa0)), hU⟩
end ZRU
/-- all that was by hand -/
theorem zo_HH {l : Launch} {D : va_G} {N0 : Nat} {Z : zy_V} (H : zy_H0 Z) (HU : zy_UQ zy_fg Z) : zy_HH l D N0 Z := ⟨H, zo_lay H HU, zo_oil H HU, zo_rule0 H HU, zo_rule1 H HU⟩
