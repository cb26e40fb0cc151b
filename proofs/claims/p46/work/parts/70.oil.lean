/-! oilOf is kept (under way: the end) -/
section ZOIL
variable {l : Launch} {D : va_G} {N0 : Nat} {Z : zy_V}
set_option maxHeartbeats 1000000 in
set_option maxRecDepth 20000 in
/-- from place 150 on: pile[0] between 0 and 999 -/
theorem zo_oil_e (hZ1 : zy_fi Z = 1) (hZ2 : zy_fl Z = 0) (hZr : zy_fr Z = 100) (hF : zy_FX zy_fg Z) {p : Program} {en : Env} {R : Room} {s : State} {m : MethodId} {args : Array Value} {below : List Frame} {meth : Method} {c : Code} {Q : State → Prop} {k0 : Nat} {ws3 : va_W} (hCf : ∀ As, zy_le Z As → zx_Cx p R s m args meth c zc_oil (12 + k0) N0 (zy_ex As) zy_n0) (hrk : zx_rk zc_oil.1.2.2.2 = zc_oil.2.1.2.2.2.2.2) (hRt : ∀ As, zy_le Z As → zy_Rt p l en R s m args below meth c Q D N0 zy_T 0 ws3 As zc_oil zo_K) {H1 : Heap} {locs1 : List Loc} {tys1 : List (ClassId × FieldType)} {ls : Array Slot} (hW : zy_Wd D N0 zy_T Z s H1 tys1 ws3) (hS : va_S (zx_A N0) s.heap H1 locs1) (hl : lv_has ls 5 []) {v0 : Value} (l0 : ls[0]? = some (.val v0)) (r0 : zy_r Z 168402 v0) : W p l en R s m args below meth c H1 locs1 0 0 Q (F0 m 150 ls []) := by
  have hf100 : 100 ≤ zy_fr Z := by omega
  have hC0 := hCf Z (zy_le_rf Z)
  have hRtf : ∀ As, zy_le Z As → zy_Rt p l en R s m args below meth c Q D N0 zy_T 0 ws3 As zc_oil zy_Kf := fun As hAs A pc row r C e ls vs H locs ins _ _ _ hK => by cases hK
  obtain ⟨adP, rP⟩ := zy_rfix hF hZr (r := 63) (g := 75) (by decide) (by decide) rfl (by decide)
  obtain ⟨jP, adP', cP, f, -, hP4, hPg, hPru, hPt, hPb⟩ := zy_acell hW.2.2.2 rP (by decide) (k := 4503599626322883) rfl (Or.inl (by decide))
  have hjP : zy_ru Z 63 = jP := hPru (by decide)
  have hPg : (zy_gl Z)[jP]? = some 75 := hPg
  have ecP : zx_cn 4503599626322883 = 60 := by decide
  have row0 : ∀ (ys : List Int32) (ls : Array Slot), (∃ v, ls[0]? = some (.val v) ∧ zy_r Z 168402 v) → ∀ q ∈ zor_e, ∃ v, ls[q.1]? = some (.val v) ∧ zy_r (ys.foldl zy_xi Z) q.2 v := fun ys ls h => by
    obtain ⟨v, h1, h2⟩ := h
    exact zy_fa ⟨v, h1, zy_r_le (zy_mk_le ys Z) h2⟩ zy_fa0
  have row1 : ∀ (ys : List Int32) (ls : Array Slot), (∀ q ∈ zor_e, ∃ v, ls[q.1]? = some (.val v) ∧ zy_r (ys.foldl zy_xi Z) q.2 v) → ∃ v, ls[0]? = some (.val v) ∧ zy_r Z 168402 v := fun ys ls h => by
    obtain ⟨v, h1, h2⟩ := h (0, 168402) (List.mem_of_getElem? (i := 0) rfl)
    exact ⟨v, h1, zy_r2_dn (zy_mk_le ys Z) (by decide) (by rw [hZr]; decide) h2⟩
  -- pile[0] by hand
  have rd0 : ∀ (pc : Nat) (H' : Heap) (locs' : List Loc) (tys' : List (ClassId × FieldType)) (ws' : va_W) (ls' : Array Slot) (w : Value), decode zc_oil.1.2.1 pc = .ok (.iaload, 1) → zy_Wd D N0 zy_T Z s H' tys' ws' → zy_UN (zy_gl Z) 0 ws3 ws' → zy_r Z 308210 w → W p l en R s m args below meth c H' locs' 0 0 Q (F0 m (pc + 1) ls' [.int (f 0)]) → W p l en R s m args below meth c H' locs' 0 0 Q (F0 m pc ls' [.int (nI (4 / 16)), w]) := by
    intro pc H' locs' tys' ws' ls' w hd hWZ hU' sZ kk
    obtain ⟨j, ad, cA, fa, rfl, h4, hg, hru, h6, h7⟩ := zy_acell hWZ.2.2.2 sZ (by decide) (k := 4503599626322883) rfl (Or.inl (by decide))
    have hj : j = jP := (hru (by decide)).symm.trans hjP
    subst hj
    have e5 := zy_UN0 hU' hPg (f := 0) (by decide) 0
    rw [zy_rd_arr h4 (by rw [ecP]; decide), zy_rd_arr hP4 (by rw [ecP]; decide)] at e5
    injection e5 with e5
    injection e5 with e5
    refine zy_mld hC0 (k := 4503599626322883) hd (Or.inl ⟨by decide, rfl⟩) hWZ h4 h6 (by rw [ecP]; exact vp_in_nI (n := 0) (by decide) (by decide)) ?_
    rw [show (nI (4 / 16)).toNatClampNeg = 0 from by decide, e5]
    exact kk
  have hbx := zx_bz_lt (f 0)
  refine zy_sx (M := zc_oil) (stops := zos_e) hZ1 hZ2 hZr hF zy_g2 [] zob_e zor_e [] [] rfl (by decide) zy_hb0 hCf hRtf hrk zy_Gs0 hW hS hl (row0 [] ls ⟨v0, l0, r0⟩) trivial zy_CR0 zy_UN_rf zok_e (zy_fa ?_ zy_fa0)
  intro ls' vs' H' locs' tys' ws' hAt
  obtain ⟨hW', hS', hl', hrow', hst', -, -, hU'⟩ := hAt
  have hr' := row1 [] ls' hrow'
  obtain ⟨w1, w2, r, rfl, s1, s2, s3⟩ := zy_SR2 hst'
  cases r with
  | cons _ _ => exact s3.elim
  | nil =>
  obtain ⟨-, e1, -⟩ := (zy_r4 (by decide)).mp s1
  subst e1
  refine rd0 155 H' locs' tys' ws' ls' w2 rfl hW' hU' s2 ?_
  refine zy_sx (M := zc_oil) (stops := zos_f) hZ1 hZ2 hZr hF zy_g2 [f 0] zob_f zor_e [zy_nm 1 0] [] rfl (by decide) (zy_hb1 (b := (0, 4294967295)) (Nat.zero_le _) (by show zx_bz (f 0) ≤ 4294967295; omega) (by decide) zy_hb0) hCf hRt hrk zy_Gs0 hW' hS' hl' (row0 _ ls' hr') ⟨zy_mk_r hZ1 (i := 0) rfl (by decide), trivial⟩ zy_CR0 hU' zok_f (zy_fa ?_ zy_fa0)
  intro ls2 vs2 H2 locs2 tys2 ws2 hAt2
  obtain ⟨hW2, hS2, hl2, hrow2, hst2, -, hE2, hU2⟩ := hAt2
  have hle := zy_mk_le [f 0] Z
  have hr2 := row1 _ ls2 hrow2
  have hWZ2 : zy_Wd D N0 zy_T Z s H2 tys2 ws2 := ⟨hW2.1, hW2.2.1, hW2.2.2.1, zy_HR_ge hle hf100 hW2.2.2.2⟩
  rw [zy_gl_le hle] at hU2
  obtain ⟨w1, w3, r, rfl, s1, s5, s3⟩ := zy_SR2 hst2
  cases r with
  | cons _ _ => exact s3.elim
  | nil =>
  obtain ⟨-, e1, -⟩ := (zy_r4 (by decide)).mp s1
  subst e1
  have hbf := zy_mk_b hZ1 (i := 0) (ys := [f 0]) rfl hE2
  have e2 : zx_eg (([(2147483648, 4294967295)] : List (Nat × Nat)).foldl zy_pe zy_e1) 1 = 9223372041149743103 := by decide +kernel
  have hbf : zx_eg (([(2147483648, 4294967295)] : List (Nat × Nat)).foldl zy_pe zy_e1) 1 = 0 ∨ (zx_eg (([(2147483648, 4294967295)] : List (Nat × Nat)).foldl zy_pe zy_e1) 1 / 4294967296 ≤ zx_bz (f 0) ∧ zx_bz (f 0) ≤ zx_eg (([(2147483648, 4294967295)] : List (Nat × Nat)).foldl zy_pe zy_e1) 1 % 4294967296) := hbf
  rw [e2] at hbf
  refine rd0 168 H2 locs2 tys2 ws2 ls2 w3 rfl hWZ2 hU2 (zy_r2_dn hle (by decide) (by rw [hZr]; decide) s5) ?_
  refine zy_sx (M := zc_oil) (stops := zos_g) hZ1 hZ2 hZr hF zy_g2 [f 0] zob_g zor_e [zy_nm 1 0] [] rfl (by decide) (zy_hb1 (b := (2147483648, 4294967295)) (by show 2147483648 ≤ zx_bz (f 0); omega) (by show zx_bz (f 0) ≤ 4294967295; omega) (by decide) zy_hb0) hCf hRt hrk zy_Gs0 hWZ2 hS2 hl2 (row0 _ ls2 hr2) ⟨zy_mk_r hZ1 (i := 0) rfl (by decide), trivial⟩ zy_CR0 hU2 zok_g (zy_fa ?_ zy_fa0)
  intro ls3 vs3 H3 locs3 tys3 ws4 hAt3
  obtain ⟨hW3, hS3, hl3, hrow3, hst3, -, hE3, hU3⟩ := hAt3
  have hr3 := row1 _ ls3 hrow3
  have hWZ3 : zy_Wd D N0 zy_T Z s H3 tys3 ws4 := ⟨hW3.1, hW3.2.1, hW3.2.2.1, zy_HR_ge hle hf100 hW3.2.2.2⟩
  rw [zy_gl_le hle] at hU3
  obtain ⟨w1, w4, r, rfl, s1, s6, s3⟩ := zy_SR2 hst3
  cases r with
  | cons _ _ => exact s3.elim
  | nil =>
  obtain ⟨-, e1, -⟩ := (zy_r4 (by decide)).mp s1
  subst e1
  have hbg := zy_mk_b hZ1 (i := 0) (ys := [f 0]) rfl hE3
  have e3 : zx_eg (([(2147483648, 2147484647)] : List (Nat × Nat)).foldl zy_pe zy_e1) 1 = 9223372039002260455 := by decide +kernel
  have hbg : zx_eg (([(2147483648, 2147484647)] : List (Nat × Nat)).foldl zy_pe zy_e1) 1 = 0 ∨ (zx_eg (([(2147483648, 2147484647)] : List (Nat × Nat)).foldl zy_pe zy_e1) 1 / 4294967296 ≤ zx_bz (f 0) ∧ zx_bz (f 0) ≤ zx_eg (([(2147483648, 2147484647)] : List (Nat × Nat)).foldl zy_pe zy_e1) 1 % 4294967296) := hbg
  rw [e3] at hbg
  refine rd0 186 H3 locs3 tys3 ws4 ls3 w4 rfl hWZ3 hU3 (zy_r2_dn hle (by decide) (by rw [hZr]; decide) s6) ?_
  exact zy_sx (M := zc_oil) (stops := zos_h) hZ1 hZ2 hZr hF zy_g2 [f 0] zob_h zor_e [zy_nm 1 0] [] rfl (by decide) (zy_hb1 (b := (2147483648, 2147484647)) (by show 2147483648 ≤ zx_bz (f 0); omega) (by show zx_bz (f 0) ≤ 2147484647; omega) (by decide) zy_hb0) hCf hRt hrk zy_Gs0 hWZ3 hS3 hl3 (row0 _ ls3 hr3) ⟨zy_mk_r hZ1 (i := 0) rfl (by decide), trivial⟩ zy_CR0 hU3 zok_h (fun cu hcu => by cases hcu)
end ZOIL
