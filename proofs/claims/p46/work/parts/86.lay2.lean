/-! laySteps, with what is queued -/
section ZLAY2
variable {l : Launch} {D : va_G} {N0 : Nat} {Z : zy_V} {a n op bt : Int32}
set_option maxHeartbeats 1000000 in
set_option maxRecDepth 20000 in
theorem zo_lay2 (H : zy_H0 Z) (HU : zy_UQ zy_fg Z) : zy_OkP l D N0 zy_T Z 85 12 (fun av _ => zy_SR Z zq_h0.2.1 av) (fun _ ws vs ws' => vs = [] ∧ zy_UN (zy_gl Z) zq_h0.1.2.2.1 ws ws' ∧ zy_GS (zy_gl Z) ws') := by
  have HH := H
  obtain ⟨hZ1, hZ2, hZr, hF⟩ := H
  have hf100 : 100 ≤ zy_fr Z := by omega
  refine zy_handP (y := zm_85) HH HU rfl (fun av ws h => by rw [(zy_wd_s h).1]; decide +kernel) ?_
  intro d hd av tys ws hsr p en R s m below meth c hBB ls0 hlA hxx
  obtain ⟨-, -, hC, hrk, hret, hlocks⟩ := id hBB
  obtain ⟨hW0, -, hl0n⟩ := hxx
  obtain ⟨k0, rfl⟩ : ∃ k0, d = 12 + k0 := ⟨d - 12, by have hd : 12 ≤ d := hd; omega⟩
  obtain ⟨x0, r, rfl, a0, hsr⟩ := zy_SR1 hsr
  obtain ⟨x1, r, rfl, a1, hsr⟩ := zy_SR1 hsr
  obtain ⟨x2, r, rfl, a2, hsr⟩ := zy_SR1 hsr
  obtain ⟨x3, r, rfl, a3, hsr⟩ := zy_SR1 hsr
  obtain ⟨x4, r, rfl, a4, hsr⟩ := zy_SR1 hsr
  cases r with
  | cons _ _ => exact hsr.elim
  | nil =>
  obtain ⟨-, a, rfl, k1, k2⟩ := (zy_r7 (by decide)).mp a1
  obtain ⟨-, n, rfl, n1, n2⟩ := (zy_r7 (by decide)).mp a2
  obtain ⟨-, op, rfl, op1, op2⟩ := (zy_r7 (by decide)).mp a3
  obtain ⟨-, bt, rfl, bt1, bt2⟩ := (zy_r7 (by decide)).mp a4
  have k1 : 2147483648 ≤ zx_bz a := k1
  have k2 : zx_bz a ≤ 2147483711 := k2
  have n1 : 2147483649 ≤ zx_bz n := n1
  have n2 : zx_bz n ≤ 2147483656 := n2
  have op1 : 2147483648 ≤ zx_bz op := op1
  have op2 : zx_bz op ≤ 2147484671 := op2
  have bt1 : 2147483647 ≤ zx_bz bt := bt1
  have bt2 : zx_bz bt ≤ 2147483711 := bt2
  have ha0 := a0
  obtain ⟨-, i0, ad0, -, -, rfl, -⟩ := (zy_r2 (by decide)).mp a0
  have hlv0 : zy_lvl Z a n op bt ls0 := ⟨⟨.ref ad0, hlA (0, .ref ad0) (List.mem_of_getElem? (i := 0) rfl), ha0⟩, hlA (1, .int a) (List.mem_of_getElem? (i := 1) rfl), hlA (2, .int n) (List.mem_of_getElem? (i := 2) rfl), hlA (3, .int op) (List.mem_of_getElem? (i := 3) rfl), hlA (4, .int bt) (List.mem_of_getElem? (i := 4) rfl)⟩
  have hCf : ∀ As, zy_le Z As → zx_Cx p R s m [.ref ad0, .int a, .int n, .int op, .int bt].toArray meth c zc_lay (12 + k0) N0 (zy_ex As) zy_n0 := fun As h => zy_Cx_fin zll_lay_ok (hC As h)
  have hC0 := hCf Z (zy_le_rf Z)
  generalize hQ : MQ below (zy_QP D N0 zy_T Z (fun vs ws' => vs = [] ∧ zy_UN (zy_gl Z) zq_h0.1.2.2.1 ws ws' ∧ zy_GS (zy_gl Z) ws')) [.ref ad0, .int a, .int n, .int op, .int bt].toArray s 0 0 (zx_A N0) = Q
  have hRtW : ∀ ws3, zy_UN (zy_gl Z) zq_h0.1.2.2.1 ws ws3 → zy_GS (zy_gl Z) ws3 → ∀ As, zy_le Z As → zy_Rt p l en R s m [.ref ad0, .int a, .int n, .int op, .int bt].toArray below meth c Q D N0 zy_T zq_h0.1.2.2.1 ws3 As zc_lay zy_K0 := fun ws3 h hgs As hAs => by
    rw [← hQ]
    have hBc : zy_Fr p l R s m [.ref ad0, .int a, .int n, .int op, .int bt].toArray meth c N0 Z zc_lay (12 + k0) := ⟨HH, HU, hCf, hrk, hret, hlocks⟩
    refine zy_rtP hBc hAs (fun A r C e vs ws' hA hK hsr' _ _ hU' => ?_)
    cases r with
    | cons _ _ => cases hK
    | nil =>
      cases vs with
      | cons _ _ => exact hsr'.elim
      | nil => exact ⟨rfl, zy_UN_tr h hU', hU'.2.2.2.2 hgs⟩
  have hRtf : ∀ (ws3 : va_W) (As : zy_V), zy_le Z As → zy_Rt p l en R s m [.ref ad0, .int a, .int n, .int op, .int bt].toArray below meth c Q D N0 zy_T 0 ws3 As zc_lay zy_Kf := fun ws3 As hAs A pc row r C e ls vs H locs ins _ _ _ hK => by cases hK
  generalize hAv : ([.ref ad0, .int a, .int n, .int op, .int bt] : List Value).toArray = av at *
  have hb4 := zy_hb1 (b := (2147483648, 2147483711)) k1 k2 (by decide) (zy_hb1 (b := (2147483649, 2147483656)) n1 n2 (by decide) (zy_hb1 (b := (2147483648, 2147484671)) op1 op2 (by decide) (zy_hb1 (b := (2147483647, 2147483711)) bt1 bt2 (by decide) zy_hb0)))
  have ecS : zx_cn 9671406554665233651074051 = 64 := by decide
  obtain ⟨gM, -⟩ := hF 29 41 (by decide) (by decide) rfl
  obtain ⟨gS, -⟩ := hF 71 83 (by decide) (by decide) rfl
  have e61 : zx_og 290777303838791139070490061311597770348490898056124267798840500052117790569354155402518174477483246251190589118854931795303208147044461484286484292233605357140514798879812782290004230798506698957601791310780569729209523932454218078330946560206905522703506226728470465184425859955726303496886146515467910791937043424157456666750489629515917785898846863079964344308873828949404379640035767669242591973507425290638502818933457538968602347335863077291873418227589459359928985237684033873939425361402008295228094837198987029320243436690435506700149661684916928119644867809387061078223150653743196409865769241278452292781402732337978533234013227868674980101020612620425920167585262631552662450092620548328003854177462943728083045862586732273839066110944760594912467110687831056288124492138512067051397103628084508561194944917860045220852794848879220848888628506129598645974206945928558984449115874348805960242247553950948469446463969196643377241988402345678586038221296926450427643861062287250056666199677811836594764586794924552240401773421626655268700022054707964497768725951090121918100416646139672181626583795140660681822536477831117781495707023939083345687255256327910080042965589861902361675816926090504845453987828346207723964396799854830833364002042215191898459235557576470508287478475235852984509162824741326434111256629192863171562433676516323480884917790790814977211199753312883081584205453831896048938749199081871817160820018336134997069322581498816969988782917992323487807611836997565428224366485902809182788504891806495086505201129069157023943 61 = 147573952624036152327 := by decide +kernel
  -- places are come to
  have step29 : ∀ (H1 : Heap) (locs1 : List Loc) (tys1 : List (ClassId × FieldType)) (ws3 : va_W) (ls : Array Slot), zy_Wd D N0 zy_T Z s H1 tys1 ws3 → va_S (zx_A N0) s.heap H1 locs1 → lv_has ls 10 [] → zy_lvl Z a n op bt ls → zy_UN (zy_gl Z) zq_h0.1.2.2.1 ws ws3 → zy_GS (zy_gl Z) ws3 → W p l en R s m av below meth c H1 locs1 0 0 Q (F0 m 29 ls []) := by
    intro H1 locs1 tys1 ws3 ls hW3 hS3 hl3 hlv3 hU3 hGS
    have hG3 : zy_Gs (zy_gl Z) 4 ws3 := ⟨fun h => absurd h (by decide), fun h => absurd h (by decide), fun _ => hGS⟩
    exact zy_lp (M := zc_lay) (cuts := zl_cuts) (sp := []) hZ1 hZ2 hZr hF (tb := zl_tb) (zy_g3 (zy_g1 (zo_come HH HU) zy_g0) zy_g2) hG3 [a, n, op, bt] zl_b4 zlr_4 [] rfl (by decide) hb4 hCf (hRtW ws3 hU3 hGS) hrk (by decide) zl_k2 hW3 hS3 hl3 (zy_lvl_to hZ1 rfl rfl rfl rfl hlv3) zy_CR0 zy_UN_rf zl_k1
  -- nothing is queued
  have step24 : ∀ (H1 : Heap) (locs1 : List Loc) (tys1 : List (ClassId × FieldType)) (ws1 : va_W) (ls : Array Slot), zy_Wd D N0 zy_T Z s H1 tys1 ws1 → va_S (zx_A N0) s.heap H1 locs1 → lv_has ls 10 [] → zy_lvl Z a n op bt ls → ws1.map (fun w => w.1) = ws.map (fun w => w.1) → (∀ (i g f' x : Nat), (zy_gl Z)[i]? = some g → f' < 128 → 128 * g + f' ≠ 10624 → zy_rd ws1 i f' x = zy_rd ws i f' x) → (∀ i, i < 64 → zy_rd ws1 (zy_ru Z 71) 0 i = some (.int (nI 4294967295))) → W p l en R s m av below meth c H1 locs1 0 0 Q (F0 m 24 ls []) := by
    intro H1 locs1 tys1 ws1 ls hW2 hS2 hl2 hlv2 had hot hst
    refine zy_sx (M := zc_lay) (stops := zls_d) hZ1 hZ2 hZr hF zy_g2 [a, n, op, bt] zlb_d zlr_4 [] [] rfl (by decide) hb4 hCf (hRtf ws1) hrk zy_Gs0 hW2 hS2 hl2 (zy_lvl_to hZ1 rfl rfl rfl rfl hlv2) trivial zy_CR0 zy_UN_rf zlk_d (zy_fa ?_ zy_fa0)
    intro ls' vs' H' locs' tys' ws' hAt
    obtain ⟨hW', hS', hl', hrow', hst', -, hE', hU'⟩ := hAt
    have hle := zy_mk_le [a, n, op, bt] Z
    have hWZ : zy_Wd D N0 zy_T Z s H' tys' ws' := ⟨hW'.1, hW'.2.1, hW'.2.2.1, zy_HR_ge hle hf100 hW'.2.2.2⟩
    rw [zy_gl_le hle] at hU'
    have hlv' := zy_lvl_of hZ1 hZr (ys := [a, n, op, bt]) rfl rfl rfl rfl hrow' rfl rfl rfl rfl rfl
    obtain ⟨w1, w2, r, rfl, s1, s2, s3⟩ := zy_SR2 hst'
    cases r with
    | cons _ _ => exact s3.elim
    | nil =>
    obtain ⟨-, e1, -⟩ := (zy_r4 (by decide)).mp s1
    subst e1
    have sZ : zy_r Z 168402 w2 := zy_r2_dn hle (by decide) (by rw [hZr]; decide) s2
    obtain ⟨j, ad, fs', rfl, h4, hg, hru, hfl, hft⟩ := zy_ocell hWZ.2.2.2 sZ (by decide) (k := 290777303838791139070490061311597770348490898056124267798840500052117790569354155402518174477483246251190589118854931795303208147044461484286484292233605357140514798879812782290004230798506698957601791310780569729209523932454218078330946560206905522703506226728470465184425859955726303496886146515467910791937043424157456666750489629515917785898846863079964344308873828949404379640035767669242591973507425290638502818933457538968602347335863077291873418227589459359928985237684033873939425361402008295228094837198987029320243436690435506700149661684916928119644867809387061078223150653743196409865769241278452292781402732337978533234013227868674980101020612620425920167585262631552662450092620548328003854177462943728083045862586732273839066110944760594912467110687831056288124492138512067051397103628084508561194944917860045220852794848879220848888628506129598645974206945928558984449115874348805960242247553950948469446463969196643377241988402345678586038221296926450427643861062287250056666199677811836594764586794924552240401773421626655268700022054707964497768725951090121918100416646139672181626583795140660681822536477831117781495707023939083345687255256327910080042965589861902361675816926090504845453987828346207723964396799854830833364002042215191898459235557576470508287478475235852984509162824741326434111256629192863171562433676516323480884917790790814977211199753312883081584205453831896048938749199081871817160820018336134997069322581498816969988782917992323487807611836997565428224366485902809182788504891806495086505201129069157023943) rfl (ci := 12) (by decide +kernel) (by decide)
    have hj : zy_ru Z 29 = j := hru (by decide)
    have hMg : (zy_gl Z)[j]? = some 41 := hg
    refine zy_mpt hC0 (q := (12, 533, 12, 61, 6, 162)) (List.mem_of_getElem? (i := 88) rfl) rfl rfl (by decide) (by decide +kernel) rfl hWZ hS' h4 hg rfl (by decide +kernel) (by decide +kernel) ⟨fun _ => ⟨_, rfl⟩, fun h => absurd h (by decide +kernel), fun h => absurd h (by decide +kernel)⟩ (by rw [e61]; exact zy_r_7 (l := 2147483648) (u := 2147483712) (x := nI (4 / 16)) (by decide) (by decide) (by decide)) (fun H3 locs3 hW3 hS3 => ?_)
    have hlt61 : 61 < fs'.length := by rw [hfl]; decide +kernel
    have hrd3 : ∀ (i g f1 x : Nat), (zy_gl Z)[i]? = some g → f1 < 128 → 128 * g + f1 ≠ 10624 → 128 * g + f1 ≠ 5309 → zy_rd (ws'.set j (ad, .inr (12, fs'.set 61 (.int (nI (4 / 16)))))) i f1 x = zy_rd ws i f1 x := fun i g f1 x hi hf1 n1' n3' => by
      by_cases hij : i = j
      · subst hij
        rw [hMg] at hi
        have hi : 41 = g := Option.some.inj hi
        rw [zy_rd_set h4]
        show (fs'.set 61 (.int (nI (4 / 16))))[f1]? = _
        rw [List.getElem?_set_ne (by omega), ← zy_rd_obj (a := x) h4, zy_UN0 hU' hMg hf1, hot i 41 f1 x hMg hf1 (by omega)]
      · rw [zy_rd_ne hij, zy_UN0 hU' hi hf1, hot i g f1 x hi hf1 n1']
    have hjne : zy_ru Z 71 ≠ j := fun z => by
      rw [z, hMg] at gS
      cases gS
    have hGS : zy_GS (zy_gl Z) (ws'.set j (ad, .inr (12, fs'.set 61 (.int (nI (4 / 16)))))) := by
      intro i iS q' hi hiS hq'
      have e3 : i = zy_ru Z 29 := HU 29 41 i (by decide) (by decide) rfl hi
      have e4 : iS = zy_ru Z 71 := HU 71 83 iS (by decide) (by decide) rfl hiS
      rw [hj] at e3
      subst e3
      subst e4
      rw [zy_rd_set h4] at hq'
      have hq' : (fs'.set 61 (.int (nI (4 / 16))))[61]? = some (.int q') := hq'
      rw [List.getElem?_set_self hlt61] at hq'
      injection hq' with hq'
      injection hq' with hq'
      subst hq'
      refine ⟨fun _ => nI 4294967295, fun i hi => by rw [zy_rd_ne hjne, zy_UN0 hU' gS (by decide), hst i hi], ?_, fun i hi => Or.inr (show (nI 4294967295).toInt = -1 from by decide)⟩
      decide +kernel
    have hgv := zy_GV_eq (gl := zy_gl Z) (ws := ws) (fun i g f1 x hi hf1 hb n1' n2' => hrd3 i g f1 x hi hf1 n1' n2') (fun i hi => hrd3 i 41 4 0 hi (by decide) (by decide) (by decide))
    refine step29 H3 locs3 tys' _ ls' hW3 hS3 hl' hlv' ⟨?_, ?_, hgv.1, hgv.2, fun _ => hGS⟩ hGS
    · rw [zx_ads_set (e' := .inr (12, fs'.set 61 (.int (nI (4 / 16))))) h4, hU'.1]
      exact had
    · intro i g f1 x hi hf1 hb
      have hm : zq_h0.1.2.2.1.testBit 10624 = true ∧ zq_h0.1.2.2.1.testBit 5309 = true := by decide +kernel
      exact hrd3 i g f1 x hi hf1 (fun z => by rw [z, hm.1] at hb; cases hb) (fun z => by rw [z, hm.2] at hb; cases hb)
  -- steps are wiped
  have step3 : ∀ (N : Nat) (i : Int32) (H1 : Heap) (locs1 : List Loc) (tys1 : List (ClassId × FieldType)) (ws1 : va_W) (ls : Array Slot), i.toInt = 64 - (N : Int) → 0 ≤ i.toInt → zy_Wd D N0 zy_T Z s H1 tys1 ws1 → va_S (zx_A N0) s.heap H1 locs1 → lv_has ls 10 [] → zy_lvl Z a n op bt ls → ls[5]? = some (.val (.int i)) → ws1.map (fun w => w.1) = ws.map (fun w => w.1) → (∀ (i g f' x : Nat), (zy_gl Z)[i]? = some g → f' < 128 → 128 * g + f' ≠ 10624 → zy_rd ws1 i f' x = zy_rd ws i f' x) → (∀ j : Nat, (j : Int) < i.toInt → zy_rd ws1 (zy_ru Z 71) 0 j = some (.int (nI 4294967295))) → W p l en R s m av below meth c H1 locs1 0 0 Q (F0 m 3 ls []) := by
    intro N
    induction N with
    | zero =>
      intro i H1 locs1 tys1 ws1 ls hiN hi0 hW2 hS2 hl2 hlv2 hl5 had hot hst
      have hiz := zx_bz_int i
      have hb5 := zy_hb1 (b := (2147483648, 2147483711)) k1 k2 (by decide) (zy_hb1 (b := (2147483649, 2147483656)) n1 n2 (by decide) (zy_hb1 (b := (2147483648, 2147484671)) op1 op2 (by decide) (zy_hb1 (b := (2147483647, 2147483711)) bt1 bt2 (by decide) (zy_hb1 (y := i) (b := (2147483648, 2147483712)) (by show 2147483648 ≤ zx_bz i; omega) (by show zx_bz i ≤ 2147483712; omega) (by decide) zy_hb0))))
      refine zy_sx (M := zc_lay) (stops := zls_b) hZ1 hZ2 hZr hF zy_g2 [a, n, op, bt, i] zlb_b zlr_5 [] [] rfl (by decide) hb5 hCf (hRtf ws1) hrk zy_Gs0 hW2 hS2 hl2 (zy_lvl_to5 hZ1 rfl rfl rfl rfl rfl hlv2 hl5) trivial zy_CR0 zy_UN_rf zlk_b (zy_fa ?_ (zy_fa ?_ zy_fa0))
      · intro ls' vs' H' locs' tys' ws' hAt
        exfalso
        obtain ⟨hW', hS', hl', hrow', hst', -, hE', hU'⟩ := hAt
        have hbf := zy_mk_b hZ1 (i := 4) (ys := [a, n, op, bt, i]) rfl hE'
        have e2 : zx_eg (([(2147483648, 2147483711), (2147483649, 2147483656), (2147483648, 2147484671), (2147483647, 2147483711), (2147483648, 2147483711)] : List (Nat × Nat)).foldl zy_pe zy_e1) 5 = 9223372039002259519 := by decide +kernel
        have hbf : zx_eg (([(2147483648, 2147483711), (2147483649, 2147483656), (2147483648, 2147484671), (2147483647, 2147483711), (2147483648, 2147483711)] : List (Nat × Nat)).foldl zy_pe zy_e1) 5 = 0 ∨ (zx_eg (([(2147483648, 2147483711), (2147483649, 2147483656), (2147483648, 2147484671), (2147483647, 2147483711), (2147483648, 2147483711)] : List (Nat × Nat)).foldl zy_pe zy_e1) 5 / 4294967296 ≤ zx_bz i ∧ zx_bz i ≤ zx_eg (([(2147483648, 2147483711), (2147483649, 2147483656), (2147483648, 2147484671), (2147483647, 2147483711), (2147483648, 2147483711)] : List (Nat × Nat)).foldl zy_pe zy_e1) 5 % 4294967296) := hbf
        rw [e2] at hbf
        omega
      · intro ls' vs' H' locs' tys' ws' hAt
        obtain ⟨hW', hS', hl', hrow', hst', -, hE', hU'⟩ := hAt
        have hle := zy_mk_le [a, n, op, bt, i] Z
        have hWZ : zy_Wd D N0 zy_T Z s H' tys' ws' := ⟨hW'.1, hW'.2.1, hW'.2.2.1, zy_HR_ge hle hf100 hW'.2.2.2⟩
        rw [zy_gl_le hle] at hU'
        have hlv' := zy_lvl_of hZ1 hZr (ys := [a, n, op, bt, i]) rfl rfl rfl rfl hrow' rfl rfl rfl rfl rfl
        cases vs' with
        | cons _ _ => exact hst'.elim
        | nil =>
        exact step24 H' locs' tys' ws' ls' hWZ hS' hl' hlv' (hU'.1.trans had) (fun j g f1 x hj hf1 n1' => by rw [zy_UN0 hU' hj hf1, hot j g f1 x hj hf1 n1']) (fun j hj => by rw [zy_UN0 hU' gS (by decide), hst j (by omega)])
    | succ N ih =>
      intro i H1 locs1 tys1 ws1 ls hiN hi0 hW2 hS2 hl2 hlv2 hl5 had hot hst
      have hiz := zx_bz_int i
      have hb5 := zy_hb1 (b := (2147483648, 2147483711)) k1 k2 (by decide) (zy_hb1 (b := (2147483649, 2147483656)) n1 n2 (by decide) (zy_hb1 (b := (2147483648, 2147484671)) op1 op2 (by decide) (zy_hb1 (b := (2147483647, 2147483711)) bt1 bt2 (by decide) (zy_hb1 (y := i) (b := (2147483648, 2147483712)) (by show 2147483648 ≤ zx_bz i; omega) (by show zx_bz i ≤ 2147483712; omega) (by decide) zy_hb0))))
      have hb5' := zy_hb1 (b := (2147483648, 2147483711)) k1 k2 (by decide) (zy_hb1 (b := (2147483649, 2147483656)) n1 n2 (by decide) (zy_hb1 (b := (2147483648, 2147484671)) op1 op2 (by decide) (zy_hb1 (b := (2147483647, 2147483711)) bt1 bt2 (by decide) (zy_hb1 (y := i) (b := (2147483648, 2147483711)) (by show 2147483648 ≤ zx_bz i; omega) (by show zx_bz i ≤ 2147483711; omega) (by decide) zy_hb0))))
      refine zy_sx (M := zc_lay) (stops := zls_b) hZ1 hZ2 hZr hF zy_g2 [a, n, op, bt, i] zlb_b zlr_5 [] [] rfl (by decide) hb5 hCf (hRtf ws1) hrk zy_Gs0 hW2 hS2 hl2 (zy_lvl_to5 hZ1 rfl rfl rfl rfl rfl hlv2 hl5) trivial zy_CR0 zy_UN_rf zlk_b (zy_fa ?_ (zy_fa ?_ zy_fa0))
      · intro ls' vs' H' locs' tys' ws' hAt
        obtain ⟨hW', hS', hl', hrow', hst', -, hE', hU'⟩ := hAt
        have hle := zy_mk_le [a, n, op, bt, i] Z
        have hWZ : zy_Wd D N0 zy_T Z s H' tys' ws' := ⟨hW'.1, hW'.2.1, hW'.2.2.1, zy_HR_ge hle hf100 hW'.2.2.2⟩
        rw [zy_gl_le hle] at hU'
        have hlv' := zy_lvl_of hZ1 hZr (ys := [a, n, op, bt, i]) rfl rfl rfl rfl hrow' rfl rfl rfl rfl rfl
        have hl5' : ls'[5]? = some (.val (.int i)) := by
          obtain ⟨v, l1, r1⟩ := hrow' (5, zy_nm 5 0) (List.mem_of_getElem? (i := 5) rfl)
          have e1 := zy_mk_i (o := 0) hZ1 (i := 4) (ys := [a, n, op, bt, i]) rfl (by decide) r1
          rw [nI_0, Int32.add_zero] at e1
          rw [e1] at l1
          exact l1
        obtain ⟨w1, w2, w3, r, rfl, s1, s2, s3, s4⟩ := zy_SR3 hst'
        cases r with
        | cons _ _ => exact s4.elim
        | nil =>
        obtain ⟨-, e1, -⟩ := (zy_r4 (by decide)).mp s1
        have e2 := zy_mk_i (o := 0) hZ1 (i := 4) (ys := [a, n, op, bt, i]) rfl (by decide) s2
        rw [nI_0, Int32.add_zero] at e2
        subst e1
        subst e2
        have sZ : zy_r Z 341106 w3 := zy_r2_dn hle (by decide) (by rw [hZr]; decide) s3
        obtain ⟨j, ad, cA, fa, rfl, h4, hg, hru, h6, h7⟩ := zy_acell hWZ.2.2.2 sZ (by decide) (k := 9671406554665233651074051) rfl (Or.inl (by decide))
        have hj : zy_ru Z 71 = j := hru (by decide)
        have hSg : (zy_gl Z)[j]? = some 83 := hg
        have hiv : vp_in i 64 := by
          rw [vp_in_iff]
          omega
        obtain ⟨hin, hinz⟩ := zy_vp hiv
        refine zy_mst hC0 (k := 9671406554665233651074051) rfl (Or.inl ⟨by decide, rfl⟩) (Or.inl ⟨by decide, by decide⟩) hWZ hS' h4 hg rfl h6 h7 (by rw [ecS]; exact hiv) (by rw [zy_et7 (by decide)]; exact zy_r_7 (x := nI 4294967295) (by decide) (by decide) (by decide)) (fun H3 locs3 hW3 hS3 => ?_)
        refine zy_sx (M := zc_lay) (stops := zls_c) (ws0 := ws'.set j (ad, .inl (cA, zx_cn 9671406554665233651074051, .inl (upd fa i.toNatClampNeg (nI 4294967295))))) hZ1 hZ2 hZr hF zy_g2 [a, n, op, bt, i] zlb_c zlr_5 [] [] rfl (by decide) hb5' hCf (hRtf _) hrk zy_Gs0 hW3 hS3 hl' (zy_lvl_to5 hZ1 rfl rfl rfl rfl rfl hlv' hl5') trivial zy_CR0 zy_UN_rf zlk_c (zy_fa ?_ zy_fa0)
        intro ls3 vs3 H4 locs4 tys4 ws4 hAt4
        obtain ⟨hW4, hS4, hl4, hrow4, hst4, -, hE4, hU4⟩ := hAt4
        have hWZ4 : zy_Wd D N0 zy_T Z s H4 tys4 ws4 := ⟨hW4.1, hW4.2.1, hW4.2.2.1, zy_HR_ge hle hf100 hW4.2.2.2⟩
        rw [zy_gl_le hle] at hU4
        have hlv4 := zy_lvl_of hZ1 hZr (ys := [a, n, op, bt, i]) rfl rfl rfl rfl hrow4 rfl rfl rfl rfl rfl
        have hl54 : ls3[5]? = some (.val (.int (i + nI 1))) := by
          obtain ⟨v, l1, r1⟩ := hrow4 (5, zy_nm 5 1) (List.mem_of_getElem? (i := 5) rfl)
          have e1 := zy_mk_i (o := 1) hZ1 (i := 4) (ys := [a, n, op, bt, i]) rfl (by decide) r1
          rw [e1] at l1
          exact l1
        cases vs3 with
        | cons _ _ => exact hst4.elim
        | nil =>
        have hsum : (i + nI 1).toInt = i.toInt + 1 := by
          rw [zy_ti_add] <;> rw [show (nI 1).toInt = 1 from by decide] <;> omega
        refine ih (i + nI 1) H4 locs4 tys4 ws4 ls3 (by omega) (by omega) hWZ4 hS4 hl4 hlv4 hl54 ?_ (fun i' g f1 x hi' hf1 n1' => ?_) (fun j' hj' => ?_)
        · rw [hU4.1, zx_ads_set h4, hU'.1]
          exact had
        · rw [zy_UN0 hU4 hi' hf1]
          by_cases hij : i' = j
          · subst hij
            rw [hSg] at hi'
            have hi' : 83 = g := Option.some.inj hi'
            have hf0 : f1 ≠ 0 := by omega
            rw [zy_rd_set h4, zy_re_upd (Or.inl hf0), ← zy_rd_at h4, zy_UN0 hU' hSg hf1, hot i' 83 f1 x hSg hf1 (by omega)]
          · rw [zy_rd_ne hij, zy_UN0 hU' hi' hf1, hot i' g f1 x hi' hf1 n1']
        · rw [hj, zy_UN0 hU4 hSg (by decide), zy_rd_set h4]
          show (if 0 = 0 ∧ j' < zx_cn 9671406554665233651074051 then some (Value.int (upd fa i.toNatClampNeg (nI 4294967295) j')) else none) = _
          rw [if_pos ⟨rfl, by rw [ecS]; omega⟩]
          by_cases hjk : j' = i.toNatClampNeg
          · rw [hjk, pk_us]
          · rw [pk_un hjk]
            have e5 := zy_UN0 hU' hSg (f := 0) (by decide) j'
            rw [zy_rd_arr h4 (by rw [ecS]; omega)] at e5
            rw [e5, ← hj]
            exact hst j' (by omega)
      · intro ls' vs' H' locs' tys' ws' hAt
        exfalso
        obtain ⟨hW', hS', hl', hrow', hst', -, hE', hU'⟩ := hAt
        have hbf := zy_mk_b hZ1 (i := 4) (ys := [a, n, op, bt, i]) rfl hE'
        have e2 : zx_eg (([(2147483648, 2147483711), (2147483649, 2147483656), (2147483648, 2147484671), (2147483647, 2147483711), (2147483712, 2147483712)] : List (Nat × Nat)).foldl zy_pe zy_e1) 5 = 9223372313880166464 := by decide +kernel
        have hbf : zx_eg (([(2147483648, 2147483711), (2147483649, 2147483656), (2147483648, 2147484671), (2147483647, 2147483711), (2147483712, 2147483712)] : List (Nat × Nat)).foldl zy_pe zy_e1) 5 = 0 ∨ (zx_eg (([(2147483648, 2147483711), (2147483649, 2147483656), (2147483648, 2147484671), (2147483647, 2147483711), (2147483712, 2147483712)] : List (Nat × Nat)).foldl zy_pe zy_e1) 5 / 4294967296 ≤ zx_bz i ∧ zx_bz i ≤ zx_eg (([(2147483648, 2147483711), (2147483649, 2147483656), (2147483648, 2147484671), (2147483647, 2147483711), (2147483712, 2147483712)] : List (Nat × Nat)).foldl zy_pe zy_e1) 5 % 4294967296) := hbf
        rw [e2] at hbf
        omega
  refine zy_sx (M := zc_lay) (stops := zls_a) hZ1 hZ2 hZr hF zy_g2 [a, n, op, bt] zlb_a zlr_4 [] [] rfl (by decide) hb4 hCf (hRtf ws) hrk zy_Gs0 hW0 va_S.rf hl0n (zy_lvl_to hZ1 rfl rfl rfl rfl hlv0) trivial zy_CR0 zy_UN_rf zlk_a (zy_fa ?_ zy_fa0)
  intro ls' vs' H' locs' tys' ws' hAt
  obtain ⟨hW', hS', hl', hrow', hst', -, hE', hU'⟩ := hAt
  have hle := zy_mk_le [a, n, op, bt] Z
  have hWZ : zy_Wd D N0 zy_T Z s H' tys' ws' := ⟨hW'.1, hW'.2.1, hW'.2.2.1, zy_HR_ge hle hf100 hW'.2.2.2⟩
  rw [zy_gl_le hle] at hU'
  have hlv' := zy_lvl_of hZ1 hZr (ys := [a, n, op, bt]) rfl rfl rfl rfl hrow' rfl rfl rfl rfl rfl
  cases vs' with
  | cons _ _ => exact hst'.elim
  | nil =>
  have hl5 : ls'[5]? = some (.val (.int 0)) := by
    obtain ⟨v, l1, r1⟩ := hrow' (5, 4) (List.mem_of_getElem? (i := 5) rfl)
    obtain ⟨-, e1, -⟩ := (zy_r4 (by decide)).mp r1
    rw [e1] at l1
    exact l1
  exact step3 64 0 H' locs' tys' ws' ls' (by decide) (by decide) hWZ hS' hl' hlv' hl5 hU'.1 (fun j g f1 x hj hf1 _ => zy_UN0 hU' hj hf1 x) (fun j hj => absurd hj (by
    rw [show (0 : Int32).toInt = 0 from by decide]
    omega))
end ZLAY2
