/-! comeTo is kept -/
/-- a group of one cell has no other -/
def zy_UQ (fg : List Nat) (A : zy_V) : Prop := ∀ r g i : Nat, 0 < r → r < 100 → fg[r]? = some g → (zy_gl A)[i]? = some g → i = zy_ru A r
theorem zy_hb0 : ∀ (i : Nat) (y : Int32) (b : Nat × Nat), ([] : List Int32)[i]? = some y → ([] : List (Nat × Nat))[i]? = some b → b.1 ≤ zx_bz y ∧ zx_bz y ≤ b.2 ∧ b.2 < 4294967296 := fun i y b h => by simp at h
theorem zy_hb1 {y : Int32} {ys : List Int32} {b : Nat × Nat} {bs : List (Nat × Nat)} (h1 : b.1 ≤ zx_bz y) (h2 : zx_bz y ≤ b.2) (h3 : b.2 < 4294967296) (ih : ∀ (i : Nat) (y : Int32) (b : Nat × Nat), ys[i]? = some y → bs[i]? = some b → b.1 ≤ zx_bz y ∧ zx_bz y ≤ b.2 ∧ b.2 < 4294967296) : ∀ (i : Nat) (y' : Int32) (b' : Nat × Nat), (y :: ys)[i]? = some y' → (b :: bs)[i]? = some b' → b'.1 ≤ zx_bz y' ∧ zx_bz y' ≤ b'.2 ∧ b'.2 < 4294967296
  | 0, y', b', g1, g2 => by
    have g1 : y = y' := Option.some.inj g1
    have g2 : b = b' := Option.some.inj g2
    subst g1
    subst g2
    exact ⟨h1, h2, h3⟩
  | i + 1, y', b', g1, g2 => ih i y' b' g1 g2
theorem zy_rfix {fg : List Nat} {Z : zy_V} (hF : zy_FX fg Z) (hZr : zy_fr Z = 100) {r g : Nat} (h0 : 0 < r) (h1 : r < 100) (h2 : fg[r]? = some g) (hg : g < 512) : ∃ ad, zy_r Z ((r + 256 * g) * 16 + 2) (.ref ad) := by
  obtain ⟨f1, ad, f2⟩ := hF r g h0 h1 h2
  refine ⟨ad, (zy_r2 (by omega)).mpr ⟨by omega, zy_ru Z r, ad, f2, ?_, rfl, fun _ => ?_⟩⟩
  · rw [show ((r + 256 * g) * 16 + 2) / 16 / 256 = g by omega]
    exact f1
  · rw [show ((r + 256 * g) * 16 + 2) / 16 % 256 = r by omega]
    exact ⟨rfl, by omega⟩
section ZCOME
variable {l : Launch} {D : va_G} {N0 : Nat} {Z : zy_V} {k fr n op bt : Int32}
def zy_lvc (Z : zy_V) (k fr n op bt : Int32) (ls : Array Slot) : Prop := (∃ v, ls[0]? = some (.val v) ∧ zy_r Z 168402 v) ∧ ls[1]? = some (.val (.int k)) ∧ ls[2]? = some (.val (.int fr)) ∧ ls[3]? = some (.val (.int n)) ∧ ls[4]? = some (.val (.int op)) ∧ ls[5]? = some (.val (.int bt))
theorem zy_lvc_to (hZ1 : zy_fi Z = 1) {ys : List Int32} (h0 : ys[0]? = some k) (h1 : ys[1]? = some fr) (h2 : ys[2]? = some n) (h3 : ys[3]? = some op) (h4 : ys[4]? = some bt) {ls : Array Slot} (h : zy_lvc Z k fr n op bt ls) : ∀ q ∈ zcr_come, ∃ v, ls[q.1]? = some (.val v) ∧ zy_r (ys.foldl zy_xi Z) q.2 v := by
  obtain ⟨⟨v0, l0, r0⟩, l1, l2, l3, l4, l5⟩ := h
  exact zy_fa ⟨v0, l0, zy_r_le (zy_mk_le ys Z) r0⟩ (zy_fa ⟨_, l1, zy_mk_r hZ1 h0 (by decide)⟩ (zy_fa ⟨_, l2, zy_mk_r hZ1 h1 (by decide)⟩ (zy_fa ⟨_, l3, zy_mk_r hZ1 h2 (by decide)⟩ (zy_fa ⟨_, l4, zy_mk_r hZ1 h3 (by decide)⟩ (zy_fa ⟨_, l5, zy_mk_r hZ1 h4 (by decide)⟩ zy_fa0)))))
theorem zy_lvc_of (hZ1 : zy_fi Z = 1) (hZr : zy_fr Z = 100) {ys : List Int32} (h0 : ys[0]? = some k) (h1 : ys[1]? = some fr) (h2 : ys[2]? = some n) (h3 : ys[3]? = some op) (h4 : ys[4]? = some bt) {ls : Array Slot} (h : ∀ q ∈ zcr_come, ∃ v, ls[q.1]? = some (.val v) ∧ zy_r (ys.foldl zy_xi Z) q.2 v) : zy_lvc Z k fr n op bt ls := by
  have key : ∀ (i j : Nat) (y : Int32), ys[i]? = some y → i < 200 → (j, zy_nm (i + 1) 0) ∈ zcr_come → ls[j]? = some (.val (.int y)) := fun i j y hy hi hm => by
    obtain ⟨v, l1, r1⟩ := h _ hm
    have e1 := zy_mk_i (o := 0) hZ1 hy hi r1
    rw [nI_0, Int32.add_zero] at e1
    rw [e1] at l1
    exact l1
  obtain ⟨v0, l0, r0⟩ := h (0, 168402) (List.mem_of_getElem? (i := 0) rfl)
  refine ⟨⟨v0, l0, zy_r2_dn (zy_mk_le ys Z) (by decide) (by rw [hZr]; decide) r0⟩, key 0 1 k h0 (by decide) (List.mem_of_getElem? (i := 1) rfl), key 1 2 fr h1 (by decide) (List.mem_of_getElem? (i := 2) rfl), key 2 3 n h2 (by decide) (List.mem_of_getElem? (i := 3) rfl), key 3 4 op h3 (by decide) (List.mem_of_getElem? (i := 4) rfl), key 4 5 bt h4 (by decide) (List.mem_of_getElem? (i := 5) rfl)⟩
theorem zy_CR0 {A : zy_V} {ws : va_W} : zy_CR A ws [] := fun q hq => by cases hq
theorem zy_Gs0 {gl : List Nat} {ws : va_W} : zy_Gs gl 0 ws := by
  refine ⟨fun h => ?_, fun h => ?_, fun h => ?_⟩ <;> (rw [Nat.zero_testBit] at h; cases h)
set_option maxHeartbeats 1000000 in
theorem zo_come (H : zy_H0 Z) (HU : zy_UQ zy_fg Z) : zy_Ok l D N0 zy_T Z zq_come := by
  have HH := H
  obtain ⟨hZ1, hZ2, hZr, hF⟩ := H
  have hf100 : 100 ≤ zy_fr Z := by omega
  refine zy_hand (y := zm_86) rfl (by decide +kernel) ?_
  intro d hd av tys ws hsr hG hCR p en s m below meth c hC hret hlocks hrk ls0 hl0 hW0
  obtain ⟨k0, rfl⟩ : ∃ k0, d = 8 + k0 := ⟨d - 8, by have hd : 8 ≤ d := hd; omega⟩
  obtain ⟨x0, r, rfl, a0, hsr⟩ := zy_SR1 hsr
  obtain ⟨x1, r, rfl, a1, hsr⟩ := zy_SR1 hsr
  obtain ⟨x2, r, rfl, a2, hsr⟩ := zy_SR1 hsr
  obtain ⟨x3, r, rfl, a3, hsr⟩ := zy_SR1 hsr
  obtain ⟨x4, r, rfl, a4, hsr⟩ := zy_SR1 hsr
  obtain ⟨x5, r, rfl, a5, hsr⟩ := zy_SR1 hsr
  cases r with
  | cons _ _ => exact hsr.elim
  | nil =>
  obtain ⟨-, k, rfl, k1, k2⟩ := (zy_r7 (by decide)).mp a1
  obtain ⟨-, fr, rfl, fr1, fr2⟩ := (zy_r7 (by decide)).mp a2
  obtain ⟨-, n, rfl, n1, n2⟩ := (zy_r7 (by decide)).mp a3
  obtain ⟨-, op, rfl, op1, op2⟩ := (zy_r7 (by decide)).mp a4
  obtain ⟨-, bt, rfl, bt1, bt2⟩ := (zy_r7 (by decide)).mp a5
  have k1 : 2147483648 ≤ zx_bz k := k1
  have k2 : zx_bz k ≤ 2147483711 := k2
  have fr1 : 2147483647 ≤ zx_bz fr := fr1
  have fr2 : zx_bz fr ≤ 2147483711 := fr2
  have n1 : 2147483649 ≤ zx_bz n := n1
  have n2 : zx_bz n ≤ 2147483656 := n2
  have op1 : 2147483648 ≤ zx_bz op := op1
  have op2 : zx_bz op ≤ 2147484671 := op2
  have bt1 : 2147483647 ≤ zx_bz bt := bt1
  have bt2 : zx_bz bt ≤ 2147483711 := bt2
  have ha0 := a0
  obtain ⟨-, i0, ad0, -, -, rfl, -⟩ := (zy_r2 (by decide)).mp a0
  have hlv0 : zy_lvc Z k fr n op bt ls0 := ⟨⟨.ref ad0, hl0.2.2 (0, .ref ad0) (List.mem_of_getElem? (i := 0) rfl), ha0⟩, hl0.2.2 (1, .int k) (List.mem_of_getElem? (i := 1) rfl), hl0.2.2 (2, .int fr) (List.mem_of_getElem? (i := 2) rfl), hl0.2.2 (3, .int n) (List.mem_of_getElem? (i := 3) rfl), hl0.2.2 (4, .int op) (List.mem_of_getElem? (i := 4) rfl), hl0.2.2 (5, .int bt) (List.mem_of_getElem? (i := 5) rfl)⟩
  have hCf : ∀ As, zy_le Z As → zx_Cx p (headSpec (zx_mc zm_86 :: zx_G) (zx_rm (8 + k0) zm_86)).room s m [.ref ad0, .int k, .int fr, .int n, .int op, .int bt].toArray meth c zc_come (8 + k0) N0 (zy_ex As) zy_n0 := fun As h => zy_Cx_fin zcl_come_ok (hC As h)
  have hC0 := hCf Z (zy_le_rf Z)
  have hOkt : ∀ t ∈ zct_come, ∀ co ∈ t.2.2, zy_Ok l D N0 zy_T Z co := (zy_g3 (zy_g1 (zo_102 HH) zy_g0) zy_g2)
  have hlt100 : ∀ {r : Nat}, r < 100 → r < zy_fr Z := fun h => by omega
  generalize hQ : MQ below (zy_Qp D N0 zy_T Z zq_come [.ref ad0, .int k, .int fr, .int n, .int op, .int bt] ws) [.ref ad0, .int k, .int fr, .int n, .int op, .int bt].toArray s 0 0 (zx_A N0) = Q
  have hRt0 : ∀ ws3, zy_UN (zy_gl Z) zq_come.1.2.2.1 ws ws3 → ∀ As, zy_le Z As → zy_Rt p l en (headSpec (zx_mc zm_86 :: zx_G) (zx_rm (8 + k0) zm_86)).room s m [.ref ad0, .int k, .int fr, .int n, .int op, .int bt].toArray below meth c Q D N0 zy_T 0 ws3 As zc_come zy_K0 := fun ws3 h As hAs => by
    rw [← hQ]
    exact zy_rt0 hC0.1 hC0.2.1 hret hlocks hf100 hAs h List.mem_cons_self
  have hRtf : ∀ (ws3 : va_W) (As : zy_V), zy_le Z As → zy_Rt p l en (headSpec (zx_mc zm_86 :: zx_G) (zx_rm (8 + k0) zm_86)).room s m [.ref ad0, .int k, .int fr, .int n, .int op, .int bt].toArray below meth c Q D N0 zy_T 0 ws3 As zc_come zy_Kf := fun ws3 As hAs A pc row r C e ls vs H locs ins _ _ _ hK => by cases hK
  generalize hRr : (headSpec (zx_mc zm_86 :: zx_G) (zx_rm (8 + k0) zm_86)).room = R at *
  generalize hAv : ([.ref ad0, .int k, .int fr, .int n, .int op, .int bt] : List Value).toArray = av at *
  have hb5 := zy_hb1 (b := (2147483648, 2147483711)) k1 k2 (by decide) (zy_hb1 (b := (2147483647, 2147483711)) fr1 fr2 (by decide) (zy_hb1 (b := (2147483649, 2147483656)) n1 n2 (by decide) (zy_hb1 (b := (2147483648, 2147484671)) op1 op2 (by decide) (zy_hb1 (b := (2147483647, 2147483711)) bt1 bt2 (by decide) zy_hb0))))
  -- the cells
  obtain ⟨adS, rS⟩ := zy_rfix hF hZr (r := 71) (g := 83) (by decide) (by decide) rfl (by decide)
  have ecS : zx_cn 9671406554665233651074051 = 64 := by decide
  have ecQ : zx_cn 9671406559168833277395971 = 64 := by decide
  obtain ⟨jS, adS', cS, f, -, hS4, hSg, hSru, hSt, hSb⟩ := zy_acell hW0.2.2.2 rS (by decide) (k := 9671406554665233651074051) rfl (Or.inl (by decide))
  have hjS : zy_ru Z 71 = jS := hSru (by decide)
  have hSg : (zy_gl Z)[jS]? = some 83 := hSg
  rw [ecS] at hS4 hSb
  obtain ⟨jM, adM', fs, -, hM4, hMg, hMru, hMl, hMt⟩ := zy_ocell hW0.2.2.2 ha0 (by decide) (k := 290777303838791139070490061311597770348490898056124267798840500052117790569354155402518174477483246251190589118854931795303208147044461484286484292233605357140514798879812782290004230798506698957601791310780569729209523932454218078330946560206905522703506226728470465184425859955726303496886146515467910791937043424157456666750489629515917785898846863079964344308873828949404379640035767669242591973507425290638502818933457538968602347335863077291873418227589459359928985237684033873939425361402008295228094837198987029320243436690435506700149661684916928119644867809387061078223150653743196409865769241278452292781402732337978533234013227868674980101020612620425920167585262631552662450092620548328003854177462943728083045862586732273839066110944760594912467110687831056288124492138512067051397103628084508561194944917860045220852794848879220848888628506129598645974206945928558984449115874348805960242247553950948469446463969196643377241988402345678586038221296926450427643861062287250056666199677811836594764586794924552240401773421626655268700022054707964497768725951090121918100416646139672181626583795140660681822536477831117781495707023939083345687255256327910080042965589861902361675816926090504845453987828346207723964396799854830833364002042215191898459235557576470508287478475235852984509162824741326434111256629192863171562433676516323480884917790790814977211199753312883081584205453831896048938749199081871817160820018336134997069322581498816969988782917992323487807611836997565428224366485902809182788504891806495086505201129069157023943) rfl (ci := 12) (by decide +kernel) (by decide)
  have hjM : zy_ru Z 29 = jM := hMru (by decide)
  have hMg : (zy_gl Z)[jM]? = some 41 := hMg
  have h61 : 61 < fs.length := by rw [hMl]; decide +kernel
  have hq0 := hMt 61 _ (List.getElem?_eq_getElem h61)
  have e61 : zx_og 290777303838791139070490061311597770348490898056124267798840500052117790569354155402518174477483246251190589118854931795303208147044461484286484292233605357140514798879812782290004230798506698957601791310780569729209523932454218078330946560206905522703506226728470465184425859955726303496886146515467910791937043424157456666750489629515917785898846863079964344308873828949404379640035767669242591973507425290638502818933457538968602347335863077291873418227589459359928985237684033873939425361402008295228094837198987029320243436690435506700149661684916928119644867809387061078223150653743196409865769241278452292781402732337978533234013227868674980101020612620425920167585262631552662450092620548328003854177462943728083045862586732273839066110944760594912467110687831056288124492138512067051397103628084508561194944917860045220852794848879220848888628506129598645974206945928558984449115874348805960242247553950948469446463969196643377241988402345678586038221296926450427643861062287250056666199677811836594764586794924552240401773421626655268700022054707964497768725951090121918100416646139672181626583795140660681822536477831117781495707023939083345687255256327910080042965589861902361675816926090504845453987828346207723964396799854830833364002042215191898459235557576470508287478475235852984509162824741326434111256629192863171562433676516323480884917790790814977211199753312883081584205453831896048938749199081871817160820018336134997069322581498816969988782917992323487807611836997565428224366485902809182788504891806495086505201129069157023943 61 = 147573952624036152327 := by decide +kernel
  rw [e61] at hq0
  obtain ⟨-, q, hq, q1, q2⟩ := (zy_r7 (by decide)).mp hq0
  have q1 : 2147483648 ≤ zx_bz q := q1
  have q2 : zx_bz q ≤ 2147483712 := q2
  have hrdq : zy_rd ws jM 61 0 = some (.int q) := by rw [zy_rd_obj hM4, List.getElem?_eq_getElem h61, hq]
  obtain ⟨f', g1, g2, g3⟩ := hG.2.2 (by decide) jM jS q hMg hSg hrdq
  have hff : ∀ i, i < 64 → f' i = f i := fun i hi => by
    have := g1 i hi
    rw [zy_rd_arr hS4 hi] at this
    injection this with this
    injection this with this
    exact this.symm
  have hfb : ∀ i, i < 64 → 2147483647 ≤ zx_bz (f' i) ∧ zx_bz (f' i) ≤ 2147483712 := fun i hi => by
    have h := hSb i hi
    rw [zy_et7 (by decide), ← hff i hi] at h
    exact zy_7_r (by decide) (by decide) h
  have hkv : vp_in k 64 := by
    have := zx_bz_int k
    rw [vp_in_iff]
    omega
  obtain ⟨hkn, hkz⟩ := zy_vp hkv
  -- the end
  have stepF : ∀ (H1 : Heap) (locs1 : List Loc) (tys1 : List (ClassId × FieldType)) (ws3 : va_W) (ls : Array Slot), zy_Wd D N0 zy_T Z s H1 tys1 ws3 → va_S (zx_A N0) s.heap H1 locs1 → lv_has ls 6 [] → zy_lvc Z k fr n op bt ls → zy_UN (zy_gl Z) zq_come.1.2.2.1 ws ws3 → W p l en R s m av below meth c H1 locs1 0 0 Q (F0 m 65 ls []) := by
    intro H1 locs1 tys1 ws3 ls hW3 hS3 hl3 hlv3 hU3
    exact zy_sx (M := zc_come) (stops := zcs_f) hZ1 hZ2 hZr hF hOkt [k, fr, n, op, bt] zcb_f zcr_come [] [] rfl (by decide) hb5 hCf (hRt0 ws3 hU3) hrk zy_Gs0 hW3 hS3 hl3 (zy_lvc_to hZ1 rfl rfl rfl rfl rfl hlv3) trivial zy_CR0 zy_UN_rf zck_f (fun cu hcu => by cases hcu)
  -- what is written last: queued
  have hqx : ∀ {As : zy_V}, zy_le Z As → ∀ {ws1 : va_W}, zy_rd ws1 jM 61 0 = some (.int q) → zy_r As (zy_nm 6 0) (.int q) → zy_CR As ws1 [(1359133, zy_nm 6 0)] := fun {As} hAs {ws1} h1 h2 => by
    have hru : zy_ru As 29 = jM := by rw [hAs.2.2.2.2 29 (by omega)]; exact hjM
    refine zy_CR_add zy_CR0 (key := 1359133) (Nat.lt_of_lt_of_le (show 1359133 % 256 < zy_fr Z by rw [hZr]; decide) hAs.2.1.2.2) ?_ ?_ h2
    · show (zy_gl As)[zy_ru As 29]? = some 41
      rw [hru, zy_gl_le hAs]
      exact hMg
    · show zy_rd ws1 (zy_ru As 29) 61 0 = some (.int q)
      rw [hru]
      exact h1
  have step55 : ∀ (H1 : Heap) (locs1 : List Loc) (tys1 : List (ClassId × FieldType)) (ws2 : va_W) (ls : Array Slot) (v : Int32), zy_Wd D N0 zy_T Z s H1 tys1 ws2 → va_S (zx_A N0) s.heap H1 locs1 → lv_has ls 6 [] → zy_lvc Z k fr n op bt ls → ws2.map (fun w => w.1) = ws.map (fun w => w.1) → (∀ (i g f' a : Nat), (zy_gl Z)[i]? = some g → f' < 128 → 128 * g + f' ≠ 10624 → 128 * g + f' ≠ 10752 → zy_rd ws2 i f' a = zy_rd ws i f' a) → (∀ i, i < 64 → zy_rd ws2 jS 0 i = some (.int (upd f' k.toNatClampNeg v i))) → (f' k.toNatClampNeg).toInt < 0 → 0 ≤ v.toInt → v.toInt ≤ q.toInt → q.toInt < 64 → W p l en R s m av below meth c H1 locs1 0 0 Q (F0 m 55 ls []) := by
    intro H1 locs1 tys1 ws2 ls v hW2 hS2 hl2 hlv2 had hot hst hfk hv0 hvq hq64
    have hqz := zx_bz_int q
    have hb6 := zy_hb1 (b := (2147483648, 2147483711)) k1 k2 (by decide) (zy_hb1 (b := (2147483647, 2147483711)) fr1 fr2 (by decide) (zy_hb1 (b := (2147483649, 2147483656)) n1 n2 (by decide) (zy_hb1 (b := (2147483648, 2147484671)) op1 op2 (by decide) (zy_hb1 (b := (2147483647, 2147483711)) bt1 bt2 (by decide) (zy_hb1 (y := q) (b := (2147483648, 2147483711)) q1 (by show zx_bz q ≤ 2147483711; omega) (by decide) zy_hb0)))))
    have hq2 : zy_rd ws2 jM 61 0 = some (.int q) := by rw [hot jM 41 61 0 hMg (by decide) (by decide) (by decide)]; exact hrdq
    refine zy_sx (M := zc_come) (stops := zcs_e) hZ1 hZ2 hZr hF hOkt [k, fr, n, op, bt, q] zcb_e zcr_come [] [(1359133, zy_nm 6 0)] rfl (by decide) hb6 hCf (hRtf ws2) hrk zy_Gs0 hW2 hS2 hl2 (zy_lvc_to hZ1 rfl rfl rfl rfl rfl hlv2) trivial (hqx (zy_mk_le _ Z) hq2 (zy_mk_r hZ1 (i := 5) rfl (by decide))) zy_UN_rf zck_e (zy_fa ?_ zy_fa0)
    intro ls' vs' H' locs' tys' ws' hAt
    obtain ⟨hW', hS', hl', hrow', hst', -, -, hU'⟩ := hAt
    have hle := zy_mk_le [k, fr, n, op, bt, q] Z
    obtain ⟨w1, w2, r, rfl, s1, s2, s3⟩ := zy_SR2 hst'
    cases r with
    | cons _ _ => exact s3.elim
    | nil =>
    have e1 := zy_mk_i (o := 1) hZ1 (i := 5) (ys := [k, fr, n, op, bt, q]) rfl (by decide) s1
    subst e1
    have hWZ : zy_Wd D N0 zy_T Z s H' tys' ws' := ⟨hW'.1, hW'.2.1, hW'.2.2.1, zy_HR_ge hle hf100 hW'.2.2.2⟩
    rw [zy_gl_le hle] at hU'
    have sZ : zy_r Z 168402 w2 := zy_r2_dn hle (by decide) (by rw [hZr]; decide) s2
    obtain ⟨j, ad, fs', rfl, h4, hg, hru, hfl, hft⟩ := zy_ocell hWZ.2.2.2 sZ (by decide) (k := 290777303838791139070490061311597770348490898056124267798840500052117790569354155402518174477483246251190589118854931795303208147044461484286484292233605357140514798879812782290004230798506698957601791310780569729209523932454218078330946560206905522703506226728470465184425859955726303496886146515467910791937043424157456666750489629515917785898846863079964344308873828949404379640035767669242591973507425290638502818933457538968602347335863077291873418227589459359928985237684033873939425361402008295228094837198987029320243436690435506700149661684916928119644867809387061078223150653743196409865769241278452292781402732337978533234013227868674980101020612620425920167585262631552662450092620548328003854177462943728083045862586732273839066110944760594912467110687831056288124492138512067051397103628084508561194944917860045220852794848879220848888628506129598645974206945928558984449115874348805960242247553950948469446463969196643377241988402345678586038221296926450427643861062287250056666199677811836594764586794924552240401773421626655268700022054707964497768725951090121918100416646139672181626583795140660681822536477831117781495707023939083345687255256327910080042965589861902361675816926090504845453987828346207723964396799854830833364002042215191898459235557576470508287478475235852984509162824741326434111256629192863171562433676516323480884917790790814977211199753312883081584205453831896048938749199081871817160820018336134997069322581498816969988782917992323487807611836997565428224366485902809182788504891806495086505201129069157023943) rfl (ci := 12) (by decide +kernel) (by decide)
    have hj : j = jM := (hru (by decide)).symm.trans hjM
    subst hj
    have hlv' := zy_lvc_of hZ1 hZr (ys := [k, fr, n, op, bt, q]) rfl rfl rfl rfl rfl hrow'
    have hqv : (q + nI 1).toInt = q.toInt + 1 := by
      rw [zy_ti_add] <;> rw [show (nI 1).toInt = 1 from by decide] <;> omega
    have hbq := zx_bz_int (q + nI 1)
    refine zy_mpt hC0 (q := (12, 533, 12, 61, 6, 162)) (List.mem_of_getElem? (i := 88) rfl) rfl rfl (by decide) (by decide +kernel) rfl hWZ hS' h4 hg rfl (by decide +kernel) (by decide +kernel) ⟨fun _ => ⟨_, rfl⟩, fun h => absurd h (by decide +kernel), fun h => absurd h (by decide +kernel)⟩ (by rw [e61]; exact zy_r_7 (l := 2147483648) (u := 2147483712) (by omega) (by omega) (by decide)) (fun H3 locs3 hW3 hS3 => ?_)
    have hlt61 : 61 < fs'.length := by rw [hfl]; decide +kernel
    have hrd3 : ∀ (i g f1 a : Nat), (zy_gl Z)[i]? = some g → f1 < 128 → 128 * g + f1 ≠ 10624 → 128 * g + f1 ≠ 10752 → 128 * g + f1 ≠ 5309 → zy_rd (ws'.set j (ad, .inr (12, fs'.set 61 (.int (q + nI 1))))) i f1 a = zy_rd ws i f1 a := fun i g f1 a hi hf1 n1' n2' n3' => by
      by_cases hij : i = j
      · subst hij
        rw [hMg] at hi
        have hi : 41 = g := Option.some.inj hi
        rw [zy_rd_set h4]
        show (fs'.set 61 (.int (q + nI 1)))[f1]? = _
        rw [List.getElem?_set_ne (by omega), ← zy_rd_obj (a := a) h4, zy_UN0 hU' hMg hf1, hot i 41 f1 a hMg hf1 (by omega) (by omega)]
      · rw [zy_rd_ne hij, zy_UN0 hU' hi hf1, hot i g f1 a hi hf1 n1' n2']
    have hjne : jS ≠ j := fun z => by
      rw [z, hMg] at hSg
      cases hSg
    have hrdS : ∀ i, i < 64 → zy_rd (ws'.set j (ad, .inr (12, fs'.set 61 (.int (q + nI 1))))) jS 0 i = some (.int (upd f' k.toNatClampNeg v i)) := fun i hi => by
      rw [zy_rd_ne hjne, zy_UN0 hU' hSg (by decide), hst i hi]
    refine stepF H3 locs3 tys' _ ls' hW3 hS3 hl' hlv' ⟨?_, ?_, ?_, ?_, ?_⟩
    · rw [zx_ads_set (e' := .inr (12, fs'.set 61 (.int (q + nI 1)))) h4, hU'.1]
      exact had
    · intro i g f1 a hi hf1 hb
      have hm : zq_come.1.2.2.1.testBit 10624 = true ∧ zq_come.1.2.2.1.testBit 10752 = true ∧ zq_come.1.2.2.1.testBit 5309 = true := by decide +kernel
      exact hrd3 i g f1 a hi hf1 (fun z => by rw [z, hm.1] at hb; cases hb) (fun z => by rw [z, hm.2.1] at hb; cases hb) (fun z => by rw [z, hm.2.2] at hb; cases hb)
    · exact (zy_GV_eq (fun i g f1 a hi hf1 hb n1' n2' => hrd3 i g f1 a hi hf1 n1' (fun z => by
        have hq : zy_Fp.testBit 10752 = false := by decide +kernel
        rw [z, hq] at hb
        cases hb) n2') (fun i hi => hrd3 i 41 4 0 hi (by decide) (by decide) (by decide) (by decide))).1
    · exact (zy_GV_eq (fun i g f1 a hi hf1 hb n1' n2' => hrd3 i g f1 a hi hf1 n1' (fun z => by
        have hq : zy_Fp.testBit 10752 = false := by decide +kernel
        rw [z, hq] at hb
        cases hb) n2') (fun i hi => hrd3 i 41 4 0 hi (by decide) (by decide) (by decide) (by decide))).2
    · intro _ i iS q' hi hiS hq'
      have e3 : i = zy_ru Z 29 := HU 29 41 i (by decide) (by decide) rfl hi
      have e4 : iS = zy_ru Z 71 := HU 71 83 iS (by decide) (by decide) rfl hiS
      rw [hjM] at e3
      rw [hjS] at e4
      subst e3
      subst e4
      rw [zy_rd_set h4] at hq'
      have hq' : (fs'.set 61 (.int (q + nI 1)))[61]? = some (.int q') := hq'
      rw [List.getElem?_set_self hlt61] at hq'
      injection hq' with hq'
      injection hq' with hq'
      subst hq'
      refine ⟨upd f' k.toNatClampNeg v, hrdS, ?_, fun i hi => ?_⟩
      · rw [zy_cnt (p := fun i => decide (0 ≤ (f' i).toInt)) (k0 := k.toNatClampNeg) (fun i hi => by show decide (0 ≤ (upd f' k.toNatClampNeg v i).toInt) = _; rw [pk_un hi]) (decide_eq_false (by omega)) (by show decide (0 ≤ (upd f' k.toNatClampNeg v k.toNatClampNeg).toInt) = true; rw [pk_us]; exact decide_eq_true hv0) 64, if_pos hkn, hqv]
        omega
      · rw [hqv]
        by_cases hik : i = k.toNatClampNeg
        · rw [hik, pk_us]
          left
          omega
        · rw [pk_un hik]
          rcases g3 i hi with z | z
          · left
            omega
          · exact Or.inr z
  -- its place in the queue
  have step45 : ∀ (H1 : Heap) (locs1 : List Loc) (tys1 : List (ClassId × FieldType)) (ws1 : va_W) (ls : Array Slot) (v : Int32), zy_Wd D N0 zy_T Z s H1 tys1 ws1 → va_S (zx_A N0) s.heap H1 locs1 → lv_has ls 6 [] → zy_lvc Z k fr n op bt ls → ws1.map (fun w => w.1) = ws.map (fun w => w.1) → (∀ (i g f' a : Nat), (zy_gl Z)[i]? = some g → f' < 128 → 128 * g + f' ≠ 10624 → zy_rd ws1 i f' a = zy_rd ws i f' a) → (∀ i, i < 64 → zy_rd ws1 jS 0 i = some (.int (upd f' k.toNatClampNeg v i))) → (f' k.toNatClampNeg).toInt < 0 → 0 ≤ v.toInt → v.toInt ≤ q.toInt → q.toInt < 64 → W p l en R s m av below meth c H1 locs1 0 0 Q (F0 m 45 ls []) := by
    intro H1 locs1 tys1 ws1 ls v hW2 hS2 hl2 hlv2 had hot hst hfk hv0 hvq hq64
    have hqz := zx_bz_int q
    have hb6 := zy_hb1 (b := (2147483648, 2147483711)) k1 k2 (by decide) (zy_hb1 (b := (2147483647, 2147483711)) fr1 fr2 (by decide) (zy_hb1 (b := (2147483649, 2147483656)) n1 n2 (by decide) (zy_hb1 (b := (2147483648, 2147484671)) op1 op2 (by decide) (zy_hb1 (b := (2147483647, 2147483711)) bt1 bt2 (by decide) (zy_hb1 (y := q) (b := (2147483648, 2147483711)) q1 (by show zx_bz q ≤ 2147483711; omega) (by decide) zy_hb0)))))
    have hq2 : zy_rd ws1 jM 61 0 = some (.int q) := by rw [hot jM 41 61 0 hMg (by decide) (by decide)]; exact hrdq
    refine zy_sx (M := zc_come) (stops := zcs_d) hZ1 hZ2 hZr hF hOkt [k, fr, n, op, bt, q] zcb_d zcr_come [] [(1359133, zy_nm 6 0)] rfl (by decide) hb6 hCf (hRtf ws1) hrk zy_Gs0 hW2 hS2 hl2 (zy_lvc_to hZ1 rfl rfl rfl rfl rfl hlv2) trivial (hqx (zy_mk_le _ Z) hq2 (zy_mk_r hZ1 (i := 5) rfl (by decide))) zy_UN_rf zck_d (zy_fa ?_ zy_fa0)
    intro ls' vs' H' locs' tys' ws' hAt
    obtain ⟨hW', hS', hl', hrow', hst', -, hE', hU'⟩ := hAt
    have hle := zy_mk_le [k, fr, n, op, bt, q] Z
    have hWZ : zy_Wd D N0 zy_T Z s H' tys' ws' := ⟨hW'.1, hW'.2.1, hW'.2.2.1, zy_HR_ge hle hf100 hW'.2.2.2⟩
    rw [zy_gl_le hle] at hU'
    have hlv' := zy_lvc_of hZ1 hZr (ys := [k, fr, n, op, bt, q]) rfl rfl rfl rfl rfl hrow'
    obtain ⟨w1, w2, w3, r, rfl, s1, s2, s3, s4⟩ := zy_SR3 hst'
    cases r with
    | cons _ _ => exact s4.elim
    | nil =>
    have e1 := zy_mk_i (o := 0) hZ1 (i := 0) (ys := [k, fr, n, op, bt, q]) rfl (by decide) s1
    have e2 := zy_mk_i (o := 0) hZ1 (i := 5) (ys := [k, fr, n, op, bt, q]) rfl (by decide) s2
    rw [nI_0, Int32.add_zero] at e1 e2
    subst e1
    subst e2
    have sZ : zy_r Z 345218 w3 := zy_r2_dn hle (by decide) (by rw [hZr]; decide) s3
    obtain ⟨j, ad, cA, fq, rfl, h4, hg, hru, h6, h7⟩ := zy_acell hWZ.2.2.2 sZ (by decide) (k := 9671406559168833277395971) rfl (Or.inl (by decide))
    have hg : (zy_gl Z)[j]? = some 84 := hg
    have hin : vp_in q (zx_cn 9671406559168833277395971) := by
      rw [ecQ, vp_in_iff]
      omega
    refine zy_mst hC0 (k := 9671406559168833277395971) rfl (Or.inl ⟨by decide, rfl⟩) (Or.inl ⟨by decide, by decide⟩) hWZ hS' h4 hg rfl h6 h7 hin (by rw [zy_et7 (by decide)]; exact zy_r_7 (x := k) (by show 2147483648 ≤ zx_bz k; exact k1) (by show zx_bz k ≤ 2147483711; exact k2) (by decide)) (fun H3 locs3 hW3 hS3 => ?_)
    have hjne : jS ≠ j := fun z => by
      rw [z, hg] at hSg
      cases hSg
    refine step55 H3 locs3 tys' _ ls' v hW3 hS3 hl' hlv' ?_ (fun i g f1 a hi hf1 n1' n2' => ?_) (fun i hi => ?_) hfk hv0 hvq hq64
    · rw [zx_ads_set h4, hU'.1]
      exact had
    · by_cases hij : i = j
      · subst hij
        rw [hg] at hi
        have hi : 84 = g := Option.some.inj hi
        have hf0 : f1 ≠ 0 := by omega
        rw [zy_rd_set h4, zy_re_upd (Or.inl hf0), ← zy_rd_at h4, zy_UN0 hU' hg hf1, hot i 84 f1 a hg hf1 (by omega)]
      · rw [zy_rd_ne hij, zy_UN0 hU' hi hf1, hot i g f1 a hi hf1 n1']
    · rw [zy_rd_ne hjne, zy_UN0 hU' hSg (by decide), hst i hi]
  -- its steps
  have step44 : ∀ (H' : Heap) (locs' : List Loc) (tys' : List (ClassId × FieldType)) (ws' : va_W) (ls' : Array Slot) (v : Int32) (w : Value), zy_Wd D N0 zy_T Z s H' tys' ws' → va_S (zx_A N0) s.heap H' locs' → lv_has ls' 6 [] → zy_lvc Z k fr n op bt ls' → zy_UN (zy_gl Z) 0 ws ws' → zy_r Z 341106 w → (f' k.toNatClampNeg).toInt < 0 → 0 ≤ v.toInt → v.toInt ≤ q.toInt → q.toInt < 64 → W p l en R s m av below meth c H' locs' 0 0 Q (F0 m 44 ls' [.int v, .int k, w]) := by
    intro H' locs' tys' ws' ls' v w hWZ hS' hl' hlv' hU' sZ hfk hv0 hvq hq64
    obtain ⟨j, ad, cA, fa, rfl, h4, hg, hru, h6, h7⟩ := zy_acell hWZ.2.2.2 sZ (by decide) (k := 9671406554665233651074051) rfl (Or.inl (by decide))
    have hj : j = jS := (hru (by decide)).symm.trans hjS
    subst hj
    have hvz := zx_bz_int v
    refine zy_mst hC0 (k := 9671406554665233651074051) rfl (Or.inl ⟨by decide, rfl⟩) (Or.inl ⟨by decide, by decide⟩) hWZ hS' h4 hg rfl h6 h7 (by rw [ecS]; exact hkv) (by rw [zy_et7 (by decide)]; exact zy_r_7 (x := v) (by show 2147483647 ≤ zx_bz v; omega) (by show zx_bz v ≤ 2147483712; omega) (by decide)) (fun H3 locs3 hW3 hS3 => ?_)
    refine step45 H3 locs3 tys' _ ls' v hW3 hS3 hl' hlv' ?_ (fun i g f1 a hi hf1 n1' => ?_) (fun i hi => ?_) hfk hv0 hvq hq64
    · rw [zx_ads_set h4, hU'.1]
    · by_cases hij : i = j
      · subst hij
        rw [hSg] at hi
        have hi : 83 = g := Option.some.inj hi
        have hf0 : f1 ≠ 0 := by omega
        rw [zy_rd_set h4, zy_re_upd (Or.inl hf0), ← zy_rd_at h4, zy_UN0 hU' hSg hf1]
      · rw [zy_rd_ne hij, zy_UN0 hU' hi hf1]
    · rw [zy_rd_set h4]
      show (if 0 = 0 ∧ i < zx_cn 9671406554665233651074051 then some (Value.int (upd fa k.toNatClampNeg v i)) else none) = _
      rw [if_pos ⟨rfl, by rw [ecS]; exact hi⟩]
      by_cases hik : i = k.toNatClampNeg
      · rw [hik, pk_us, pk_us]
      · rw [pk_un hik, pk_un hik]
        have e5 := zy_UN0 hU' hSg (f := 0) (by decide) i
        rw [zy_rd_arr h4 (by rw [ecS]; exact hi), g1 i hi] at e5
        exact e5
  have stepC : ∀ (H1 : Heap) (locs1 : List Loc) (tys1 : List (ClassId × FieldType)) (ws1 : va_W) (ls : Array Slot), zy_Wd D N0 zy_T Z s H1 tys1 ws1 → va_S (zx_A N0) s.heap H1 locs1 → lv_has ls 6 [] → zy_lvc Z k fr n op bt ls → zy_UN (zy_gl Z) 0 ws ws1 → (f' k.toNatClampNeg).toInt < 0 → W p l en R s m av below meth c H1 locs1 0 0 Q (F0 m 23 ls []) := by
    intro H1 locs1 tys1 ws1 ls hW2 hS2 hl2 hlv2 hU2 hfk
    have hcl := zy_cnt_lt (p := fun i => decide (0 ≤ (f' i).toInt)) hkn (decide_eq_false (by omega))
    have hq64 : q.toInt < 64 := by omega
    have hq0' : 0 ≤ q.toInt := by omega
    refine zy_sx (M := zc_come) (stops := zcs_c) hZ1 hZ2 hZr hF hOkt [k, fr, n, op, bt] zcb_c zcr_come [] [] rfl (by decide) hb5 hCf (hRtf ws) hrk zy_Gs0 hW2 hS2 hl2 (zy_lvc_to hZ1 rfl rfl rfl rfl rfl hlv2) trivial zy_CR0 hU2 zck_c (zy_fa ?_ (zy_fa ?_ zy_fa0))
    · intro ls' vs' H' locs' tys' ws' hAt
      obtain ⟨hW', hS', hl', hrow', hst', -, hE', hU'⟩ := hAt
      have hle := zy_mk_le [k, fr, n, op, bt] Z
      have hWZ : zy_Wd D N0 zy_T Z s H' tys' ws' := ⟨hW'.1, hW'.2.1, hW'.2.2.1, zy_HR_ge hle hf100 hW'.2.2.2⟩
      rw [zy_gl_le hle] at hU'
      have hlv' := zy_lvc_of hZ1 hZr (ys := [k, fr, n, op, bt]) rfl rfl rfl rfl rfl hrow'
      obtain ⟨w1, w2, w3, r, rfl, s1, s2, s3, s4⟩ := zy_SR3 hst'
      obtain ⟨w4, r4, rfl, s6, s5⟩ := zy_SR1 s4
      cases r4 with
      | cons _ _ => exact s5.elim
      | nil =>
      have e1 := zy_mk_i (o := 0) hZ1 (i := 1) (ys := [k, fr, n, op, bt]) rfl (by decide) s1
      have e3 := zy_mk_i (o := 0) hZ1 (i := 0) (ys := [k, fr, n, op, bt]) rfl (by decide) s3
      rw [nI_0, Int32.add_zero] at e1 e3
      subst e1
      subst e3
      have sZ : zy_r Z 341106 w2 := zy_r2_dn hle (by decide) (by rw [hZr]; decide) s2
      have sZ4 : zy_r Z 341106 w4 := zy_r2_dn hle (by decide) (by rw [hZr]; decide) s6
      have hbf := zy_mk_b hZ1 (i := 1) (ys := [k, fr, n, op, bt]) rfl hE'
      have e2 : zx_eg (([(2147483648, 2147483711), (2147483648, 2147483711), (2147483649, 2147483656), (2147483648, 2147484671), (2147483647, 2147483711)] : List (Nat × Nat)).foldl zy_pe zy_e1) 2 = 9223372039002259519 := by decide +kernel
      have hbf : zx_eg (([(2147483648, 2147483711), (2147483648, 2147483711), (2147483649, 2147483656), (2147483648, 2147484671), (2147483647, 2147483711)] : List (Nat × Nat)).foldl zy_pe zy_e1) 2 = 0 ∨ (zx_eg (([(2147483648, 2147483711), (2147483648, 2147483711), (2147483649, 2147483656), (2147483648, 2147484671), (2147483647, 2147483711)] : List (Nat × Nat)).foldl zy_pe zy_e1) 2 / 4294967296 ≤ zx_bz fr ∧ zx_bz fr ≤ zx_eg (([(2147483648, 2147483711), (2147483648, 2147483711), (2147483649, 2147483656), (2147483648, 2147484671), (2147483647, 2147483711)] : List (Nat × Nat)).foldl zy_pe zy_e1) 2 % 4294967296) := hbf
      rw [e2] at hbf
      have hfz := zx_bz_int fr
      have hfrv : vp_in fr 64 := by
        rw [vp_in_iff]
        omega
      obtain ⟨hfn, -⟩ := zy_vp hfrv
      obtain ⟨j, ad, cA, fa, rfl, h4, hg, hru, h6, h7⟩ := zy_acell hWZ.2.2.2 sZ (by decide) (k := 9671406554665233651074051) rfl (Or.inl (by decide))
      have hj : j = jS := (hru (by decide)).symm.trans hjS
      subst hj
      have e5 := zy_UN0 hU' hSg (f := 0) (by decide) fr.toNatClampNeg
      rw [zy_rd_arr h4 (by rw [ecS]; exact hfn), g1 _ hfn] at e5
      injection e5 with e5
      injection e5 with e5
      have hfb' := hfb _ hfn
      have hfz' := zx_bz_int (f' fr.toNatClampNeg)
      have hsum : (f' fr.toNatClampNeg + nI 1).toInt = (f' fr.toNatClampNeg).toInt + 1 := by
        rw [zy_ti_add] <;> rw [show (nI 1).toInt = 1 from by decide] <;> omega
      refine zy_mld hC0 (k := 9671406554665233651074051) rfl (Or.inl ⟨by decide, rfl⟩) hWZ h4 h6 (by rw [ecS]; exact hfrv) ?_
      rw [e5]
      refine lv_iconst hC0.1 hC0.2.1 (n := 1) rfl (zx_m32_of 1) ?_
      refine lv_iadd hC0.1 hC0.2.1 rfl ?_
      refine step44 H' locs' tys' ws' ls' (f' fr.toNatClampNeg + nI 1) w4 hWZ hS' hl' hlv' hU' sZ4 hfk ?_ ?_ hq64
      · omega
      · rcases g3 _ hfn with z | z <;> omega
    · intro ls' vs' H' locs' tys' ws' hAt
      obtain ⟨hW', hS', hl', hrow', hst', -, hE', hU'⟩ := hAt
      have hle := zy_mk_le [k, fr, n, op, bt] Z
      have hWZ : zy_Wd D N0 zy_T Z s H' tys' ws' := ⟨hW'.1, hW'.2.1, hW'.2.2.1, zy_HR_ge hle hf100 hW'.2.2.2⟩
      rw [zy_gl_le hle] at hU'
      have hlv' := zy_lvc_of hZ1 hZr (ys := [k, fr, n, op, bt]) rfl rfl rfl rfl rfl hrow'
      obtain ⟨w1, w2, w3, r, rfl, s1, s2, s3, s4⟩ := zy_SR3 hst'
      cases r with
      | cons _ _ => exact s4.elim
      | nil =>
      have e2 := zy_mk_i (o := 0) hZ1 (i := 0) (ys := [k, fr, n, op, bt]) rfl (by decide) s2
      rw [nI_0, Int32.add_zero] at e2
      subst e2
      obtain ⟨-, e1, -⟩ := (zy_r4 (by decide)).mp s1
      subst e1
      exact step44 H' locs' tys' ws' ls' 0 w3 hWZ hS' hl' hlv' hU' (zy_r2_dn hle (by decide) (by rw [hZr]; decide) s3) hfk (by decide) hq0' hq64
  have stepB : ∀ (H1 : Heap) (locs1 : List Loc) (tys1 : List (ClassId × FieldType)) (ws1 : va_W) (ls : Array Slot), zy_Wd D N0 zy_T Z s H1 tys1 ws1 → va_S (zx_A N0) s.heap H1 locs1 → lv_has ls 6 [] → zy_lvc Z k fr n op bt ls → zy_UN (zy_gl Z) 0 ws ws1 → W p l en R s m av below meth c H1 locs1 0 0 Q (F0 m 6 ls [.int (f' k.toNatClampNeg)]) := by
    intro H1 locs1 tys1 ws1 ls hW2 hS2 hl2 hlv2 hU2
    obtain ⟨y1, y2⟩ := hfb _ hkn
    have hb6 := zy_hb1 (b := (2147483648, 2147483711)) k1 k2 (by decide) (zy_hb1 (b := (2147483647, 2147483711)) fr1 fr2 (by decide) (zy_hb1 (b := (2147483649, 2147483656)) n1 n2 (by decide) (zy_hb1 (b := (2147483648, 2147484671)) op1 op2 (by decide) (zy_hb1 (b := (2147483647, 2147483711)) bt1 bt2 (by decide) (zy_hb1 (y := f' k.toNatClampNeg) (b := (2147483647, 2147483712)) y1 y2 (by decide) zy_hb0)))))
    refine zy_sx (M := zc_come) (stops := zcs_b) hZ1 hZ2 hZr hF hOkt [k, fr, n, op, bt, f' k.toNatClampNeg] zcb_b zcr_come [zy_nm 6 0] [] rfl (by decide) hb6 hCf (hRt0 ws zy_UN_rf) hrk zy_Gs0 hW2 hS2 hl2 (zy_lvc_to hZ1 rfl rfl rfl rfl rfl hlv2) ⟨zy_mk_r hZ1 (i := 5) rfl (by decide), trivial⟩ zy_CR0 hU2 zck_b (zy_fa ?_ zy_fa0)
    intro ls' vs' H' locs' tys' ws' hAt
    obtain ⟨hW', hS', hl', hrow', hst', -, hE', hU'⟩ := hAt
    have hle := zy_mk_le [k, fr, n, op, bt, f' k.toNatClampNeg] Z
    have hWZ : zy_Wd D N0 zy_T Z s H' tys' ws' := ⟨hW'.1, hW'.2.1, hW'.2.2.1, zy_HR_ge hle hf100 hW'.2.2.2⟩
    rw [zy_gl_le hle] at hU'
    have hlv' := zy_lvc_of hZ1 hZr (ys := [k, fr, n, op, bt, f' k.toNatClampNeg]) rfl rfl rfl rfl rfl hrow'
    cases vs' with
    | cons _ _ => exact hst'.elim
    | nil =>
    have hbf := zy_mk_b hZ1 (i := 5) (ys := [k, fr, n, op, bt, f' k.toNatClampNeg]) rfl hE'
    have e2 : zx_eg (([(2147483648, 2147483711), (2147483647, 2147483711), (2147483649, 2147483656), (2147483648, 2147484671), (2147483647, 2147483711), (2147483647, 2147483647)] : List (Nat × Nat)).foldl zy_pe zy_e1) 6 = 9223372034707292159 := by decide +kernel
    have hbf : zx_eg (([(2147483648, 2147483711), (2147483647, 2147483711), (2147483649, 2147483656), (2147483648, 2147484671), (2147483647, 2147483711), (2147483647, 2147483647)] : List (Nat × Nat)).foldl zy_pe zy_e1) 6 = 0 ∨ (zx_eg (([(2147483648, 2147483711), (2147483647, 2147483711), (2147483649, 2147483656), (2147483648, 2147484671), (2147483647, 2147483711), (2147483647, 2147483647)] : List (Nat × Nat)).foldl zy_pe zy_e1) 6 / 4294967296 ≤ zx_bz (f' k.toNatClampNeg) ∧ zx_bz (f' k.toNatClampNeg) ≤ zx_eg (([(2147483648, 2147483711), (2147483647, 2147483711), (2147483649, 2147483656), (2147483648, 2147484671), (2147483647, 2147483711), (2147483647, 2147483647)] : List (Nat × Nat)).foldl zy_pe zy_e1) 6 % 4294967296) := hbf
    rw [e2] at hbf
    have hfz := zx_bz_int (f' k.toNatClampNeg)
    exact stepC H' locs' tys' ws' ls' hWZ hS' hl' hlv' hU' (by omega)
  refine zy_sx (M := zc_come) (stops := zcs_a) hZ1 hZ2 hZr hF hOkt [k, fr, n, op, bt] zcb_a zcr_come [] [] rfl (by decide) hb5 hCf (hRtf ws) hrk zy_Gs0 hW0 va_S.rf (zx_lv_none hl0) (zy_lvc_to hZ1 rfl rfl rfl rfl rfl hlv0) trivial zy_CR0 zy_UN_rf zck_a (zy_fa ?_ zy_fa0)
  intro ls' vs' H' locs' tys' ws' hAt
  obtain ⟨hW', hS', hl', hrow', hst', -, hE', hU'⟩ := hAt
  have hle := zy_mk_le [k, fr, n, op, bt] Z
  have hWZ : zy_Wd D N0 zy_T Z s H' tys' ws' := ⟨hW'.1, hW'.2.1, hW'.2.2.1, zy_HR_ge hle hf100 hW'.2.2.2⟩
  rw [zy_gl_le hle] at hU'
  have hlv' := zy_lvc_of hZ1 hZr (ys := [k, fr, n, op, bt]) rfl rfl rfl rfl rfl hrow'
  obtain ⟨w1, w2, r, rfl, s1, s2, s3⟩ := zy_SR2 hst'
  cases r with
  | cons _ _ => exact s3.elim
  | nil =>
  have e1 := zy_mk_i (o := 0) hZ1 (i := 0) (ys := [k, fr, n, op, bt]) rfl (by decide) s1
  rw [nI_0, Int32.add_zero] at e1
  subst e1
  have sZ : zy_r Z 341106 w2 := zy_r2_dn hle (by decide) (by rw [hZr]; decide) s2
  obtain ⟨j, ad, cA, fa, rfl, h4, hg, hru, h6, h7⟩ := zy_acell hWZ.2.2.2 sZ (by decide) (k := 9671406554665233651074051) rfl (Or.inl (by decide))
  have hj : j = jS := (hru (by decide)).symm.trans hjS
  subst hj
  have e5 := zy_UN0 hU' hSg (f := 0) (by decide) k.toNatClampNeg
  rw [zy_rd_arr h4 (by rw [ecS]; exact hkn), g1 _ hkn] at e5
  injection e5 with e5
  injection e5 with e5
  refine zy_mld hC0 (k := 9671406554665233651074051) rfl (Or.inl ⟨by decide, rfl⟩) hWZ h4 h6 (by rw [ecS]; exact hkv) ?_
  rw [e5]
  exact stepB H' locs' tys' ws' ls' hWZ hS' hl' hlv' hU'
end ZCOME
