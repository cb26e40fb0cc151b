/-! other objects than the reference; later -/
section ZOB
variable {l : Launch} {D : va_G} {N0 : Nat} {Z : zy_V} {p : Program} {en : Env} {R : Room} {s : State} {m : MethodId} {args : Array Value} {below : List Frame} {meth : Method} {c : Code} {Q : State → Prop} {M : zx_M} {dd : Nat} {ls : Array Slot} {H : Heap} {locs : List Loc} {tys : List (ClassId × FieldType)} {ws ws' : va_W}
theorem zv_cO (hH : zy_H0 Z) (hR : zy_HR Z zy_T tys ws) {r g ci : Nat} (h0 : 0 < r) (h1 : r < 100) (hfg : zy_fg[r]? = some g) (hg5 : g < 512) (hTg : zy_T[g]? = some (zy_tm zy_T g)) (hhd : zx_hd (zy_tm zy_T g) = 7 + 16 * ci) (hci : ci < 100) : ∃ (fs : List Value) (rc : vw_C), ws[zy_ru Z r]? = some (zy_fa1 Z r, .inr (ci, fs)) ∧ vwCl[ci]? = some rc ∧ fs.length = rc.2.2 ∧ ∀ (n : Nat) (v : Value), fs[n]? = some v → zy_r (zy_fz Z) (zx_og (zy_tm zy_T g) n) v := by
  have hr := zv_rr hH h0 h1 hfg hg5
  obtain ⟨j, ad, ee, e1, h4, hgj, h5, hru⟩ := zy_HR_get hR hr (by omega) (c := zy_tm zy_T g) (by rw [show ((r + 256 * g) * 16 + 2) / 16 / 256 = g by omega]; exact hTg)
  obtain ⟨t7, tcn⟩ := zx_hd7 (c := zy_tm zy_T g) (x := ci) hhd hci
  obtain ⟨fs, rc, rfl, h6, h7, h8⟩ := (zy_c7 t7).mp h5
  rw [tcn] at h4 h6
  injection e1 with e1
  have hj : zy_ru Z r = j := by
    have := (hru (by omega)).1
    rw [show ((r + 256 * g) * 16 + 2) / 16 % 256 = r by omega] at this
    exact this
  rw [← e1, ← hj] at h4
  exact ⟨fs, rc, h4, h6, h7, h8⟩
theorem zv_getO {q : zx_Q} {i f pc r g ci : Nat} {v : Value} {rest : List Value} (hB : zy_Fr p l R s m args meth c N0 Z M dd) (hx : zy_Mx D N0 zy_T Z s M ls H locs tys ws) (h0 : 0 < r) (h1 : r < 100) (hfg : zy_fg[r]? = some g) (hg5 : g < 512) (hTg : zy_T[g]? = some (zy_tm zy_T g)) (hhd : zx_hd (zy_tm zy_T g) = 7 + 16 * ci) (hci : ci < 100) (hq : q ∈ zx_FL) (ho : q.1 = M.2.1.1) (hi : q.2.1 = i) (h12 : q.2.2.1 = ci) (hf : q.2.2.2.1 = f) (hd : decode M.1.2.1 pc = .ok (.getfield i, 3)) (hv : zy_rd ws (zy_ru Z r) f 0 = some v) (kk : W p l en R s m args below meth c H locs 0 0 Q (F0 m (pc + 3) ls (v :: rest))) : W p l en R s m args below meth c H locs 0 0 Q (F0 m pc ls (.ref (zy_fa1 Z r) :: rest)) := by
  obtain ⟨hH, -, hCf, -⟩ := hB
  obtain ⟨hx0, hb, hml, hown, hts, -⟩ := hCf Z (zy_le_rf Z)
  obtain ⟨⟨hK, hP, hD, hR⟩, hS, hl⟩ := hx
  obtain ⟨fs, rc, h4, h6, h7, h8⟩ := zv_cO hH hR h0 h1 hfg hg5 hTg hhd hci
  have hcii := zx_ci_of h6
  have hrm := List.mem_of_getElem? h6
  rw [zy_rd_obj h4] at hv
  have hlt := (List.getElem?_eq_some_iff.mp hv).1
  refine va_get (own := zx_on1 M.2.1.1) (ref := (rc.2.1 f).1) hx0 hb hts (zx_cl_ws hrm) hown hK hP _ h4 h6 f (by rw [← h7]; exact hlt) ?_ (fun _ z => z) hv hd kk
  have := hts _ (zx_inF hq)
  rw [zx_fw_of (by rw [h12]; exact hci) (show zx_ci q.2.2.1 = rc by rw [h12]; exact hcii), ho, hi, hf] at this
  exact this
theorem zv_refO (hH : zy_H0 Z) (hR : zy_HR Z zy_T tys ws) {key r g : Nat} (h0 : 0 < r) (h1 : r < 100) (hg : g < 512) (htt : zy_tt zy_T zy_fg key (fun t => Nat.beq t ((r + 256 * g) * 16 + 2)) = true) : zv_ro Z ws key = some (.ref (zy_fa1 Z r)) := by
  obtain ⟨t, x, e1, -, -, e4, e5⟩ := zy_tt_s hH.2.2.2 hR htt
  rw [zx_beq_t e1] at e5
  obtain ⟨-, j, ad, g1, g2, g3, g4⟩ := (zy_r2 (by omega)).mp e5
  rw [show ((r + 256 * g) * 16 + 2) / 16 % 256 = r by omega] at g4
  have g5 := (g4 (by omega)).1
  have ex : x = .ref (zy_fa1 Z r) := by
    rw [g3]
    unfold zy_fa1
    have e6 : zy_ru (zy_fz Z) r = zy_ru Z r := if_pos h1
    rw [← e6, g5]
    have g1 : (zy_ads Z)[j]? = some ad := g1
    rw [g1]
    rfl
  rw [ex] at e4
  exact e4
theorem zv_putO {q : zx_Q} {i f pc lo hi2 r g ci : Nat} {y : Int32} {rest : List Value} (hB : zy_Fr p l R s m args meth c N0 Z M dd) (hx : zy_Mx D N0 zy_T Z s M ls H locs tys ws) (h0 : 0 < r) (h1 : r < 100) (hfg : zy_fg[r]? = some g) (hg5 : g < 512) (hTg : zy_T[g]? = some (zy_tm zy_T g)) (hhd : zx_hd (zy_tm zy_T g) = 7 + 16 * ci) (hci : ci < 100) (hq : q ∈ zx_FL) (ho : q.1 = M.2.1.1) (hi : q.2.1 = i) (h12 : q.2.2.1 = ci) (hf : q.2.2.2.1 = f) (hd : decode M.1.2.1 pc = .ok (.putfield i, 3)) (hfin : ((zx_ci ci).2.1 f).2.2.2 = false) (hfl : f < (zx_ci ci).2.2) (hkp : zx_kp (zx_fm ((zx_ci ci).2.1 f).2.2.1) (.int y)) (het : zx_og (zy_tm zy_T g) f = zy_c7v lo hi2) (hlo : lo ≤ zx_bz y) (hhi : zx_bz y ≤ hi2) (hh : hi2 < 4294967296)
    (kk : ∀ (H1 : Heap) (locs1 : List Loc) (ws1 : va_W), zy_Mx D N0 zy_T Z s M ls H1 locs1 tys ws1 → ws1.map (fun w => w.1) = ws.map (fun w => w.1) → zy_rd ws1 (zy_ru Z r) f 0 = some (.int y) → (∀ j f2 a, ¬ (j = zy_ru Z r ∧ f2 = f) → zy_rd ws1 j f2 a = zy_rd ws j f2 a) → W p l en R s m args below meth c H1 locs1 0 0 Q (F0 m (pc + 3) ls rest)) :
    W p l en R s m args below meth c H locs 0 0 Q (F0 m pc ls (.int y :: .ref (zy_fa1 Z r) :: rest)) := by
  obtain ⟨hH, -, hCf, -⟩ := hB
  have hC0 := hCf Z (zy_le_rf Z)
  obtain ⟨hW, hS, hl⟩ := hx
  obtain ⟨fs, rc, h4, h6, h7, h8⟩ := zv_cO hH hW.2.2.2 h0 h1 hfg hg5 hTg hhd hci
  have hcii := zx_ci_of h6
  have hgj := (hH.2.2.2 r g h0 h1 hfg).1
  have hlt : f < fs.length := by rw [h7, ← hcii]; exact hfl
  have hjl := (List.getElem?_eq_some_iff.mp h4).1
  refine zy_mpt (T := zy_T) (k := zy_tm zy_T g) (g := g) (q := q) hC0 hq ho hi (by rw [h12]; exact hci) (by rw [h12, hf]; exact hfin) hd hW hS (by rw [h12]; exact h4) hgj hTg (by rw [h12]; exact hhd) (by rw [h12, hf]; exact hfl) (by rw [h12, hf]; exact hkp) (by rw [hf, het]; exact zy_r_7 hlo hhi hh) (fun H1 locs1 hW1 hS1 => ?_)
  rw [h12, hf] at hW1
  refine kk H1 locs1 _ ⟨hW1, hS1, hl⟩ ?_ ?_ ?_
  · rw [List.map_set]
    refine List.ext_getElem? fun n => ?_
    by_cases hnj : n = zy_ru Z r
    · subst hnj
      rw [List.getElem?_set_self (by rw [List.length_map]; exact hjl), List.getElem?_map, h4]
      rfl
    · rw [List.getElem?_set_ne (Ne.symm hnj)]
  · rw [zy_rd_set h4]
    exact List.getElem?_set_self hlt
  · intro j f2 a hne
    by_cases hjj : j = zy_ru Z r
    · subst hjj
      rw [zy_rd_set h4, zy_rd_at h4]
      exact List.getElem?_set_ne (fun z => hne ⟨rfl, z.symm⟩)
    · rw [zy_rd_ne hjj]
theorem zv_ldcw {q : zx_Q} {i pc : Nat} {rest : List Value} (hB : zy_Fr p l R s m args meth c N0 Z M dd) (hq : q ∈ zx_KL) (ho : q.1 = M.2.1.1) (hi : q.2.1 = i) (hd : decode M.1.2.1 pc = .ok (.ldc_w i, 3)) (kk : W p l en R s m args below meth c H locs 0 0 Q (F0 m (pc + 3) ls (.int (nI q.2.2.1) :: rest))) : W p l en R s m args below meth c H locs 0 0 Q (F0 m pc ls rest) := by
  obtain ⟨hx0, hb, hml, hown, hts, -⟩ := hB.2.2.1 Z (zy_le_rf Z)
  have hc := hts _ (zx_inK hq)
  unfold zx_kw at hc
  rw [ho, hi] at hc
  exact lv_ldcw hx0 hb hown hc hd kk
end ZOB
def zl_C (t y : Int32) : Prop := ¬ y < nI 0 ∧ ¬ nI 1000 < y ∧ t + y ≤ nI 100000
def zl_R (t y v t' : Int32) : Prop := (zl_C t y ∧ v = t + y ∧ t' = t + y) ∨ (¬ zl_C t y ∧ v = nI 4294967295 ∧ t' = t)
theorem zl_R_u {t y v t' v2 t2 : Int32} (h : zl_R t y v t') (h2 : zl_R t y v2 t2) : v = v2 ∧ t' = t2 := by
  rcases h with ⟨h, rfl, rfl⟩ | ⟨h, rfl, rfl⟩ <;> rcases h2 with ⟨h2, rfl, rfl⟩ | ⟨h2, rfl, rfl⟩
  · exact ⟨rfl, rfl⟩
  · exact absurd h h2
  · exact absurd h2 h
  · exact ⟨rfl, rfl⟩
def zl_Wm : Nat := 37712640866443718224615136052649568379286542601286836247534070251365675921691129175634651431791661009875120512966411208981069601809447840062331149044027177216472546223294377375923898965182918312520637934856899115528264422479098280063479944090633764182956713953576160352634874546789232049654316442202850889735427313999715214796528712743016353101541003306819609273645657539035428952040372071101079150100414959679423459398678939812706705994835720372607809763665902266433821213017287864164156039691481415396851018844257704599316615184749124283494984946637011464593430446995196070413946968235183873962686930915592757009270203198577164724505630569967413929079926538699748457724592435331381700947722782718307562568294219716164616324504426603228365554161978937933988521997421495362372169666377585637235859796651184206172867790638805407268323430331739324888411770447738698257199274496512292682602319902444653142474617532249564818667842024097116422234072644453084804769254079883229139551540671730637823900475048907383419210104104182683339813658667513933919338633526760478795817315521790348470061123766640543493090847105303018024317800898407380822687180623047911339848708934953368775404133874706121127898883396635263986749877743636492594786357079083556620082297291046015632062478301680721469167225229139707829354737932805287515035546578344996136894384364477589983528359747996905554527801918660554461718592665004268072701115797209370073430447218232552397238435197096743877177205167138201805427581890654007546203653389424798424092006921678709503721788929211960918695057413872913163640130553963450849556981006467072
def zl_Wx : Nat := 185907391851838658011504081065746379861983205643612647573167556873190519391907527223594753425059789032042437048159376558207696947025281507893212341509985036833027572470606095963009595231649652070407832505825337996631349777280771354495250699820208713355558680929432636567783224055618463346201961906532016362658983792625721114121804210565179526407919762190340807760489742386470003332365719634591685521650365892680186571724989280027828599425702994138641449315452919130612292435186765014090430711205998309409905305760393926708448376023960320547051543495518264237320735835392425875742672958665749684384613811010832907041961147644744696430633436273492444145737971694286282566376140234880521345826904037617084421181407593458929009174358441352565934896558013305306340955028312968323292534977039852674401340783536441956063273839327010395425398742916803882109504785816295719648420893430750606989004142173278131659427453262802154550198272
section ZLA
variable {l : Launch} {D : va_G} {N0 : Nat} {Z : zy_V}
theorem zo_isIn (H : zy_H0 Z) (HU : zy_UQ zy_fg Z) {v lo hi : Int32} : zy_OkP l D N0 zy_T Z 7 0 (fun av _ => av = [.int v, .int lo, .int hi]) (fun _ ws vs ws' => ws' = ws ∧ ∃ b : Bool, vs = [.int (if b then nI 1 else nI 0)] ∧ (b = true ↔ ¬ v < lo ∧ ¬ hi < v)) := by
  refine zy_handP (y := zm_7) H HU rfl (fun av ws h => by rw [h]; exact Nat.le_of_ble_eq_true rfl) ?_
  intro d hd av tys ws e p en R s m below meth c hB ls hl hx
  subst e
  obtain ⟨hx0, hb0, -⟩ := hB.2.2.1 Z (zy_le_rf Z)
  have l0 : ls[0]? = some (.val (.int v)) := hl (0, _) (List.mem_of_getElem? (i := 0) rfl)
  have l1 : ls[1]? = some (.val (.int lo)) := hl (1, _) (List.mem_of_getElem? (i := 1) rfl)
  have l2 : ls[2]? = some (.val (.int hi)) := hl (2, _) (List.mem_of_getElem? (i := 2) rfl)
  refine lv_iload_n hx0 hb0 rfl rfl l0 ?_
  refine lv_iload_n hx0 hb0 rfl rfl l1 ?_
  refine lv_icmp_lt (tgt := 14) hx0 hb0 rfl (by decide) (fun h => ?_) (fun h => ?_)
  · skip
    refine lv_iconst (v := nI 0) hx0 hb0 rfl (by decide) ?_
    exact zv_ret hB hx rfl rfl rfl ⟨rfl, false, rfl, ⟨fun z => (by cases z), fun z => absurd h z.1⟩⟩
  · skip
    refine lv_iload_n hx0 hb0 rfl rfl l0 ?_
    refine lv_iload_n hx0 hb0 rfl rfl l2 ?_
    refine lv_icmp_gt (tgt := 14) hx0 hb0 rfl (by decide) (fun h2 => ?_) (fun h2 => ?_)
    · skip
      refine lv_iconst (v := nI 0) hx0 hb0 rfl (by decide) ?_
      exact zv_ret hB hx rfl rfl rfl ⟨rfl, false, rfl, ⟨fun z => (by cases z), fun z => absurd h2 z.2⟩⟩
    · skip
      refine lv_iconst (v := nI 1) hx0 hb0 rfl (by decide) ?_
      refine lv_goto (tgt := 15) hx0 hb0 rfl (by decide) ?_
      exact zv_ret hB hx rfl rfl rfl ⟨rfl, true, rfl, ⟨fun _ => ⟨h, h2⟩, fun _ => rfl⟩⟩
set_option maxHeartbeats 1000000 in
theorem zo_latM (H : zy_H0 Z) (HU : zy_UQ zy_fg Z) {y t : Int32} : zy_OkP l D N0 zy_T Z 66 1 (fun av ws => av = [.ref (zy_fa1 Z 29), .int y] ∧ zy_rd ws (zy_ru Z 29) 69 0 = some (.int t)) (fun _ ws vs ws' => ∃ v t', vs = [.int v] ∧ zy_rd ws' (zy_ru Z 29) 69 0 = some (.int t') ∧ zl_R t y v t' ∧ zy_UN (zy_gl Z) zl_Wm ws ws') := by
  refine zy_handP (y := zm_66) H HU rfl (fun av ws h => by rw [h.1]; exact Nat.le_of_ble_eq_true rfl) ?_
  intro d hd av tys ws ⟨e, ft⟩ p en R s m below meth c hB ls hl hx
  subst e
  obtain ⟨hx0, hb0, -⟩ := hB.2.2.1 Z (zy_le_rf Z)
  obtain ⟨d, rfl⟩ : ∃ d', d = d' + 1 := ⟨d - 1, by omega⟩
  have l0 : ls[0]? = some (.val (.ref (zy_fa1 Z 29))) := hl (0, _) (List.mem_of_getElem? (i := 0) rfl)
  have l1 : ls[1]? = some (.val (.int y)) := hl (1, _) (List.mem_of_getElem? (i := 1) rfl)
  refine lv_iload_n hx0 hb0 rfl rfl l1 ?_
  refine lv_iconst (v := nI 0) hx0 hb0 rfl (by decide) ?_
  refine lv_sipush (v := nI 1000) hx0 hb0 rfl (by decide) ?_
  refine zy_isP (As := [.int y, .int (nI 0), .int (nI 1000)]) (rest := []) (q := (12, 400, 7, 0, 8, 19)) (y := zm_7) (List.mem_of_getElem? (i := 107) rfl) rfl rfl rfl (by decide) rfl (by decide) rfl hB (zo_isIn H HU) (Nat.zero_le _) hx rfl rfl (Nat.le_of_ble_eq_true rfl) ?_
  intro vs1 tys1 ws1 H1 locs1 hn1 hq1 hx1
  obtain ⟨rfl, b1, rfl, hb1⟩ := hq1
  refine lv_if_eq (tgt := 23) hx0 hb0 rfl (by decide) (fun h => ?_) (fun h => ?_)
  · skip
    have hc : ¬ zl_C t y := fun z => by
      rw [hb1.mpr ⟨z.1, z.2.1⟩] at h
      exact absurd h (by decide)
    refine lv_iconst (v := nI 4294967295) hx0 hb0 rfl (by decide) ?_
    exact zv_ret hB hx1 rfl rfl rfl ⟨_, t, rfl, ft, Or.inr ⟨hc, rfl, rfl⟩, zy_UN_rf⟩
  · skip
    have hb := hb1.mp (by cases b1; exact absurd rfl h; rfl)
    refine lv_aload_n hx0 hb0 rfl rfl l0 ?_
    refine zv_get hB hx1 (q := (12, 554, 12, 69, 6, 170)) (List.mem_of_getElem? (i := 7) rfl) rfl rfl rfl rfl rfl ft ?_
    refine lv_iload_n hx0 hb0 rfl rfl l1 ?_
    refine lv_iadd hx0 hb0 rfl ?_
    refine zv_ldcw hB (q := (12, 557, 100000, 0, 9, 111)) (List.mem_of_getElem? (i := 4) rfl) rfl rfl rfl ?_
    refine lv_icmp_le (tgt := 25) hx0 hb0 rfl (by decide) (fun h2 => ?_) (fun h2 => ?_)
    · skip
      refine lv_aload_n hx0 hb0 rfl rfl l0 ?_
      refine lv_dup hx0 hb0 rfl rfl ?_
      refine zv_get hB hx1 (q := (12, 554, 12, 69, 6, 170)) (List.mem_of_getElem? (i := 7) rfl) rfl rfl rfl rfl rfl ft ?_
      refine lv_iload_n hx0 hb0 rfl rfl l1 ?_
      refine lv_iadd hx0 hb0 rfl ?_
      refine zv_put hB hx1 (q := (12, 554, 12, 69, 6, 170)) (f := 69) (lo := 0) (hi2 := 4294967295) (y := t + y) (List.mem_of_getElem? (i := 7) rfl) rfl rfl rfl rfl rfl (by decide +kernel) (by decide +kernel) ⟨fun _ => ⟨_, rfl⟩, fun h => absurd h (by decide +kernel), fun h => absurd h (by decide +kernel)⟩ (by decide +kernel) (Nat.zero_le _) (by have := zx_bz_lt (t + y); omega) (by decide) (fun H2 locs2 ws2 hx2 hm2 hp2 hf2 => ?_)
      refine lv_aload_n hx0 hb0 rfl rfl l0 ?_
      refine zv_get hB hx2 (q := (12, 554, 12, 69, 6, 170)) (List.mem_of_getElem? (i := 7) rfl) rfl rfl rfl rfl rfl hp2 ?_
      refine zv_ret hB hx2 rfl rfl rfl ⟨_, t + y, rfl, hp2, Or.inl ⟨⟨hb.1, hb.2, h2⟩, rfl, rfl⟩, zv_UN_of (E := fun j f _ => j = zy_ru Z 29 ∧ f = 69) ⟨hm2, fun j g f a _ _ hE => hf2 j f a hE⟩ (fun j g f a hg z => ?_)⟩
      rw [zv_gl1 H (r := 29) (g := 41) (by decide) (by decide) rfl z.1 hg, z.2]
      exact ⟨by decide +kernel, by decide +kernel, by decide⟩
    · skip
      refine lv_iconst (v := nI 4294967295) hx0 hb0 rfl (by decide) ?_
      exact zv_ret hB hx1 rfl rfl rfl ⟨_, t, rfl, ft, Or.inr ⟨fun z => h2 z.2.2, rfl, rfl⟩, zy_UN_rf⟩
set_option maxHeartbeats 1000000 in
theorem zo_latX (H : zy_H0 Z) (HU : zy_UQ zy_fg Z) {y t : Int32} : zy_OkP l D N0 zy_T Z 67 0 (fun av ws => av = [.ref (zy_fa1 Z 1), .int y] ∧ zy_rd ws (zy_ru Z 12) 5 0 = some (.int t)) (fun _ ws vs ws' => ∃ v t', vs = [.int v] ∧ zy_rd ws' (zy_ru Z 12) 5 0 = some (.int t') ∧ zl_R t y v t' ∧ zy_UN (zy_gl Z) zl_Wx ws ws') := by
  refine zy_handP (y := zm_67) H HU rfl (fun av ws h => by rw [h.1]; exact Nat.le_of_ble_eq_true rfl) ?_
  intro d hd av tys ws ⟨e, ft⟩ p en R s m below meth c hB ls hl hx
  subst e
  obtain ⟨hx0, hb0, -⟩ := hB.2.2.1 Z (zy_le_rf Z)
  have l0 : ls[0]? = some (.val (.ref (zy_fa1 Z 1))) := hl (0, _) (List.mem_of_getElem? (i := 0) rfl)
  have l1 : ls[1]? = some (.val (.int y)) := hl (1, _) (List.mem_of_getElem? (i := 1) rfl)
  have hh : zy_rd ws (zy_ru Z 1) 5 0 = some (.ref (zy_fa1 Z 12)) := zv_refO H hx.1.2.2.2 (key := 1281) (r := 12) (g := 24) (by decide) (by decide) (by decide) (by decide +kernel)
  refine lv_iload_n hx0 hb0 rfl rfl l1 ?_
  refine lv_if_lt (tgt := 26) hx0 hb0 rfl (by decide) (fun h => ?_) (fun h => ?_)
  · skip
    refine lv_iconst (v := nI 4294967295) hx0 hb0 rfl (by decide) ?_
    exact zv_ret hB hx rfl rfl rfl ⟨_, t, rfl, ft, Or.inr ⟨fun z => z.1 (by rw [nI_0]; exact h), rfl, rfl⟩, zy_UN_rf⟩
  · skip
    refine lv_iload_n hx0 hb0 rfl rfl l1 ?_
    refine lv_sipush (v := nI 1000) hx0 hb0 rfl (by decide) ?_
    refine lv_icmp_gt (tgt := 26) hx0 hb0 rfl (by decide) (fun h2 => ?_) (fun h2 => ?_)
    · skip
      refine lv_iconst (v := nI 4294967295) hx0 hb0 rfl (by decide) ?_
      exact zv_ret hB hx rfl rfl rfl ⟨_, t, rfl, ft, Or.inr ⟨fun z => z.2.1 h2, rfl, rfl⟩, zy_UN_rf⟩
    · skip
      refine lv_aload_n hx0 hb0 rfl rfl l0 ?_
      refine zv_getO hB hx (q := (11, 46, 11, 5, 2, 209)) (r := 1) (g := 0) (ci := 11) (by decide) (by decide) rfl (by decide) rfl (by decide +kernel) (by decide) (List.mem_of_getElem? (i := 23) rfl) rfl rfl rfl rfl rfl hh ?_
      refine zv_getO hB hx (q := (11, 338, 1, 5, 2, 122)) (r := 12) (g := 24) (ci := 1) (by decide) (by decide) rfl (by decide) rfl (by decide +kernel) (by decide) (List.mem_of_getElem? (i := 25) rfl) rfl rfl rfl rfl rfl ft ?_
      refine lv_iload_n hx0 hb0 rfl rfl l1 ?_
      refine lv_iadd hx0 hb0 rfl ?_
      refine zv_ldcw hB (q := (11, 341, 100000, 0, 6, 42)) (List.mem_of_getElem? (i := 5) rfl) rfl rfl rfl ?_
      refine lv_icmp_le (tgt := 28) hx0 hb0 rfl (by decide) (fun h3 => ?_) (fun h3 => ?_)
      · skip
        refine lv_aload_n hx0 hb0 rfl rfl l0 ?_
        refine zv_getO hB hx (q := (11, 46, 11, 5, 2, 209)) (r := 1) (g := 0) (ci := 11) (by decide) (by decide) rfl (by decide) rfl (by decide +kernel) (by decide) (List.mem_of_getElem? (i := 23) rfl) rfl rfl rfl rfl rfl hh ?_
        refine lv_dup hx0 hb0 rfl rfl ?_
        refine zv_getO hB hx (q := (11, 338, 1, 5, 2, 122)) (r := 12) (g := 24) (ci := 1) (by decide) (by decide) rfl (by decide) rfl (by decide +kernel) (by decide) (List.mem_of_getElem? (i := 25) rfl) rfl rfl rfl rfl rfl ft ?_
        refine lv_iload_n hx0 hb0 rfl rfl l1 ?_
        refine lv_iadd hx0 hb0 rfl ?_
        refine zv_putO hB hx (q := (11, 338, 1, 5, 2, 122)) (f := 5) (lo := 0) (hi2 := 4294967295) (y := t + y) (r := 12) (g := 24) (ci := 1) (by decide) (by decide) rfl (by decide) rfl (by decide +kernel) (by decide) (List.mem_of_getElem? (i := 25) rfl) rfl rfl rfl rfl rfl (by decide +kernel) (by decide +kernel) ⟨fun _ => ⟨_, rfl⟩, fun h => absurd h (by decide +kernel), fun h => absurd h (by decide +kernel)⟩ (by decide +kernel) (Nat.zero_le _) (by have := zx_bz_lt (t + y); omega) (by decide) (fun H2 locs2 ws2 hx2 hm2 hp2 hf2 => ?_)
        have hh2 : zy_rd ws2 (zy_ru Z 1) 5 0 = some (.ref (zy_fa1 Z 12)) := (hf2 _ _ _ (fun z => zv_ne H (r := 1) (g := 0) (r' := 12) (g' := 24) (by decide) (by decide) rfl (by decide) (by decide) rfl (by decide) z.1)).trans hh
        refine lv_aload_n hx0 hb0 rfl rfl l0 ?_
        refine zv_getO hB hx2 (q := (11, 46, 11, 5, 2, 209)) (r := 1) (g := 0) (ci := 11) (by decide) (by decide) rfl (by decide) rfl (by decide +kernel) (by decide) (List.mem_of_getElem? (i := 23) rfl) rfl rfl rfl rfl rfl hh2 ?_
        refine zv_getO hB hx2 (q := (11, 338, 1, 5, 2, 122)) (r := 12) (g := 24) (ci := 1) (by decide) (by decide) rfl (by decide) rfl (by decide +kernel) (by decide) (List.mem_of_getElem? (i := 25) rfl) rfl rfl rfl rfl rfl hp2 ?_
        refine zv_ret hB hx2 rfl rfl rfl ⟨_, t + y, rfl, hp2, Or.inl ⟨⟨by rw [nI_0]; exact h, h2, h3⟩, rfl, rfl⟩, zv_UN_of (E := fun j f _ => j = zy_ru Z 12 ∧ f = 5) ⟨hm2, fun j g f a _ _ hE => hf2 j f a hE⟩ (fun j g f a hg z => ?_)⟩
        rw [zv_gl1 H (r := 12) (g := 24) (by decide) (by decide) rfl z.1 hg, z.2]
        exact ⟨by decide +kernel, by decide +kernel, by decide⟩
      · skip
        refine lv_iconst (v := nI 4294967295) hx0 hb0 rfl (by decide) ?_
        exact zv_ret hB hx rfl rfl rfl ⟨_, t, rfl, ft, Or.inr ⟨fun z => h3 z.2.2, rfl, rfl⟩, zy_UN_rf⟩
end ZLA
