/-! the rule's reader: its small methods -/
theorem zv_flo {y : Int32} {k : Nat} (h : zy_lo k = 0) : zy_lo k ≤ zx_bz y := by rw [h]; exact Nat.zero_le _
theorem zv_fhi {y : Int32} {k : Nat} (h : zy_hi k = 4294967295) : zx_bz y ≤ zy_hi k := by
  have := zx_bz_lt y
  rw [h]
  omega
/-- an element of a fixed array of ints -/
theorem zv_el {Z : zy_V} {tys : List (ClassId × FieldType)} {ws : va_W} (hH : zy_H0 Z) (hR : zy_HR Z zy_T tys ws) {r g k : Nat} (h0 : 0 < r) (h1 : r < 100) (hfg : zy_fg[r]? = some g) (hg : g < 512) (hT : zy_T[g]? = some k) (ht : 3 ≤ k % 16 ∧ k % 16 < 6) {i : Nat} (hi : i < zx_cn k) : ∃ y : Int32, zy_rd ws (zy_ru Z r) 0 i = some (.int y) ∧ zy_lo k ≤ zx_bz y ∧ zx_bz y ≤ zy_hi k := by
  have hr := zv_rr hH h0 h1 hfg hg
  obtain ⟨j, ad, cA, f, e1, h4, hgj, hru, h6, h7⟩ := zy_acell hR hr (by omega) (k := k) (by rw [show ((r + 256 * g) * 16 + 2) / 16 / 256 = g by omega]; exact hT) (Or.inl ht.2)
  have hj : zy_ru Z r = j := by
    have := hru (by omega)
    rw [show ((r + 256 * g) * 16 + 2) / 16 % 256 = r by omega] at this
    exact this
  have h8 := h7 i hi
  have eet : zy_et k i = zy_c7v (zy_lo k) (zy_hi k) := by
    unfold zy_et
    rw [show Nat.beq (zx_tg k) 9 = false from by
      cases q : Nat.beq (zx_tg k) 9
      · rfl
      · have : k % 16 = 9 := zx_beq_t q
        omega]
    rfl
  rw [eet] at h8
  obtain ⟨a1, a2⟩ := zy_7_r (zy_lo_lt k) (zy_hi_lt k) h8
  exact ⟨f i, by rw [hj]; exact zy_rd_arr h4 hi, a1, a2⟩
theorem zv_nn {y : Int32} {n : Nat} (h1 : 2147483648 ≤ zx_bz y) (h2 : zx_bz y ≤ 2147483648 + n) : ∃ k, k ≤ n ∧ y = nI k := by
  obtain ⟨k, -, e1, e2⟩ := zy_nn h1
  exact ⟨k, by omega, e1⟩
/- by types -/
def zq_mp : zy_Co := ((236, 1, 3066609536817292168025460463838449197726294747557083344129055009195879940487580173256791451113421383547167273992719661557574610506768839594332909054689255988517937811065276649217432806947528950261916592939128490478256976881958152446979626279483749529263136799097301734648712390857066508466955706606775897583077031521390805833526960553056687263572569149978843506928576421216383014965189345081673722508414355108647156750364049140404309404785023599724470629495907904210417626728368432607691626488423035622756295505994157511534270345284472482330676393637320362872024808250682694975043925358957210162981748211485246027890769161354010332554839423092924110973748954604626274215717821058494111568928408295549073092950405956111398897095858881837893211970672643066584461769544822295886768887525785723990585457332567093897193011436595056390564292819745294365719158711614241373543912602725482404413300921130850478039764518731546875376674050338921561305701854475873249477391848165583273227438718447647542078805055067054759514652613964300206714506339608145809564121534186195434160711092090455574348867266306620717600655876800481592306906112309430143091536199495152841084183849503541563047187514275212761924206959803781285011683512055636804915730184304612151596696060919560564763054530386533443864240243800646173491861423352364012426421537478446629193744773855962987420771299873758615244808403243355153499244121435970734080898874783139462424454517027341295156830317428075150733779254494387761560376082788798377893283325349728766581249060029101656510012410926398672527932343567941283593634854207488, 0), [168402], [(1344541, 4)], [([], [(1344541, 0, 0, 147573952692755628119)])])
def zh_mp : zy_Ch := (200, ([], zy_mk), [], 0, [])
theorem zk_mp : zy_ck zy_T zy_fg zq_mp zh_mp zm_236 = true := by decide +kernel
theorem zo_mp {l : Launch} {D : va_G} {N0 : Nat} {Z : zy_V} (H : zy_H0 Z) : zy_Ok l D N0 zy_T Z zq_mp := zy_kk H (h := zh_mp) (y := zm_236) rfl (by decide +kernel) zy_g2 zk_mp
def zq_iw : zy_Co := ((252, 0, 0, 0), [168402, 5], [], [([147573952624036151319], [])])
def zh_iw : zy_Ch := (200, ([], zy_mk), [], 0, [])
theorem zk_iw : zy_ck zy_T zy_fg zq_iw zh_iw zm_252 = true := by decide +kernel
theorem zo_iw {l : Launch} {D : va_G} {N0 : Nat} {Z : zy_V} (H : zy_H0 Z) : zy_Ok l D N0 zy_T Z zq_iw := zy_kk H (h := zh_iw) (y := zm_252) rfl (by decide +kernel) zy_g2 zk_iw
section ZLF
variable {l : Launch} {D : va_G} {N0 : Nat} {Z : zy_V}
def zr_push (Z : zy_V) (k : Nat) (x y : Int32) (ws ws' : va_W) : Prop := zv_Fm Z ws ws' (fun j f a => (j = zy_ru Z 29 ∧ f = 47) ∨ (j = zy_ru Z 61 ∧ f = 0 ∧ a = k) ∨ (j = zy_ru Z 62 ∧ f = 0 ∧ a = k)) ∧ zy_rd ws' (zy_ru Z 29) 47 0 = some (.int (nI (k + 1))) ∧ zy_rd ws' (zy_ru Z 61) 0 k = some (.int x) ∧ zy_rd ws' (zy_ru Z 62) 0 k = some (.int y)
theorem zo_push (H : zy_H0 Z) (HU : zy_UQ zy_fg Z) {k : Nat} {x y : Int32} (hk : k < 90) : zy_OkP l D N0 zy_T Z 248 0 (fun av ws => av = [.ref (zy_fa1 Z 29), .int x, .int y] ∧ zy_rd ws (zy_ru Z 29) 47 0 = some (.int (nI k))) (fun _ ws vs ws' => vs = [] ∧ zr_push Z k x y ws ws') := by
  refine zy_handP (y := zm_248) H HU rfl (fun av ws h => by rw [h.1]; exact Nat.le_of_ble_eq_true rfl) ?_
  intro d hd av tys ws ⟨e, hc⟩ p en R s m below meth c hB ls hl hx
  subst e
  obtain ⟨hx0, hb0, -⟩ := hB.2.2.1 Z (zy_le_rf Z)
  have l0 : ls[0]? = some (.val (.ref (zy_fa1 Z 29))) := hl (0, _) (List.mem_of_getElem? (i := 0) rfl)
  have l1 : ls[1]? = some (.val (.int x)) := hl (1, _) (List.mem_of_getElem? (i := 1) rfl)
  have l2 : ls[2]? = some (.val (.int y)) := hl (2, _) (List.mem_of_getElem? (i := 2) rfl)
  refine lv_aload_n hx0 hb0 rfl rfl l0 ?_
  refine zv_getA hB hx (q := (12, 110, 12, 40, 6, 141)) (r := 61) (g := 73) (List.mem_of_getElem? (i := 164) rfl) rfl rfl rfl rfl rfl (by decide) (by decide) (by decide) (by decide) (by decide +kernel) ?_
  refine lv_aload_n hx0 hb0 rfl rfl l0 ?_
  refine zv_get hB hx (q := (12, 360, 12, 47, 6, 148)) (List.mem_of_getElem? (i := 162) rfl) rfl rfl rfl rfl rfl hc ?_
  refine lv_iload_n hx0 hb0 rfl rfl l1 ?_
  refine zv_ast hB hx (r := 61) (g := 73) (by decide) (by decide) rfl (by decide) rfl (by decide) rfl (show k < 90 from hk) (by decide) (zv_flo (by decide +kernel)) (zv_fhi (by decide +kernel)) (fun H1 locs1 ws1 hx1 hm1 hp1 hf1 => ?_)
  have hc1 : zy_rd ws1 (zy_ru Z 29) 47 0 = some (.int (nI k)) := (hf1 _ _ _ (fun z => absurd z.2.1 (by decide))).trans hc
  refine lv_aload_n hx0 hb0 rfl rfl l0 ?_
  refine zv_getA hB hx1 (q := (12, 113, 12, 41, 6, 142)) (r := 62) (g := 74) (List.mem_of_getElem? (i := 165) rfl) rfl rfl rfl rfl rfl (by decide) (by decide) (by decide) (by decide) (by decide +kernel) ?_
  refine lv_aload_n hx0 hb0 rfl rfl l0 ?_
  refine zv_get hB hx1 (q := (12, 360, 12, 47, 6, 148)) (List.mem_of_getElem? (i := 162) rfl) rfl rfl rfl rfl rfl hc1 ?_
  refine lv_iload_n hx0 hb0 rfl rfl l2 ?_
  refine zv_ast hB hx1 (r := 62) (g := 74) (by decide) (by decide) rfl (by decide) rfl (by decide) rfl (show k < 90 from hk) (by decide) (zv_flo (by decide +kernel)) (zv_fhi (by decide +kernel)) (fun H2 locs2 ws2 hx2 hm2 hp2 hf2 => ?_)
  have hc2 : zy_rd ws2 (zy_ru Z 29) 47 0 = some (.int (nI k)) := (hf2 _ _ _ (fun z => absurd z.2.1 (by decide))).trans hc1
  refine lv_aload_n hx0 hb0 rfl rfl l0 ?_
  refine lv_dup hx0 hb0 rfl rfl ?_
  refine zv_get hB hx2 (q := (12, 360, 12, 47, 6, 148)) (List.mem_of_getElem? (i := 162) rfl) rfl rfl rfl rfl rfl hc2 ?_
  refine lv_iconst (v := nI 1) hx0 hb0 rfl (by decide) ?_
  refine lv_iadd hx0 hb0 rfl ?_
  rw [nI_add]
  refine zv_put hB hx2 (q := (12, 360, 12, 47, 6, 148)) (f := 47) (lo := 2147483648) (hi2 := 2147483738) (y := nI (k + 1)) (List.mem_of_getElem? (i := 162) rfl) rfl rfl rfl rfl rfl (by decide +kernel) (by decide +kernel) ⟨fun _ => ⟨_, rfl⟩, fun h => absurd h (by decide +kernel), fun h => absurd h (by decide +kernel)⟩ (by decide +kernel) (by rw [zy_bz_n (by omega)]; omega) (by rw [zy_bz_n (by omega)]; omega) (by decide) (fun H3 locs3 ws3 hx3 hm3 hp3 hf3 => ?_)
  exact zv_retv hB hx3 rfl rfl ⟨rfl, ⟨(hm3.trans hm2).trans hm1, fun j g f a hg hf hE => by rw [hf3 j f a (fun z => hE (Or.inl z)), hf2 j f a (fun z => hE (Or.inr (Or.inr z))), hf1 j f a (fun z => hE (Or.inr (Or.inl z)))]⟩, hp3, by rw [hf3 _ _ _ (fun z => absurd z.2 (by decide)), hf2 _ _ _ (fun z => zv_ne H (r := 61) (g := 73) (r' := 62) (g' := 74) (by decide) (by decide) rfl (by decide) (by decide) rfl (by decide) z.1), hp1], by rw [hf3 _ _ _ (fun z => absurd z.2 (by decide)), hp2]⟩
def zr_emit (Z : zy_V) (k : Nat) (x y : Int32) (ws ws' : va_W) : Prop := zv_Fm Z ws ws' (fun j f a => (j = zy_ru Z 29 ∧ f = 45) ∨ (j = zy_ru Z 59 ∧ f = 0 ∧ a = k) ∨ (j = zy_ru Z 60 ∧ f = 0 ∧ a = k)) ∧ zy_rd ws' (zy_ru Z 29) 45 0 = some (.int (nI (k + 1))) ∧ zy_rd ws' (zy_ru Z 59) 0 k = some (.int x) ∧ zy_rd ws' (zy_ru Z 60) 0 k = some (.int y)
theorem zo_emit (H : zy_H0 Z) (HU : zy_UQ zy_fg Z) {k : Nat} {x y : Int32} (hk : k < 1120) : zy_OkP l D N0 zy_T Z 249 0 (fun av ws => av = [.ref (zy_fa1 Z 29), .int x, .int y] ∧ zy_rd ws (zy_ru Z 29) 45 0 = some (.int (nI k))) (fun _ ws vs ws' => vs = [] ∧ zr_emit Z k x y ws ws') := by
  refine zy_handP (y := zm_249) H HU rfl (fun av ws h => by rw [h.1]; exact Nat.le_of_ble_eq_true rfl) ?_
  intro d hd av tys ws ⟨e, hc⟩ p en R s m below meth c hB ls hl hx
  subst e
  obtain ⟨hx0, hb0, -⟩ := hB.2.2.1 Z (zy_le_rf Z)
  have l0 : ls[0]? = some (.val (.ref (zy_fa1 Z 29))) := hl (0, _) (List.mem_of_getElem? (i := 0) rfl)
  have l1 : ls[1]? = some (.val (.int x)) := hl (1, _) (List.mem_of_getElem? (i := 1) rfl)
  have l2 : ls[2]? = some (.val (.int y)) := hl (2, _) (List.mem_of_getElem? (i := 2) rfl)
  refine lv_aload_n hx0 hb0 rfl rfl l0 ?_
  refine zv_getA hB hx (q := (12, 104, 12, 38, 6, 139)) (r := 59) (g := 71) (List.mem_of_getElem? (i := 122) rfl) rfl rfl rfl rfl rfl (by decide) (by decide) (by decide) (by decide) (by decide +kernel) ?_
  refine lv_aload_n hx0 hb0 rfl rfl l0 ?_
  refine zv_get hB hx (q := (12, 294, 12, 45, 6, 146)) (List.mem_of_getElem? (i := 161) rfl) rfl rfl rfl rfl rfl hc ?_
  refine lv_iload_n hx0 hb0 rfl rfl l1 ?_
  refine zv_ast hB hx (r := 59) (g := 71) (by decide) (by decide) rfl (by decide) rfl (by decide) rfl (show k < 1120 from hk) (by decide) (zv_flo (by decide +kernel)) (zv_fhi (by decide +kernel)) (fun H1 locs1 ws1 hx1 hm1 hp1 hf1 => ?_)
  have hc1 : zy_rd ws1 (zy_ru Z 29) 45 0 = some (.int (nI k)) := (hf1 _ _ _ (fun z => absurd z.2.1 (by decide))).trans hc
  refine lv_aload_n hx0 hb0 rfl rfl l0 ?_
  refine zv_getA hB hx1 (q := (12, 107, 12, 39, 6, 140)) (r := 60) (g := 72) (List.mem_of_getElem? (i := 124) rfl) rfl rfl rfl rfl rfl (by decide) (by decide) (by decide) (by decide) (by decide +kernel) ?_
  refine lv_aload_n hx0 hb0 rfl rfl l0 ?_
  refine zv_get hB hx1 (q := (12, 294, 12, 45, 6, 146)) (List.mem_of_getElem? (i := 161) rfl) rfl rfl rfl rfl rfl hc1 ?_
  refine lv_iload_n hx0 hb0 rfl rfl l2 ?_
  refine zv_ast hB hx1 (r := 60) (g := 72) (by decide) (by decide) rfl (by decide) rfl (by decide) rfl (show k < 1120 from hk) (by decide) (zv_flo (by decide +kernel)) (zv_fhi (by decide +kernel)) (fun H2 locs2 ws2 hx2 hm2 hp2 hf2 => ?_)
  have hc2 : zy_rd ws2 (zy_ru Z 29) 45 0 = some (.int (nI k)) := (hf2 _ _ _ (fun z => absurd z.2.1 (by decide))).trans hc1
  refine lv_aload_n hx0 hb0 rfl rfl l0 ?_
  refine lv_dup hx0 hb0 rfl rfl ?_
  refine zv_get hB hx2 (q := (12, 294, 12, 45, 6, 146)) (List.mem_of_getElem? (i := 161) rfl) rfl rfl rfl rfl rfl hc2 ?_
  refine lv_iconst (v := nI 1) hx0 hb0 rfl (by decide) ?_
  refine lv_iadd hx0 hb0 rfl ?_
  rw [nI_add]
  refine zv_put hB hx2 (q := (12, 294, 12, 45, 6, 146)) (f := 45) (lo := 2147483648) (hi2 := 2147484768) (y := nI (k + 1)) (List.mem_of_getElem? (i := 161) rfl) rfl rfl rfl rfl rfl (by decide +kernel) (by decide +kernel) ⟨fun _ => ⟨_, rfl⟩, fun h => absurd h (by decide +kernel), fun h => absurd h (by decide +kernel)⟩ (by decide +kernel) (by rw [zy_bz_n (by omega)]; omega) (by rw [zy_bz_n (by omega)]; omega) (by decide) (fun H3 locs3 ws3 hx3 hm3 hp3 hf3 => ?_)
  exact zv_retv hB hx3 rfl rfl ⟨rfl, ⟨(hm3.trans hm2).trans hm1, fun j g f a hg hf hE => by rw [hf3 j f a (fun z => hE (Or.inl z)), hf2 j f a (fun z => hE (Or.inr (Or.inr z))), hf1 j f a (fun z => hE (Or.inr (Or.inl z)))]⟩, hp3, by rw [hf3 _ _ _ (fun z => absurd z.2 (by decide)), hf2 _ _ _ (fun z => zv_ne H (r := 59) (g := 71) (r' := 60) (g' := 72) (by decide) (by decide) rfl (by decide) (by decide) rfl (by decide) z.1), hp1], by rw [hf3 _ _ _ (fun z => absurd z.2 (by decide)), hp2]⟩
def zr_sgn (Z : zy_V) (ws : va_W) (k : Nat) : Int32 := match zy_rd ws (zy_ru Z 29) 3 0 with
  | some (.int sz) => if nI k < sz then (match zy_rd ws (zy_ru Z 31) 0 k with
    | some (.int ch) => ch &&& nI 255
    | _ => nI 0) else nI 0
  | _ => nI 0
theorem zo_sign (H : zy_H0 Z) (HU : zy_UQ zy_fg Z) {k : Nat} (hk : k ≤ 1600) : zy_OkP l D N0 zy_T Z 240 0 (fun av _ => av = [.ref (zy_fa1 Z 29), .int (nI k)]) (fun _ ws vs ws' => ws' = ws ∧ vs = [.int (zr_sgn Z ws k)]) := by
  refine zy_handP (y := zm_240) H HU rfl (fun av ws h => by rw [h]; exact Nat.le_of_ble_eq_true rfl) ?_
  intro d hd av tys ws e p en R s m below meth c hB ls hl hx
  subst e
  obtain ⟨hx0, hb0, -⟩ := hB.2.2.1 Z (zy_le_rf Z)
  have l0 : ls[0]? = some (.val (.ref (zy_fa1 Z 29))) := hl (0, _) (List.mem_of_getElem? (i := 0) rfl)
  have l1 : ls[1]? = some (.val (.int (nI k))) := hl (1, _) (List.mem_of_getElem? (i := 1) rfl)
  obtain ⟨sz, hsz, s1, s2⟩ := zv_int H hx.1.2.2.2 (key := 1344285) (lo := 2147483648) (hi := 2147485248) (by decide +kernel) (by decide) (by decide)
  have hsz : zy_rd ws (zy_ru Z 29) 3 0 = some (.int sz) := hsz
  refine lv_iload_n hx0 hb0 rfl rfl l1 ?_
  refine lv_aload_n hx0 hb0 rfl rfl l0 ?_
  refine zv_get hB hx (q := (12, 176, 12, 3, 6, 104)) (List.mem_of_getElem? (i := 145) rfl) rfl rfl rfl rfl rfl hsz ?_
  refine lv_icmp_ge (tgt := 21) hx0 hb0 rfl (by decide) (fun h => ?_) (fun h => ?_)
  · have e1 : zr_sgn Z ws k = nI 0 := by
      unfold zr_sgn
      rw [hsz]
      exact if_neg (fun z => zx_nle.mpr h z)
    refine lv_iconst (v := nI 0) hx0 hb0 rfl (by decide) ?_
    exact zv_ret hB hx rfl rfl rfl ⟨rfl, by rw [e1]⟩
  · have h : nI k < sz := Classical.byContradiction (fun z => h (zx_nle.mp z))
    have hk2 : k < 1600 := by
      rw [zx_lt', zy_bz_n (by omega)] at h
      omega
    obtain ⟨ch, hch, -⟩ := zv_el H hx.1.2.2.2 (r := 31) (g := 43) (by decide) (by decide) rfl (by decide) rfl (by decide) (i := k) hk2
    have e1 : zr_sgn Z ws k = ch &&& nI 255 := by
      unfold zr_sgn
      rw [hsz]
      refine (if_pos h).trans ?_
      rw [hch]
    refine lv_aload_n hx0 hb0 rfl rfl l0 ?_
    refine zv_getA hB hx (q := (12, 13, 12, 1, 6, 102)) (r := 31) (g := 43) (List.mem_of_getElem? (i := 146) rfl) rfl rfl rfl rfl rfl (by decide) (by decide) (by decide) (by decide) (by decide +kernel) ?_
    refine lv_iload_n hx0 hb0 rfl rfl l1 ?_
    refine zv_ald hB hx (r := 31) (g := 43) (by decide) (by decide) rfl (by decide) rfl (Or.inl (by decide)) (Or.inr ⟨Or.inl (by decide), rfl⟩) rfl hk2 (by decide) hch ?_
    refine lv_sipush (v := nI 255) hx0 hb0 rfl (by decide) ?_
    refine lv_iand hx0 hb0 rfl ?_
    refine lv_goto (tgt := 22) hx0 hb0 rfl (by decide) ?_
    exact zv_ret hB hx rfl rfl rfl ⟨rfl, by rw [e1]⟩
theorem zo_ish (H : zy_H0 Z) (HU : zy_UQ zy_fg Z) {cc : Int32} : zy_OkP l D N0 zy_T Z 243 1 (fun av _ => av = [.ref (zy_fa1 Z 29), .int cc]) (fun _ ws vs ws' => ws' = ws ∧ ∃ b : Bool, vs = [.int (if b then nI 1 else nI 0)] ∧ (b = true → zy_rd ws (zy_ru Z 29) 8 0 = some (.int (nI 5)) ∧ ∃ k, k ≤ 1600 ∧ zy_rd ws (zy_ru Z 29) 6 0 = some (.int (nI k)) ∧ zr_sgn Z ws k = cc)) := by
  refine zy_handP (y := zm_243) H HU rfl (fun av ws h => by rw [h]; exact Nat.le_of_ble_eq_true rfl) ?_
  intro d hd av tys ws e p en R s m below meth c hB ls hl hx
  subst e
  obtain ⟨hx0, hb0, -⟩ := hB.2.2.1 Z (zy_le_rf Z)
  have l0 : ls[0]? = some (.val (.ref (zy_fa1 Z 29))) := hl (0, _) (List.mem_of_getElem? (i := 0) rfl)
  have l1 : ls[1]? = some (.val (.int cc)) := hl (1, _) (List.mem_of_getElem? (i := 1) rfl)
  obtain ⟨d, rfl⟩ : ∃ d', d = d' + 1 := ⟨d - 1, by omega⟩
  obtain ⟨tk, htk, t1, t2⟩ := zv_int H hx.1.2.2.2 (key := 1345565) (lo := 2147483648) (hi := 2147483653) (by decide +kernel) (by decide) (by decide)
  obtain ⟨at1, hat, a1, a2⟩ := zv_int H hx.1.2.2.2 (key := 1345053) (lo := 2147483648) (hi := 2147485248) (by decide +kernel) (by decide) (by decide)
  obtain ⟨k, hk, rfl⟩ := zv_nn (n := 1600) a1 a2
  refine lv_aload_n hx0 hb0 rfl rfl l0 ?_
  refine zv_get hB hx (q := (12, 242, 12, 8, 6, 109)) (List.mem_of_getElem? (i := 150) rfl) rfl rfl rfl rfl rfl htk ?_
  refine lv_iconst (v := nI 5) hx0 hb0 rfl (by decide) ?_
  refine lv_icmp_ne (tgt := 24) hx0 hb0 rfl (by decide) (fun h => ?_) (fun h => ?_)
  · refine lv_iconst (v := nI 0) hx0 hb0 rfl (by decide) ?_
    exact zv_ret hB hx rfl rfl rfl ⟨rfl, false, rfl, fun z => by cases z⟩
  · subst h
    refine lv_aload_n hx0 hb0 rfl rfl l0 ?_
    refine lv_aload_n hx0 hb0 rfl rfl l0 ?_
    refine zv_get hB hx (q := (12, 235, 12, 6, 6, 107)) (List.mem_of_getElem? (i := 158) rfl) rfl rfl rfl rfl rfl hat ?_
    refine zv_ivM (As := [.int (nI k)]) (rest := []) (q := (12, 238, 240, 0, 7, 86)) (y := zm_240) (zo_sign H HU hk) hB hx (List.mem_of_getElem? (i := 285) rfl) rfl rfl rfl (by decide) rfl (by decide) rfl rfl (Nat.zero_le _) rfl rfl (by decide) ?_
    intro vs1 tys1 ws1 H1 locs1 hn1 hq1 hx1
    obtain ⟨rfl, rfl⟩ := hq1
    refine lv_iload_n hx0 hb0 rfl rfl l1 ?_
    refine lv_icmp_ne (tgt := 24) hx0 hb0 rfl (by decide) (fun h => ?_) (fun h => ?_)
    · refine lv_iconst (v := nI 0) hx0 hb0 rfl (by decide) ?_
      exact zv_ret hB hx1 rfl rfl rfl ⟨rfl, false, rfl, fun z => by cases z⟩
    · refine lv_iconst (v := nI 1) hx0 hb0 rfl (by decide) ?_
      refine lv_goto (tgt := 25) hx0 hb0 rfl (by decide) ?_
      exact zv_ret hB hx1 rfl rfl rfl ⟨rfl, true, rfl, fun _ => ⟨htk, k, hk, hat, h⟩⟩
theorem zo_good (H : zy_H0 Z) (HU : zy_UQ zy_fg Z) {fk : Int32} : zy_OkP l D N0 zy_T Z 233 0 (fun av ws => av = [.ref (zy_fa1 Z 29)] ∧ zy_rd ws (zy_ru Z 29) 4 0 = some (.int fk)) (fun _ ws vs ws' => ws' = ws ∧ vs = [.int (if fk = 0 then nI 1 else nI 0)]) := by
  refine zy_handP (y := zm_233) H HU rfl (fun av ws h => by rw [h.1]; exact Nat.le_of_ble_eq_true rfl) ?_
  intro d hd av tys ws ⟨e, hfk⟩ p en R s m below meth c hB ls hl hx
  subst e
  obtain ⟨hx0, hb0, -⟩ := hB.2.2.1 Z (zy_le_rf Z)
  have l0 : ls[0]? = some (.val (.ref (zy_fa1 Z 29))) := hl (0, _) (List.mem_of_getElem? (i := 0) rfl)
  refine lv_aload_n hx0 hb0 rfl rfl l0 ?_
  refine zv_get hB hx (q := (12, 179, 12, 4, 6, 105)) (List.mem_of_getElem? (i := 140) rfl) rfl rfl rfl rfl rfl hfk ?_
  refine lv_if_ne (tgt := 11) hx0 hb0 rfl (by decide) (fun h => ?_) (fun h => ?_)
  · refine lv_iconst (v := nI 0) hx0 hb0 rfl (by decide) ?_
    exact zv_ret hB hx rfl rfl rfl ⟨rfl, by rw [if_neg h]⟩
  · refine lv_iconst (v := nI 1) hx0 hb0 rfl (by decide) ?_
    refine lv_goto (tgt := 12) hx0 hb0 rfl (by decide) ?_
    exact zv_ret hB hx rfl rfl rfl ⟨rfl, by rw [if_pos h]⟩
end ZLF
