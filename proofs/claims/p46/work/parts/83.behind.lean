/-! what stands behind a unit is read -/
section ZBH
variable {l : Launch} {D : va_G} {N0 : Nat} {Z : zy_V} {p : Program} {en : Env} {R : Room} {s : State} {m : MethodId} {args : Array Value} {below : List Frame} {meth : Method} {c : Code}
theorem zv_lt {a b : Nat} (ha : a < 2147483648) (hb : b < 2147483648) : nI a < nI b ↔ a < b := by
  rw [zx_lt', zy_bz_n ha, zy_bz_n hb]
  omega
theorem zr_emit_t {ws ws' : va_W} (H : zy_H0 Z) {k : Nat} {x y : Int32} (h : zr_emit Z k x y ws ws') : ∀ a, zy_rd ws' (zy_ru Z 31) 0 a = zy_rd ws (zy_ru Z 31) 0 a := by
  obtain ⟨q1, q2⟩ := zr_two (x := x) (y := y) H (r1 := 59) (g1 := 71) (r2 := 60) (g2 := 72) ⟨by decide, by decide, rfl, by decide⟩ ⟨by decide, by decide, rfl, by decide⟩ h.1
  exact fun a => q2 31 43 a (by decide) (by decide) rfl (by decide) (Or.inl (by decide)) (Or.inl (by decide))
set_option maxHeartbeats 1000000 in
set_option maxRecDepth 20000 in
theorem zo_beh_p {d : Nat} (hB : zy_Fr p l R s m args meth c N0 Z zm_247 (d + 1)) (hd : 5 ≤ d) {b : Nat} (hb : b < 2) {ws0 : va_W} {r mm U : Nat} {P : List Value → va_W → Prop} (hP : ∀ vs ws', zr_Po Z b ws0 mm vs ws' → P vs ws') {S : List Nat} {w n : Nat} {ws : va_W} {ls : Array Slot} {H : Heap} {locs : List Loc} {tys : List (ClassId × FieldType)} (hx : zy_Mx D N0 zy_T Z s zm_247 ls H locs tys ws) (hJ : zr_J Z b ws0 ws false S w U n) (hm : zr_m false S w U ≤ mm) (l0 : ls[0]? = some (.val (.ref (zy_fa1 Z 29)))) {sg : Int32} (hr : 1 ≤ r ∧ r ≤ 6 ∧ r ≠ 3) (hok : zr_ok sg) : W p l en R s m args below meth c H locs 0 0 (MQ below (zy_QP D N0 zy_T Z P) args s 0 0 (zx_A N0)) (F0 m 138 ls [.int sg, .int (nI r), .ref (zy_fa1 Z 29)]) := by
  obtain ⟨hx0, hb0, -⟩ := hB.2.2.1 Z (zy_le_rf Z)
  have hJ' := hJ
  obtain ⟨hW, ⟨f4, ⟨ek, he, f7⟩, f47, f46, f48, f45⟩, hSt, hPu, hPo⟩ := hJ'
  obtain ⟨hl1, hl2⟩ := zr_Pu_len hPu
  refine zv_ivM (As := [.int (nI r), .int sg]) (rest := []) (q := (12, 366, 248, 0, 7, 211)) (y := zm_248) (zo_push hB.1 hB.2.1 (k := S.length + 1) (x := nI r) (y := sg) (by omega)) hB hx (List.mem_of_getElem? (i := 290) rfl) rfl rfl rfl (by decide) rfl (by decide) rfl rfl (Nat.zero_le _) ⟨rfl, f47⟩ rfl (Nat.le_of_ble_eq_true rfl) ?_
  intro vs1 tys1 ws1 H1 locs1 hn1 hq1 hx1
  obtain ⟨rfl, hpu⟩ := hq1
  obtain ⟨p1, p59, p61, p62, pW⟩ := zr_push_fr (b := b) (ws0 := ws0) hB.1 hpu
  have hJ1 := zr_J_bin hJ hr hok (pW hW) ⟨(p1 4 (by decide) (by decide)).trans f4, ⟨ek, he, (p1 7 (by decide) (by decide)).trans f7⟩, hpu.2.1, (p1 46 (by decide) (by decide)).trans f46, (p1 48 (by decide) (by decide)).trans f48, (p1 45 (by decide) (by decide)).trans f45⟩ p61 p62 hpu.2.2.1 hpu.2.2.2 p59
  refine lv_aload_n hx0 hb0 rfl rfl l0 ?_
  refine zv_ivM (As := []) (rest := []) (q := (12, 274, 238, 0, 7, 82)) (y := zm_238) (zo_go2 hB.1 hB.2.1) hB hx1 (List.mem_of_getElem? (i := 271) rfl) rfl rfl rfl (by decide) rfl (by decide) rfl rfl (by omega) ⟨rfl, ek, he, (p1 7 (by decide) (by decide)).trans f7⟩ rfl (Nat.le_of_ble_eq_true rfl) ?_
  intro vs2 tys2 ws2 H2 locs2 hn2 hq2 hx2
  obtain ⟨rfl, g1, g2, g3⟩ := hq2
  have hJ2 := zr_J_lx hB.1 hJ1 g1 (g3.trans ((p1 4 (by decide) (by decide)).trans f4)) g2
  refine lv_iconst (v := nI 1) hx0 hb0 rfl (by decide) ?_
  refine zv_ret hB hx2 rfl rfl rfl (hP _ _ ⟨1, by decide, rfl, Or.inr (Or.inr ⟨r :: S, w, U, n, hJ2, ?_⟩)⟩)
  have h7 := hPu.2.1
  unfold zr_m at hm ⊢
  simp at hm ⊢
  omega
set_option maxHeartbeats 1000000 in
set_option maxRecDepth 20000 in
theorem zo_beh_z {d : Nat} (hB : zy_Fr p l R s m args meth c N0 Z zm_247 (d + 1)) (hd : 5 ≤ d) {b : Nat} (hb : b < 2) {ws0 : va_W} {r mm U : Nat} {P : List Value → va_W → Prop} (hP : ∀ vs ws', zr_Po Z b ws0 mm vs ws' → P vs ws') {S : List Nat} {w n : Nat} {ws : va_W} {ls : Array Slot} {H : Heap} {locs : List Loc} {tys : List (ClassId × FieldType)} (hx : zy_Mx D N0 zy_T Z s zm_247 ls H locs tys ws) (hJ : zr_J Z b ws0 ws false S w U n) (hm : zr_m false S w U ≤ mm) (l0 : ls[0]? = some (.val (.ref (zy_fa1 Z 29)))) (hEx : S = [] ∨ ∃ S1, S = 7 :: S1) : W p l en R s m args below meth c H locs 0 0 (MQ below (zy_QP D N0 zy_T Z P) args s 0 0 (zx_A N0)) (F0 m 147 ls []) := by
  obtain ⟨hx0, hb0, -⟩ := hB.2.2.1 Z (zy_le_rf Z)
  have hJ' := hJ
  obtain ⟨hW, ⟨f4, ⟨ek, he, f7⟩, f47, f46, f48, f45⟩, hSt, hPu, hPo⟩ := hJ'
  obtain ⟨hl1, hl2⟩ := zr_Pu_len hPu
  refine lv_aload_n hx0 hb0 rfl rfl l0 ?_
  refine lv_dup hx0 hb0 rfl rfl ?_
  refine zv_get hB hx (q := (12, 360, 12, 47, 6, 148)) (List.mem_of_getElem? (i := 162) rfl) rfl rfl rfl rfl rfl f47 ?_
  refine lv_iconst (v := nI 1) hx0 hb0 rfl (by decide) ?_
  refine lv_isub hx0 hb0 rfl ?_
  rw [zv_sub (by omega), Nat.add_sub_cancel]
  refine zv_put hB hx (q := (12, 360, 12, 47, 6, 148)) (f := 47) (lo := 2147483648) (hi2 := 2147483738) (y := nI S.length) (List.mem_of_getElem? (i := 162) rfl) rfl rfl rfl rfl rfl (by decide +kernel) (by decide +kernel) ⟨fun _ => ⟨_, rfl⟩, fun h => absurd h (by decide +kernel), fun h => absurd h (by decide +kernel)⟩ (by decide +kernel) (by rw [zy_bz_n (by omega)]; omega) (by rw [zy_bz_n (by omega)]; omega) (by decide) (fun H1 locs1 ws1 hx1 hm1 hp1 hf1 => ?_)
  obtain ⟨t1, t2, tW⟩ := zr_put_fr (b := b) (ws0 := ws0) hB.1 (f0 := 47) (by decide) hm1 hf1
  rcases hEx with rfl | ⟨S1, rfl⟩
  · skip
    have hv : zy_rd ws1 (zy_ru Z 61) 0 0 = some (.int (nI 8)) := (t2 61 73 0 (by decide) (by decide) rfl (by decide)).trans hSt
    refine lv_aload_n hx0 hb0 rfl rfl l0 ?_
    refine zv_getA hB hx1 (q := (12, 110, 12, 40, 6, 141)) (r := 61) (g := 73) (List.mem_of_getElem? (i := 164) rfl) rfl rfl rfl rfl rfl (by decide) (by decide) (by decide) (by decide) (by decide +kernel) ?_
    refine lv_aload_n hx0 hb0 rfl rfl l0 ?_
    refine zv_get hB hx1 (q := (12, 360, 12, 47, 6, 148)) (List.mem_of_getElem? (i := 162) rfl) rfl rfl rfl rfl rfl hp1 ?_
    refine zv_ald hB hx1 (r := 61) (g := 73) (by decide) (by decide) rfl (by decide) rfl (Or.inl (by decide)) (Or.inl ⟨by decide, rfl⟩) rfl (show 0 < 90 by decide) (by decide) hv ?_
    refine lv_bipush (v := nI 7) hx0 hb0 rfl (by decide) ?_
    refine lv_icmp_ne (tgt := 191) hx0 hb0 rfl (by decide) (fun _ => ?_) (fun h => absurd h (by decide))
    refine lv_iconst (v := nI 0) hx0 hb0 rfl (by decide) ?_
    refine zv_ret hB hx1 rfl rfl rfl (hP _ _ ⟨0, by decide, rfl, Or.inr (Or.inl ⟨tW hW, (t1 4 (by decide)).trans f4, ⟨ek, he, (t1 7 (by decide)).trans f7⟩, hp1, n, hl2, (t1 45 (by decide)).trans f45, ?_⟩)⟩)
    rw [zr_po_fr (cd := zr_cd Z ws) (cd' := zr_cd Z ws1) _ _ _ (fun k _ _ => t2 59 71 k (by decide) (by decide) rfl (by decide)), hPo]
    rfl
  · skip
    have hv : zy_rd ws1 (zy_ru Z 61) 0 (S1.length + 1) = some (.int (nI 7)) := (t2 61 73 (S1.length + 1) (by decide) (by decide) rfl (by decide)).trans hSt.1
    have hl1 : S1.length + 1 ≤ 37 := hl1
    have hp1 : zy_rd ws1 (zy_ru Z 29) 47 0 = some (.int (nI (S1.length + 1))) := hp1
    have hw1 := (zr_Pu_br hPu).2.1
    have hw7 := hPu.2.1
    have f46b : zy_rd ws1 (zy_ru Z 29) 46 0 = some (.int (nI w)) := (t1 46 (by decide)).trans f46
    refine lv_aload_n hx0 hb0 rfl rfl l0 ?_
    refine zv_getA hB hx1 (q := (12, 110, 12, 40, 6, 141)) (r := 61) (g := 73) (List.mem_of_getElem? (i := 164) rfl) rfl rfl rfl rfl rfl (by decide) (by decide) (by decide) (by decide) (by decide +kernel) ?_
    refine lv_aload_n hx0 hb0 rfl rfl l0 ?_
    refine zv_get hB hx1 (q := (12, 360, 12, 47, 6, 148)) (List.mem_of_getElem? (i := 162) rfl) rfl rfl rfl rfl rfl hp1 ?_
    refine zv_ald hB hx1 (r := 61) (g := 73) (by decide) (by decide) rfl (by decide) rfl (Or.inl (by decide)) (Or.inl ⟨by decide, rfl⟩) rfl (show S1.length + 1 < 90 by omega) (by decide) hv ?_
    refine lv_bipush (v := nI 7) hx0 hb0 rfl (by decide) ?_
    refine lv_icmp_ne (tgt := 191) hx0 hb0 rfl (by decide) (fun h => absurd rfl h) (fun _ => ?_)
    refine lv_aload_n hx0 hb0 rfl rfl l0 ?_
    refine lv_dup hx0 hb0 rfl rfl ?_
    refine zv_get hB hx1 (q := (12, 363, 12, 46, 6, 147)) (List.mem_of_getElem? (i := 163) rfl) rfl rfl rfl rfl rfl f46b ?_
    refine lv_iconst (v := nI 1) hx0 hb0 rfl (by decide) ?_
    refine lv_isub hx0 hb0 rfl ?_
    rw [zv_sub (by omega)]
    refine zv_put hB hx1 (q := (12, 363, 12, 46, 6, 147)) (f := 46) (lo := 2147483648) (hi2 := 2147483655) (y := nI (w - 1)) (List.mem_of_getElem? (i := 163) rfl) rfl rfl rfl rfl rfl (by decide +kernel) (by decide +kernel) ⟨fun _ => ⟨_, rfl⟩, fun h => absurd h (by decide +kernel), fun h => absurd h (by decide +kernel)⟩ (by decide +kernel) (by rw [zy_bz_n (by omega)]; omega) (by rw [zy_bz_n (by omega)]; omega) (by decide) (fun H2 locs2 ws2 hx2 hm2 hp2 hf2 => ?_)
    obtain ⟨v1, v2, vW⟩ := zr_put_fr (b := b) (ws0 := ws0) hB.1 (f0 := 46) (by decide) hm2 hf2
    have hJ2 := zr_J_br hJ (vW (tW hW)) ⟨(v1 4 (by decide)).trans ((t1 4 (by decide)).trans f4), ⟨ek, he, (v1 7 (by decide)).trans ((t1 7 (by decide)).trans f7)⟩, (v1 47 (by decide)).trans hp1, hp2, (v1 48 (by decide)).trans ((t1 48 (by decide)).trans f48), (v1 45 (by decide)).trans ((t1 45 (by decide)).trans f45)⟩ (fun a => (v2 61 73 a (by decide) (by decide) rfl (by decide)).trans (t2 61 73 a (by decide) (by decide) rfl (by decide))) (fun a => (v2 62 74 a (by decide) (by decide) rfl (by decide)).trans (t2 62 74 a (by decide) (by decide) rfl (by decide))) (fun a => (v2 59 71 a (by decide) (by decide) rfl (by decide)).trans (t2 59 71 a (by decide) (by decide) rfl (by decide)))
    refine lv_aload_n hx0 hb0 rfl rfl l0 ?_
    refine lv_aload_n hx0 hb0 rfl rfl l0 ?_
    refine lv_bipush (v := nI 41) hx0 hb0 rfl (by decide) ?_
    refine zv_ivM (As := [.int (nI 41)]) (rest := [.ref (zy_fa1 Z 29)]) (q := (12, 321, 243, 0, 7, 219)) (y := zm_243) (zo_ish hB.1 hB.2.1) hB hx2 (List.mem_of_getElem? (i := 282) rfl) rfl rfl rfl (by decide) rfl (by decide) rfl rfl (by omega) rfl rfl (Nat.le_of_ble_eq_true rfl) ?_
    intro vs3 tys3 ws3 H3 locs3 hn3 hq3 hx3
    obtain ⟨rfl, bb, rfl, -⟩ := hq3
    obtain ⟨v, hv1, hve⟩ : ∃ v : Nat, v ≤ 1 ∧ (if bb then nI 1 else nI 0) = nI v := by
      cases bb
      · exact ⟨0, by decide, rfl⟩
      · exact ⟨1, by decide, rfl⟩
    rw [hve]
    refine zv_ivM (As := [.int (nI v)]) (rest := []) (q := (12, 283, 235, 0, 7, 171)) (y := zm_235) (zo_must2 hB.1 hB.2.1 hv1) hB hx3 (List.mem_of_getElem? (i := 283) rfl) rfl rfl rfl (by decide) rfl (by decide) rfl rfl (by omega) ⟨rfl, hJ2.2.1.2.1, hJ2.2.1.1⟩ rfl (Nat.le_of_ble_eq_true rfl) ?_
    intro vs4 tys4 ws4 H4 locs4 hn4 hq4 hx4
    obtain ⟨rfl, g1, g2, g3⟩ := hq4
    refine lv_iconst (v := nI 0) hx0 hb0 rfl (by decide) ?_
    refine zv_ret hB hx4 rfl rfl rfl (hP _ _ ⟨0, by decide, rfl, ?_⟩)
    rcases g3 with g3 | g3
    · exact Or.inl (zr_X_lx hB.1 hJ2.1 g1 g3 g2)
    · refine Or.inr (Or.inr ⟨S1, w - 1, U, n, zr_J_lx hB.1 hJ2 g1 g3 g2, ?_⟩)
      unfold zr_m at hm ⊢
      simp at hm ⊢
      omega
set_option maxHeartbeats 1000000 in
set_option maxRecDepth 20000 in
theorem zo_beh_x {d : Nat} (hB : zy_Fr p l R s m args meth c N0 Z zm_247 (d + 1)) (hd : 5 ≤ d) {b : Nat} (hb : b < 2) {ws0 : va_W} {r mm U : Nat} {P : List Value → va_W → Prop} (hP : ∀ vs ws', zr_Po Z b ws0 mm vs ws' → P vs ws') {S : List Nat} {w n : Nat} {ws : va_W} {ls : Array Slot} {H : Heap} {locs : List Loc} {tys : List (ClassId × FieldType)} (hx : zy_Mx D N0 zy_T Z s zm_247 ls H locs tys ws) (hJ : zr_J Z b ws0 ws false S w U n) (hm : zr_m false S w U ≤ mm) (l0 : ls[0]? = some (.val (.ref (zy_fa1 Z 29)))) (l1 : ls[1]? = some (.val (.int (nI r)))) (hRk : zr_Rk Z ws r) (hEx : 0 < r ∨ S = [] ∨ ∃ S1, S = 7 :: S1) : W p l en R s m args below meth c H locs 0 0 (MQ below (zy_QP D N0 zy_T Z P) args s 0 0 (zx_A N0)) (F0 m 104 ls []) := by
  obtain ⟨hx0, hb0, -⟩ := hB.2.2.1 Z (zy_le_rf Z)
  rcases hRk with rfl | rfl | rfl | ⟨hr, k, hk, hat, hok⟩
  · skip
    refine lv_iload_n hx0 hb0 rfl rfl l1 ?_
    refine lv_if_le (tgt := 147) hx0 hb0 rfl (by decide) (fun _ => ?_) (fun h => absurd (by decide) h)
    refine zo_beh_z (r := 0) hB hd hb hP hx hJ hm l0 ?_
    rcases hEx with z | z | z
    · omega
    · exact Or.inl z
    · exact Or.inr z
  · skip
    refine lv_iload_n hx0 hb0 rfl rfl l1 ?_
    refine lv_if_le (tgt := 147) hx0 hb0 rfl (by decide) (fun h => absurd h (by decide)) (fun _ => ?_)
    refine lv_aload_n hx0 hb0 rfl rfl l0 ?_
    refine lv_iload_n hx0 hb0 rfl rfl l1 ?_
    refine lv_iload_n hx0 hb0 rfl rfl l1 ?_
    refine lv_iconst (v := nI 2) hx0 hb0 rfl (by decide) ?_
    refine lv_icmp_ne (tgt := 120) hx0 hb0 rfl (by decide) (fun _ => ?_) (fun h => absurd h (by decide))
    refine lv_iload_n hx0 hb0 rfl rfl l1 ?_
    refine lv_iconst (v := nI 1) hx0 hb0 rfl (by decide) ?_
    refine lv_icmp_ne (tgt := 130) hx0 hb0 rfl (by decide) (fun h => absurd rfl h) (fun _ => ?_)
    refine lv_bipush (v := nI 124) hx0 hb0 rfl (by decide) ?_
    refine lv_goto (tgt := 138) hx0 hb0 rfl (by decide) ?_
    exact zo_beh_p hB hd hb hP hx hJ hm l0 (by decide) (by unfold zr_ok; decide)
  · skip
    refine lv_iload_n hx0 hb0 rfl rfl l1 ?_
    refine lv_if_le (tgt := 147) hx0 hb0 rfl (by decide) (fun h => absurd h (by decide)) (fun _ => ?_)
    refine lv_aload_n hx0 hb0 rfl rfl l0 ?_
    refine lv_iload_n hx0 hb0 rfl rfl l1 ?_
    refine lv_iload_n hx0 hb0 rfl rfl l1 ?_
    refine lv_iconst (v := nI 2) hx0 hb0 rfl (by decide) ?_
    refine lv_icmp_ne (tgt := 120) hx0 hb0 rfl (by decide) (fun h => absurd rfl h) (fun _ => ?_)
    refine lv_bipush (v := nI 38) hx0 hb0 rfl (by decide) ?_
    refine lv_goto (tgt := 138) hx0 hb0 rfl (by decide) ?_
    exact zo_beh_p hB hd hb hP hx hJ hm l0 (by decide) (by unfold zr_ok; decide)
  · skip
    have h2 : ¬ nI r = nI 2 := by rcases hr with rfl | rfl | rfl <;> decide
    have h1 : ¬ nI r = nI 1 := by rcases hr with rfl | rfl | rfl <;> decide
    have h0 : ¬ nI r ≤ 0 := by rcases hr with rfl | rfl | rfl <;> decide
    refine lv_iload_n hx0 hb0 rfl rfl l1 ?_
    refine lv_if_le (tgt := 147) hx0 hb0 rfl (by decide) (fun h => absurd h h0) (fun _ => ?_)
    refine lv_aload_n hx0 hb0 rfl rfl l0 ?_
    refine lv_iload_n hx0 hb0 rfl rfl l1 ?_
    refine lv_iload_n hx0 hb0 rfl rfl l1 ?_
    refine lv_iconst (v := nI 2) hx0 hb0 rfl (by decide) ?_
    refine lv_icmp_ne (tgt := 120) hx0 hb0 rfl (by decide) (fun _ => ?_) (fun h => absurd h h2)
    refine lv_iload_n hx0 hb0 rfl rfl l1 ?_
    refine lv_iconst (v := nI 1) hx0 hb0 rfl (by decide) ?_
    refine lv_icmp_ne (tgt := 130) hx0 hb0 rfl (by decide) (fun _ => ?_) (fun h => absurd h h1)
    refine lv_aload_n hx0 hb0 rfl rfl l0 ?_
    refine lv_aload_n hx0 hb0 rfl rfl l0 ?_
    refine zv_get hB hx (q := (12, 235, 12, 6, 6, 107)) (List.mem_of_getElem? (i := 158) rfl) rfl rfl rfl rfl rfl hat ?_
    refine zv_ivM (As := [.int (nI k)]) (rest := [.int (nI r), .ref (zy_fa1 Z 29)]) (q := (12, 238, 240, 0, 7, 86)) (y := zm_240) (zo_sign hB.1 hB.2.1 hk) hB hx (List.mem_of_getElem? (i := 285) rfl) rfl rfl rfl (by decide) rfl (by decide) rfl rfl (Nat.zero_le _) rfl rfl (Nat.le_of_ble_eq_true rfl) ?_
    intro vs1 tys1 ws1 H1 locs1 hn1 hq1 hx1
    obtain ⟨rfl, rfl⟩ := hq1
    exact zo_beh_p hB hd hb hP hx1 hJ hm l0 (by omega) hok
set_option maxHeartbeats 1000000 in
set_option maxRecDepth 20000 in
theorem zo_beh_l {d : Nat} (hB : zy_Fr p l R s m args meth c N0 Z zm_247 (d + 1)) (hd : 5 ≤ d) {b : Nat} (hb : b < 2) {ws0 : va_W} {r mm U : Nat} {P : List Value → va_W → Prop} (hP : ∀ vs ws', zr_Po Z b ws0 mm vs ws' → P vs ws') : ∀ (S : List Nat) (w n : Nat) (ws : va_W) (ls : Array Slot) (H : Heap) (locs : List Loc) (tys : List (ClassId × FieldType)), zy_Mx D N0 zy_T Z s zm_247 ls H locs tys ws → zr_J Z b ws0 ws false S w U n → zr_m false S w U ≤ mm → ls[0]? = some (.val (.ref (zy_fa1 Z 29))) → ls[1]? = some (.val (.int (nI r))) → zr_Rk Z ws r → W p l en R s m args below meth c H locs 0 0 (MQ below (zy_QP D N0 zy_T Z P) args s 0 0 (zx_A N0)) (F0 m 23 ls []) := by
  obtain ⟨hx0, hb0, -⟩ := hB.2.2.1 Z (zy_le_rf Z)
  intro S
  induction S with
  | nil =>
    intro w n ws ls H locs tys hx hJ hm l0 l1 hRk
    have hv : zy_rd ws (zy_ru Z 61) 0 0 = some (.int (nI 8)) := hJ.2.2.1
    have f47 : zy_rd ws (zy_ru Z 29) 47 0 = some (.int (nI 1)) := hJ.2.1.2.2.1
    refine lv_aload_n hx0 hb0 rfl rfl l0 ?_
    refine zv_getA hB hx (q := (12, 110, 12, 40, 6, 141)) (r := 61) (g := 73) (List.mem_of_getElem? (i := 164) rfl) rfl rfl rfl rfl rfl (by decide) (by decide) (by decide) (by decide) (by decide +kernel) ?_
    refine lv_aload_n hx0 hb0 rfl rfl l0 ?_
    refine zv_get hB hx (q := (12, 360, 12, 47, 6, 148)) (List.mem_of_getElem? (i := 162) rfl) rfl rfl rfl rfl rfl f47 ?_
    refine lv_iconst (v := nI 1) hx0 hb0 rfl (by decide) ?_
    refine lv_isub hx0 hb0 rfl ?_
    rw [zv_sub (by decide)]
    refine zv_ald hB hx (r := 61) (g := 73) (by decide) (by decide) rfl (by decide) rfl (Or.inl (by decide)) (Or.inl ⟨by decide, rfl⟩) rfl (show 0 < 90 by decide) (by decide) hv ?_
    refine lv_bipush (v := nI 6) hx0 hb0 rfl (by decide) ?_
    refine lv_icmp_gt (tgt := 104) hx0 hb0 rfl (by decide) (fun _ => ?_) (fun h => absurd (by decide) h)
    exact zo_beh_x hB hd hb hP hx hJ hm l0 l1 hRk (Or.inr (Or.inl rfl))
  | cons y S ih =>
    intro w n ws ls H locs tys hx hJ hm l0 l1 hRk
    have hJ' := hJ
    obtain ⟨hW, ⟨f4, ⟨ek, he, f7⟩, f47, f46, f48, f45⟩, ⟨hv, ⟨sg, hsg, hzs⟩, hSt⟩, hPu, hPo⟩ := hJ'
    obtain ⟨hl1, hl2⟩ := zr_Pu_len hPu
    have hl1 : S.length + 1 ≤ 37 := hl1
    have f47 : zy_rd ws (zy_ru Z 29) 47 0 = some (.int (nI (S.length + 1 + 1))) := f47
    have hy7 := hzs.1
    have fin : y ≤ 6 → ∀ (ws2 : va_W) (H : Heap) (locs : List Loc) (tys : List (ClassId × FieldType)), zy_Mx D N0 zy_T Z s zm_247 ls H locs tys ws2 → zr_W Z b ws0 ws2 → zr_Fl Z ws2 (S.length + 1) (if y = 3 then w - 1 else w) U (560 * b + n) → (∀ r g a, 0 < r → r < 100 → zy_fg[r]? = some g → g ≠ 41 → zy_rd ws2 (zy_ru Z r) 0 a = zy_rd ws (zy_ru Z r) 0 a) → zy_rd ws2 (zy_ru Z 29) 6 0 = zy_rd ws (zy_ru Z 29) 6 0 → zy_rd ws2 (zy_ru Z 29) 3 0 = zy_rd ws (zy_ru Z 29) 3 0 → W p l en R s m args below meth c H locs 0 0 (MQ below (zy_QP D N0 zy_T Z P) args s 0 0 (zx_A N0)) (F0 m 87 ls []) := by
      intro hy6 ws2 H locs tys hx hW2 hFl ha h6 h3
      obtain ⟨g4, ⟨ek2, he2, g7⟩, g47, g46, g48, g45⟩ := hFl
      have hsg2 : zy_rd ws2 (zy_ru Z 62) 0 (S.length + 1) = some (.int sg) := (ha 62 74 _ (by decide) (by decide) rfl (by decide)).trans hsg
      refine lv_aload_n hx0 hb0 rfl rfl l0 ?_
      refine lv_aload_n hx0 hb0 rfl rfl l0 ?_
      refine zv_getA hB hx (q := (12, 113, 12, 41, 6, 142)) (r := 62) (g := 74) (List.mem_of_getElem? (i := 165) rfl) rfl rfl rfl rfl rfl (by decide) (by decide) (by decide) (by decide) (by decide +kernel) ?_
      refine lv_aload_n hx0 hb0 rfl rfl l0 ?_
      refine zv_get hB hx (q := (12, 360, 12, 47, 6, 148)) (List.mem_of_getElem? (i := 162) rfl) rfl rfl rfl rfl rfl g47 ?_
      refine zv_ald hB hx (r := 62) (g := 74) (by decide) (by decide) rfl (by decide) rfl (Or.inl (by decide)) (Or.inl ⟨by decide, rfl⟩) rfl (show S.length + 1 < 90 by omega) (by decide) hsg2 ?_
      refine lv_iconst (v := nI 0) hx0 hb0 rfl (by decide) ?_
      refine zv_ivM (As := [.int sg, .int (nI 0)]) (rest := []) (q := (12, 378, 249, 0, 7, 227)) (y := zm_249) (zo_emit hB.1 hB.2.1 (k := 560 * b + n) (x := sg) (y := nI 0) (by omega)) hB hx (List.mem_of_getElem? (i := 295) rfl) rfl rfl rfl (by decide) rfl (by decide) rfl rfl (Nat.zero_le _) ⟨rfl, g45⟩ rfl (Nat.le_of_ble_eq_true rfl) ?_
      intro vs3 tys3 ws3 H3 locs3 hn3 hq3 hx3
      obtain ⟨rfl, hpu⟩ := hq3
      obtain ⟨p1, p59, p61, p62, pW⟩ := zr_emit_fr (b := b) (ws0 := ws0) hB.1 hpu
      have pt := zr_emit_t hB.1 hpu
      refine lv_goto (tgt := 23) hx0 hb0 rfl (by decide) ?_
      have hJ3 := zr_J_pop hJ (by omega) hsg (pW (by omega) (by omega) hW2) ⟨(p1 4 (by decide) (by decide)).trans g4, ⟨ek2, he2, (p1 7 (by decide) (by decide)).trans g7⟩, (p1 47 (by decide) (by decide)).trans g47, (p1 46 (by decide) (by decide)).trans g46, (p1 48 (by decide) (by decide)).trans g48, hpu.2.1⟩ (fun a => (p61 a).trans (ha 61 73 a (by decide) (by decide) rfl (by decide))) (fun a => (p62 a).trans (ha 62 74 a (by decide) (by decide) rfl (by decide))) (fun a q => (p59 a q).trans (ha 59 71 a (by decide) (by decide) rfl (by decide))) hpu.2.2.1
      refine ih _ (n + 1) ws3 ls H3 locs3 tys3 hx3 hJ3 ?_ l0 l1 (zr_Rk_fr ((p1 6 (by decide) (by decide)).trans h6) ((p1 3 (by decide) (by decide)).trans h3) (fun a => (pt a).trans (ha 31 43 a (by decide) (by decide) rfl (by decide))) hRk)
      unfold zr_m at hm ⊢
      simp at hm ⊢
      omega
    refine lv_aload_n hx0 hb0 rfl rfl l0 ?_
    refine zv_getA hB hx (q := (12, 110, 12, 40, 6, 141)) (r := 61) (g := 73) (List.mem_of_getElem? (i := 164) rfl) rfl rfl rfl rfl rfl (by decide) (by decide) (by decide) (by decide) (by decide +kernel) ?_
    refine lv_aload_n hx0 hb0 rfl rfl l0 ?_
    refine zv_get hB hx (q := (12, 360, 12, 47, 6, 148)) (List.mem_of_getElem? (i := 162) rfl) rfl rfl rfl rfl rfl f47 ?_
    refine lv_iconst (v := nI 1) hx0 hb0 rfl (by decide) ?_
    refine lv_isub hx0 hb0 rfl ?_
    rw [zv_sub (by omega), Nat.add_sub_cancel]
    refine zv_ald hB hx (r := 61) (g := 73) (by decide) (by decide) rfl (by decide) rfl (Or.inl (by decide)) (Or.inl ⟨by decide, rfl⟩) rfl (show S.length + 1 < 90 by omega) (by decide) hv ?_
    refine lv_bipush (v := nI 6) hx0 hb0 rfl (by decide) ?_
    refine lv_icmp_gt (tgt := 104) hx0 hb0 rfl (by decide) (fun h => ?_) (fun h => ?_)
    · skip
      have h := (zv_lt (by decide) (by omega)).mp h
      have hy : y = 7 := by omega
      subst hy
      exact zo_beh_x hB hd hb hP hx hJ hm l0 l1 hRk (Or.inr (Or.inr ⟨S, rfl⟩))
    · skip
      have hy6 : y ≤ 6 := Classical.byContradiction (fun z => h ((zv_lt (by decide) (by omega)).mpr (by omega)))
      refine lv_aload_n hx0 hb0 rfl rfl l0 ?_
      refine zv_getA hB hx (q := (12, 110, 12, 40, 6, 141)) (r := 61) (g := 73) (List.mem_of_getElem? (i := 164) rfl) rfl rfl rfl rfl rfl (by decide) (by decide) (by decide) (by decide) (by decide +kernel) ?_
      refine lv_aload_n hx0 hb0 rfl rfl l0 ?_
      refine zv_get hB hx (q := (12, 360, 12, 47, 6, 148)) (List.mem_of_getElem? (i := 162) rfl) rfl rfl rfl rfl rfl f47 ?_
      refine lv_iconst (v := nI 1) hx0 hb0 rfl (by decide) ?_
      refine lv_isub hx0 hb0 rfl ?_
      rw [zv_sub (by omega), Nat.add_sub_cancel]
      refine zv_ald hB hx (r := 61) (g := 73) (by decide) (by decide) rfl (by decide) rfl (Or.inl (by decide)) (Or.inl ⟨by decide, rfl⟩) rfl (show S.length + 1 < 90 by omega) (by decide) hv ?_
      refine lv_iload_n hx0 hb0 rfl rfl l1 ?_
      have hr6 : r ≤ 6 := by rcases hRk with z | z | z | ⟨z, -⟩ <;> omega
      refine lv_icmp_lt (tgt := 104) hx0 hb0 rfl (by decide) (fun h => ?_) (fun h => ?_)
      · skip
        have h := (zv_lt (by omega) (by omega)).mp h
        exact zo_beh_x hB hd hb hP hx hJ hm l0 l1 hRk (Or.inl (by omega))
      · skip
        refine lv_aload_n hx0 hb0 rfl rfl l0 ?_
        refine lv_dup hx0 hb0 rfl rfl ?_
        refine zv_get hB hx (q := (12, 360, 12, 47, 6, 148)) (List.mem_of_getElem? (i := 162) rfl) rfl rfl rfl rfl rfl f47 ?_
        refine lv_iconst (v := nI 1) hx0 hb0 rfl (by decide) ?_
        refine lv_isub hx0 hb0 rfl ?_
        rw [zv_sub (by omega), Nat.add_sub_cancel]
        refine zv_put hB hx (q := (12, 360, 12, 47, 6, 148)) (f := 47) (lo := 2147483648) (hi2 := 2147483738) (y := nI (S.length + 1)) (List.mem_of_getElem? (i := 162) rfl) rfl rfl rfl rfl rfl (by decide +kernel) (by decide +kernel) ⟨fun _ => ⟨_, rfl⟩, fun h => absurd h (by decide +kernel), fun h => absurd h (by decide +kernel)⟩ (by decide +kernel) (by rw [zy_bz_n (by omega)]; omega) (by rw [zy_bz_n (by omega)]; omega) (by decide) (fun H1 locs1 ws1 hx1 hm1 hp1 hf1 => ?_)
        obtain ⟨t1, t2, tW⟩ := zr_put_fr (b := b) (ws0 := ws0) hB.1 (f0 := 47) (by decide) hm1 hf1
        have hv1 : zy_rd ws1 (zy_ru Z 61) 0 (S.length + 1) = some (.int (nI y)) := (t2 61 73 _ (by decide) (by decide) rfl (by decide)).trans hv
        refine lv_aload_n hx0 hb0 rfl rfl l0 ?_
        refine zv_getA hB hx1 (q := (12, 110, 12, 40, 6, 141)) (r := 61) (g := 73) (List.mem_of_getElem? (i := 164) rfl) rfl rfl rfl rfl rfl (by decide) (by decide) (by decide) (by decide) (by decide +kernel) ?_
        refine lv_aload_n hx0 hb0 rfl rfl l0 ?_
        refine zv_get hB hx1 (q := (12, 360, 12, 47, 6, 148)) (List.mem_of_getElem? (i := 162) rfl) rfl rfl rfl rfl rfl hp1 ?_
        refine zv_ald hB hx1 (r := 61) (g := 73) (by decide) (by decide) rfl (by decide) rfl (Or.inl (by decide)) (Or.inl ⟨by decide, rfl⟩) rfl (show S.length + 1 < 90 by omega) (by decide) hv1 ?_
        refine lv_iconst (v := nI 3) hx0 hb0 rfl (by decide) ?_
        refine lv_icmp_ne (tgt := 87) hx0 hb0 rfl (by decide) (fun h => ?_) (fun h => ?_)
        · skip
          have hy3 : y ≠ 3 := fun z => h (by rw [z])
          exact fin hy6 ws1 H1 locs1 tys hx1 (tW hW) ⟨(t1 4 (by decide)).trans f4, ⟨ek, he, (t1 7 (by decide)).trans f7⟩, hp1, by rw [if_neg hy3]; exact (t1 46 (by decide)).trans f46, (t1 48 (by decide)).trans f48, (t1 45 (by decide)).trans f45⟩ t2 (t1 6 (by decide)) (t1 3 (by decide))
        · skip
          have hy3 : y = 3 := by
            have h := congrArg zx_bz h
            rw [zy_bz_n (by omega), zy_bz_n (by decide)] at h
            omega
          have f46b : zy_rd ws1 (zy_ru Z 29) 46 0 = some (.int (nI w)) := (t1 46 (by decide)).trans f46
          have hw1 := (zr_Pu_pop hPu (by omega)).2.1 hy3
          have hw7 := hPu.2.1
          refine lv_aload_n hx0 hb0 rfl rfl l0 ?_
          refine lv_dup hx0 hb0 rfl rfl ?_
          refine zv_get hB hx1 (q := (12, 363, 12, 46, 6, 147)) (List.mem_of_getElem? (i := 163) rfl) rfl rfl rfl rfl rfl f46b ?_
          refine lv_iconst (v := nI 1) hx0 hb0 rfl (by decide) ?_
          refine lv_isub hx0 hb0 rfl ?_
          rw [zv_sub (by omega)]
          refine zv_put hB hx1 (q := (12, 363, 12, 46, 6, 147)) (f := 46) (lo := 2147483648) (hi2 := 2147483655) (y := nI (w - 1)) (List.mem_of_getElem? (i := 163) rfl) rfl rfl rfl rfl rfl (by decide +kernel) (by decide +kernel) ⟨fun _ => ⟨_, rfl⟩, fun h => absurd h (by decide +kernel), fun h => absurd h (by decide +kernel)⟩ (by decide +kernel) (by rw [zy_bz_n (by omega)]; omega) (by rw [zy_bz_n (by omega)]; omega) (by decide) (fun H2 locs2 ws2 hx2 hm2 hp2 hf2 => ?_)
          obtain ⟨v1, v2, vW⟩ := zr_put_fr (b := b) (ws0 := ws0) hB.1 (f0 := 46) (by decide) hm2 hf2
          exact fin hy6 ws2 H2 locs2 tys hx2 (vW (tW hW)) ⟨(v1 4 (by decide)).trans ((t1 4 (by decide)).trans f4), ⟨ek, he, (v1 7 (by decide)).trans ((t1 7 (by decide)).trans f7)⟩, (v1 47 (by decide)).trans hp1, by rw [if_pos hy3]; exact hp2, (v1 48 (by decide)).trans ((t1 48 (by decide)).trans f48), (v1 45 (by decide)).trans ((t1 45 (by decide)).trans f45)⟩ (fun r g a q1 q2 q3 q4 => (v2 r g a q1 q2 q3 q4).trans (t2 r g a q1 q2 q3 q4)) ((v1 6 (by decide)).trans (t1 6 (by decide))) ((v1 3 (by decide)).trans (t1 3 (by decide)))
set_option maxHeartbeats 1000000 in
set_option maxRecDepth 20000 in
theorem zo_beh (H : zy_H0 Z) (HU : zy_UQ zy_fg Z) {b : Nat} (hb : b < 2) {ws0 : va_W} {S : List Nat} {w U n : Nat} : zy_OkP l D N0 zy_T Z 247 6 (fun av ws => av = [.ref (zy_fa1 Z 29)] ∧ zr_J Z b ws0 ws false S w U n) (fun _ _ vs ws' => zr_Po Z b ws0 (zr_m false S w U) vs ws') := by
  refine zy_handP (y := zm_247) H HU rfl (fun av ws h => by rw [h.1]; exact Nat.le_of_ble_eq_true rfl) ?_
  intro d hd av tys ws ⟨e, hJ⟩ p en R s m below meth c hB ls hl hx
  subst e
  obtain ⟨d, rfl⟩ : ∃ d', d = d' + 1 := ⟨d - 1, by omega⟩
  have l0 : ls[0]? = some (.val (.ref (zy_fa1 Z 29))) := hl (0, _) (List.mem_of_getElem? (i := 0) rfl)
  obtain ⟨hx0, hb0, -⟩ := hB.2.2.1 Z (zy_le_rf Z)
  refine lv_aload_n hx0 hb0 rfl rfl l0 ?_
  refine zv_ivM (As := []) (rest := []) (q := (12, 381, 251, 0, 7, 235)) (y := zm_251) (zo_rank H HU) hB hx (List.mem_of_getElem? (i := 293) rfl) rfl rfl rfl (by decide) rfl (by decide) rfl rfl (by omega) rfl rfl (Nat.le_of_ble_eq_true rfl) ?_
  intro vs1 tys1 ws1 H1 locs1 hn1 hq1 hx1
  obtain ⟨hf1, r, rfl, hRk⟩ := hq1
  have hlx : zv_Fm Z ws ws1 (zr_lx Z) := ⟨hf1.1, fun j g f a q1 q2 _ => hf1.2 j g f a q1 q2 (fun z => z)⟩
  have e4 : zy_rd ws1 (zy_ru Z 29) 4 0 = zy_rd ws (zy_ru Z 29) 4 0 := zr_M_fr H hf1 (by decide) (fun z => z)
  have e7 : zy_rd ws1 (zy_ru Z 29) 7 0 = zy_rd ws (zy_ru Z 29) 7 0 := zr_M_fr H hf1 (by decide) (fun z => z)
  have hJ1 : zr_J Z b ws0 ws1 false S w U n := zr_J_lx H hJ hlx (e4.trans hJ.2.1.1) (by
    obtain ⟨k, hk, h7⟩ := hJ.2.1.2.1
    exact ⟨k, hk, e7.trans h7⟩)
  have hr6 : r ≤ 6 := by rcases hRk with z | z | z | ⟨z, -⟩ <;> omega
  refine zv_sto hB hx1 (i := 1) (by decide) (Or.inl ⟨1, rfl, rfl, rfl⟩) rfl (zv_cat l0 (by show (1 : Nat) ≠ 2; decide)) (fun ls2 hx2 l1 q2 => ?_)
  have l0 := q2 0 _ (by decide) l0
  have main : ∀ (H : Heap) (locs : List Loc) (tys : List (ClassId × FieldType)) (ls : Array Slot), zy_Mx D N0 zy_T Z s zm_247 ls H locs tys ws1 → ls[0]? = some (.val (.ref (zy_fa1 Z 29))) → ls[1]? = some (.val (.int (nI r))) → W p l en R s m [.ref (zy_fa1 Z 29)].toArray below meth c H locs 0 0 (MQ below (zy_QP D N0 zy_T Z (zr_Po Z b ws0 (zr_m false S w U))) [.ref (zy_fa1 Z 29)].toArray s 0 0 (zx_A N0)) (F0 m 23 ls []) := fun H locs tys ls hx l0 l1 => zo_beh_l hB (by omega) hb (fun _ _ h => h) S w n ws1 ls H locs tys hx hJ1 (Nat.le_refl _) l0 l1 hRk
  refine lv_iload_n hx0 hb0 rfl rfl l1 ?_
  refine lv_iconst (v := nI 4) hx0 hb0 rfl (by decide) ?_
  refine lv_icmp_ne (tgt := 23) hx0 hb0 rfl (by decide) (fun _ => main _ _ _ ls2 hx2 l0 l1) (fun _ => ?_)
  refine lv_aload_n hx0 hb0 rfl rfl l0 ?_
  have hl1 := (zr_Pu_len hJ1.2.2.2.1).1
  refine zv_ivM (As := []) (rest := []) (q := (12, 384, 250, 0, 7, 239)) (y := zm_250) (zo_cmp (S := S) H HU (by omega)) hB hx2 (List.mem_of_getElem? (i := 294) rfl) rfl rfl rfl (by decide) rfl (by decide) rfl rfl (Nat.zero_le _) ⟨rfl, hJ1.2.1.2.2.1, hJ1.2.2.1⟩ rfl (Nat.le_of_ble_eq_true rfl) ?_
  intro vs3 tys3 ws3 H3 locs3 hn3 hq3 hx3
  obtain ⟨rfl, v, hv, rfl⟩ := hq3
  refine lv_if_eq (tgt := 23) hx0 hb0 rfl (by decide) (fun _ => main _ _ _ ls2 hx3 l0 l1) (fun _ => ?_)
  refine lv_aload_n hx0 hb0 rfl rfl l0 ?_
  refine zv_ivM (As := []) (rest := []) (q := (12, 277, 236, 0, 7, 143)) (y := zm_236) (zo_mp2 H HU) hB hx3 (List.mem_of_getElem? (i := 276) rfl) rfl rfl rfl (by decide) rfl (by decide) rfl rfl (by omega) ⟨rfl, hJ1.2.1.1⟩ rfl (Nat.le_of_ble_eq_true rfl) ?_
  intro vs4 tys4 ws4 H4 locs4 hn4 hq4 hx4
  obtain ⟨rfl, g1, g2, g3⟩ := hq4
  refine lv_iconst (v := nI 1) hx0 hb0 rfl (by decide) ?_
  refine zv_ret hB hx4 rfl rfl rfl ⟨1, by decide, rfl, Or.inl (zr_X_lx H hJ1.1 g1 g3 ?_)⟩
  obtain ⟨k, hk, h7⟩ := hJ1.2.1.2.1
  exact ⟨k, hk, g2.trans h7⟩
end ZBH
