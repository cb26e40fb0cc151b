/-! the law: later, and its loop -/
section ZLE
variable {l : Launch} {D : va_G} {Z : zy_V} {p : Program} {en : Env} {R : Room} {s : State} {m : MethodId} {args : Array Value} {below : List Frame} {meth : Method} {c : Code} {Q : State → Prop} {ce sl b L i d : Nat} {xs : Nat → Int32} {ls : Array Slot}
theorem zl_latX (H : zy_H0 Z) (HU : zy_UQ zy_fg Z) {N0 : Nat} {y t : Int32} {is : List Int32} (his : is = [y]) : zy_OkP l D N0 zy_T Z 67 88 (fun av ws => av = zL_av Z 1 is ∧ (zL_I Z ws ∧ zy_rd ws (zy_ru Z 29) 69 0 = some (.int t))) (fun _ _ vs ws' => ∃ v t', vs = [.int v] ∧ zl_R t y v t' ∧ zy_GV (zy_gl Z) ws' ∧ zt_AU Z ws' ∧ zy_rd ws' (zy_ru Z 29) 69 0 = some (.int t) ∧ zy_rd ws' (zy_ru Z 12) 5 0 = some (.int t')) := by
  refine zy_OkP_mono (zo_latX (y := y) (t := t) H HU) (by decide) (fun av ws hp => ?_) (fun av ws vs ws' hp hq => ?_)
  · obtain ⟨h1, ⟨-, -, t2, h3, h4⟩, h5⟩ := hp
    rw [h3] at h5
    injection h5 with h5
    injection h5 with h5
    rw [h1, his, ← h5]
    exact ⟨rfl, h4⟩
  · obtain ⟨h1, ⟨h2, ⟨ac, un, h3, h4, h5⟩, -⟩, h6⟩ := hp
    obtain ⟨v, t', q1, q2, q3, q4⟩ := hq
    exact ⟨v, t', q1, q3, q4.2.2.1 h2, ⟨ac, un, h3, (zv_un H q4 (r := 29) (g := 41) (f := 52) (by decide) (by decide) rfl (by decide) (by decide +kernel) 0).trans h4, (zv_un H q4 (r := 29) (g := 41) (f := 53) (by decide) (by decide) rfl (by decide) (by decide +kernel) 0).trans h5⟩, (zv_un H q4 (r := 29) (g := 41) (f := 69) (by decide) (by decide) rfl (by decide) (by decide +kernel) 0).trans h6, q2⟩
theorem zl_latM (H : zy_H0 Z) (HU : zy_UQ zy_fg Z) {N0 : Nat} {y t v t' : Int32} {is : List Int32} (his : is = [y]) (hR : zl_R t y v t') : zy_OkP l D N0 zy_T Z 66 88 (fun av ws => av = zL_av Z 29 is ∧ (zy_GV (zy_gl Z) ws ∧ zt_AU Z ws ∧ zy_rd ws (zy_ru Z 29) 69 0 = some (.int t) ∧ zy_rd ws (zy_ru Z 12) 5 0 = some (.int t'))) (fun _ _ vs ws' => vs = [.int v] ∧ zL_I Z ws') := by
  refine zy_OkP_mono (zo_latM (y := y) (t := t) H HU) (by decide) (fun av ws hp => ?_) (fun av ws vs ws' hp hq => ?_)
  · obtain ⟨h1, h2, h3, h4, h5⟩ := hp
    rw [h1, his]
    exact ⟨rfl, h4⟩
  · obtain ⟨h1, h2, ⟨ac, un, h3, h4, h5⟩, h6, h7⟩ := hp
    obtain ⟨v2, t2, q1, q2, q3, q4⟩ := hq
    obtain ⟨e1, e2⟩ := zl_R_u hR q3
    rw [← e1] at q1
    rw [← e2] at q2
    exact ⟨q1, q4.2.2.1 h2, ⟨ac, un, h3, (zv_un H q4 (r := 29) (g := 41) (f := 52) (by decide) (by decide) rfl (by decide) (by decide +kernel) 0).trans h4, (zv_un H q4 (r := 29) (g := 41) (f := 53) (by decide) (by decide) rfl (by decide) (by decide +kernel) 0).trans h5⟩, t', q2, (zv_un H q4 (r := 12) (g := 24) (f := 5) (by decide) (by decide) rfl (by decide) (by decide +kernel) 0).trans h7⟩
theorem zl_c44 (hF : zl_Fx l D Z p R s m args meth c ce sl b L d xs) (hL : zl_Ls Z b i ls) (hi : i + 5 < L) (kk : zl_Go l D Z p en R s m args below meth c Q ce sl ls 1795) : zl_Go l D Z p en R s m args below meth c Q ce sl ls 1584 := by
  intro tys ws H locs hx hI
  obtain ⟨hB, hd, hb, hroom, hHH⟩ := hF
  obtain ⟨t, ht⟩ : ∃ t : Int32, zy_rd ws (zy_ru Z 29) 69 0 = some (.int t) := by
    obtain ⟨-, -, t, h, -⟩ := hI
    exact ⟨t, h⟩
  have his : zl_is xs i 1 = [xs (i + 1)] := rfl
  refine zl_half (n := 1) (x := 1) (r := 1) (g := 0) (ci := 11) (mi := 197) (a := 67) (y := zm_67) (q := (13, 197, 67, 0, 6, 38)) (rest := []) hB hd hb (by decide +kernel) (by decide) hi hroom (zl_latX (y := xs (i + 1)) (t := t) hB.1 hB.2.1 his) ⟨rfl, hI, ht⟩ (by decide) (by decide) rfl (by decide) rfl (by decide +kernel) (by decide) (List.mem_of_getElem? (i := 90) rfl) rfl rfl rfl (by decide) rfl (by decide) rfl rfl (Nat.zero_le _) hx hL.1 hL.2.2.2 hL.2.1 ?_
  intro vs1 tys1 ws1 H1 locs1 hn1 hq1 hx1
  obtain ⟨v, t', q1, q2, q3⟩ := hq1
  rw [q1]
  refine zl_half (n := 1) (x := 2) (r := 29) (g := 41) (ci := 12) (mi := 200) (a := 66) (y := zm_66) (q := (13, 200, 66, 0, 9, 107)) (rest := [.int v]) hB hd hb (by decide +kernel) (by decide) hi hroom (zl_latM (y := xs (i + 1)) (t := t) hB.1 hB.2.1 his q2) ⟨rfl, q3⟩ (by decide) (by decide) rfl (by decide) rfl (by decide +kernel) (by decide) (List.mem_of_getElem? (i := 91) rfl) rfl rfl rfl (by decide) rfl (by decide) rfl rfl (Nat.le_of_ble_eq_true rfl) hx1 hL.1 hL.2.2.2 hL.2.2.1 ?_
  intro vs2 tys2 ws2 H2 locs2 hn2 hq2 hx2
  obtain ⟨r1, r2⟩ := hq2
  rw [r1]
  refine lv_icmp_eq (tgt := 1795) hb.1 hb.2.1 (off := 193) (by decide +kernel) (by decide) (fun _ => ?_) (fun h => absurd rfl h)
  exact kk tys2 ws2 H2 locs2 hx2 r2
def zl_o : Array Int := #[219, 282, 305, 318, 341, 374, 397, 430, 463, 486, 509, 532, 555, 578, 601, 624, 677, 690, 703, 716, 729, 752, 775, 798, 831, 854, 887, 910, 933, 986, 1009, 1032, 1065, 1118, 1161, 1204, 1237, 1250, 1313, 1376, 1439, 1472, 1495, 1528, 1551, 1574, 1607, 1640, 1693, 1716, 1739]
def zl_t : List Nat := [252, 315, 338, 351, 374, 407, 430, 463, 496, 519, 542, 565, 588, 611, 634, 657, 710, 723, 736, 749, 762, 785, 808, 831, 864, 887, 920, 943, 966, 1019, 1042, 1065, 1098, 1151, 1194, 1237, 1270, 1283, 1346, 1409, 1472, 1505, 1528, 1561, 1584, 1607, 1640, 1673, 1726, 1749, 1772]
theorem zd_18 : decode code 18 = .ok (.iload_n 3, 1) := by decide +kernel
theorem zd_19 : decode code 19 = .ok (.aload_n 0, 1) := by decide +kernel
theorem zd_20 : decode code 20 = .ok (.arraylength, 1) := by decide +kernel
theorem zd_21 : decode code 21 = .ok (.bipush 6, 2) := by decide +kernel
theorem zd_23 : decode code 23 = .ok (.isub, 1) := by decide +kernel
theorem zd_24 : decode code 24 = .ok (.if_icmp .gt 1777, 3) := by decide +kernel
theorem zd_27 : decode code 27 = .ok (.aload_n 0, 1) := by decide +kernel
theorem zd_28 : decode code 28 = .ok (.iload_n 3, 1) := by decide +kernel
theorem zd_29 : decode code 29 = .ok (.iaload, 1) := by decide +kernel
theorem zd_30 : decode code 30 = .ok (.bipush 63, 2) := by decide +kernel
theorem zd_32 : decode code 32 = .ok (.iand, 1) := by decide +kernel
theorem zd_33 : decode code 33 = .ok (.tableswitch 1762 0 50 zl_o, 219) := by decide +kernel
theorem zd_1795 : decode code 1795 = .ok (.iinc 3 6, 3) := by decide +kernel
theorem zd_1798 : decode code 1798 = .ok (.goto (-1780), 3) := by decide +kernel
theorem zd_1801 : decode code 1801 = .ok (.iconst 1, 1) := by decide +kernel
theorem zd_1802 : decode code 1802 = .ok (.ireturn, 1) := by decide +kernel
theorem zl_to : ∀ j, j < 51 → zl_o[j]? = some (zl_o.getD j 0) ∧ (33 : Int) + zl_o.getD j 0 = ((zl_t.getD j 0 : Nat) : Int) := by decide +kernel
theorem zl_sw (hF : zl_Fx l D Z p R s m args meth c ce sl b L d xs) (hL : zl_Ls Z b i ls) (hi : i + 5 < L) (kk : zl_Go l D Z p en R s m args below meth c Q ce sl ls 1795) (j : Nat) (h : j < 51) : zl_Go l D Z p en R s m args below meth c Q ce sl ls (zl_t.getD j 0) := by
  match j, h with
  | 0, _ => exact zl_c0 hF hL hi kk
  | 1, _ => exact zl_c1 hF hL hi kk
  | 2, _ => exact zl_c2 hF hL hi kk
  | 3, _ => exact zl_c3 hF hL hi kk
  | 4, _ => exact zl_c4 hF hL hi kk
  | 5, _ => exact zl_c5 hF hL hi kk
  | 6, _ => exact zl_c6 hF hL hi kk
  | 7, _ => exact zl_c7 hF hL hi kk
  | 8, _ => exact zl_c8 hF hL hi kk
  | 9, _ => exact zl_c9 hF hL hi kk
  | 10, _ => exact zl_c10 hF hL hi kk
  | 11, _ => exact zl_c11 hF hL hi kk
  | 12, _ => exact zl_c12 hF hL hi kk
  | 13, _ => exact zl_c13 hF hL hi kk
  | 14, _ => exact zl_c14 hF hL hi kk
  | 15, _ => exact zl_c15 hF hL hi kk
  | 16, _ => exact zl_c16 hF hL hi kk
  | 17, _ => exact zl_c17 hF hL hi kk
  | 18, _ => exact zl_c18 hF hL hi kk
  | 19, _ => exact zl_c19 hF hL hi kk
  | 20, _ => exact zl_c20 hF hL hi kk
  | 21, _ => exact zl_c21 hF hL hi kk
  | 22, _ => exact zl_c22 hF hL hi kk
  | 23, _ => exact zl_c23 hF hL hi kk
  | 24, _ => exact zl_c24 hF hL hi kk
  | 25, _ => exact zl_c25 hF hL hi kk
  | 26, _ => exact zl_c26 hF hL hi kk
  | 27, _ => exact zl_c27 hF hL hi kk
  | 28, _ => exact zl_c28 hF hL hi kk
  | 29, _ => exact zl_c29 hF hL hi kk
  | 30, _ => exact zl_c30 hF hL hi kk
  | 31, _ => exact zl_c31 hF hL hi kk
  | 32, _ => exact zl_c32 hF hL hi kk
  | 33, _ => exact zl_c33 hF hL hi kk
  | 34, _ => exact zl_c34 hF hL hi kk
  | 35, _ => exact zl_c35 hF hL hi kk
  | 36, _ => exact zl_c36 hF hL hi kk
  | 37, _ => exact zl_c37 hF hL hi kk
  | 38, _ => exact zl_c38 hF hL hi kk
  | 39, _ => exact zl_c39 hF hL hi kk
  | 40, _ => exact zl_c40 hF hL hi kk
  | 41, _ => exact zl_c41 hF hL hi kk
  | 42, _ => exact zl_c42 hF hL hi kk
  | 43, _ => exact zl_c43 hF hL hi kk
  | 44, _ => exact zl_c44 hF hL hi kk
  | 45, _ => exact zl_c45 hF hL hi kk
  | 46, _ => exact zl_c46 hF hL hi kk
  | 47, _ => exact zl_c47 hF hL hi kk
  | 48, _ => exact zl_c48 hF hL hi kk
  | 49, _ => exact zl_c49 hF hL hi kk
  | 50, _ => exact zl_c50 hF hL hi kk
  | (j + 51), h => omega
theorem zl_inc {H : Heap} {locs : List Loc} {tys : List (ClassId × FieldType)} {ws : va_W} (hF : zl_Fx l D Z p R s m args meth c ce sl b L d xs) (hL : zl_Ls Z b i ls) (hx : zy_Mx D s.heap.size zy_T Z s zm_law ls H locs tys ws) (kk : ∀ ls' : Array Slot, zl_Ls Z b (i + 6) ls' → zy_Mx D s.heap.size zy_T Z s zm_law ls' H locs tys ws → W p l en R s m args below meth c H locs ce sl Q (F0 m 18 ls' [])) : W p l en R s m args below meth c H locs ce sl Q (F0 m 1795 ls []) := by
  obtain ⟨hB, hd, hb, hroom, hHH⟩ := hF
  obtain ⟨hW, hS, hl⟩ := hx
  have h4 : lv_has ls 4 [(0, .ref b), (1, .ref (zy_fa1 Z 1)), (2, .ref (zy_fa1 Z 29)), (3, .int (nI i))] := ⟨hl.1, hl.2.1, fun q hq => by
    rcases List.mem_cons.mp hq with rfl | hq
    · exact hL.1
    rcases List.mem_cons.mp hq with rfl | hq
    · exact hL.2.1
    rcases List.mem_cons.mp hq with rfl | hq
    · exact hL.2.2.1
    rcases List.mem_cons.mp hq with rfl | hq
    · exact hL.2.2.2
    · cases hq⟩
  refine lv_iinc (k := 3) (v := nI (i + 6)) (lv' := [(3, .int (nI (i + 6))), (0, .ref b), (1, .ref (zy_fa1 Z 1)), (2, .ref (zy_fa1 Z 29))]) hb.1 hb.2.1 zd_1795 h4 rfl (by rw [show Int32.ofInt 6 = nI 6 from by decide]; exact nI_add i 6) (by decide) rfl (fun ls' h' => ?_)
  refine lv_goto (tgt := 18) hb.1 hb.2.1 zd_1798 (by decide) ?_
  exact kk ls' ⟨lv_at h' 1 rfl, lv_at h' 2 rfl, lv_at h' 3 rfl, lv_at h' 0 rfl⟩ ⟨hW, hS, ⟨h'.1, h'.2.1, fun _ z => by cases z⟩⟩
theorem zl_gt {L i : Nat} (hL : L < 4000) (hi : i < 4000) : nI L - nI 6 < nI i ↔ L < i + 6 := by
  rw [Int32.lt_iff_toInt_lt, pk_sub_toInt (by omega) (by omega), nI_toInt (by omega)]
  omega
set_option maxHeartbeats 1000000 in
/-- all calls -/
theorem zl_loop (hF : zl_Fx l D Z p R s m args meth c ce sl b L d xs) (hend : ∀ ls : Array Slot, zl_Go l D Z p en R s m args below meth c Q ce sl ls 1801) : ∀ (k i : Nat) (ls : Array Slot), L - i ≤ k → i ≤ L → zl_Ls Z b i ls → zl_Go l D Z p en R s m args below meth c Q ce sl ls 18 := by
  intro k
  induction k with
  | zero =>
    intro i ls hk hiL hL tys ws H locs hx hI
    have hF0 := hF
    obtain ⟨hB, hd, ⟨hx0, hb, hX, hbl, hL4⟩, hroom, hHH⟩ := hF0
    have hbA : ¬ zx_A s.heap.size b := Nat.not_le.mpr hbl
    refine lv_iload_n hx0 hb zd_18 rfl hL.2.2.2 ?_
    refine lv_aload_n hx0 hb zd_19 rfl hL.1 ?_
    refine va_slen hx0 hb hX hbl hbA hx.2.1 zd_20 ?_
    refine lv_bipush (v := nI 6) hx0 hb zd_21 (by decide) ?_
    refine lv_isub hx0 hb zd_23 ?_
    refine lv_icmp_gt (tgt := 1801) hx0 hb zd_24 (by decide) (fun _ => hend ls tys ws H locs hx hI) (fun hc => ?_)
    exact absurd ((zl_gt hL4 (by omega)).mpr (by omega)) hc
  | succ k ih =>
    intro i ls hk hiL hL tys ws H locs hx hI
    have hF0 := hF
    obtain ⟨hB, hd, ⟨hx0, hb, hX, hbl, hL4⟩, hroom, hHH⟩ := hF0
    have hbA : ¬ zx_A s.heap.size b := Nat.not_le.mpr hbl
    refine lv_iload_n hx0 hb zd_18 rfl hL.2.2.2 ?_
    refine lv_aload_n hx0 hb zd_19 rfl hL.1 ?_
    refine va_slen hx0 hb hX hbl hbA hx.2.1 zd_20 ?_
    refine lv_bipush (v := nI 6) hx0 hb zd_21 (by decide) ?_
    refine lv_isub hx0 hb zd_23 ?_
    refine lv_icmp_gt (tgt := 1801) hx0 hb zd_24 (by decide) (fun _ => hend ls tys ws H locs hx hI) (fun hc => ?_)
    have h6 : i + 6 ≤ L := by
      rcases Nat.lt_or_ge L (i + 6) with q | q
      · exact absurd ((zl_gt hL4 (by omega)).mpr q) hc
      · exact q
    have hgo : zl_Go l D Z p en R s m args below meth c Q ce sl ls 1795 := fun tys ws H locs hx hI => zl_inc hF hL hx (fun ls' hL' hx' => ih (i + 6) ls' (by omega) h6 hL' tys ws H locs hx' hI)
    refine lv_aload_n hx0 hb zd_27 rfl hL.1 ?_
    refine lv_iload_n hx0 hb zd_28 rfl hL.2.2.2 ?_
    refine va_sld hx0 hb hX hbl hbA hx.2.1 (vp_in_nI (by omega) (by omega)) zd_29 ?_
    refine lv_bipush (v := 63) hx0 hb zd_30 (by decide) ?_
    refine lv_iand hx0 hb zd_32 ?_
    obtain ⟨j, hj, ej⟩ := pk_andE (xs (nI i).toNatClampNeg) (m := 63) 6 (by decide)
    rw [ej]
    have hj : j < 64 := hj
    have hint : (nI j).toInt = (j : Int) := nI_toInt (by omega)
    by_cases h51 : j < 51
    · obtain ⟨t1, t2⟩ := zl_to j h51
      refine lv_tableIn (off := zl_o.getD j 0) (tgt := zl_t.getD j 0) hx0 hb zd_33 (by rw [hint]; omega) (by rw [hint]; omega) (by rw [hint, show ((j : Int) - 0).toNat = j by omega]; exact t1) t2 ?_
      exact zl_sw hF hL (by omega) hgo j h51 tys ws H locs hx hI
    · refine lv_tableOut (tgt := 1795) hx0 hb zd_33 (by rw [hint]; omega) (by decide) ?_
      exact hgo tys ws H locs hx hI
end ZLE
