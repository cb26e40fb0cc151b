/-! the law's walk -/
theorem zd_18 : decode code 18 = .ok (.iload_n 3, 1) := by decide +kernel
theorem zd_19 : decode code 19 = .ok (.aload_n 0, 1) := by decide +kernel
theorem zd_20 : decode code 20 = .ok (.arraylength, 1) := by decide +kernel
theorem zd_21 : decode code 21 = .ok (.bipush 6, 2) := by decide +kernel
theorem zd_23 : decode code 23 = .ok (.isub, 1) := by decide +kernel
theorem zd_24 : decode code 24 = .ok (.if_icmp .gt 1777, 3) := by decide +kernel
theorem zd_27 : decode code 27 = .ok (.aload_n 0, 1) := by decide +kernel
theorem zd_28 : decode code 28 = .ok (.iload_n 3, 1) := by decide +kernel
theorem zd_29 : decode code 29 = .ok (.iaload, 1) := by decide +kernel
theorem zd_30 : decode code 30 = .ok (.bipush 63, 2) := by decide +kernel
theorem zd_32 : decode code 32 = .ok (.iand, 1) := by decide +kernel
def zl_o : Array Int := #[219, 282, 305, 318, 341, 374, 397, 430, 463, 486, 509, 532, 555, 578, 601, 624, 677, 690, 703, 716, 729, 752, 775, 798, 831, 854, 887, 910, 933, 986, 1009, 1032, 1065, 1118, 1161, 1204, 1237, 1250, 1313, 1376, 1439, 1472, 1495, 1528, 1551, 1574, 1607, 1640, 1693, 1716, 1739]
theorem zd_33 : decode code 33 = .ok (.tableswitch 1762 0 50 zl_o, 219) := by decide +kernel
theorem zd_1801 : decode code 1801 = .ok (.iconst 1, 1) := by decide +kernel
theorem zd_1802 : decode code 1802 = .ok (.ireturn, 1) := by decide +kernel
theorem zl_to : ∀ j, j < 51 → zl_o[j]? = some (zl_o.getD j 0) ∧ (33 : Int) + zl_o.getD j 0 = ((zl_t.getD j 0 : Nat) : Int) := by decide +kernel
theorem zx_eg_hi {c k : Nat} (hc : c < 2 ^ 384) (hk : 6 ≤ k) : zx_eg c k = 0 := by
  show (c >>> (0 + 64 * k)) % 18446744073709551616 = 0
  rw [Nat.shiftRight_eq_div_pow, Nat.div_eq_of_lt, Nat.zero_mod]
  exact Nat.lt_of_lt_of_le hc (Nat.pow_le_pow_right (by decide) (by omega))
theorem zx_e0_at : ∀ k, k < 6 → zx_eg zx_e0 k = 4294967295 := by decide +kernel
theorem zx_ev0 (nu : Nat → Int32) : zx_ev nu zx_e0 := by
  intro k
  by_cases hk : k < 6
  · right
    rw [zx_e0_at k hk]
    have := zx_bz_lt (nu k)
    constructor <;> omega
  · left
    exact zx_eg_hi (by decide +kernel) (by omega)
theorem zx_e1_eq : zx_e1 = zx_es zx_e0 63 (zx_bd 2147483649 2147483649) := by decide +kernel
theorem zx_ev1 {nu : Nat → Int32} (h : nu 63 = 1) : zx_ev nu zx_e1 := by
  rw [zx_e1_eq]
  have h1 : zx_bz (nu 63) = 2147483649 := by rw [h]; decide
  exact zx_ev_set (zx_ev0 nu) (by omega) (by omega) (by decide)
theorem zx_h0_all : (zx_h0.all (fun l => l.all (fun x => Nat.beq x 15))) = true := by decide +kernel
theorem zx_h0_at {i k : Nat} (h : zx_hG zx_h0 i = some k) : k = 15 := by
  unfold zx_hG at h
  cases h1 : zx_h0[i / 16]? with
  | none => rw [h1] at h; cases h
  | some l =>
    rw [h1] at h
    have h2 : l[i % 16]? = some k := h
    exact zx_beq_t (List.all_eq_true.mp (List.all_eq_true.mp zx_h0_all l (List.mem_of_getElem? h1)) k (List.mem_of_getElem? h2))
theorem zx_w1_0 : zx_lg zx_w1 0 = 6 := by decide +kernel
theorem zx_w1_3 : zx_lg zx_w1 3 = 4 := by decide +kernel
theorem zx_on13 : zx_on1 13 = R_law := by decide +kernel
theorem zx_room1 : 41 + 1 ≤ room_1.frames ∧ 80 * (41 + 1) ≤ room_1.locals ∧ 600000 ≤ room_1.cells ∧ 7302250 ≤ room_1.slots := by decide
set_option maxRecDepth 10000 in
theorem zl_ends {p : Program} {e : Env} {s : State} {m : MethodId} {below : List Frame} {meth : Method} {c : Code} {l : Launch} {b : Nat} {D : va_G} {ex : Nat → Nat} {nu : Nat → Int32} (hx : p.tables.exec = Jvm.exec) (hb : c.code = code) (hr : meth.sig.returnType = ret) (hlocks : meth.locks = false) : zx_Rt p l e room_1 s m #[Value.ref b] below meth c (lw_Z below #[Value.ref b] s) D s.heap.size ex nu [] zm_law zx_kf := by
  intro pc row r h e hn ce sl ls vs H locs ins hd hri hK hce hsl hR
  have hr20 : r = [20] := zx_leq_s r [20] hK
  subst hr20
  obtain ⟨tys, ws, hW, hS, hl, hL, hT, hE⟩ := hR
  obtain ⟨x, rs, rfl, h1, h2⟩ := zx_SR1 hT
  cases rs with
  | cons _ _ => exact h2.elim
  | nil =>
    obtain ⟨-, h3, -⟩ := (zx_r4 (by decide)).mp h1
    subst h3
    refine va_forget (fun q hq => hS.2.2 q hq) (W.widen hce hsl ?_)
    rcases hri with ⟨z, -, -⟩ | ⟨ty, v, z1, rfl, z2, -⟩ | ⟨v, z, -, -⟩ | ⟨ty, v, z1, z2, -, -, -⟩
    · cases z
    · exact lw_ret hx hb hr hlocks hd
    · cases z
    · have z1 : ret = some ty := z1
      rcases z2 with ⟨n, rfl⟩ | ⟨n, rfl⟩ <;> cases z1
set_option maxHeartbeats 1000000 in
/-- behind the constructors -/
theorem zl_18 {p : Program} {e : Env} {s : State} {m : MethodId} {below : List Frame} {meth : Method} {c : Code} {l : Launch} {b L : Nat} {xs : Nat → Int32} {D : va_G} {ex : Nat → Nat} {nu : Nat → Int32} {ls : Array Slot} {H : Heap} {locs : List Loc} (hL6 : L ≤ 6) (C0 : lw_At p s m meth c b L xs) (hex : ex 0 = b) (hnu : L = 6 → nu 63 = 1) (hC : zx_Cx p room_1 s m #[Value.ref b] meth c zm_law 41 s.heap.size ex nu) (hR : zx_Rl D s.heap.size ex nu [] zm_law s zx_w1 [] zx_h1 zx_e0 192 ls [] H locs) : W p l e room_1 s m #[Value.ref b] below meth c H locs 192 15906 (lw_Z below #[Value.ref b] s) (F0 m 18 ls []) := by
  obtain ⟨hx, hb, hr, hml, hown, hts, hX0, hbl, hlocks, hgv⟩ := C0
  have hRt := zl_ends (below := below) (e := e) (l := l) (m := m) (b := b) (s := s) (D := D) (ex := ex) (nu := nu) hx hb hr hlocks
  obtain ⟨tys, ws, hW, hS, hl, hL, hT, hE⟩ := hR
  have g0 : ls[0]? = some (.val (.ref b)) := by
    obtain ⟨v, z1, z2⟩ := hL 0 (by rw [zx_w1_0]; decide)
    rw [zx_w1_0] at z2
    obtain ⟨-, z3⟩ := (zx_r6 (by decide)).mp z2
    have z3 : v = .ref (ex 0) := z3
    rw [z1, z3, hex]
  have g3 : ls[3]? = some (.val (.int (nI 0))) := by
    obtain ⟨v, z1, z2⟩ := hL 3 (by rw [zx_w1_3]; decide)
    rw [zx_w1_3] at z2
    obtain ⟨-, z3, -⟩ := (zx_r4 (by decide)).mp z2
    have z3 : v = .int (nI 0) := z3
    rw [z1, z3]
  have hbA : ¬ zx_A s.heap.size b := Nat.not_le.mpr hbl
  refine lv_iload_n hx hb zd_18 rfl g3 ?_
  refine lv_aload_n hx hb zd_19 rfl g0 ?_
  refine va_slen hx hb hX0 hbl hbA hS zd_20 ?_
  refine lv_bipush (v := 6) hx hb zd_21 (by decide) ?_
  refine lv_isub hx hb zd_23 ?_
  refine lv_icmp_gt (tgt := 1801) hx hb zd_24 (by decide) (fun hc => ?_) (fun hc => ?_)
  · refine lv_iconst (v := 1) hx hb zd_1801 (by decide) ?_
    refine va_forget (fun q hq => hS.2.2 q hq) (W.widen (k := 600000) (n := 7302250) (by decide) (by decide) ?_)
    exact lw_ret hx hb hr hlocks zd_1802
  · have hL' : L = 6 := by
      rcases Nat.lt_or_ge L 6 with q | q
      · exact absurd (show nI L - nI 6 < nI 0 from pk_sneg (by decide) q) hc
      · omega
    subst hL'
    refine lv_aload_n hx hb zd_27 rfl g0 ?_
    refine lv_iload_n hx hb zd_28 rfl g3 ?_
    refine va_sld hx hb hX0 hbl hbA hS (vp_in_nI (by decide) (by decide)) zd_29 ?_
    refine lv_bipush (v := 63) hx hb zd_30 (by decide) ?_
    refine lv_iand hx hb zd_32 ?_
    obtain ⟨j, hj, ej⟩ := pk_andE (xs (nI 0).toNatClampNeg) (m := 63) 6 (by decide)
    rw [ej]
    have hj : j < 64 := hj
    have hint : (nI j).toInt = (j : Int) := nI_toInt (by omega)
    have hzf : zx_Nx p l e room_1 s m #[Value.ref b] below meth c (lw_Z below #[Value.ref b] s) D s.heap.size ex nu [] zm_law zx_zf := by
      intro cur pc row st h e hn ce sl _ hk
      cases hk
    have hRl : zx_Rl D s.heap.size ex nu [] zm_law s zx_w1 [] zx_h1 zx_e1 192 ls [] H locs := ⟨tys, ws, hW, hS, hl, hL, hT, zx_ev1 (hnu rfl)⟩
    by_cases h51 : j < 51
    · obtain ⟨t1, t2⟩ := zl_to j h51
      refine lv_tableIn (off := zl_o.getD j 0) (tgt := zl_t.getD j 0) hx hb zd_33 (by rw [hint]; omega) (by rw [hint]; omega) (by rw [hint, show ((j : Int) - 0).toNat = j by omega]; exact t1) t2 ?_
      exact zx_T_s (f := 60000) (d := 40) hC hRt rfl hzf 80 [] _ _ _ _ _ _ _ _ (fun q hq => by cases hq) (zk_all j h51) _ _ _ _ hRl
    · refine lv_tableOut (tgt := 1795) hx hb zd_33 (by rw [hint]; omega) (by decide) ?_
      exact zx_T_s (f := 60000) (d := 40) hC hRt rfl hzf 80 [] _ _ _ _ _ _ _ _ (fun q hq => by cases hq) zk_51 _ _ _ _ hRl
