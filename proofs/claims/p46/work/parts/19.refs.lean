/-! one step: longs, references in arrays, copies, Object's constructor -/
section ZD
variable {p : Program} {l : Launch} {en : Env} {R : Room} {s : State} {m : MethodId} {args : Array Value} {below : List Frame} {meth : Method} {c : Code} {Q : State → Prop} {D : va_G} {N0 : Nat} {ex : Nat → Nat} {nu : Nat → Int32} {ad0 : List Nat} {M : zx_M} {d : Nat} {nx : zx_N} {cur cur0 : List zx_E} {pc row : Nat} {st : List Nat} {h : zx_H} {e hn ce sl : Nat} {ls : Array Slot} {vs : List Value} {H : Heap} {locs : List Loc}
theorem zs_lald (hC : zx_Cx p R s m args meth c M d N0 ex nu) (hd : decode M.1.2.1 pc = .ok (.laload, 1)) (hN : zx_Nx p l en R s m args below meth c Q D N0 ex nu ad0 M nx) (hv : ∀ q ∈ cur, zx_ve M q) (hR : zx_Rl D N0 ex nu ad0 M s row st h e hn ls vs H locs) (hk : zh_lald nx (pc + 1) cur row st h e hn ce sl = true) :
    W p l en R s m args below meth c H locs ce sl Q (F0 m pc ls vs) := by
  obtain ⟨hx0, hb, -⟩ := hC
  unfold zh_lald at hk
  obtain ⟨i, r, st, rfl, hk⟩ := zx_p2_s hk
  obtain ⟨qq, hk⟩ := zx_bft hk
  obtain ⟨qi, q1⟩ := zx_and_b qq
  obtain ⟨k, g1, hk⟩ := zx_hg_s hk
  obtain ⟨q2, hk⟩ := zx_bft hk
  obtain ⟨q2, q3⟩ := zx_and_b q2
  have q2 : k % 16 = 6 := zx_beq_t q2
  obtain ⟨tys, ws, ⟨hK, hP, hD, hn', hH, hp⟩, hS, hl, hL, hT, hE⟩ := hR
  obtain ⟨xi, x, rs, rfl, h0, h1, h2⟩ := zx_SR2 hT
  obtain ⟨xi, rfl⟩ := zx_r_i qi h0
  obtain ⟨ad, h3, rfl⟩ := zx_ref2 h1 q1
  obtain ⟨ee, h4, h5⟩ := zx_HR_get hH g1 h3 (by omega)
  obtain ⟨cA, f, h6, rfl⟩ := (zx_c6 q2).mp h5
  obtain ⟨t0, h7⟩ := zx_mem_at h6
  refine va_lald hx0 hb hK hP (r / 16) t0 h4 h7 (zx_in_s hE h0 q3) hd ?_
  exact hN _ _ _ _ _ _ _ _ _ hv hk _ _ _ _ ⟨tys, ws, ⟨hK, hP, hD, hn', hH, hp⟩, hS, hl, hL, ⟨zx_r_l _, h2⟩, hE⟩
theorem zs_last (hC : zx_Cx p R s m args meth c M d N0 ex nu) (hd : decode M.1.2.1 pc = .ok (.lastore, 1)) (hN : zx_Nx p l en R s m args below meth c Q D N0 ex nu ad0 M nx) (hv : ∀ q ∈ cur, zx_ve M q) (hR : zx_Rl D N0 ex nu ad0 M s row st h e hn ls vs H locs) (hk : zh_last nx (pc + 1) cur row st h e hn ce sl = true) :
    W p l en R s m args below meth c H locs ce sl Q (F0 m pc ls vs) := by
  obtain ⟨hx0, hb, -⟩ := hC
  unfold zh_last at hk
  obtain ⟨v, i, r, st, rfl, hk⟩ := zx_p3_s hk
  obtain ⟨qq, hk⟩ := zx_bft hk
  obtain ⟨qv, qq⟩ := zx_and_b qq
  obtain ⟨qi, q1⟩ := zx_and_b qq
  obtain ⟨k, g1, hk⟩ := zx_hg_s hk
  obtain ⟨q2, hk⟩ := zx_bft hk
  obtain ⟨q2, q3⟩ := zx_and_b q2
  have q2 : k % 16 = 6 := zx_beq_t q2
  obtain ⟨tys, ws, ⟨hK, hP, hD, hn', hH, hp⟩, hS, hl, hL, hT, hE⟩ := hR
  obtain ⟨xv, xi, x, rs, rfl, h00, h0, h1, h2⟩ := zx_SR3 hT
  obtain ⟨xv, rfl⟩ := zx_r_j (by rw [zx_beq_t qv]) h00
  obtain ⟨xi, rfl⟩ := zx_r_i qi h0
  obtain ⟨ad, h3, rfl⟩ := zx_ref2 h1 q1
  obtain ⟨ee, h4, h5⟩ := zx_HR_get hH g1 h3 (by omega)
  obtain ⟨cA, f, h6, rfl⟩ := (zx_c6 q2).mp h5
  obtain ⟨t0, h7⟩ := zx_mem_at h6
  refine va_last hx0 hb hK hP hD hS (r / 16) t0 h4 h7 (zx_in_s hE h0 q3) hd (fun H1 locs1 hP1 hD1 hS1 => ?_)
  obtain ⟨hW1, haa⟩ := zx_Wd_set (i := r / 16) (h' := h) ⟨hK, hP, hD, hn', hH, hp⟩ h4 g1 (fun _ _ => rfl) ((zx_c6 q2).mpr ⟨cA, _, h6, rfl⟩) hP1 hD1
  exact hN _ _ _ _ _ _ _ _ _ hv hk _ _ _ _ ⟨tys, _, hW1, hS1, hl, by rw [haa]; exact hL, by rw [haa]; exact h2, hE⟩
theorem zs_rald (hC : zx_Cx p R s m args meth c M d N0 ex nu) (hd : decode M.1.2.1 pc = .ok (.aaload, 1)) (hN : zx_Nx p l en R s m args below meth c Q D N0 ex nu ad0 M nx) (hv0 : ∀ q ∈ cur0, zx_ve M q) (hv : ∀ q ∈ cur, zx_ve M q) (hR : zx_Rl D N0 ex nu ad0 M s row st h e hn ls vs H locs) (hk : zh_rald nx (pc + 1) cur0 cur pc row st h e hn ce sl = true) :
    W p l en R s m args below meth c H locs ce sl Q (F0 m pc ls vs) := by
  obtain ⟨hx0, hb, -⟩ := hC
  unfold zh_rald at hk
  obtain ⟨i0, r, st', rfl, hk⟩ := zx_p2_s hk
  obtain ⟨qq, hk⟩ := zx_bft hk
  obtain ⟨qi, q1⟩ := zx_and_b qq
  obtain ⟨tys, ws, ⟨hK, hP, hD, hn', hH, hp⟩, hS, hl, hL, hT, hE⟩ := hR
  obtain ⟨xi, x, rs, rfl, h0, h1, h2⟩ := zx_SR2 hT
  obtain ⟨xi, rfl⟩ := zx_r_i qi h0
  obtain ⟨i, hi, hk⟩ := zx_no_s hE h0 hk
  obtain ⟨k, g1, hk⟩ := zx_hg_s hk
  obtain ⟨q2, hk⟩ := zx_bft hk
  have q2 : k % 16 = 8 := zx_beq_t q2
  obtain ⟨ad, h3, rfl⟩ := zx_ref2 h1 q1
  obtain ⟨ee, h4, h5⟩ := zx_HR_get hH g1 h3 (by omega)
  obtain ⟨cA, f, h6, rfl, h8⟩ := (zx_c8 q2).mp h5
  obtain ⟨t0, h7⟩ := zx_mem_at h6
  have hcn := zx_cn_lt k
  rcases zx_bif hk with ⟨q3, hk⟩ | ⟨-, hk⟩
  · obtain ⟨q3, q4⟩ := zx_and_b q3
    have q4 : i / 16 < zx_cn k := zx_blt_t q4
    rw [zx_fn_eq] at hk
    obtain ⟨-, h9, -⟩ := (zx_r4 (zx_beq_t q3)).mp hi
    cases h9
    refine va_aldq hx0 hb hK hP (r / 16) t0 h4 h7 (vp_in_nI q4 (by omega)) hd ?_
    rw [nI_clamp (by omega)]
    refine hN _ _ _ _ _ _ _ _ _ hv hk _ _ _ _ ⟨tys, ws, ⟨hK, hP, hD, hn', hH, hp⟩, hS, hl, hL, ⟨?_, h2⟩, hE⟩
    have e0 : zx_pl i = i / 16 := rfl
    rw [e0]
    rcases h8 (i / 16) q4 with ⟨z1, z2⟩ | z
    · rw [z1, z2]
      exact (zx_r3 (by decide)).mpr ⟨by decide, rfl⟩
    · cases hb0 : Nat.beq (zx_og k (i / 16)) 0 with
      | false => exact z
      | true =>
        rw [zx_beq_t hb0] at z
        exact z.2.elim
  · obtain ⟨e', hE', hk⟩ := zx_sp_s hE hi hk
    exact hN _ _ _ _ _ _ _ _ _ hv0 hk _ _ _ _ ⟨tys, ws, ⟨hK, hP, hD, hn', hH, hp⟩, hS, hl, hL, hT, hE'⟩
theorem zs_rast (hC : zx_Cx p R s m args meth c M d N0 ex nu) (hd : decode M.1.2.1 pc = .ok (.aastore, 1)) (hN : zx_Nx p l en R s m args below meth c Q D N0 ex nu ad0 M nx) (hv : ∀ q ∈ cur, zx_ve M q) (hR : zx_Rl D N0 ex nu ad0 M s row st h e hn ls vs H locs) (hk : zh_rast nx (pc + 1) cur row st h e hn ce sl = true) :
    W p l en R s m args below meth c H locs ce sl Q (F0 m pc ls vs) := by
  obtain ⟨hx0, hb, -⟩ := hC
  unfold zh_rast at hk
  obtain ⟨v, i0, r, st, rfl, hk⟩ := zx_p3_s hk
  obtain ⟨qq, hk⟩ := zx_bft hk
  obtain ⟨qv, qq⟩ := zx_and_b qq
  obtain ⟨qi, q1⟩ := zx_and_b qq
  obtain ⟨tys, ws, ⟨hK, hP, hD, hn', hH, hp⟩, hS, hl, hL, hT, hE⟩ := hR
  obtain ⟨xv, xi, x, rs, rfl, h00, h0, h1, h2⟩ := zx_SR3 hT
  obtain ⟨xi, rfl⟩ := zx_r_i qi h0
  obtain ⟨i, hi, hk⟩ := zx_no_s hE h0 hk
  obtain ⟨k, g1, hk⟩ := zx_hg_s hk
  obtain ⟨kv, gv, hk⟩ := zx_hg_s hk
  obtain ⟨q2, hk⟩ := zx_bft hk
  obtain ⟨q2, q3⟩ := zx_and_b q2
  obtain ⟨q3, q4⟩ := zx_and_b q3
  obtain ⟨q4, q5⟩ := zx_and_b q4
  have q2 : k % 16 = 8 := zx_beq_t q2
  have q5 : i / 16 < zx_cn k := zx_blt_t q5
  rw [zx_fn_eq] at hk
  obtain ⟨h', hk, g2, g3⟩ := zx_hs_s hk
  obtain ⟨ad, h3, rfl⟩ := zx_ref2 h1 q1
  obtain ⟨av, hv3, rfl⟩ := zx_ref2 h00 qv
  obtain ⟨ee, h4, h5⟩ := zx_HR_get hH g1 h3 (by omega)
  obtain ⟨cA, f, h6, rfl, h8⟩ := (zx_c8 q2).mp h5
  obtain ⟨t0, h7⟩ := zx_mem_at h6
  obtain ⟨tv7, tvc⟩ := zx_hd7 (c := kv) (x := 8) (zx_beq_t q3) (by decide)
  obtain ⟨ev, hv4, hv5⟩ := zx_HR_get hH gv hv3 (by omega)
  obtain ⟨fv, rv, rfl, hv6, -, -⟩ := (zx_c7 tv7).mp hv5
  rw [tvc] at hv4 hv6
  have hcn := zx_cn_lt k
  obtain ⟨-, h9, -⟩ := (zx_r4 (zx_beq_t q4)).mp hi
  cases h9
  have hr1 : rv.1 = RX8 := by
    have := Option.some.inj hv6
    rw [← this]
  refine va_astq hx0 hb hK hP hD hS (r / 16) t0 (v / 16) 8 h4 (by rw [hr1]; exact h7) hv4 hv6 (vp_in_nI q5 (by omega)) hd (fun H1 locs1 hP1 hD1 hS1 => ?_)
  rw [nI_clamp (by omega)] at hP1 hD1
  have hhd := zx_hd_tg (zx_os_hd k (i / 16) v)
  have hcr : zx_cr (ws.map (fun w => w.1)) ex nu tys (zx_os k (zx_pl i) v) (.inl (cA, zx_cn k, .inr (.inr (.inr (.inr (va_up f (i / 16) (some av))))))) := by
    refine (zx_c8 (by rw [show zx_os k (zx_pl i) v % 16 = k % 16 from hhd.1]; exact q2)).mpr ⟨cA, _, h6, by rw [show zx_cn (zx_os k (zx_pl i) v) = zx_cn k from hhd.2], fun j hj => ?_⟩
    rw [show zx_cn (zx_os k (zx_pl i) v) = zx_cn k from hhd.2] at hj
    by_cases hji : j = i / 16
    · subst hji
      right
      rw [show zx_og (zx_os k (zx_pl i) v) (i / 16) = v from zx_sd_same (by decide) _ _ _ h00.1]
      unfold va_up
      rw [if_pos rfl]
      exact h00
    · rw [show zx_og (zx_os k (zx_pl i) v) j = zx_og k j from zx_sd_other (by decide) _ _ _ _ h00.1 hji]
      unfold va_up
      rw [if_neg hji]
      exact h8 j hj
  obtain ⟨hW1, haa⟩ := zx_Wd_set (i := r / 16) ⟨hK, hP, hD, hn', hH, hp⟩ h4 g2 g3 hcr hP1 hD1
  exact hN _ _ _ _ _ _ _ _ _ hv hk _ _ _ _ ⟨tys, _, hW1, hS1, hl, by rw [haa]; exact hL, by rw [haa]; exact h2, hE⟩
theorem zx_room {st : List Nat} {vs : List Value} {ads : List Nat} (h : zx_SR ads ex nu st vs) (hw : Nat.ble (zx_wd st) 8 = true) : (vs.map fun w => w.category).sum ≤ 8 := by rw [(zx_wd_s h).2]; exact zx_ble_t hw
theorem zs_obj {q : zx_Q} {i : Nat} (hC : zx_Cx p R s m args meth c M d N0 ex nu) (hq : q ∈ zx_ML) (ho : q.1 = M.2.1.1) (hi : q.2.1 = i) (hx : q.2.2.1 = 9000) (hd : decode M.1.2.1 pc = .ok (.invokespecial i, 3)) (hN : zx_Nx p l en R s m args below meth c Q D N0 ex nu ad0 M nx) (hv : ∀ q ∈ cur, zx_ve M q) (hR : zx_Rl D N0 ex nu ad0 M s row st h e hn ls vs H locs) (hk : zh_obj nx (pc + 3) cur row st h e hn ce sl = true) :
    W p l en R s m args below meth c H locs ce sl Q (F0 m pc ls vs) := by
  obtain ⟨hx0, hb, hml, hown, hts, -, hN0, hX, ⟨hrf, hrl, -, -⟩, -⟩ := hC
  unfold zh_obj at hk
  obtain ⟨r, st, rfl, hk⟩ := zx_p1_s hk
  obtain ⟨q1, hk⟩ := zx_bft hk
  obtain ⟨q1, q2⟩ := zx_and_b q1
  obtain ⟨tys, ws, hW, hS, hl, hL, hT, hE⟩ := hR
  obtain ⟨x, rs, rfl, h1, h2⟩ := zx_SR1 hT
  obtain ⟨ad, h3, rfl⟩ := zx_ref2 h1 q1
  have hlink : (Cond.methodLink (zx_on1 M.2.1.1) i objectInit).before args s = true := by
    have := hts _ (zx_inM hq)
    unfold zx_mw at this
    rw [ho, hi, hx] at this
    exact this
  have hrm := zx_room h2 q2
  refine W.objInit (own := zx_on1 M.2.1.1) hx0 hb hown hlink (hts _ (zx_inO (List.mem_of_getElem? (i := 0) rfl))) (hts _ (zx_inO (List.mem_of_getElem? (i := 1) rfl))) rfl (hl.1.trans hml.symm) rfl hd (by omega) ?_ ?_
  · have := lv_room (m := m) (pc := pc) (ls := ls) (rest := (.ref ad :: rs)) hrm
    omega
  · exact hN _ _ _ _ _ _ _ _ _ hv hk _ _ _ _ ⟨tys, ws, hW, hS, hl, hL, h2, hE⟩
theorem zs_cpy {q : zx_Q} {i : Nat} (hC : zx_Cx p R s m args meth c M d N0 ex nu) (hq : q ∈ zx_ML) (ho : q.1 = M.2.1.1) (hi : q.2.1 = i) (hx : q.2.2.1 = 9001) (hd : decode M.1.2.1 pc = .ok (.invokestatic i, 3)) (hN : zx_Nx p l en R s m args below meth c Q D N0 ex nu ad0 M nx) (hv : ∀ q ∈ cur, zx_ve M q) (hR : zx_Rl D N0 ex nu ad0 M s row st h e hn ls vs H locs) (hk : zh_cpy nx (pc + 3) cur row st h e hn ce sl = true) :
    W p l en R s m args below meth c H locs ce sl Q (F0 m pc ls vs) := by
  obtain ⟨hx0, hb, hml, hown, hts, -, hN0, hX, ⟨hrf, hrl, -, -⟩, -⟩ := hC
  unfold zh_cpy at hk
  obtain ⟨n, dp, dst, st1, rfl, hk1⟩ := zx_p3_s hk
  obtain ⟨sp, src, st, rfl, hk2⟩ := zx_p2_s hk1
  obtain ⟨q1, hk⟩ := zx_bft hk2
  obtain ⟨q1, q2⟩ := zx_and_b q1
  obtain ⟨q2, q3⟩ := zx_and_b q2
  obtain ⟨q3, q4⟩ := zx_and_b q3
  obtain ⟨q4, q5⟩ := zx_and_b q4
  obtain ⟨k, g1, hk⟩ := zx_hg_s hk
  obtain ⟨k1, gd, hk⟩ := zx_hg_s hk
  obtain ⟨q6, hk⟩ := zx_bft hk
  obtain ⟨q6, q7⟩ := zx_and_b q6
  obtain ⟨q7, q8⟩ := zx_and_b q7
  have q6 : k % 16 = 0 := zx_beq_t q6
  obtain ⟨t1, t2⟩ := zx_hd_tg (zx_beq_t q7)
  have t1 : k % 16 = k1 % 16 := t1
  obtain ⟨h', hk, g2, g3⟩ := zx_hs_s hk
  obtain ⟨tys, ws, ⟨hK, hP, hD, hn', hH, hp⟩, hS, hl, hL, hT, hE⟩ := hR
  obtain ⟨xn, xdp, xd, rs1, rfl, h01, h02, h03, hT2⟩ := zx_SR3 hT
  obtain ⟨xsp, xs, rs, rfl, h04, h05, h2⟩ := zx_SR2 hT2
  obtain ⟨as, h3, rfl⟩ := zx_ref2 h05 q1
  obtain ⟨ad, hd3, rfl⟩ := zx_ref2 h03 q2
  rw [zx_beq_t q3] at h04
  rw [zx_beq_t q4] at h02
  rw [zx_beq_t q8] at h01
  obtain ⟨-, e1, -⟩ := (zx_r4 (by decide)).mp h04
  obtain ⟨-, e2, -⟩ := (zx_r4 (by decide)).mp h02
  obtain ⟨-, e3, -⟩ := (zx_r4 (zx_c_kd _)).mp h01
  rw [zx_c_pl] at e3
  subst e1
  subst e2
  subst e3
  obtain ⟨ee, h4, h5⟩ := zx_HR_get hH g1 h3 (by omega)
  obtain ⟨cA, f, h6, rfl, h7⟩ := (zx_ck q6 (by decide)).mp h5
  obtain ⟨ed, hd4, hd5⟩ := zx_HR_get hH gd hd3 (by omega)
  obtain ⟨cB, g, hd6, rfl, hd7⟩ := (zx_ck (t1.symm.trans q6) (by decide)).mp hd5
  obtain ⟨t0, h8⟩ := zx_mem_at h6
  obtain ⟨t0', hd8⟩ := zx_mem_at hd6
  have hcn := zx_cn_lt k
  have hlink : (Cond.methodLink (zx_on1 M.2.1.1) i arraycopyName).before args s = true := by
    have := hts _ (zx_inM hq)
    unfold zx_mw at this
    rw [ho, hi, hx] at this
    exact this
  have hrm := zx_room h2 q5
  have e0 : (nI (4 / 16)).toNatClampNeg = 0 := by decide
  have en : (nI (zx_cn k)).toNatClampNeg = zx_cn k := nI_clamp (by omega)
  refine va_copyi (own := zx_on1 M.2.1.1) hx0 hb (hml.trans hl.1.symm) hown hlink (hts _ (zx_inO (List.mem_of_getElem? (i := 2) rfl))) (hts _ (zx_inO (List.mem_of_getElem? (i := 3) rfl))) (hts _ (zx_inO (List.mem_of_getElem? (i := 4) rfl))) hK hP hD hS (src / 16) (dst / 16) t0 t0' h4 hd4 h8 hd8 rfl (by decide) (by decide) (nI_pos (by omega)) (by rw [e0, en]; omega) (by rw [e0, en, ← t2]; omega) (fun _ _ => rfl) (by omega) ?_ hd (fun H1 locs1 hP1 hD1 hS1 => ?_)
  · have : nativeFrameWords "java/lang/System" "arraycopy" 5 = 7 := by decide
    omega
  · rw [e0, en] at hP1 hD1
    have hcr : zx_cr (ws.map (fun w => w.1)) ex nu tys k (.inl (cB, zx_cn k1, .inl (va_cpy f g 0 0 (zx_cn k)))) := by
      refine (zx_ck q6 (by decide)).mpr ⟨cB, _, hd6, by rw [t2], fun j hj => ?_⟩
      rw [pk_cpy_in (Nat.zero_le _) (by omega)]
      rw [show 0 + (j - 0) = j by omega]
      exact h7 j hj
    obtain ⟨hW1, haa⟩ := zx_Wd_set (i := dst / 16) ⟨hK, hP, hD, hn', hH, hp⟩ hd4 g2 g3 hcr hP1 hD1
    exact hN _ _ _ _ _ _ _ _ _ hv hk _ _ _ _ ⟨tys, _, hW1, hS1, hl, by rw [haa]; exact hL, by rw [haa]; exact h2, hE⟩
end ZD
