/-! one step of the typed walker: fields and arrays -/
theorem zy_by_ok : ((List.range 125).all (fun j => Nat.blt (zx_dg 0 8 256 zx_words j) 128) && (List.range 11).all (fun j => Nat.blt (zx_dg 0 8 256 zx_signs j) 128)) = true := by decide +kernel
section ZYM
variable {p : Program} {l : Launch} {en : Env} {R : Room} {s : State} {m : MethodId} {args : Array Value} {below : List Frame} {meth : Method} {c : Code} {Q : State → Prop} {D : va_G} {N0 : Nat} {T : List Nat} {Wm : Nat} {ws0 : va_W} {A0 A : zy_V} {M : zx_M} {d : Nat} {nx : zy_N} {cur cur0 : List zx_E} {pc row : Nat} {st : List Nat} {C : zy_C} {e : Nat} {ls : Array Slot} {vs : List Value} {H : Heap} {locs : List Loc}
theorem zy_tw_s {K g : Nat} (h : zy_tw K (Nat.mul 128 g) = true) : K.testBit (128 * g + 0) = true ∧ zy_Fp.testBit (128 * g + 0) = false ∧ 128 * g + 0 ≠ 5252 := by
  unfold zy_tw at h
  obtain ⟨h1, h⟩ := zx_and_b h
  obtain ⟨h2, h3⟩ := zx_and_b h
  rw [zy_tb_s] at h1 h2
  exact ⟨h1, (Bool.not_eq_true' _).mp h2, fun z => by omega⟩
theorem zy_exA (hA : zy_le A0 A) : zy_ex A = zy_ex A0 := by unfold zy_ex; rw [hA.1]
theorem zz_get {q : zx_Q} {i : Nat} (hC : zx_Cx p R s m args meth c M d N0 (zy_ex A0) zy_n0) (hq : q ∈ zx_FL) (ho : q.1 = M.2.1.1) (hi : q.2.1 = i) (hx : q.2.2.1 < 100) (hy : q.2.2.2.1 < (zx_ci q.2.2.1).2.2) (hd : decode M.1.2.1 pc = .ok (.getfield i, 3)) (hN : zy_Nx p l en R s m args below meth c Q D N0 T Wm ws0 A0 M nx) (hA : zy_le A0 A) (hv : ∀ q ∈ cur, zx_ve M q) (hR : zy_Rl D N0 T Wm ws0 A M s row st C e ls vs H locs) (hk : zyh_get T nx (7 + 16 * q.2.2.1) q.2.2.2.1 (pc + 3) cur row st C e = true) :
    W p l en R s m args below meth c H locs 0 0 Q (F0 m pc ls vs) := by
  obtain ⟨hx0, hb, hml, hown, hts, -⟩ := hC
  unfold zyh_get at hk
  obtain ⟨r, st, rfl, hk⟩ := zx_p1_s hk
  obtain ⟨q1, hk⟩ := zx_bft hk
  obtain ⟨k, g1, hk⟩ := zx_at_s _ _ hk
  obtain ⟨q2, hk⟩ := zx_bft hk
  obtain ⟨q2, q3⟩ := zx_and_b q2
  obtain ⟨q3, q4⟩ := zx_and_b q3
  obtain ⟨tys, ws, ⟨hK, hP, hD, hH⟩, hS, hl, hL, hT, hCR, hE, hU⟩ := hR
  obtain ⟨x, rs, rfl, h1, h2⟩ := zy_SR1 hT
  have q1 : r % 16 = 2 := zx_beq_t q1
  obtain ⟨j, ad, ee, rfl, h4, hg, h5, h9⟩ := zy_HR_get hH h1 q1 g1
  obtain ⟨t7, tcn⟩ := zx_hd7 (zx_beq_t q2) hx
  obtain ⟨fs, rc, rfl, h6, h7, h8⟩ := (zy_c7 t7).mp h5
  rw [tcn] at h4 h6
  have hci := zx_ci_of h6
  have hrm := List.mem_of_getElem? h6
  rw [hci] at hy
  have hlt : q.2.2.2.1 < fs.length := by rw [h7]; exact hy
  have hpl : r / 16 % 256 ≠ 0 → r / 16 % 256 < zy_fr A ∧ (zy_gl A)[zy_ru A (r / 16 % 256)]? = some (r / 16 / 256) ∧ zy_rd ws (zy_ru A (r / 16 % 256)) q.2.2.2.1 0 = some (fs[q.2.2.2.1]'hlt) := fun z => by
    obtain ⟨z1, z2⟩ := h9 z
    refine ⟨z2, by rw [z1]; exact hg, ?_⟩
    rw [z1, zy_rd_at h4]
    exact List.getElem?_eq_getElem hlt
  refine va_get (own := zx_on1 M.2.1.1) (ref := (rc.2.1 q.2.2.2.1).1) hx0 hb hts (zx_cl_ws hrm) hown hK hP j h4 h6 q.2.2.2.1 hy ?_ (fun _ z => z) (List.getElem?_eq_getElem hlt) hd ?_
  · have := hts _ (zx_inF hq)
    rw [zx_fw_of hx hci, ho, hi] at this
    exact this
  · obtain ⟨B, v, C', e', b1, b2, b3, b4, hk⟩ := zy_gt_s hE hCR (r := r / 16 % 256) (g := r / 16 / 256) (f := q.2.2.2.1) (i := 0) (zx_blt_t q3) (zx_blt_t q4) (Nat.mod_lt _ (by decide)) hpl (h8 _ _ (List.getElem?_eq_getElem hlt)) hk
    obtain ⟨hW', hL', h2', -, hU'⟩ := zy_Rl_le (e' := e') b1 hE ⟨hK, hP, hD, hH⟩ hL h2 hCR hU
    exact hN _ _ _ _ _ _ _ (zy_le_tr hA b1) hv hk _ _ _ _ ⟨tys, ws, hW', hS, hl, hL', ⟨b3, h2'⟩, b4, b2, hU'⟩
theorem zz_put {q : zx_Q} {i : Nat} (hC : zx_Cx p R s m args meth c M d N0 (zy_ex A0) zy_n0) (hq : q ∈ zx_FL) (ho : q.1 = M.2.1.1) (hi : q.2.1 = i) (hx : q.2.2.1 < 100) (hy : q.2.2.2.1 < (zx_ci q.2.2.1).2.2) (hfin : ((zx_ci q.2.2.1).2.1 q.2.2.2.1).2.2.2 = false ∨ (M.2.1.2.1 = 2 ∧ ((zx_ci q.2.2.1).2.1 q.2.2.2.1).1 = zx_on1 M.2.1.1)) (hd : decode M.1.2.1 pc = .ok (.putfield i, 3)) (hN : zy_Nx p l en R s m args below meth c Q D N0 T Wm ws0 A0 M nx) (hA : zy_le A0 A) (hv : ∀ q ∈ cur, zx_ve M q) (hR : zy_Rl D N0 T Wm ws0 A M s row st C e ls vs H locs) (hk : zyh_put T Wm nx (7 + 16 * q.2.2.1 + 1048576 * zx_fm ((zx_ci q.2.2.1).2.1 q.2.2.2.1).2.2.1) q.2.2.2.1 (pc + 3) cur row st C e = true) :
    W p l en R s m args below meth c H locs 0 0 Q (F0 m pc ls vs) := by
  obtain ⟨hx0, hb, hml, hown, hts, hini, -⟩ := hC
  unfold zyh_put at hk
  obtain ⟨v, r, st, rfl, hk⟩ := zx_p2_s hk
  obtain ⟨q1, hk⟩ := zx_bft hk
  obtain ⟨q1, q3⟩ := zx_and_b q1
  obtain ⟨tys, ws, ⟨hK, hP, hD, hH⟩, hS, hl, hL, hT, hCR, hE, hU⟩ := hR
  obtain ⟨xv, x, rs, rfl, h0, h1, h2⟩ := zy_SR2 hT
  obtain ⟨v', h0', hk, -⟩ := zy_no_s hE h0 hk
  obtain ⟨k, g1, hk⟩ := zx_at_s _ _ hk
  obtain ⟨q2, hk⟩ := zx_bft hk
  obtain ⟨q2, q4⟩ := zx_and_b q2
  obtain ⟨q4, q5⟩ := zx_and_b q4
  obtain ⟨q5, q6⟩ := zx_and_b q5
  rw [zx_fn_eq] at hk
  obtain ⟨q7, hk⟩ := zx_bft hk
  obtain ⟨q7, q8⟩ := zx_and_b q7
  obtain ⟨q8, q9⟩ := zx_and_b q8
  rw [zy_tb_s] at q7
  have q8 : zy_Fp.testBit (128 * (r / 16 / 256) + q.2.2.2.1) = false := by
    rw [zy_tb_s] at q8
    exact (Bool.not_eq_true' _).mp q8
  obtain ⟨C', hk, hC'⟩ := zy_kl_s hk
  have q1 : r % 16 = 2 := zx_beq_t q1
  have q4 : q.2.2.2.1 < 128 := zx_blt_t q4
  have q5 : r / 16 / 256 < 512 := zx_blt_t q5
  obtain ⟨j, ad, ee, rfl, h4, hg, h5, h9⟩ := zy_HR_get hH h1 q1 g1
  generalize hmk : zx_fm ((zx_ci q.2.2.1).2.1 q.2.2.2.1).2.2.1 = mk at q2 q3
  have e1 : zx_hd (7 + 16 * q.2.2.1 + 1048576 * mk) = 7 + 16 * q.2.2.1 := by
    show (7 + 16 * q.2.2.1 + 1048576 * mk) % 1048576 = _
    omega
  have e2 : Nat.shiftRight (7 + 16 * q.2.2.1 + 1048576 * mk) 20 = mk := by
    show (7 + 16 * q.2.2.1 + 1048576 * mk) >>> 20 = mk
    rw [Nat.shiftRight_eq_div_pow]
    show (7 + 16 * q.2.2.1 + 1048576 * mk) / 1048576 = mk
    omega
  rw [e2] at q3
  obtain ⟨t7, tcn⟩ := zx_hd7 ((zx_beq_t q2).trans e1) hx
  obtain ⟨fs, rc, rfl, h6, h7, h8⟩ := (zy_c7 t7).mp h5
  rw [tcn] at h6
  rw [tcn] at h4
  have hci := zx_ci_of h6
  have hrm := List.mem_of_getElem? h6
  rw [hci] at hy hfin hmk
  have hlt : q.2.2.2.1 < fs.length := by rw [h7]; exact hy
  obtain ⟨ty1, ty2, ty3⟩ := zx_cl_ty hrm
  obtain ⟨hnr, hft⟩ := zx_put_ty (ty2 _ hy) (by rw [hmk]; exact zy_kp_of q3 h0)
  have hlink : (Cond.fieldLink (zx_on1 M.2.1.1) i (rc.2.1 q.2.2.2.1).1 (rc.2.1 q.2.2.2.1).2.1 (rc.2.1 q.2.2.2.1).2.2.1).before args s = true := by
    have := hts _ (zx_inF hq)
    rw [zx_fw_of hx hci, ho, hi] at this
    exact this
  have key : ∀ (H1 : Heap) (locs1 : List Loc), va_P D vwCl (ws.set j (ad, .inr (q.2.2.1, fs.set q.2.2.2.1 xv))) H1 → va_D (zx_A N0) (ws.set j (ad, .inr (q.2.2.1, fs.set q.2.2.2.1 xv))) → va_S (zx_A N0) s.heap H1 locs1 → W p l en R s m args below meth c H1 locs1 0 0 Q (F0 m (pc + 3) ls rs) := by
    intro H1 locs1 hP1 hD1 hS1
    have hcr : zy_cr (zy_fz A) tys k (.inr (q.2.2.1, fs.set q.2.2.2.1 xv)) := by
      refine (zy_c7 t7).mpr ⟨fs.set q.2.2.2.1 xv, rc, by rw [tcn], by rw [tcn]; exact h6, by rw [List.length_set]; exact h7, fun n w hw => ?_⟩
      by_cases hj : n = q.2.2.2.1
      · subst hj
        rw [List.getElem?_set_self hlt] at hw
        cases hw
        exact zy_ft_s hE (zx_dg_lt (by decide)) h0' q6
      · rw [List.getElem?_set_ne (Ne.symm hj)] at hw
        exact h8 n w hw
    have hre : ∀ f' a : Nat, f' ≠ q.2.2.2.1 → zy_re (.inr (q.2.2.1, fs.set q.2.2.2.1 xv)) f' a = zy_re (.inr (q.2.2.1, fs)) f' a := fun f' a hf => List.getElem?_set_ne (Ne.symm hf)
    have hH1 := zy_HR_set hH h4 hg g1 hcr
    have hCR1 : zy_CR A (ws.set j (ad, .inr (q.2.2.1, fs.set q.2.2.2.1 xv))) C' := by
      refine zy_CR_set (P := fun _ => True) (f := q.2.2.2.1) hCR h4 hg (fun f' a hf => hre f' a (hf.resolve_right (fun z => z trivial))) (fun z hz => ⟨(hC' z hz).1, fun w => ?_⟩)
      exact absurd w (zx_beq_f (hC' z hz).2)
    have hz : 128 * (r / 16 / 256) + q.2.2.2.1 = 5252 → zy_re (.inr (q.2.2.1, fs.set q.2.2.2.1 xv)) 4 0 ≠ some (.int 0) := fun z hz => by
      have z4 : q.2.2.2.1 = 4 := by omega
      rcases zx_bif q9 with ⟨-, q9⟩ | ⟨w, -⟩
      · have hz : (fs.set q.2.2.2.1 xv)[4]? = some (.int 0) := hz
        rw [z4, List.getElem?_set_self (by rw [z4] at hlt; exact hlt)] at hz
        have hz := Option.some.inj hz
        rw [hz] at h0'
        obtain ⟨lo, up, q9, a1, a2, -⟩ := zy_iv_s hE h0' q9
        have b0 : zx_bz 0 = 2147483648 := by decide
        rcases (Bool.or_eq_true _ _).mp q9 with w | w
        · have := zx_blt_t w
          omega
        · have := zx_blt_t w
          omega
      · exact absurd z (zx_beq_f w)
    have hU1 := zy_UN_set hU h4 hg q4 hre q7 q8 hz
    have hW1 : zy_Wd D N0 T A s H1 tys (ws.set j (ad, .inr (q.2.2.1, fs.set q.2.2.2.1 xv))) := ⟨hK, hP1, hD1, hH1⟩
    rcases zx_bif hk with ⟨-, hk⟩ | ⟨w, hk⟩
    · exact hN _ _ _ _ _ _ _ hA hv hk _ _ _ _ ⟨tys, _, hW1, hS1, hl, hL, h2, hCR1, hE, hU1⟩
    · rw [zx_fn_eq] at hk
      have w : r / 16 % 256 ≠ 0 := zx_beq_f w
      obtain ⟨z1, z2⟩ := h9 w
      obtain ⟨B, v2, e', b1, b2, b3, hk⟩ := zy_nv_s hE h0' hk
      obtain ⟨hW', hL', h2', hCR', hU'⟩ := zy_Rl_le (e' := e') b1 hE hW1 hL h2 hCR1 hU1
      have hru := b1.2.2.2.2 _ z2
      refine hN _ _ _ _ _ _ _ (zy_le_tr hA b1) hv hk _ _ _ _ ⟨tys, _, hW', hS1, hl, hL', h2', zy_CR_cons (r := r / 16 % 256) (g := r / 16 / 256) (f := q.2.2.2.1) (i := 0) hCR' q4 q5 (Nat.mod_lt _ (by decide)) (Nat.lt_of_lt_of_le z2 b1.2.1.2.2) (by rw [hru, z1, zy_gl_le b1]; exact hg) ?_ b3, b2, hU'⟩
      rw [hru, z1, zy_rd_set h4]
      exact List.getElem?_set_self hlt
  by_cases hf : (rc.2.1 q.2.2.2.1).2.2.2 = false
  · exact va_put (own := zx_on1 M.2.1.1) (ref := (rc.2.1 q.2.2.2.1).1) hx0 hb hts (zx_cl_ws hrm) (zx_fty rc) ty1 ty3 hown hK hP hD hS j h4 h6 q.2.2.2.1 hy hlink (fun _ z => z) hf (ty1 _ hy) hnr hft hlt hd key
  · rcases hfin with z | ⟨z1, z2⟩
    · exact absurd z hf
    · exact va_putF (own := zx_on1 M.2.1.1) (ref := (rc.2.1 q.2.2.2.1).1) hx0 hb hts (zx_cl_ws hrm) (zx_fty rc) ty1 ty3 hown hK hP hD hS j h4 h6 q.2.2.2.1 hy hlink (fun _ z => z) (by simpa using hf) (hini z1) z2 (ty1 _ hy) hnr hft hlt hd key
theorem zz_str {q : zx_Q} {i a : Nat} (hC : zx_Cx p R s m args meth c M d N0 (zy_ex A0) zy_n0) (hq : q ∈ zx_FL) (ho : q.1 = M.2.1.1) (hi : q.2.1 = i) (hx : q.2.2.1 = 100 + a) (ha : a < 2) (hd : decode M.1.2.1 pc = .ok (.getfield i, 3)) (hN : zy_Nx p l en R s m args below meth c Q D N0 T Wm ws0 A0 M nx) (hA : zy_le A0 A) (hv : ∀ q ∈ cur, zx_ve M q) (hR : zy_Rl D N0 T Wm ws0 A M s row st C e ls vs H locs) (hk : zyh_str nx a (pc + 3) cur row st C e = true) :
    W p l en R s m args below meth c H locs 0 0 Q (F0 m pc ls vs) := by
  obtain ⟨hx0, hb, hml, hown, hts, hini, hN0, hX, -⟩ := hC
  rw [← zy_exA hA] at hX
  unfold zyh_str at hk
  obtain ⟨r, st, rfl, hk⟩ := zx_p1_s hk
  obtain ⟨q1, hk⟩ := zx_bft hk
  obtain ⟨tys, ws, hW, hS, hl, hL, hT, hCR, hE, hU⟩ := hR
  obtain ⟨x, rs, rfl, h1, h2⟩ := zy_SR1 hT
  have hlink := hts _ (zx_inF hq)
  unfold zx_fw at hlink
  rw [hx, ho, hi] at hlink
  obtain ⟨b, n, w, hbx, hTx, rfl⟩ : ∃ b n w, zy_r A (r + 16) (.ref b) ∧ zx_Tx N0 (zy_ex A (r / 16)) b n w s s.heap ∧ x = .ref (zy_ex A (r / 16)) := by
    rcases (Bool.or_eq_true _ _).mp q1 with z | z <;> have z := zx_beq_t z <;> subst z
    · exact ⟨zy_ex A 2, 125, zx_words, (zy_r6 (by decide)).mpr ⟨by decide, rfl⟩, hX.2.2.1, ((zy_r6 (by decide)).mp h1).2⟩
    · exact ⟨zy_ex A 4, 11, zx_signs, (zy_r6 (by decide)).mpr ⟨by decide, rfl⟩, hX.2.2.2.1, ((zy_r6 (by decide)).mp h1).2⟩
  match a, ha with
  | 0, _ =>
    refine vk_getf (own := zx_on1 M.2.1.1) (ref := "java/lang/String") hx0 hb hTx.2.2.1 hS hown hlink (fun _ z => z) hd ?_
    exact hN _ _ _ _ _ _ _ hA hv hk _ _ _ _ ⟨tys, ws, hW, hS, hl, hL, ⟨hbx, h2⟩, hCR, hE, hU⟩
  | 1, _ =>
    refine vk_getf (own := zx_on1 M.2.1.1) (ref := "java/lang/String") hx0 hb hTx.2.1 hS hown hlink (fun _ z => z) hd ?_
    exact hN _ _ _ _ _ _ _ hA hv hk _ _ _ _ ⟨tys, ws, hW, hS, hl, hL, ⟨zy_r_0, h2⟩, hCR, hE, hU⟩
theorem zy_Tx_at (hX : zx_X (zy_ex A) zy_n0 N0 s s.heap) {r : Nat} (hr : (Nat.beq r 38 || Nat.beq r 70) = true) {x : Value} (h : zy_r A r x) : ∃ b, x = .ref b ∧ va_T .byte b (zx_xl (zx_pl r)) (fun j => .int (nI (zx_dg 0 8 256 (zx_xb (zx_pl r)) j))) (zx_A N0) s s.heap ∧ ∀ j, j < zx_xl (zx_pl r) → zx_dg 0 8 256 (zx_xb (zx_pl r)) j < 128 := by
  obtain ⟨k1, k2⟩ := zx_and_b zy_by_ok
  rcases (Bool.or_eq_true _ _).mp hr with z | z <;> have z := zx_beq_t z <;> subst z
  · exact ⟨zy_ex A 2, ((zy_r6 (by decide)).mp h).2, hX.2.2.1.2.2.2, fun j hj => zx_blt_t (List.all_eq_true.mp k1 j (List.mem_range.mpr hj))⟩
  · exact ⟨zy_ex A 4, ((zy_r6 (by decide)).mp h).2, hX.2.2.2.1.2.2.2, fun j hj => zx_blt_t (List.all_eq_true.mp k2 j (List.mem_range.mpr hj))⟩
theorem zy_cr_arr {tys : List (ClassId × FieldType)} {k : Nat} {ee : va_E} (hc : zy_cr A tys k ee) (h7 : k % 16 ≠ 7) : ∃ (cA : ClassId) (ty : FieldType) (f : (Nat → Int32) ⊕ (Nat → Int64) ⊕ (Nat → UInt32) ⊕ (Nat → UInt64) ⊕ (Nat → Option Nat)), (cA, ty) ∈ tys ∧ ee = .inl (cA, zx_cn k, f) := by
  obtain ⟨hl1, hl2⟩ := zy_cr_tg hc
  rcases (show (k % 16 < 6 ∨ k % 16 = 9) ∨ k % 16 = 6 ∨ k % 16 = 8 by omega) with q | q | q
  · obtain ⟨cA, f, h1, h2, -⟩ := zy_cr_int hc q
    exact ⟨cA, _, _, h1, h2⟩
  · obtain ⟨cA, f, h1, h2⟩ := (zy_c6 q).mp hc
    exact ⟨cA, _, _, h1, h2⟩
  · obtain ⟨cA, f, h1, h2, -⟩ := (zy_c8 q).mp hc
    exact ⟨cA, _, _, h1, h2⟩
theorem zz_len (hC : zx_Cx p R s m args meth c M d N0 (zy_ex A0) zy_n0) (hd : decode M.1.2.1 pc = .ok (.arraylength, 1)) (hN : zy_Nx p l en R s m args below meth c Q D N0 T Wm ws0 A0 M nx) (hA : zy_le A0 A) (hv : ∀ q ∈ cur, zx_ve M q) (hR : zy_Rl D N0 T Wm ws0 A M s row st C e ls vs H locs) (hk : zyh_len T nx (pc + 1) cur row st C e = true) :
    W p l en R s m args below meth c H locs 0 0 Q (F0 m pc ls vs) := by
  obtain ⟨hx0, hb, hml, hown, hts, -, hN0, hX, -⟩ := hC
  rw [← zy_exA hA] at hX
  unfold zyh_len at hk
  obtain ⟨r, st, rfl, hk⟩ := zx_p1_s hk
  obtain ⟨tys, ws, hW, hS, hl, hL, hT, hCR, hE, hU⟩ := hR
  obtain ⟨x, rs, rfl, h1, h2⟩ := zy_SR1 hT
  rcases zx_bif hk with ⟨q1, hk⟩ | ⟨-, hk⟩
  · obtain ⟨k, g1, hk⟩ := zx_at_s _ _ hk
    rcases zx_bif hk with ⟨-, hk⟩ | ⟨q2, hk⟩
    · cases hk
    rw [zx_fn_eq] at hk
    have q2 : k % 16 ≠ 7 := zx_beq_f q2
    have q1 : r % 16 = 2 := zx_beq_t q1
    obtain ⟨hK, hP, hD, hH⟩ := hW
    obtain ⟨j, ad, ee, rfl, h4, hg, h5, h9⟩ := zy_HR_get hH h1 q1 g1
    obtain ⟨cA, ty, f, h6, rfl⟩ := zy_cr_arr h5 q2
    obtain ⟨t0, h7⟩ := zx_mem_at h6
    refine va_alen hx0 hb hK hP j t0 h4 h7 rfl hd ?_
    exact hN _ _ _ _ _ _ _ hA hv hk _ _ _ _ ⟨tys, ws, ⟨hK, hP, hD, hH⟩, hS, hl, hL, ⟨zy_r_c (by have := zx_cn_lt k; omega), h2⟩, hCR, hE, hU⟩
  obtain ⟨q1, hk⟩ := zx_bft hk
  rw [zx_fn_eq] at hk
  obtain ⟨b, rfl, hTt, -⟩ := zy_Tx_at hX q1 h1
  refine va_tlen hx0 hb hTt hS rfl hd ?_
  refine hN _ _ _ _ _ _ _ hA hv hk _ _ _ _ ⟨tys, ws, hW, hS, hl, hL, ⟨zy_r_c ?_, h2⟩, hCR, hE, hU⟩
  rcases (Bool.or_eq_true _ _).mp q1 with z | z <;> have z := zx_beq_t z <;> subst z <;> decide
theorem zz_ald {a : Nat} {ins : Instr} (ha : (a = 9 ∧ ins = .iaload) ∨ (a = 54 ∧ ins = .baload)) (hC : zx_Cx p R s m args meth c M d N0 (zy_ex A0) zy_n0) (hd : decode M.1.2.1 pc = .ok (ins, 1)) (hN : zy_Nx p l en R s m args below meth c Q D N0 T Wm ws0 A0 M nx) (hA : zy_le A0 A) (hv0 : ∀ q ∈ cur0, zx_ve M q) (hv : ∀ q ∈ cur, zx_ve M q) (hR : zy_Rl D N0 T Wm ws0 A M s row st C e ls vs H locs) (hk : zyh_ald T nx a (pc + 1) cur0 cur pc row st C e = true) :
    W p l en R s m args below meth c H locs 0 0 Q (F0 m pc ls vs) := by
  obtain ⟨hx0, hb, hml, hown, hts, -, hN0, hX, -⟩ := hC
  rw [← zy_exA hA] at hX
  unfold zyh_ald at hk
  obtain ⟨i0, r, st', rfl, hk⟩ := zx_p2_s hk
  obtain ⟨qi, hk⟩ := zx_bft hk
  obtain ⟨tys, ws, ⟨hK, hP, hD, hH⟩, hS, hl, hL, hT, hCR, hE, hU⟩ := hR
  obtain ⟨xi, x, rs, rfl, h0, h1, h2⟩ := zy_SR2 hT
  obtain ⟨xi, rfl⟩ := zy_r_i qi h0
  obtain ⟨i, hi, hk⟩ := zy_n1_s hE h0 hk
  rcases zx_bif hk with ⟨q1, hk⟩ | ⟨-, hk⟩
  · obtain ⟨k, g1, hk⟩ := zx_at_s _ _ hk
    obtain ⟨q2, hk⟩ := zx_bft hk
    obtain ⟨q2, q6⟩ := zx_and_b q2
    obtain ⟨t6, hins⟩ := zy_tags ha q2
    have q1 : r % 16 = 2 := zx_beq_t q1
    obtain ⟨j, ad, ee, rfl, h4, hg, h5, h9⟩ := zy_HR_get hH h1 q1 g1
    obtain ⟨cA, f, h6, rfl, h7⟩ := zy_cr_int h5 (by omega)
    have hcn := zx_cn_lt k
    have hup : ∀ n, n < zx_cn k → zy_r A (zy_et k n) (.int (f n)) := fun n hn => zy_r_le (zy_fz_le (zy_f100 hE)) (h7 n hn)
    rcases zx_bif hk with ⟨q3, hk⟩ | ⟨-, hk⟩
    · have q3 : i % 16 = 4 := zx_beq_t q3
      obtain ⟨q4, hk⟩ := zx_bft hk
      have q4 : i / 16 < zx_cn k := zx_blt_t q4
      rw [zx_fn_eq] at hk
      obtain ⟨-, h8, -⟩ := (zy_r4 q3).mp hi
      cases h8
      refine zx_ldrow hx0 hb hins hK hP h4 h6 (vp_in_nI q4 (by omega)) hd ?_
      rw [nI_clamp (by omega)]
      rcases zx_bif hk with ⟨-, hk⟩ | ⟨-, hk⟩
      · exact hN _ _ _ _ _ _ _ hA hv hk _ _ _ _ ⟨tys, ws, ⟨hK, hP, hD, hH⟩, hS, hl, hL, ⟨hup _ q4, h2⟩, hCR, hE, hU⟩
      · have hpl : r / 16 % 256 ≠ 0 → r / 16 % 256 < zy_fr A ∧ (zy_gl A)[zy_ru A (r / 16 % 256)]? = some (r / 16 / 256) ∧ zy_rd ws (zy_ru A (r / 16 % 256)) 0 (i / 16) = some (.int (f (i / 16))) := fun z => by
          obtain ⟨z1, z2⟩ := h9 z
          refine ⟨z2, by rw [z1]; exact hg, ?_⟩
          rw [z1, zy_rd_at h4]
          exact if_pos ⟨rfl, q4⟩
        obtain ⟨B, v, C', e', b1, b2, b3, b4, hk⟩ := zy_gt_s hE hCR (r := r / 16 % 256) (g := r / 16 / 256) (f := 0) (i := i / 16) (by decide) (zx_blt_t q6) (Nat.mod_lt _ (by decide)) hpl (h7 _ q4) hk
        obtain ⟨hW', hL', h2', -, hU'⟩ := zy_Rl_le (e' := e') b1 hE ⟨hK, hP, hD, hH⟩ hL h2 hCR hU
        exact hN _ _ _ _ _ _ _ (zy_le_tr hA b1) hv hk _ _ _ _ ⟨tys, ws, hW', hS, hl, hL', ⟨b3, h2'⟩, b4, b2, hU'⟩
    rcases zx_bif hk with ⟨q3, hk⟩ | ⟨-, hk⟩
    · obtain ⟨e', hE', hk⟩ := zy_sp_s hE hi hk
      exact hN _ _ _ _ _ _ _ hA hv0 hk _ _ _ _ ⟨tys, ws, ⟨hK, hP, hD, hH⟩, hS, hl, hL, hT, hCR, hE', hU⟩
    · obtain ⟨q3, hk⟩ := zx_bft hk
      have hin := zy_in_s hE hi q3
      have hk := zy_ex1_s hE hi hin hk
      refine zx_ldrow hx0 hb hins hK hP h4 h6 hin hd ?_
      exact hN _ _ _ _ _ _ _ hA hv hk _ _ _ _ ⟨tys, ws, ⟨hK, hP, hD, hH⟩, hS, hl, hL, ⟨hup _ (zy_vp hin).1, h2⟩, hCR, hE, hU⟩
  obtain ⟨q1, hk⟩ := zx_bft hk
  obtain ⟨q3, hk2⟩ := zx_bft hk
  obtain ⟨q3, q4⟩ := zx_and_b q3
  have q3 := zx_beq_t q3
  obtain ⟨b, rfl, hTt, hby⟩ := zy_Tx_at hX q1 h1
  have hin := zy_in_s hE hi q4
  rcases ha with ⟨rfl, rfl⟩ | ⟨rfl, rfl⟩
  · cases q3
  · refine va_tb hx0 hb hTt hS hin rfl hd ?_
    have h8 := hby _ (zy_vp hin).1
    have h9 := zy_bz_n (n := zx_dg 0 8 256 (zx_xb (zx_pl r)) xi.toNatClampNeg) (by omega)
    exact hN _ _ _ _ _ _ _ hA hv hk2 _ _ _ _ ⟨tys, ws, ⟨hK, hP, hD, hH⟩, hS, hl, hL, ⟨zy_r_7 (by omega) (by omega) (by decide), h2⟩, hCR, hE, hU⟩
theorem zy_re_upd {cA : ClassId} {N n f' a : Nat} {f : Nat → Int32} {y : Int32} (h : f' ≠ 0 ∨ ¬ a = n) : zy_re (.inl (cA, N, .inl (upd f n y))) f' a = zy_re (.inl (cA, N, .inl f)) f' a := by
  show (if f' = 0 ∧ a < N then some (Value.int (upd f n y a)) else none) = (if f' = 0 ∧ a < N then some (Value.int (f a)) else none)
  rcases h with h | h
  · rw [if_neg (fun z => h z.1), if_neg (fun z => h z.1)]
  · rw [pk_un h]
/-- an int goes into a cell of an array -/
theorem zy_ast_all {tys : List (ClassId × FieldType)} {ws : va_W} (hH : zy_HR A T tys ws) {j ad g k n : Nat} {cA : ClassId} {f : Nat → Int32} {y : Int32} (h4 : ws[j]? = some (ad, .inl (cA, zx_cn k, .inl f))) (hg : (zy_gl A)[j]? = some g) (hT : T[g]? = some k) (t6 : (3 ≤ k % 16 ∧ k % 16 < 6) ∨ k % 16 = 9) (h6 : (cA, zx_ty (k % 16 % 3)) ∈ tys) (h7 : ∀ j, j < zx_cn k → zy_r (zy_fz A) (zy_et k j) (.int (f j))) (hy : zy_r (zy_fz A) (zy_et k n) (.int y)) : zy_HR A T tys (ws.set j (ad, .inl (cA, zx_cn k, .inl (upd f n y)))) := by
  refine zy_HR_set hH h4 hg hT (zy_cr_int' t6 h6 (fun i hi => ?_))
  by_cases hin : i = n
  · subst hin
    rw [pk_us]
    exact hy
  · rw [pk_un hin]
    exact h7 i hi
theorem zz_ast {a : Nat} {ins : Instr} (ha : (a = 9 ∧ ins = .iastore) ∨ (a = 54 ∧ ins = .bastore)) (hC : zx_Cx p R s m args meth c M d N0 (zy_ex A0) zy_n0) (hd : decode M.1.2.1 pc = .ok (ins, 1)) (hN : zy_Nx p l en R s m args below meth c Q D N0 T Wm ws0 A0 M nx) (hA : zy_le A0 A) (hv0 : ∀ q ∈ cur0, zx_ve M q) (hv : ∀ q ∈ cur, zx_ve M q) (hR : zy_Rl D N0 T Wm ws0 A M s row st C e ls vs H locs) (hk : zyh_ast T Wm nx a (pc + 1) cur0 cur pc row st C e = true) :
    W p l en R s m args below meth c H locs 0 0 Q (F0 m pc ls vs) := by
  obtain ⟨hx0, hb, hml, hown, hts, -, hN0, hX, -⟩ := hC
  unfold zyh_ast at hk
  obtain ⟨v0, i0, r, st', rfl, hk⟩ := zx_p3_s hk
  obtain ⟨qq, hk⟩ := zx_bft hk
  obtain ⟨qv, qq⟩ := zx_and_b qq
  obtain ⟨qi, q1⟩ := zx_and_b qq
  obtain ⟨tys, ws, ⟨hK, hP, hD, hH⟩, hS, hl, hL, hT, hCR, hE, hU⟩ := hR
  obtain ⟨xv, xi, x, rs, rfl, h00, h0, h1, h2⟩ := zy_SR3 hT
  obtain ⟨xv, rfl⟩ := zy_r_i qv h00
  obtain ⟨xi, rfl⟩ := zy_r_i qi h0
  obtain ⟨v, hv1, hk, -⟩ := zy_no_s hE h00 hk
  obtain ⟨i, hi, hk⟩ := zy_n1_s hE h0 hk
  obtain ⟨k, g1, hk⟩ := zx_at_s _ _ hk
  obtain ⟨q2, hk⟩ := zx_bft hk
  obtain ⟨q2, q6⟩ := zx_and_b q2
  obtain ⟨q6, q7⟩ := zx_and_b q6
  have q6 : r / 16 / 256 < 512 := zx_blt_t q6
  obtain ⟨q7, q8, q9⟩ := zy_tw_s q7
  obtain ⟨t6, hins⟩ := zy_tags ha q2
  have q1 : r % 16 = 2 := zx_beq_t q1
  obtain ⟨j, ad, ee, rfl, h4, hg, h5, h9⟩ := zy_HR_get hH h1 q1 g1
  obtain ⟨cA, f, h6, rfl, h7⟩ := zy_cr_int h5 (by omega)
  have hcn := zx_cn_lt k
  have hre : ∀ (n : Nat) (y : Int32) (f' a : Nat), f' ≠ 0 → zy_re (.inl (cA, zx_cn k, .inl (upd f n y))) f' a = zy_re (.inl (cA, zx_cn k, .inl f)) f' a := fun n y f' a hf => zy_re_upd (Or.inl hf)
  rcases zx_bif hk with ⟨q3, hk⟩ | ⟨-, hk⟩
  · have q3 : i % 16 = 4 := zx_beq_t q3
    obtain ⟨q4, hk⟩ := zx_bft hk
    obtain ⟨q4, q5⟩ := zx_and_b q4
    have q4 : i / 16 < zx_cn k := zx_blt_t q4
    obtain ⟨-, h8, -⟩ := (zy_r4 q3).mp hi
    cases h8
    obtain ⟨C', hk, hC'⟩ := zy_kl_s hk
    have hy := zy_fe_s (j := i / 16) hE hv1 t6 q5
    refine zx_strow hx0 hb hins hK hP hD hS h4 h6 (vp_in_nI q4 (by omega)) hd (fun H1 locs1 hP1 hD1 hS1 => ?_)
    rw [nI_clamp (by omega)] at hP1 hD1
    have hH1 := zy_ast_all hH h4 hg g1 t6 h6 h7 hy
    have hU1 := zy_UN_set (f := 0) hU h4 hg (by decide) (hre (i / 16) (vp_nar (zx_ty (k % 16 % 3)) xv)) q7 q8 (fun z => absurd z q9)
    have hCR1 : zy_CR A (ws.set j (ad, .inl (cA, zx_cn k, .inl (upd f (i / 16) (vp_nar (zx_ty (k % 16 % 3)) xv))))) C' := by
      refine zy_CR_set (P := fun a => a = i / 16) (f := 0) hCR h4 hg (fun f' a hf => zy_re_upd hf) (fun z hz => ⟨(hC' z hz).1, fun w y => ?_⟩)
      rcases (Bool.and_eq_false_iff).mp (hC' z hz).2 with u | u
      · exact absurd w (zx_beq_f u)
      · exact absurd y (zx_beq_f u)
    have hW1 : zy_Wd D N0 T A s H1 tys (ws.set j (ad, .inl (cA, zx_cn k, .inl (upd f (i / 16) (vp_nar (zx_ty (k % 16 % 3)) xv))))) := ⟨hK, hP1, hD1, hH1⟩
    rcases zx_bif hk with ⟨-, hk⟩ | ⟨w, hk⟩
    · exact hN _ _ _ _ _ _ _ hA hv hk _ _ _ _ ⟨tys, _, hW1, hS1, hl, hL, h2, hCR1, hE, hU1⟩
    obtain ⟨w, w4⟩ := (Bool.or_eq_false_iff).mp w
    obtain ⟨w5, w4⟩ := (Bool.or_eq_false_iff).mp w4
    have w4 : k % 16 ≠ 4 := zx_beq_f w4
    have w : r / 16 % 256 ≠ 0 := zx_beq_f w
    rcases zx_bif hk with ⟨-, hk⟩ | ⟨u, hk⟩
    · exact hN _ _ _ _ _ _ _ hA hv hk _ _ _ _ ⟨tys, _, hW1, hS1, hl, hL, h2, hCR1, hE, hU1⟩
    have hsame : vp_nar (zx_ty (k % 16 % 3)) xv = xv := by
      rcases (Bool.and_eq_false_iff).mp u with u | u
      · have u : k % 16 ≠ 5 := zx_beq_f u
        rw [show k % 16 % 3 = 0 by omega]
        rfl
      · have u : zy_iv e v (fun l h => Nat.ble 2147483648 l && Nat.ble h 2147483649) = true := by
          cases hz : zy_iv e v (fun l h => Nat.ble 2147483648 l && Nat.ble h 2147483649)
          · rw [hz] at u; cases u
          · rfl
        obtain ⟨lo, up, hk3, a1, a2, -⟩ := zy_iv_s hE hv1 u
        obtain ⟨b1, b2⟩ := zx_and_b hk3
        have b1 := zx_ble_t b1
        have b2 := zx_ble_t b2
        rcases (show k % 16 % 3 = 0 ∨ k % 16 % 3 = 2 by omega) with y | y <;> rw [y]
        · rfl
        · have h10 := zx_nb (v := xv) (by omega) (by omega)
          show (match narrow .boolean (.int xv) with | .int y => y | _ => xv) = xv
          rw [h10]
    rw [zx_fn_eq] at hk
    obtain ⟨z1, z2⟩ := h9 w
    obtain ⟨B, v2, e', b1, b2, b3, hk⟩ := zy_nv_s hE hv1 hk
    obtain ⟨hW', hL', h2', hCR', hU'⟩ := zy_Rl_le (e' := e') b1 hE hW1 hL h2 hCR1 hU1
    have hru := b1.2.2.2.2 _ z2
    refine hN _ _ _ _ _ _ _ (zy_le_tr hA b1) hv hk _ _ _ _ ⟨tys, _, hW', hS1, hl, hL', h2', zy_CR_cons (r := r / 16 % 256) (g := r / 16 / 256) (f := 0) (i := i / 16) hCR' (by decide) q6 (Nat.mod_lt _ (by decide)) (Nat.lt_of_lt_of_le z2 b1.2.1.2.2) (by rw [hru, z1, zy_gl_le b1]; exact hg) ?_ b3, b2, hU'⟩
    rw [hru, z1, zy_rd_set h4]
    show (if 0 = 0 ∧ i / 16 < zx_cn k then some (Value.int (upd f (i / 16) (vp_nar (zx_ty (k % 16 % 3)) xv) (i / 16))) else none) = some (.int xv)
    rw [if_pos ⟨rfl, q4⟩, pk_us, hsame]
  rcases zx_bif hk with ⟨q3, hk⟩ | ⟨-, hk⟩
  · obtain ⟨e', hE', hk⟩ := zy_sp_s hE hi hk
    exact hN _ _ _ _ _ _ _ hA hv0 hk _ _ _ _ ⟨tys, ws, ⟨hK, hP, hD, hH⟩, hS, hl, hL, hT, hCR, hE', hU⟩
  · obtain ⟨q3, hk⟩ := zx_bft hk
    have hin := zy_in_s hE hi q3
    have hk := zy_ex1_s hE hi hin hk
    obtain ⟨q5, hk⟩ := zx_bft hk
    have hy := zy_fe_s (j := xi.toNatClampNeg) hE hv1 t6 q5
    obtain ⟨lo, up, hk, a1, a2, -⟩ := zy_iv_s hE hi hk
    obtain ⟨C', hk, hC'⟩ := zy_kl_s hk
    obtain ⟨-, hbz⟩ := zy_vp hin
    refine zx_strow hx0 hb hins hK hP hD hS h4 h6 hin hd (fun H1 locs1 hP1 hD1 hS1 => ?_)
    have hH1 := zy_ast_all hH h4 hg g1 t6 h6 h7 hy
    have hU1 := zy_UN_set (f := 0) hU h4 hg (by decide) (hre xi.toNatClampNeg (vp_nar (zx_ty (k % 16 % 3)) xv)) q7 q8 (fun z => absurd z q9)
    have hCR1 : zy_CR A (ws.set j (ad, .inl (cA, zx_cn k, .inl (upd f xi.toNatClampNeg (vp_nar (zx_ty (k % 16 % 3)) xv))))) C' := by
      refine zy_CR_set (P := fun a => a = xi.toNatClampNeg) (f := 0) hCR h4 hg (fun f' a hf => zy_re_upd hf) (fun z hz => ⟨(hC' z hz).1, fun w y => ?_⟩)
      rcases (Bool.and_eq_false_iff).mp (hC' z hz).2 with u | u
      · exact absurd w (zx_beq_f u)
      · rcases (Bool.and_eq_false_iff).mp u with u | u
        · have u : 2147483648 + z.1 / 16777216 < lo := zx_ble_f u
          omega
        · have u : up < 2147483648 + z.1 / 16777216 := zx_ble_f u
          omega
    exact hN _ _ _ _ _ _ _ hA hv hk _ _ _ _ ⟨tys, _, ⟨hK, hP1, hD1, hH1⟩, hS1, hl, hL, h2, hCR1, hE, hU1⟩
end ZYM
