/-! one step of the typed walker: longs, references in arrays, copies, calls, returns -/
section ZYR
variable {p : Program} {l : Launch} {en : Env} {R : Room} {s : State} {m : MethodId} {args : Array Value} {below : List Frame} {meth : Method} {c : Code} {Q : State → Prop} {D : va_G} {N0 : Nat} {T : List Nat} {Wm : Nat} {ws0 : va_W} {A0 A : zy_V} {M : zx_M} {d : Nat} {K : zy_K} {nx : zy_N} {call : Nat → zx_M → zy_K → zy_N} {cur cur0 : List zx_E} {pc row : Nat} {st : List Nat} {C : zy_C} {e : Nat} {ls : Array Slot} {vs : List Value} {H : Heap} {locs : List Loc}
theorem zz_lald (hC : zx_Cx p R s m args meth c M d N0 (zy_ex A0) zy_n0) (hd : decode M.1.2.1 pc = .ok (.laload, 1)) (hN : zy_Nx p l en R s m args below meth c Q D N0 T Wm ws0 A0 M nx) (hA : zy_le A0 A) (hv : ∀ q ∈ cur, zx_ve M q) (hR : zy_Rl D N0 T Wm ws0 A M s row st C e ls vs H locs) (hk : zyh_lald T nx (pc + 1) cur row st C e = true) :
    W p l en R s m args below meth c H locs 0 0 Q (F0 m pc ls vs) := by
  obtain ⟨hx0, hb, -⟩ := hC
  unfold zyh_lald at hk
  obtain ⟨i, r, st, rfl, hk⟩ := zx_p2_s hk
  obtain ⟨qq, hk⟩ := zx_bft hk
  obtain ⟨qi, q1⟩ := zx_and_b qq
  obtain ⟨k, g1, hk⟩ := zx_at_s _ _ hk
  obtain ⟨q2, hk⟩ := zx_bft hk
  obtain ⟨q2, q3⟩ := zx_and_b q2
  have q2 : k % 16 = 6 := zx_beq_t q2
  have q1 : r % 16 = 2 := zx_beq_t q1
  obtain ⟨tys, ws, ⟨hK, hP, hD, hH⟩, hS, hl, hL, hT, hCR, hE, hU⟩ := hR
  obtain ⟨xi, x, rs, rfl, h0, h1, h2⟩ := zy_SR2 hT
  obtain ⟨xi, rfl⟩ := zy_r_i qi h0
  obtain ⟨j, ad, ee, rfl, h4, hg, h5, h9⟩ := zy_HR_get hH h1 q1 g1
  obtain ⟨cA, f, h6, rfl⟩ := (zy_c6 q2).mp h5
  obtain ⟨t0, h7⟩ := zx_mem_at h6
  refine va_lald hx0 hb hK hP j t0 h4 h7 (zy_in_s hE h0 q3) hd ?_
  exact hN _ _ _ _ _ _ _ hA hv hk _ _ _ _ ⟨tys, ws, ⟨hK, hP, hD, hH⟩, hS, hl, hL, ⟨zy_r_l _, h2⟩, hCR, hE, hU⟩
/-- a cell of an array of another sort is changed: what of it is remembered goes -/
theorem zy_set_all {tys : List (ClassId × FieldType)} {ws : va_W} {C' : zy_C} {j ad g k : Nat} {e0 e1 : va_E} (hH : zy_HR A T tys ws) (hCR : zy_CR A ws C) (hU : zy_UN (zy_gl A) Wm ws0 ws) (h4 : ws[j]? = some (ad, e0)) (hg : (zy_gl A)[j]? = some g) (hT : T[g]? = some k) (hc : zy_cr (zy_fz A) tys k e1) (hre : ∀ f' a, f' ≠ 0 → zy_re e1 f' a = zy_re e0 f' a) (hC' : ∀ q ∈ C', q ∈ C ∧ Nat.beq (zy_kw q.1) (Nat.mul 128 g) = false) (hb : zy_tw Wm (Nat.mul 128 g) = true) : zy_HR A T tys (ws.set j (ad, e1)) ∧ zy_CR A (ws.set j (ad, e1)) C' ∧ zy_UN (zy_gl A) Wm ws0 (ws.set j (ad, e1)) := by
  obtain ⟨hb, hb2, hb3⟩ := zy_tw_s hb
  refine ⟨zy_HR_set hH h4 hg hT hc, ?_, zy_UN_set (f := 0) hU h4 hg (by decide) hre hb hb2 (fun z => absurd z hb3)⟩
  refine zy_CR_set (P := fun _ => True) (f := 0) hCR h4 hg (fun f' a hf => hre f' a (hf.resolve_right (fun z => z trivial))) (fun z hz => ⟨(hC' z hz).1, fun w => ?_⟩)
  exact absurd w (zx_beq_f (hC' z hz).2)
theorem zz_last (hC : zx_Cx p R s m args meth c M d N0 (zy_ex A0) zy_n0) (hd : decode M.1.2.1 pc = .ok (.lastore, 1)) (hN : zy_Nx p l en R s m args below meth c Q D N0 T Wm ws0 A0 M nx) (hA : zy_le A0 A) (hv : ∀ q ∈ cur, zx_ve M q) (hR : zy_Rl D N0 T Wm ws0 A M s row st C e ls vs H locs) (hk : zyh_last T Wm nx (pc + 1) cur row st C e = true) :
    W p l en R s m args below meth c H locs 0 0 Q (F0 m pc ls vs) := by
  obtain ⟨hx0, hb, -⟩ := hC
  unfold zyh_last at hk
  obtain ⟨v, i, r, st, rfl, hk⟩ := zx_p3_s hk
  obtain ⟨qq, hk⟩ := zx_bft hk
  obtain ⟨qv, qq⟩ := zx_and_b qq
  obtain ⟨qi, q1⟩ := zx_and_b qq
  obtain ⟨k, g1, hk⟩ := zx_at_s _ _ hk
  obtain ⟨q2, hk⟩ := zx_bft hk
  obtain ⟨q2, q3⟩ := zx_and_b q2
  obtain ⟨q3, q4⟩ := zx_and_b q3
  obtain ⟨C', hk, hC'⟩ := zy_kl_s hk
  have q2 : k % 16 = 6 := zx_beq_t q2
  have q1 : r % 16 = 2 := zx_beq_t q1
  obtain ⟨tys, ws, ⟨hK, hP, hD, hH⟩, hS, hl, hL, hT, hCR, hE, hU⟩ := hR
  obtain ⟨xv, xi, x, rs, rfl, h00, h0, h1, h2⟩ := zy_SR3 hT
  obtain ⟨xv, rfl⟩ := zy_r_j (zx_beq_t qv) h00
  obtain ⟨xi, rfl⟩ := zy_r_i qi h0
  obtain ⟨j, ad, ee, rfl, h4, hg, h5, h9⟩ := zy_HR_get hH h1 q1 g1
  obtain ⟨cA, f, h6, rfl⟩ := (zy_c6 q2).mp h5
  obtain ⟨t0, h7⟩ := zx_mem_at h6
  refine va_last hx0 hb hK hP hD hS j t0 h4 h7 (zy_in_s hE h0 q3) hd (fun H1 locs1 hP1 hD1 hS1 => ?_)
  obtain ⟨hH1, hCR1, hU1⟩ := zy_set_all (e1 := .inl (cA, zx_cn k, .inr (.inl (vp_updL f xi.toNatClampNeg xv)))) (g := r / 16 / 256) hH hCR hU h4 hg g1 ((zy_c6 q2).mpr ⟨cA, _, h6, rfl⟩) (fun f' a hf => by
    show (if f' = 0 ∧ _ then _ else _) = (if f' = 0 ∧ _ then _ else _)
    rw [if_neg (fun z => hf z.1), if_neg (fun z => hf z.1)]) hC' q4
  exact hN _ _ _ _ _ _ _ hA hv hk _ _ _ _ ⟨tys, _, ⟨hK, hP1, hD1, hH1⟩, hS1, hl, hL, h2, hCR1, hE, hU1⟩
theorem zz_rald (hC : zx_Cx p R s m args meth c M d N0 (zy_ex A0) zy_n0) (hd : decode M.1.2.1 pc = .ok (.aaload, 1)) (hN : zy_Nx p l en R s m args below meth c Q D N0 T Wm ws0 A0 M nx) (hA : zy_le A0 A) (hv : ∀ q ∈ cur, zx_ve M q) (hR : zy_Rl D N0 T Wm ws0 A M s row st C e ls vs H locs) (hk : zyh_rald T nx (pc + 1) cur row st C e = true) :
    W p l en R s m args below meth c H locs 0 0 Q (F0 m pc ls vs) := by
  obtain ⟨hx0, hb, -⟩ := hC
  unfold zyh_rald at hk
  obtain ⟨i, r, st, rfl, hk⟩ := zx_p2_s hk
  obtain ⟨qq, hk⟩ := zx_bft hk
  obtain ⟨qi, q1⟩ := zx_and_b qq
  obtain ⟨k, g1, hk⟩ := zx_at_s _ _ hk
  obtain ⟨q2, hk⟩ := zx_bft hk
  obtain ⟨q2, q3⟩ := zx_and_b q2
  have q2 : k % 16 = 8 := zx_beq_t q2
  have q1 : r % 16 = 2 := zx_beq_t q1
  obtain ⟨tys, ws, ⟨hK, hP, hD, hH⟩, hS, hl, hL, hT, hCR, hE, hU⟩ := hR
  obtain ⟨xi, x, rs, rfl, h0, h1, h2⟩ := zy_SR2 hT
  obtain ⟨xi, rfl⟩ := zy_r_i qi h0
  obtain ⟨j, ad, ee, rfl, h4, hg, h5, h9⟩ := zy_HR_get hH h1 q1 g1
  obtain ⟨cA, f, h6, rfl, h8⟩ := (zy_c8 q2).mp h5
  obtain ⟨t0, h7⟩ := zx_mem_at h6
  have hin := zy_in_s hE h0 q3
  refine va_aldq hx0 hb hK hP j t0 h4 h7 hin hd ?_
  obtain ⟨B, v, e', b1, b2, b3, hk⟩ := zy_vt_s hE (h8 _ (zy_vp hin).1) hk
  obtain ⟨hW', hL', h2', hCR', hU'⟩ := zy_Rl_le (e' := e') b1 hE ⟨hK, hP, hD, hH⟩ hL h2 hCR hU
  exact hN _ _ _ _ _ _ _ (zy_le_tr hA b1) hv hk _ _ _ _ ⟨tys, ws, hW', hS, hl, hL', ⟨b3, h2'⟩, hCR', b2, hU'⟩
theorem zz_rast (hC : zx_Cx p R s m args meth c M d N0 (zy_ex A0) zy_n0) (hd : decode M.1.2.1 pc = .ok (.aastore, 1)) (hN : zy_Nx p l en R s m args below meth c Q D N0 T Wm ws0 A0 M nx) (hA : zy_le A0 A) (hv : ∀ q ∈ cur, zx_ve M q) (hR : zy_Rl D N0 T Wm ws0 A M s row st C e ls vs H locs) (hk : zyh_rast T Wm nx (pc + 1) cur row st C e = true) :
    W p l en R s m args below meth c H locs 0 0 Q (F0 m pc ls vs) := by
  obtain ⟨hx0, hb, -⟩ := hC
  unfold zyh_rast at hk
  obtain ⟨v, i, r, st, rfl, hk⟩ := zx_p3_s hk
  obtain ⟨qq, hk⟩ := zx_bft hk
  obtain ⟨qv, qq⟩ := zx_and_b qq
  obtain ⟨qi, q1⟩ := zx_and_b qq
  obtain ⟨k, g1, hk⟩ := zx_at_s _ _ hk
  obtain ⟨kv, gv, hk⟩ := zx_at_s _ _ hk
  obtain ⟨q2, hk⟩ := zx_bft hk
  obtain ⟨q2, q3⟩ := zx_and_b q2
  obtain ⟨q3, q4⟩ := zx_and_b q3
  obtain ⟨q4, q5⟩ := zx_and_b q4
  obtain ⟨q5, q6⟩ := zx_and_b q5
  obtain ⟨C', hk, hC'⟩ := zy_kl_s hk
  have q2 : k % 16 = 8 := zx_beq_t q2
  have q1 : r % 16 = 2 := zx_beq_t q1
  have qv : v % 16 = 2 := zx_beq_t qv
  obtain ⟨tys, ws, ⟨hK, hP, hD, hH⟩, hS, hl, hL, hT, hCR, hE, hU⟩ := hR
  obtain ⟨xv, xi, x, rs, rfl, h00, h0, h1, h2⟩ := zy_SR3 hT
  obtain ⟨xi, rfl⟩ := zy_r_i qi h0
  have hft := zy_ft_s hE (zx_dg_lt (by decide)) h00 q5
  obtain ⟨j, ad, ee, rfl, h4, hg, h5, h9⟩ := zy_HR_get hH h1 q1 g1
  obtain ⟨jv, av, ev, rfl, hv4, -, hv5, -⟩ := zy_HR_get hH h00 qv gv
  obtain ⟨cA, f, h6, rfl, h8⟩ := (zy_c8 q2).mp h5
  obtain ⟨t0, h7⟩ := zx_mem_at h6
  obtain ⟨tv7, tvc⟩ := zx_hd7 (c := kv) (x := 8) (zx_beq_t q3) (by decide)
  obtain ⟨fv, rv, rfl, hv6, -, -⟩ := (zy_c7 tv7).mp hv5
  rw [tvc] at hv4 hv6
  have hin := zy_in_s hE h0 q4
  have hr1 : rv.1 = RX8 := by
    have := Option.some.inj hv6
    rw [← this]
  refine va_astq hx0 hb hK hP hD hS j t0 jv 8 h4 (by rw [hr1]; exact h7) hv4 hv6 hin hd (fun H1 locs1 hP1 hD1 hS1 => ?_)
  have hcr : zy_cr (zy_fz A) tys k (.inl (cA, zx_cn k, .inr (.inr (.inr (.inr (va_up f xi.toNatClampNeg (some av))))))) := by
    refine (zy_c8 q2).mpr ⟨cA, _, h6, rfl, fun n hn => ?_⟩
    unfold va_up
    by_cases hji : n = xi.toNatClampNeg
    · rw [if_pos hji]
      exact hft
    · rw [if_neg hji]
      exact h8 n hn
  obtain ⟨hH1, hCR1, hU1⟩ := zy_set_all (g := r / 16 / 256) hH hCR hU h4 hg g1 hcr (fun f' a hf => by
    show (if f' = 0 ∧ _ then _ else _) = (if f' = 0 ∧ _ then _ else _)
    rw [if_neg (fun z => hf z.1), if_neg (fun z => hf z.1)]) hC' q6
  exact hN _ _ _ _ _ _ _ hA hv hk _ _ _ _ ⟨tys, _, ⟨hK, hP1, hD1, hH1⟩, hS1, hl, hL, h2, hCR1, hE, hU1⟩
theorem zz_cpy {q : zx_Q} {i : Nat} (hC : zx_Cx p R s m args meth c M d N0 (zy_ex A0) zy_n0) (hq : q ∈ zx_ML) (ho : q.1 = M.2.1.1) (hi : q.2.1 = i) (hx : q.2.2.1 = 9001) (hd : decode M.1.2.1 pc = .ok (.invokestatic i, 3)) (hN : zy_Nx p l en R s m args below meth c Q D N0 T Wm ws0 A0 M nx) (hA : zy_le A0 A) (hv : ∀ q ∈ cur, zx_ve M q) (hR : zy_Rl D N0 T Wm ws0 A M s row st C e ls vs H locs) (hk : zyh_cpy T Wm nx (pc + 3) cur row st C e = true) :
    W p l en R s m args below meth c H locs 0 0 Q (F0 m pc ls vs) := by
  obtain ⟨hx0, hb, hml, hown, hts, -, hN0, hX, ⟨hrf, hrl, -, -⟩, -⟩ := hC
  unfold zyh_cpy at hk
  obtain ⟨n, dp, dst, st1, rfl, hk1⟩ := zx_p3_s hk
  obtain ⟨sp, src, st, rfl, hk2⟩ := zx_p2_s hk1
  obtain ⟨tys, ws, ⟨hK, hP, hD, hH⟩, hS, hl, hL, hT, hCR, hE, hU⟩ := hR
  obtain ⟨xn, xdp, xd, rs1, rfl, h01, h02, h03, hT2⟩ := zy_SR3 hT
  obtain ⟨xsp, xs, rs, rfl, h04, h05, h2⟩ := zy_SR2 hT2
  obtain ⟨n, h01, hk2⟩ := zy_n1_s hE h01 hk2
  obtain ⟨dp, h02, hk2⟩ := zy_n1_s hE h02 hk2
  obtain ⟨sp, h04, hk2⟩ := zy_n1_s hE h04 hk2
  obtain ⟨q1, hk⟩ := zx_bft hk2
  obtain ⟨q1, q2⟩ := zx_and_b q1
  obtain ⟨q2, q3⟩ := zx_and_b q2
  obtain ⟨q3, q4⟩ := zx_and_b q3
  obtain ⟨q4, q5⟩ := zx_and_b q4
  obtain ⟨q5, q6⟩ := zx_and_b q5
  obtain ⟨k, gd, hk⟩ := zx_at_s _ _ hk
  obtain ⟨q7, hk⟩ := zx_bft hk
  obtain ⟨q7, q8⟩ := zx_and_b q7
  obtain ⟨q8, q9⟩ := zx_and_b q8
  obtain ⟨q9, q10⟩ := zx_and_b q9
  obtain ⟨q10, q11⟩ := zx_and_b q10
  obtain ⟨C', hk, hC'⟩ := zy_kl_s hk
  have q1 : src % 16 = 2 := zx_beq_t q1
  have q2 : dst % 16 = 2 := zx_beq_t q2
  have q3 : src / 16 / 256 = dst / 16 / 256 := zx_beq_t q3
  have q4 : n % 16 = 4 := zx_beq_t q4
  have q7 : k % 16 = 3 := zx_beq_t q7
  have q8 : n / 16 = zx_cn k := zx_beq_t q8
  rw [zx_beq_t q6] at h04
  rw [zx_beq_t q5] at h02
  obtain ⟨-, e1, -⟩ := (zy_r4 (by decide)).mp h04
  obtain ⟨-, e2, -⟩ := (zy_r4 (by decide)).mp h02
  obtain ⟨-, e3, -⟩ := (zy_r4 q4).mp h01
  rw [q8] at e3
  subst e1
  subst e2
  subst e3
  obtain ⟨jd, ad, ed, rfl, hd4, hgd, hd5, -⟩ := zy_HR_get hH h03 q2 gd
  obtain ⟨js, as, ee, rfl, h4, hgs, h5, -⟩ := zy_HR_get hH h05 q1 (by rw [q3]; exact gd)
  obtain ⟨cA, f, h6, rfl, h7⟩ := zy_cr_int h5 (by omega)
  obtain ⟨cB, g, hd6, rfl, hd7⟩ := zy_cr_int hd5 (by omega)
  obtain ⟨t0, h8⟩ := zx_mem_at h6
  obtain ⟨t0', hd8⟩ := zx_mem_at hd6
  rw [show k % 16 % 3 = 0 by omega] at h8 hd8
  have hcn := zx_cn_lt k
  have hlink : (Cond.methodLink (zx_on1 M.2.1.1) i arraycopyName).before args s = true := by
    have := hts _ (zx_inM hq)
    unfold zx_mw at this
    rw [ho, hi, hx] at this
    exact this
  have hrm := zy_room h2 q11
  have e0 : (nI (4 / 16)).toNatClampNeg = 0 := by decide
  have en : (nI (zx_cn k)).toNatClampNeg = zx_cn k := nI_clamp (by omega)
  refine va_copyi (own := zx_on1 M.2.1.1) hx0 hb (hml.trans hl.1.symm) hown hlink (hts _ (zx_inO (List.mem_of_getElem? (i := 2) rfl))) (hts _ (zx_inO (List.mem_of_getElem? (i := 3) rfl))) (hts _ (zx_inO (List.mem_of_getElem? (i := 4) rfl))) hK hP hD hS js jd t0 t0' h4 hd4 h8 hd8 rfl (by decide) (by decide) (nI_pos (by omega)) (by rw [e0, en]; omega) (by rw [e0, en]; omega) (fun _ _ => rfl) (by omega) ?_ hd (fun H1 locs1 hP1 hD1 hS1 => ?_)
  · have : nativeFrameWords "java/lang/System" "arraycopy" 5 = 7 := by decide
    omega
  · rw [e0, en] at hP1 hD1
    have hcr : zy_cr (zy_fz A) tys k (.inl (cB, zx_cn k, .inl (va_cpy f g 0 0 (zx_cn k)))) := by
      refine zy_cr_int' (by omega) hd6 (fun n hn => ?_)
      rw [pk_cpy_in (Nat.zero_le _) (by omega), show 0 + (n - 0) = n by omega]
      exact h7 n hn
    obtain ⟨hH1, hCR1, hU1⟩ := zy_set_all (g := dst / 16 / 256) hH hCR hU hd4 hgd gd hcr (fun f' a hf => by
      show (if f' = 0 ∧ _ then _ else _) = (if f' = 0 ∧ _ then _ else _)
      rw [if_neg (fun z => hf z.1), if_neg (fun z => hf z.1)]) hC' q9
    exact hN _ _ _ _ _ _ _ hA hv hk _ _ _ _ ⟨tys, _, ⟨hK, hP1, hD1, hH1⟩, hS1, hl, hL, h2, hCR1, hE, hU1⟩
/-- arguments off the stack -/
theorem zy_tk_s : ∀ (n : Nat) {A : zy_V} {e : Nat} {acc st : List Nat} {va vs : List Value} {k : List Nat → List Nat → Nat → Bool}, zy_ev A e → zy_SR A acc va → zy_SR A st vs → zy_tk n e acc st k = true → ∃ (B : zy_V) (e' : Nat) (as st' : List Nat) (av vs' : List Value), zy_le A B ∧ zy_ev B e' ∧ k as st' e' = true ∧ zy_SR B as (av.reverse ++ va) ∧ zy_SR B st' vs' ∧ vs = av ++ vs' ∧ av.length = n
  | 0, A, e, acc, st, va, vs, k, he, ha, hs, hk => ⟨A, e, acc, st, [], vs, zy_le_rf A, he, hk, ha, hs, rfl, rfl⟩
  | n + 1, A, e, acc, st, va, vs, k, he, ha, hs, hk => by
    obtain ⟨v, t, rfl, hk⟩ := zx_p1_s (show zx_p1 st (fun v st => zy_no e v (fun v => zy_nv e v (fun v e => zy_tk n e (v :: acc) st k))) = true from hk)
    cases vs with
    | nil => exact hs.elim
    | cons x vs =>
      obtain ⟨v', h1, hk, -⟩ := zy_no_s he hs.1 hk
      obtain ⟨B, v2, e2, b1, b2, b3, hk⟩ := zy_nv_s he h1 hk
      obtain ⟨B2, e3, as, st', av, vs', c1, c2, k1, k2, k3, k4, k5⟩ := zy_tk_s n (acc := v2 :: acc) (va := x :: va) b2 ⟨b3, zy_SR_le b1 _ _ ha⟩ (zy_SR_le b1 _ _ hs.2) hk
      refine ⟨B2, e3, as, st', x :: av, vs', zy_le_tr b1 c1, c2, k1, ?_, k3, by rw [k4]; rfl, by rw [List.length_cons, k5]⟩
      rw [List.reverse_cons, List.append_assoc]
      exact k2
theorem zz_go {A1 : zy_V} {ws1 : va_W} {a : Array Value} {vs0 rest : List Value} (hr : va_Run p l en R s m args below meth c H locs 0 0 0 0 (F0 m pc ls vs0) rest (zy_Qc D N0 T Wm ws1 A1 K a) (zx_A N0)) (hS : va_S (zx_A N0) s.heap H locs)
    (kk : ∀ (B : zy_V) (r : List Nat) (vs : List Value) (C : zy_C) (e : Nat) (tys : List (ClassId × FieldType)) (ws : va_W) (H1 : Heap) (locs1 : List Loc), zy_le A1 B → vs.length ≤ 1 → zy_SR B r vs → zy_Wd D N0 T B s H1 tys ws → zy_CR B ws C → zy_ev B e → zy_UN (zy_gl B) Wm ws1 ws → K r C e = true → va_S (zx_A N0) s.heap H1 locs1 → W p l en R s m args below meth c H1 locs1 0 0 Q (F0 m (pc + 3) ls (vs ++ rest))) : W p l en R s m args below meth c H locs 0 0 Q (F0 m pc ls vs0) := by
  intro Tt hT X
  obtain ⟨v, st₀, t, T', L, h0, X', hL, e1, e2, ⟨⟨B, r, vs, C', e', tys, ws, hle, ho, hlen, hsr, hW, hCR, hE, hU, hK⟩, hz, hkp⟩, stp⟩ := hr Tt hT X
  have hv : v = vs.head? := by injection ho
  have hvl : v.toList = vs := by
    rw [hv]
    match vs, hlen with
    | [], _ => rfl
    | [x], _ => rfl
    | _ :: _ :: _, hlen => exact absurd hlen (by simp)
  rw [h0] at hz hkp
  have hal : s.vm.Alike t.vm := by rw [← e2]; exact X'.warmed.alike
  obtain ⟨k1, k2, k3⟩ := hW
  have hS1 : va_S (zx_A N0) s.heap T'.heap (locs ++ L) := ⟨Nat.le_trans hS.1 (by rw [e1]; exact hz), fun q h1 h2 => by rw [e1, hkp q (Nat.lt_of_lt_of_le h1 hS.1) h2]; exact hS.2.1 q h1 h2, fun q hq => by
      rcases List.mem_append.mp hq with h | h
      · exact hS.2.2 q h
      · exact hL q h⟩
  obtain ⟨t2, a1, b1⟩ := kk B r vs C' e' tys ws T'.heap (locs ++ L) hle hlen hsr ⟨va_K.moved hal.symm k1, by rw [e1]; exact k2, k3⟩ hCR hE hU hK hS1 T' rfl X'
  refine ⟨t2, stp t2 ?_, b1⟩
  rw [hvl]
  exact a1
/-- the walker's call, taken apart -/
theorem zy_inv_s {a np : Nat} {y : zx_M} (hya : zx_me a = some y) (hCa : zy_Ca l D N0 T Wm d call A0 ws0) (hC : zx_Cx p R s m args meth c M d N0 (zy_ex A0) zy_n0) (hN : zy_Nx p l en R s m args below meth c Q D N0 T Wm ws0 A0 M nx) (hA : zy_le A0 A) (hv : ∀ q ∈ cur, zx_ve M q) (hR : zy_Rl D N0 T Wm ws0 A M s row st C e ls vs H locs) (hk : zyh_inv T call nx a np cur row st C e = true) :
    ∃ (d' : Nat) (av rest : List Value) (Pc : Array Value → State → Prop) (K : zy_K) (A1 : zy_V) (ws1 : va_W), d = d' + 1 ∧ vs = av.reverse ++ rest ∧ av.length = y.2.1.2.2.1 ∧ (rest.map fun v => v.category).sum ≤ 8 ∧ Met l y.1.1 (zx_mc y :: zx_G) (zx_rm d' y) Pc (zy_Qc D N0 T Wm ws1 A1 K) 0 0 (zx_A N0) ∧
      FrameBlind Pc ∧ (∀ U : State, U.heap = H → s.WarmedH U.vm → Pc av.toArray U) ∧ (y.2.1.2.2.2.1 = 0 ∧ y.2.1.2.2.2.2.1 = 0) ∧ va_S (zx_A N0) s.heap H locs ∧ ls.size = M.1.2.2.1 ∧
      (y.2.1.2.1 = 0 → ∃ b As, av = .ref b :: As ∧ ∃ cellB : Cell, H[b]? = some cellB ∧ cellB.vm.isStatics = false ∧ s.vm.findClass y.1.1.cls = some cellB.cls) ∧ y.2.1.2.1 ≠ 2 ∧
      (∀ (B : zy_V) (r : List Nat) (vs : List Value) (C : zy_C) (e : Nat) (tys : List (ClassId × FieldType)) (ws : va_W) (H1 : Heap) (locs1 : List Loc), zy_le A1 B → vs.length ≤ 1 → zy_SR B r vs → zy_Wd D N0 T B s H1 tys ws → zy_CR B ws C → zy_ev B e → zy_UN (zy_gl B) Wm ws1 ws → K r C e = true → va_S (zx_A N0) s.heap H1 locs1 → W p l en R s m args below meth c H1 locs1 0 0 Q (F0 m np ls (vs ++ rest))) := by
  obtain ⟨hx0, hb, hml, hown, hts, -, hN0, hX, ⟨hrf, hrl, hrc, hrs⟩, -⟩ := hC
  unfold zyh_inv at hk
  obtain ⟨l1, z1, hk⟩ := zx_at_s _ _ hk
  obtain ⟨y1, z2, hk⟩ := zx_at_s _ _ hk
  have hy1 : y1 = y := by
    unfold zx_me at hya
    rw [show zx_mt[a / 16]? = some l1 from z1] at hya
    have := (show l1[a % 16]? = some y1 from z2).symm.trans hya
    exact Option.some.inj this
  subst hy1
  have hym := (zx_me_s hya).1
  obtain ⟨h1, -, -, -, -, -, -, -, -, h10⟩ := zx_head hym
  obtain ⟨tys, ws, ⟨hK, hP, hD, hH0⟩, hS, hl, hL, hT, hCR, hE, hU⟩ := hR
  obtain ⟨A1, e1, as, st', av, vs', b1, b2, hk, k2, k3, rfl, k5⟩ := zy_tk_s y1.2.1.2.2.1 (acc := []) (va := []) hE trivial hT hk
  rw [List.append_nil] at k2
  obtain ⟨⟨-, -, -, hH⟩, hL', -, hCR', hU'⟩ := zy_Rl_le (e' := e1) b1 hE ⟨hK, hP, hD, hH0⟩ hL hT hCR hU
  have hA1 := zy_le_tr hA b1
  rw [← zy_exA hA1] at hX
  obtain ⟨q1, hk⟩ := zx_bft hk
  obtain ⟨q1, q2⟩ := zx_and_b q1
  obtain ⟨q2, q3⟩ := zx_and_b q2
  obtain ⟨q3, q4⟩ := zx_and_b q3
  have q3 : y1.2.1.2.2.2.1 = 0 := zx_beq_t q3
  have q4 : y1.2.1.2.2.2.2.1 = 0 := zx_beq_t q4
  have hrc2 : zx_fn (zx_rw as) (fun r0 => call a y1 (fun r C e => nx cur np row (@List.rec Nat (fun _ => List Nat) st' (fun v _ _ => v :: st') r) C e) [] 0 r0 [] C e1) = true ∧
      (y1.2.1.2.1 = 0 → ∃ b As, av.reverse = .ref b :: As ∧ ∃ cellB : Cell, H[b]? = some cellB ∧ cellB.vm.isStatics = false ∧ s.vm.findClass y1.1.1.cls = some cellB.cls) ∧ y1.2.1.2.1 ≠ 2 := by
    unfold zy_rc at hk
    rcases zx_bif hk with ⟨w0, hk⟩ | ⟨w0, hk⟩
    · obtain ⟨r, t, rfl, hk⟩ := zx_p1_s hk
      obtain ⟨xr, rs, hav, g1, g2⟩ := zy_SR1 k2
      have w0 := zx_beq_t w0
      rcases zx_bif hk with ⟨w1, hk⟩ | ⟨-, hk⟩
      · obtain ⟨kc, g3, hk⟩ := zx_at_s _ _ hk
        obtain ⟨w2, hk⟩ := zx_bft hk
        have w1 : r % 16 = 2 := zx_beq_t w1
        obtain ⟨j, ad, ee, rfl, g5, -, g6, -⟩ := zy_HR_get hH g1 w1 g3
        refine ⟨hk, fun _ => ⟨ad, rs, hav, ?_⟩, fun z => by omega⟩
        have w2 : zx_hd kc = y1.2.1.1 * 16 + 7 := zx_beq_t w2
        rcases h10 w0 with z | ⟨z, z'⟩
        · exfalso
          rw [z] at w2
          obtain ⟨t7, tcn⟩ := zx_hd7 (c := kc) (x := 14) (by rw [w2]) (by decide)
          obtain ⟨fs, rc, rfl, g7, -, -⟩ := (zy_c7 t7).mp g6
          rw [tcn] at g7
          have := (List.getElem?_eq_some_iff.mp g7).1
          rw [zx_vwl] at this
          omega
        · obtain ⟨t7, tcn⟩ := zx_hd7 (c := kc) (x := y1.2.1.1) (by rw [w2]; omega) (by omega)
          obtain ⟨fs, rc, rfl, g7, -, -⟩ := (zy_c7 t7).mp g6
          rw [h1, ← z', zx_ci_of (by rw [tcn] at g7; exact g7)]
          exact va_recv hK hP g7 g5
      · obtain ⟨w1, hk⟩ := zx_bft hk
        obtain ⟨w1, w2⟩ := zx_and_b w1
        have w2 : y1.2.1.1 = 14 := zx_beq_t w2
        have hX' := hX
        obtain ⟨-, -, hX1, hX2, -⟩ := hX'
        have hstr : ∃ ad, xr = .ref ad ∧ va_O "java/lang/String" ad (zx_A N0) s s.heap := by
          rcases (Bool.or_eq_true _ _).mp w1 with z | z <;> have z := zx_beq_t z <;> subst z
          · exact ⟨zy_ex A1 1, ((zy_r6 (by decide)).mp g1).2, hX1.1⟩
          · exact ⟨zy_ex A1 3, ((zy_r6 (by decide)).mp g1).2, hX2.1⟩
        obtain ⟨ad, rfl, cell, o1, o2, o3, o4⟩ := hstr
        refine ⟨hk, fun _ => ⟨ad, rs, hav, cell, ?_, o2, by rw [h1, w2, zx_on14]; exact o3⟩, fun z => by omega⟩
        rw [hS.2.1 ad (Array.getElem?_eq_some_iff.mp o1).1 o4]
        exact o1
    · have w0 := zx_beq_f w0
      rcases zx_bif hk with ⟨w1, hk⟩ | ⟨w1, hk⟩
      · cases hk
      · exact ⟨hk, fun z => absurd z w0, zx_beq_f w1⟩
  obtain ⟨hcall, hr0, hr2⟩ := hrc2
  rw [zx_fn_eq] at hcall
  obtain ⟨d', hd', hM⟩ := hCa a y1 _ A1 as C e1 av.reverse tys ws hA1 hU' hya q3 q4 hcall k2 (zx_ble_t q2) hD hH hCR' b2
  refine ⟨d', av.reverse, vs', _, _, A1, ws, hd', by rw [List.reverse_reverse], by rw [List.length_reverse]; exact k5, zy_room k3 q1, hM, zx_Pc_blind, ?_, ⟨q3, q4⟩, hS, hl.1, hr0, hr2, ?_⟩
  · intro U hUe hW
    exact ⟨rfl, by rw [hUe]; exact Nat.le_trans hN0 hS.1, va_K.moved hW.alike hK, by rw [hUe]; exact hP, zx_X_mv hX hN0 hW (by rw [hUe]; exact hS.2.1)⟩
  · intro B r vs C2 e2 tys2 ws2 H1 locs1 hB hlen hsr hW2 hCR2 hE2 hU2 hK2 hS2
    refine hN _ _ _ _ _ _ _ (zy_le_tr hA1 hB) hv hK2 _ _ _ _ ⟨tys2, ws2, hW2, hS2, hl, zy_LR_le hB hL', ?_, hCR2, hE2, ?_⟩
    · match r, vs, hsr, hlen with
      | [], [], _, _ => exact zy_SR_le hB _ _ k3
      | [v], [x], hsr, _ => exact ⟨hsr.1, zy_SR_le hB _ _ k3⟩
      | [], _ :: _, hsr, _ => exact hsr.elim
      | _ :: _, [], hsr, _ => exact hsr.elim
      | _ :: _ :: _, [x], hsr, _ => exact hsr.2.elim
      | _, _ :: _ :: _, _, hlen => exact absurd hlen (by simp)
    · rw [zy_gl_le hB] at hU2 ⊢
      exact zy_UN_tr hU' hU2
theorem zz_invV {q : zx_Q} {i a : Nat} {y : zx_M} (hq : q ∈ zx_ML) (ho : q.1 = M.2.1.1) (hi : q.2.1 = i) (ha : q.2.2.1 = a) (ha2 : a < 9000) (hya : zx_me a = some y) (hk0 : y.2.1.2.1 = 0) (hd : decode M.1.2.1 pc = .ok (.invokevirtual i, 3)) (hCa : zy_Ca l D N0 T Wm d call A0 ws0) (hC : zx_Cx p R s m args meth c M d N0 (zy_ex A0) zy_n0) (hN : zy_Nx p l en R s m args below meth c Q D N0 T Wm ws0 A0 M nx) (hA : zy_le A0 A) (hv : ∀ q ∈ cur, zx_ve M q) (hR : zy_Rl D N0 T Wm ws0 A M s row st C e ls vs H locs) (hk : zyh_inv T call nx a (pc + 3) cur row st C e = true) :
    W p l en R s m args below meth c H locs 0 0 Q (F0 m pc ls vs) := by
  obtain ⟨d', av, rest, Pc, K, A1, ws1, hd', rfl, hal, hrm, hM, hbl, hPc, ⟨hz1, hz2⟩, hS, hsz, hr0, -, kk⟩ := zy_inv_s hya hCa hC hN hA hv hR hk
  obtain ⟨b, As, rfl, hcell⟩ := hr0 hk0
  have hym := (zx_me_s hya).1
  obtain ⟨h1, h2, h3, h4, h5, h6, h7, h8, h9, h10⟩ := zx_head hym
  have hCC := hC
  obtain ⟨hx0, hb, hml, hown, hts, -⟩ := hCC
  have hmy : zx_my q.2.2.1 = y.1.1 := by rw [ha]; exact zx_my_of ha2 hya
  have hlink : (Cond.methodLink (zx_on1 M.2.1.1) i y.1.1).before args s = true := by
    have := hts _ (zx_inM hq)
    unfold zx_mw at this
    rw [ho, hi, hmy] at this
    exact this
  have hkw : (Cond.instanceMethod y.1.1).before args s = true := by
    have := hts _ (zx_inY hym (List.mem_cons_of_mem _ (List.mem_cons_of_mem _ List.mem_cons_self)))
    unfold zx_mkw at this
    rw [hk0] at this
    exact this
  have hse : (Cond.selects y.1.1.cls y.1.1 y.1.1).before args s = true := by
    refine hts _ (zx_inY hym (List.mem_cons_of_mem _ (List.mem_cons_of_mem _ (List.mem_cons_of_mem _ ?_))))
    unfold zx_ms
    rw [hk0]
    exact List.mem_cons_self
  rw [hk0] at h4
  have hcb := zx_cb hC hym hd' hlink h4
  rw [hz1, hz2] at hcb
  refine zz_go (va_runV (As := As) (rest := rest) ⟨hx0, hb, hml, hown, hts⟩ hM ⟨hcb, hkw, hse⟩ ⟨hbl, hcell, hPc⟩ rfl ?_ hsz ?_ (lv_room hrm) hd ⟨Nat.zero_le _, Nat.zero_le _⟩) hS kk
  · rw [List.length_cons] at hal
    show As.length = y.2.1.2.2.1 - 1
    omega
  · show (Value.ref b :: As).reverse ++ rest = As.reverse ++ Value.ref b :: rest
    rw [List.reverse_cons, List.append_assoc]
    rfl
theorem zz_invS {q : zx_Q} {i a : Nat} {y : zx_M} (hq : q ∈ zx_ML ∨ q ∈ zx_NL) (ho : q.1 = M.2.1.1) (hi : q.2.1 = i) (ha : q.2.2.1 = a) (ha2 : a < 9000) (hya : zx_me a = some y) (hk0 : y.2.1.2.1 = 1) (hd : decode M.1.2.1 pc = .ok (.invokestatic i, 3)) (hCa : zy_Ca l D N0 T Wm d call A0 ws0) (hC : zx_Cx p R s m args meth c M d N0 (zy_ex A0) zy_n0) (hN : zy_Nx p l en R s m args below meth c Q D N0 T Wm ws0 A0 M nx) (hA : zy_le A0 A) (hv : ∀ q ∈ cur, zx_ve M q) (hR : zy_Rl D N0 T Wm ws0 A M s row st C e ls vs H locs) (hk : zyh_inv T call nx a (pc + 3) cur row st C e = true) :
    W p l en R s m args below meth c H locs 0 0 Q (F0 m pc ls vs) := by
  obtain ⟨d', av, rest, Pc, K, A1, ws1, hd', rfl, hal, hrm, hM, hbl, hPc, ⟨hz1, hz2⟩, hS, hsz, -, -, kk⟩ := zy_inv_s hya hCa hC hN hA hv hR hk
  have hym := (zx_me_s hya).1
  obtain ⟨h1, h2, h3, h4, h5, h6, h7, h8, h9, h10⟩ := zx_head hym
  have hCC := hC
  obtain ⟨hx0, hb, hml, hown, hts, -⟩ := hCC
  have hmy : zx_my q.2.2.1 = y.1.1 := by rw [ha]; exact zx_my_of ha2 hya
  have hkw : (Cond.static y.1.1).before args s = true := by
    have := hts _ (zx_inY hym (List.mem_cons_of_mem _ (List.mem_cons_of_mem _ List.mem_cons_self)))
    unfold zx_mkw at this
    rw [hk0] at this
    exact this
  rw [hk0] at h4
  rcases hq with hq | hq
  · have hlink : (Cond.methodLink (zx_on1 M.2.1.1) i y.1.1).before args s = true := by
      have := hts _ (zx_inM hq)
      unfold zx_mw at this
      rw [ho, hi, hmy] at this
      exact this
    have hcb := zx_cb hC hym hd' hlink h4
    rw [hz1, hz2] at hcb
    exact zz_go (va_runS (As := av) (rest := rest) ⟨hx0, hb, hml, hown, hts⟩ hM ⟨hcb, hkw⟩ ⟨hbl, hPc⟩ rfl hal hsz rfl (lv_room hrm) hd ⟨Nat.zero_le _, Nat.zero_le _⟩) hS kk
  · have hcb := zx_cbn hC hym hd' hq ho hi hmy h4
    rw [hz1, hz2] at hcb
    exact zz_go (va_runSN (As := av) (rest := rest) ⟨hx0, hb, hml, hown, hts⟩ hM ⟨hcb, hkw, trivial⟩ ⟨hbl, hPc⟩ rfl hal hsz rfl (lv_room hrm) hd ⟨Nat.zero_le _, Nat.zero_le _⟩) hS kk
theorem zy_rt_s {v : Nat} {x : Value} {ins : Instr} (hE : zy_ev A e) (hx : zy_r A v x) (hrk : zx_rk M.1.2.2.2 = M.2.1.2.2.2.2.2) (hk : zy_rt M.2.1.2.2.2.2.2 e v = true) (hi : (ins = .ireturn ∧ 1 ≤ M.2.1.2.2.2.2.2 ∧ M.2.1.2.2.2.2.2 ≤ 4) ∨ (ins = .lreturn ∧ M.2.1.2.2.2.2.2 = 5) ∨ (ins = .areturn ∧ M.2.1.2.2.2.2.2 = 6)) : zx_ri M.1.2.2.2 ins [x] := by
  generalize hr : M.1.2.2.2 = ret at hrk ⊢
  generalize M.2.1.2.2.2.2.2 = rk at hrk hk hi
  unfold zy_rt at hk
  rcases hi with ⟨rfl, h1, h4⟩ | ⟨rfl, rfl⟩ | ⟨rfl, rfl⟩
  · have hint : zy_ii v = true ∧ ∀ y : Int32, x = .int y → ∃ ty, ret = some ty ∧ narrow ty (.int y) = .int y := by
      rcases zx_bif hk with ⟨q, hk2⟩ | ⟨q, hk⟩
      · have q := zx_beq_t q
        subst q
        refine ⟨hk2, fun y hy => ⟨.int, ?_, rfl⟩⟩
        unfold zx_rk at hrk
        split at hrk <;> first | rfl | cases hrk
      rcases zx_bif hk with ⟨q, hk2⟩ | ⟨q, hk⟩
      · have q := zx_beq_t q
        subst q
        refine ⟨zy_iv_i hk2, fun y hy => ⟨.boolean, ?_, ?_⟩⟩
        · unfold zx_rk at hrk
          split at hrk <;> first | rfl | cases hrk
        · subst hy
          obtain ⟨lo, up, hk3, a1, a2, -⟩ := zy_iv_s hE hx hk2
          obtain ⟨b1, b2⟩ := zx_and_b hk3
          have b1 := zx_ble_t b1
          have b2 := zx_ble_t b2
          exact zx_nb (by omega) (by omega)
      rcases zx_bif hk with ⟨q, hk2⟩ | ⟨q, hk⟩
      · have q := zx_beq_t q
        subst q
        refine ⟨zy_iv_i hk2, fun y hy => ⟨.char, ?_, ?_⟩⟩
        · unfold zx_rk at hrk
          split at hrk <;> first | rfl | cases hrk
        · subst hy
          obtain ⟨lo, up, hk3, a1, a2, -⟩ := zy_iv_s hE hx hk2
          obtain ⟨b1, b2⟩ := zx_and_b hk3
          have b1 := zx_ble_t b1
          have b2 := zx_ble_t b2
          exact zx_nc' (by omega) (by omega)
      rcases zx_bif hk with ⟨q, hk2⟩ | ⟨q, hk⟩
      · have q := zx_beq_t q
        subst q
        refine ⟨zy_iv_i hk2, fun y hy => ⟨.byte, ?_, ?_⟩⟩
        · unfold zx_rk at hrk
          split at hrk <;> first | rfl | cases hrk
        · subst hy
          obtain ⟨lo, up, hk3, a1, a2, -⟩ := zy_iv_s hE hx hk2
          obtain ⟨b1, b2⟩ := zx_and_b hk3
          have b1 := zx_ble_t b1
          have b2 := zx_ble_t b2
          exact zx_ny (by omega) (by omega)
      rcases zx_bif hk with ⟨q, hk⟩ | ⟨q, hk⟩
      · have q := zx_beq_t q
        omega
      · obtain ⟨q, hk⟩ := zx_bft hk
        have q := zx_beq_t q
        omega
    obtain ⟨y, rfl⟩ := zy_r_i hint.1 hx
    obtain ⟨ty, t1, t2⟩ := hint.2 y rfl
    exact Or.inr (Or.inl ⟨ty, y, t1, rfl, rfl, t2⟩)
  · have hk : Nat.beq (zx_kd v) 5 = true := hk
    obtain ⟨y, rfl⟩ := zy_r_j (zx_beq_t hk) hx
    refine Or.inr (Or.inr (Or.inl ⟨y, ?_, rfl, rfl⟩))
    unfold zx_rk at hrk
    split at hrk <;> first | rfl | cases hrk
  · have hk : zx_kc 332 v = true := hk
    refine Or.inr (Or.inr (Or.inr ?_))
    unfold zx_rk at hrk
    split at hrk
    all_goals first | cases hrk | skip
    · exact ⟨_, x, rfl, Or.inl ⟨_, rfl⟩, rfl, rfl, zy_r_r hk hx⟩
    · exact ⟨_, x, rfl, Or.inr ⟨_, rfl⟩, rfl, rfl, zy_r_r hk hx⟩
theorem zz_ret {ins : Instr} (hRt : zy_Rt p l en R s m args below meth c Q D N0 T Wm ws0 A0 M K) (hA : zy_le A0 A) (hrk : zx_rk M.1.2.2.2 = M.2.1.2.2.2.2.2) (hi : (ins = .ireturn ∧ 1 ≤ M.2.1.2.2.2.2.2 ∧ M.2.1.2.2.2.2.2 ≤ 4) ∨ (ins = .lreturn ∧ M.2.1.2.2.2.2.2 = 5) ∨ (ins = .areturn ∧ M.2.1.2.2.2.2.2 = 6)) (hd : decode M.1.2.1 pc = .ok (ins, 1)) (hR : zy_Rl D N0 T Wm ws0 A M s row st C e ls vs H locs) (hk : zyh_ret M K st C e = true) :
    W p l en R s m args below meth c H locs 0 0 Q (F0 m pc ls vs) := by
  unfold zyh_ret at hk
  obtain ⟨v, t, rfl, hk⟩ := zx_p1_s hk
  cases t with
  | cons a b => cases hk
  | nil =>
    have hk : zy_no e v (fun v => bif zy_rt M.2.1.2.2.2.2.2 e v then K [v] C e else false) = true := hk
    obtain ⟨tys, ws, hW, hS, hl, hL, hT, hCR, hE, hU⟩ := hR
    obtain ⟨x, rs, rfl, h1, h2⟩ := zy_SR1 hT
    cases rs with
    | cons _ _ => exact h2.elim
    | nil =>
      obtain ⟨v', h3, hk, -⟩ := zy_no_s hE h1 hk
      obtain ⟨q1, hk⟩ := zx_bft hk
      exact hRt _ _ _ _ _ _ _ _ _ _ _ hA hd (zy_rt_s hE h3 hrk q1 hi) hk ⟨tys, ws, hW, hS, hl, hL, ⟨h3, trivial⟩, hCR, hE, hU⟩
theorem zz_rtv (hRt : zy_Rt p l en R s m args below meth c Q D N0 T Wm ws0 A0 M K) (hA : zy_le A0 A) (hrk : zx_rk M.1.2.2.2 = M.2.1.2.2.2.2.2) (hd : decode M.1.2.1 pc = .ok (.return_, 1)) (hR : zy_Rl D N0 T Wm ws0 A M s row st C e ls vs H locs) (hk : zyh_rtv M K st C e = true) :
    W p l en R s m args below meth c H locs 0 0 Q (F0 m pc ls vs) := by
  cases st with
  | cons a b => cases hk
  | nil =>
    have hk : (bif Nat.beq M.2.1.2.2.2.2.2 0 then K [] C e else false) = true := hk
    obtain ⟨q1, hk⟩ := zx_bft hk
    obtain ⟨tys, ws, hW, hS, hl, hL, hT, hCR, hE, hU⟩ := hR
    cases vs with
    | cons _ _ => exact hT.elim
    | nil =>
      refine hRt _ _ _ _ _ _ _ _ _ _ _ hA hd (Or.inl ⟨?_, rfl, rfl⟩) hk ⟨tys, ws, hW, hS, hl, hL, trivial, hCR, hE, hU⟩
      rw [zx_beq_t q1] at hrk
      generalize M.1.2.2.2 = ret at hrk ⊢
      unfold zx_rk at hrk
      split at hrk <;> first | rfl | cases hrk
theorem zz_gets {q : zx_Q} {i a b : Nat} (hC : zx_Cx p R s m args meth c M d N0 (zy_ex A0) zy_n0) (hq : q ∈ zx_FL) (ho : q.1 = M.2.1.1) (hi : q.2.1 = i) (hx : (q.2.2.1 = 200 ∧ a = 20) ∨ (q.2.2.1 = 201 ∧ a = 8)) (hd : decode M.1.2.1 pc = .ok (.getstatic i, 3)) (hN : zy_Nx p l en R s m args below meth c Q D N0 T Wm ws0 A0 M nx) (hA : zy_le A0 A) (hv : ∀ q ∈ cur, zx_ve M q) (hR : zy_Rl D N0 T Wm ws0 A M s row st C e ls vs H locs) (hk : zyh_psh nx a b (pc + 3) cur row st C e = true) : W p l en R s m args below meth c H locs 0 0 Q (F0 m pc ls vs) := by
  obtain ⟨hx0, hb, hml, hown, hts, -, hN0, hX, -⟩ := hC
  have hlink := hts _ (zx_inF hq)
  unfold zx_fw at hlink
  rw [ho, hi] at hlink
  have hS : va_S (zx_A N0) s.heap H locs := by
    obtain ⟨_, _, _, h1, _⟩ := hR
    exact h1
  rcases hx with ⟨hx, rfl⟩ | ⟨hx, rfl⟩ <;> rw [hx] at hlink
  · exact va_gets (own := zx_on1 M.2.1.1) (ref := "java/lang/String") hx0 hb hX.2.2.2.2.1 hS hown hlink (fun _ z => z) hd (zz_psh (by decide) hN hA hv hR hk (zy_r_c (n := 1) (by decide)))
  · rcases hX.2.2.2.2.2.1 with hz | ⟨t, hz⟩
    · exact va_gets (own := zx_on1 M.2.1.1) (ref := "jdk/internal/util/Preconditions") hx0 hb hz hS hown hlink (fun _ z => z) hd (zz_psh (by decide) hN hA hv hR hk ((zy_r8 (by decide)).mpr ⟨by decide, Or.inl rfl⟩))
    · exact va_gets (own := zx_on1 M.2.1.1) (ref := "jdk/internal/util/Preconditions") hx0 hb hz hS hown hlink (fun _ z => z) hd (zz_psh (by decide) hN hA hv hR hk ((zy_r8 (by decide)).mpr ⟨by decide, Or.inr ⟨t, rfl⟩⟩))
theorem zz_icmpI {cd : ClassFile.Cond} {off : Int} {a : Nat} (hC : zx_Cx p R s m args meth c M d N0 (zy_ex A0) zy_n0) (hd : decode M.1.2.1 pc = .ok (.if_icmp cd off, 3)) (ht : (pc : Int) + off = (a : Int)) (hN : zy_Nx p l en R s m args below meth c Q D N0 T Wm ws0 A0 M nx) (hA : zy_le A0 A) (hv : ∀ q ∈ cur, zx_ve M q) (hR : zy_Rl D N0 T Wm ws0 A M s row st C e ls vs H locs) (hk : zyh_icmp M nx a (zx_cc cd) (pc + 3) cur row st C e = true) : W p l en R s m args below meth c H locs 0 0 Q (F0 m pc ls vs) := by
  obtain ⟨hx0, hb, -⟩ := hC
  obtain ⟨x, y, r, rfl, kt, kf⟩ := zz_icmp (zx_cc_lt cd) hN hA hv hR hk
  cases cd with
  | lt => exact lv_icmp_lt hx0 hb hd ht kt kf
  | ge => exact lv_icmp_ge hx0 hb hd ht (fun z => kt (zx_nle.mpr z)) (fun z => kf (fun w => z (zx_nle.mp w)))
  | gt => exact lv_icmp_gt hx0 hb hd ht kt kf
  | le => exact lv_icmp_le hx0 hb hd ht (fun z => kt (zx_nle.mpr z)) (fun z => kf (fun w => z (zx_nle.mp w)))
  | eq => exact lv_icmp_eq hx0 hb hd ht kt kf
  | ne => exact lv_icmp_ne hx0 hb hd ht kt (fun z => kf (fun w => w z))
theorem zz_ifI {cd : ClassFile.Cond} {off : Int} {a : Nat} (hC : zx_Cx p R s m args meth c M d N0 (zy_ex A0) zy_n0) (hd : decode M.1.2.1 pc = .ok (.ifCond cd off, 3)) (ht : (pc : Int) + off = (a : Int)) (hN : zy_Nx p l en R s m args below meth c Q D N0 T Wm ws0 A0 M nx) (hA : zy_le A0 A) (hv : ∀ q ∈ cur, zx_ve M q) (hR : zy_Rl D N0 T Wm ws0 A M s row st C e ls vs H locs) (hk : zyh_if M nx a (zx_cc cd) (pc + 3) cur row st C e = true) : W p l en R s m args below meth c H locs 0 0 Q (F0 m pc ls vs) := by
  obtain ⟨hx0, hb, -⟩ := hC
  obtain ⟨x, r, rfl, kt, kf⟩ := zz_if (zx_cc_lt cd) hN hA hv hR hk
  cases cd with
  | lt => exact lv_if_lt hx0 hb hd ht kt kf
  | ge => exact lv_if_ge hx0 hb hd ht (fun z => kt (zx_nle.mpr z)) (fun z => kf (fun w => z (zx_nle.mp w)))
  | gt => exact lv_if_gt hx0 hb hd ht kt kf
  | le => exact lv_if_le hx0 hb hd ht (fun z => kt (zx_nle.mpr z)) (fun z => kf (fun w => z (zx_nle.mp w)))
  | eq => exact lv_if_eq hx0 hb hd ht kt kf
  | ne => exact lv_if_ne hx0 hb hd ht kt (fun z => kf (fun w => w z))
end ZYR
