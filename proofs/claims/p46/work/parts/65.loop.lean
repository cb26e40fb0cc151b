/-! loops by hand: cuts with measures, from a state in the midst -/
section ZYO
variable {l : Launch} {D : va_G} {N0 : Nat} {T fg : List Nat} {Z : zy_V} {Wm g mk : Nat} {tb : zy_Tb} {p : Program} {en : Env} {R : Room} {s : State} {m : MethodId} {args : Array Value} {below : List Frame} {meth : Method} {c : Code} {Q : State → Prop}
theorem zy_cuts_s (hZ1 : zy_fi Z = 1) (hZ2 : zy_fl Z = 0) (hZr : zy_fr Z = 100) (hF : zy_FX fg Z) (hOk : ∀ t ∈ tb, ∀ co ∈ t.2.2, zy_Ok l D N0 T Z co) {ws0 : va_W} (hG : zy_Gs (zy_gl Z) g ws0) {A0 : zy_V} {es : Nat} (hZ0 : zy_le Z A0) (c2 : zy_ev A0 es) {M : zx_M} {K : zy_K} {n d0 k pm : Nat} {cuts : List zy_Ct} {sp : List (Nat × List (Nat × Nat))} (hC : ∀ As, zy_le Z As → zx_Cx p R s m args meth c M (d0 + k) N0 (zy_ex As) zy_n0) (hRt : ∀ As, zy_le A0 As → zy_Rt p l en R s m args below meth c Q D N0 T Wm ws0 As M K) (hrk : zx_rk M.1.2.2.2 = M.2.1.2.2.2.2.2) (hms : (cuts.all (fun cu => Nat.ble cu.2.2.2.2.length 24)) = true)
    (k2 : ∀ cu ∈ cuts, zy_vr cu.2.1 0 cu.2.2.2.1 (fun row1 e1 => zy_vc cu.2.2.1 [] e1 (fun C1 e1 => zx_bk M.2.2 cu.1 (fun cur => zy_R T fg Wm g tb mk n d0 M K (zy_cf T fg (zy_fi A0) (zy_fl A0) (zy_fr A0) (zx_eg es 0) pm (fun m row C e => zy_mz e row1 C1 row C cu.2.2.2.2 m) cuts sp) cur cu.1 row1 [] C1 e1))) = true) :
    ∀ (N : Nat), ∀ cu ∈ cuts, ∀ (ls : Array Slot) (H : Heap) (locs : List Loc) (tys' : List (ClassId × FieldType)) (ws' : va_W), zy_Wd D N0 T A0 s H tys' ws' → va_S (zx_A N0) s.heap H locs → lv_has ls M.1.2.2.1 [] → (∀ z ∈ cu.2.1, ∃ v, ls[z.1]? = some (.val v) ∧ zy_r A0 z.2 v) → zy_CR A0 ws' cu.2.2.1 → zy_ev A0 cu.2.2.2.1 → zy_UN (zy_gl A0) Wm ws0 ws' → zy_en 24 (zy_mu (zy_lo1 ls) Z ws' cu.2.2.2.2) < N → W p l en R s m args below meth c H locs 0 0 Q (F0 m cu.1 ls []) := by
  have hf100 : 100 ≤ zy_fr Z := by omega
  have hF0 := zy_FX_le hZ0 hf100 hF
  intro N
  induction N with
  | zero => intro cu _ ls H locs tys' ws' _ _ _ _ _ _ _ hlt; omega
  | succ N ih =>
    intro cu hcu ls H locs tys' ws' hW' hS' hl' hty hCR' hE' hU' hlt
    have hk3 := k2 cu hcu
    obtain ⟨Bs, row1, es1, r1, r2, r3, hk3⟩ := zy_vr_s (ls := ls) cu.2.1 hE' hty zy_LR0 hk3
    obtain ⟨As, C1, es2, r4, r5, r6, hk3⟩ := zy_vc_s cu.2.2.1 r2 (zy_CR_le r1 hCR') (fun z hz => by cases hz) hk3
    obtain ⟨bl, hbl, hk3⟩ := zx_bk_s _ hk3
    have hAs := zy_le_tr r1 r4
    have hZs := zy_le_tr hZ0 hAs
    have hL1 := zy_LR_le r4 r3
    refine zy_run_s (ws0 := ws0) (hC As hZs) (hRt As hAs) hrk (zy_cf_s hF0 c2 hAs ?_) n (fun n' _ => zy_Ca_s hZ1 hZ2 hZr hF hOk n' d0 k As ws0 hZs hG) As bl.2 cu.1 row1 [] C1 es2 (zy_le_rf As) ((hC As hZs).2.2.2.2.2.2.2.2.2 bl hbl) hk3 ls [] H locs ⟨tys', ws', zy_up_all hAs (zy_f100 c2) hW', hS', hl', hL1, trivial, r6, r5, by rw [zy_gl_le hAs]; exact hU'⟩
    intro cu2 hcu2 A row C e ls2 H2 locs2 tys2 ws2 hA hW2 hS2 hl2 hL2 hCR2 hE2 hU2 hty2 hCt2 hEt2 hmz
    refine ih cu2 hcu2 ls2 H2 locs2 tys2 ws2 hW2 hS2 hl2 hty2 hCt2 hEt2 hU2 ?_
    have hlx := zy_mz_s (loc0 := zy_lo1 ls) (loc := zy_lo1 ls2) hE2 (zy_le_tr hZs hA) hZr (zy_CR_le hA r6) hCR2 (zy_lo1_s (zy_LR_le hA hL1)) (zy_lo1_s hL2) _ _ hmz
    have hlen : (zy_mu (zy_lo1 ls) Z ws' cu.2.2.2.2).length ≤ 24 := by
      unfold zy_mu
      rw [List.length_map]
      exact zx_ble_t (List.all_eq_true.mp hms cu hcu)
    have := zy_lx_en 24 _ _ hlen hlx
    omega
/-- from a state with given names into a loop -/
theorem zy_lp (hZ1 : zy_fi Z = 1) (hZ2 : zy_fl Z = 0) (hZr : zy_fr Z = 100) (hF : zy_FX fg Z) (hOk : ∀ t ∈ tb, ∀ co ∈ t.2.2, zy_Ok l D N0 T Z co) {ws0 : va_W} (hG : zy_Gs (zy_gl Z) g ws0) {M : zx_M} {K : zy_K} {n d0 k pm : Nat} {cuts : List zy_Ct} {sp : List (Nat × List (Nat × Nat))} (ys : List Int32) (bs : List (Nat × Nat)) (rowL : List (Nat × Nat)) (CL : zy_C) (hlen : ys.length = bs.length) (hmax : bs.length ≤ 150) (hb : ∀ (i : Nat) (y : Int32) (b : Nat × Nat), ys[i]? = some y → bs[i]? = some b → b.1 ≤ zx_bz y ∧ zx_bz y ≤ b.2 ∧ b.2 < 4294967296) (hC : ∀ As, zy_le Z As → zx_Cx p R s m args meth c M (d0 + k) N0 (zy_ex As) zy_n0) (hRt : ∀ As, zy_le Z As → zy_Rt p l en R s m args below meth c Q D N0 T Wm ws0 As M K) (hrk : zx_rk M.1.2.2.2 = M.2.1.2.2.2.2.2) (hms : (cuts.all (fun cu => Nat.ble cu.2.2.2.2.length 24)) = true)
    (k2 : (cuts.all (fun cu => zy_vr cu.2.1 0 cu.2.2.2.1 (fun row1 e1 => zy_vc cu.2.2.1 [] e1 (fun C1 e1 => zx_bk M.2.2 cu.1 (fun cur => zy_R T fg Wm g tb mk n d0 M K (zy_cf T fg (1 + bs.length) 0 100 (zx_eg (bs.foldl zy_pe zy_e1) 0) pm (fun m row C e => zy_mz e row1 C1 row C cu.2.2.2.2 m) cuts sp) cur cu.1 row1 [] C1 e1))))) = true)
    {pc : Nat} {ls : Array Slot} {H : Heap} {locs : List Loc} {tys : List (ClassId × FieldType)} {ws : va_W} (hW : zy_Wd D N0 T Z s H tys ws) (hS : va_S (zx_A N0) s.heap H locs) (hl : lv_has ls M.1.2.2.1 []) (hrow : ∀ q ∈ rowL, ∃ v, ls[q.1]? = some (.val v) ∧ zy_r (ys.foldl zy_xi Z) q.2 v) (hCL : zy_CR (ys.foldl zy_xi Z) ws CL) (hU : zy_UN (zy_gl Z) Wm ws0 ws)
    (hck : zx_bk M.2.2 pc (fun cur => zy_R T fg Wm g tb mk n d0 M K (zy_cf T fg (1 + bs.length) 0 100 (zx_eg (bs.foldl zy_pe zy_e1) 0) pm (fun _ _ _ _ => true) cuts sp) cur pc (zy_rl rowL) [] CL (bs.foldl zy_pe zy_e1)) = true) :
    W p l en R s m args below meth c H locs 0 0 Q (F0 m pc ls []) := by
  have hf100 : 100 ≤ zy_fr Z := by omega
  obtain ⟨hE, hle⟩ := zy_mk_s ys bs (zy_e1_s hZ1 hZ2 hZr) hlen hb (by omega)
  obtain ⟨c1, c2, c3⟩ := zy_mk_c ys Z
  rw [hZ1, hlen] at c1
  rw [hZ2] at c2
  rw [hZr] at c3
  rw [← c1] at k2 hck
  have k2' := List.all_eq_true.mp k2
  obtain ⟨bl, hbl, hk⟩ := zx_bk_s _ hck
  have hcuts := zy_cuts_s hZ1 hZ2 hZr hF hOk hG hle hE hC (fun As h => hRt As (zy_le_tr hle h)) hrk hms (mk := mk) (n := n) (pm := pm) (sp := sp) (fun cu hcu => by rw [c2, c3]; exact k2' cu hcu)
  refine zy_run_s (ws0 := ws0) (hC _ hle) (hRt _ hle) hrk (cut := zy_cf T fg (zy_fi (ys.foldl zy_xi Z)) (zy_fl (ys.foldl zy_xi Z)) (zy_fr (ys.foldl zy_xi Z)) (zx_eg (bs.foldl zy_pe zy_e1) 0) pm (fun _ _ _ _ => true) cuts sp) (zy_cf_s (zy_FX_le hle hf100 hF) hE (zy_le_rf _) ?_) n (fun n' _ => zy_Ca_s hZ1 hZ2 hZr hF hOk n' d0 k _ ws0 hle hG) _ bl.2 pc (zy_rl rowL) [] CL (bs.foldl zy_pe zy_e1) (zy_le_rf _) ((hC _ hle).2.2.2.2.2.2.2.2.2 bl hbl) (by rw [c2, c3]; exact hk) ls [] H locs ⟨tys, ws, zy_up_all hle hf100 hW, hS, hl, zy_rl_s rowL 0 zy_LR0 hrow, trivial, hCL, hE, by rw [zy_gl_le hle]; exact hU⟩
  intro cu2 hcu2 A row C e ls2 H2 locs2 tys2 ws2 hA hW2 hS2 hl2 hL2 hCR2 hE2 hU2 hty2 hCt2 hEt2 hmz
  exact hcuts _ cu2 hcu2 ls2 H2 locs2 tys2 ws2 hW2 hS2 hl2 hty2 hCt2 hEt2 hU2 (Nat.lt_succ_self _)
theorem zy_rtW {Z As : zy_V} {M : zx_M} {q : zy_Co} {av : List Value} {ws ws3 : va_W} (hx : p.tables.exec = Jvm.exec) (hb : c.code = M.1.2.1) (hr : meth.sig.returnType = M.1.2.2.2) (hlocks : meth.locks = false) (hf : 100 ≤ zy_fr Z) (hZ : zy_le Z As) (hU3 : zy_UN (zy_gl Z) q.1.2.2.1 ws ws3) (hpo : ([], []) ∈ q.2.2.2) : zy_Rt p l en R s m args below meth c (MQ below (zy_Qp D N0 T Z q av ws) args s 0 0 (zx_A N0)) D N0 T q.1.2.2.1 ws3 As M zy_K0 := by
  refine zy_ends hx hb hr hlocks ?_
  intro A r C e vs tys' ws' t hA hK hlen hsr hW' hCR' hE' hU' hFt
  have hZA := zy_le_tr hZ hA
  cases r with
  | cons _ _ => cases hK
  | nil =>
    cases vs with
    | cons _ _ => exact hsr.elim
    | nil =>
      refine ⟨⟨[], tys', ws', ([], []), rfl, Nat.zero_le _, hpo, trivial, fun f hf => (by cases hf), ⟨hW'.1, hW'.2.1, hW'.2.2.1, zy_HR_ge hZA hf hW'.2.2.2⟩, ?_⟩, hFt⟩
      rw [zy_gl_le hZA] at hU'
      exact zy_UN_tr hU3 hU'
end ZYO
