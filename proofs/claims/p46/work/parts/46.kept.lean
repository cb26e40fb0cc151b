/-! a checked contract is kept -/
noncomputable def zy_cl (T fg : List Nat) (W g : Nat) (tb : zy_Tb) (mk n d : Nat) : Nat → zx_M → zy_K → zy_N := fun a M' K' cur pc row st C e => bif zy_tb mk a then zy_cc T fg W g tb d a K' row C e else @Nat.rec (fun _ => zy_N) zy_zf (fun d' _ => zy_R T fg W g tb mk n d' M' K' zy_nc) d cur pc row st C e
theorem zy_R_S (T fg : List Nat) (W g : Nat) (tb : zy_Tb) (mk n d : Nat) (M : zx_M) (K : zy_K) (cut : zy_U) : zy_R T fg W g tb mk (n + 1) d M K cut = zy_st T W M K (zy_cl T fg W g tb mk n d) cut (zy_R T fg W g tb mk n d M K cut) := rfl
theorem zy_allr {α : Type} (F : α → Bool) : ∀ (l : List α), @List.rec α (fun _ => Bool) true (fun a _ ih => F a && ih) l = true → ∀ a ∈ l, F a = true
  | [], _, _, h => by cases h
  | b :: l, h, a, ha => by
    have h : (F b && @List.rec α (fun _ => Bool) true (fun a _ ih => F a && ih) l) = true := h
    obtain ⟨h1, h2⟩ := zx_and_b h
    rcases List.mem_cons.mp ha with rfl | ha
    · exact h1
    · exact zy_allr F l h2 a ha
theorem zy_lo1_s {A : zy_V} {row : Nat} {ls : Array Slot} (hL : zy_LR A row ls) : ∀ j, zx_lg row j % 16 ≠ 0 → ∃ v, zy_lo1 ls j = some v ∧ zy_r A (zx_lg row j) v := fun j hj => by
  obtain ⟨v, h1, h2⟩ := hL j hj
  exact ⟨v, by unfold zy_lo1; rw [h1], h2⟩
section ZYF
variable {l : Launch} {D : va_G} {N0 : Nat} {T fg : List Nat} {Z : zy_V} {Wm g mk : Nat} {tb : zy_Tb}
theorem zy_run_s {p : Program} {en : Env} {R : Room} {s : State} {m : MethodId} {args : Array Value} {below : List Frame} {meth : Method} {c : Code} {Q : State → Prop} {A0 : zy_V} {ws0 : va_W} {M : zx_M} {dd d0 : Nat} {K : zy_K} {cut : zy_U} (hC : zx_Cx p R s m args meth c M dd N0 (zy_ex A0) zy_n0) (hRt : zy_Rt p l en R s m args below meth c Q D N0 T Wm ws0 A0 M K) (hrk : zx_rk M.1.2.2.2 = M.2.1.2.2.2.2.2) (hCu : zy_Cu p l en R s m args below meth c Q D N0 T Wm ws0 A0 M cut) :
    ∀ n, (∀ k, k < n → zy_Ca l D N0 T Wm dd (zy_cl T fg Wm g tb mk k d0) A0 ws0) → zy_Nx p l en R s m args below meth c Q D N0 T Wm ws0 A0 M (zy_R T fg Wm g tb mk n d0 M K cut)
  | 0, _ => by
    intro A cur pc row st C e _ _ hk
    cases hk
  | n + 1, h => by
    rw [zy_R_S]
    exact zy_st_s hC (h n (Nat.lt_succ_self n)) hRt hrk hCu (zy_run_s hC hRt hrk hCu n (fun k hk => h k (Nat.lt_succ_of_lt hk)))
theorem zy_ends {p : Program} {en : Env} {R : Room} {s : State} {m : MethodId} {args : Array Value} {below : List Frame} {meth : Method} {c : Code} {A0 : zy_V} {ws0 : va_W} {M : zx_M} {K : zy_K} {Qc : Array Value → State → Outcome → State → Prop} (hx : p.tables.exec = Jvm.exec) (hb : c.code = M.1.2.1) (hr : meth.sig.returnType = M.1.2.2.2) (hlocks : meth.locks = false) (hq : ∀ (A : zy_V) (r : List Nat) (C : zy_C) (e : Nat) (vs : List Value) (tys : List (ClassId × FieldType)) (ws : va_W) (t : State), zy_le A0 A → K r C e = true → vs.length ≤ 1 → zy_SR A r vs → zy_Wd D N0 T A t t.heap tys ws → zy_CR A ws C → zy_ev A e → zy_UN (zy_gl A) Wm ws0 ws → va_F (zx_A N0) s t → Qc args s (.returned vs.head?) t) :
    zy_Rt p l en R s m args below meth c (MQ below Qc args s 0 0 (zx_A N0)) D N0 T Wm ws0 A0 M K := by
  intro A pc row r C e ls vs H locs ins hA hd hri hK hR
  obtain ⟨tys, ws, hW, hS, hl, hL, hT, hCR, hE, hU⟩ := hR
  have hf : ∀ q ∈ locs, zx_A N0 q.base := hS.2.2
  have hq' : vs.length ≤ 1 → ∀ t : State, t.heap = H → s.WarmedH t.vm → Qc args s (.returned vs.head?) t := by
    intro hlen t ht hWm
    obtain ⟨k1, k2, k3⟩ := hW
    exact hq A r C e vs tys ws t hA hK hlen hT ⟨va_K.moved hWm.alike k1, by rw [ht]; exact k2, k3⟩ hCR hE hU (hS.F ht)
  rcases hri with ⟨h1, rfl, rfl⟩ | ⟨ty, v, h1, rfl, rfl, h2⟩ | ⟨v, h1, rfl, rfl⟩ | ⟨ty, v, h1, h2, rfl, rfl, h3⟩
  · exact W.vret hx hb (hr.trans h1) (hq' (by decide)) hf hd
  · exact W.zret hx hb (hr.trans h1) h2 (hq' (Nat.le_refl 1)) hf hd
  · exact W.lret hx hb (hr.trans h1) (hq' (Nat.le_refl 1)) hf hd
  · exact W.aret hx hb (hr.trans h1) h2 h3 (hq' (Nat.le_refl 1)) hf hd
theorem zy_Ca_s (hZ1 : zy_fi Z = 1) (hZ2 : zy_fl Z = 0) (hZr : zy_fr Z = 100) (hF : zy_FX fg Z) (hOk : ∀ t ∈ tb, ∀ co ∈ t.2.2, zy_Ok l D N0 T Z co) (n : Nat) : ∀ (d0 k : Nat) (A0 : zy_V) (ws0 : va_W), zy_le Z A0 → zy_Gs (zy_gl Z) g ws0 → zy_Ca l D N0 T Wm (d0 + k) (zy_cl T fg Wm g tb mk n d0) A0 ws0 := by
  induction n using Nat.strongRecOn with
  | _ n ih =>
    intro d0 k A0 ws0 hZ0 hG a y K A as C e av tys ws hA hU hya h0 h0' hcall hsr hwd hD hH hCR hE
    have hZA := zy_le_tr hZ0 hA
    have hU' : zy_UN (zy_gl Z) Wm ws0 ws := by rw [← zy_gl_le hZA]; exact hU
    have hcall : (bif zy_tb mk a then zy_cc T fg Wm g tb d0 a K (zx_rw as) C e else @Nat.rec (fun _ => zy_N) zy_zf (fun d' _ => zy_R T fg Wm g tb mk n d' y K zy_nc) d0 [] 0 (zx_rw as) [] C e) = true := hcall
    rcases zx_bif hcall with ⟨-, hcall⟩ | ⟨-, hcall⟩
    · exact zy_cc_s hZ1 hZ2 hZr hF hOk hZA (zy_Ga_Gs hU'.2.2 hG) hya hcall hsr hD hH hCR hE
    · cases d0 with
      | zero => cases hcall
      | succ d0 =>
        have hcall : zy_R T fg Wm g tb mk n d0 y K zy_nc [] 0 (zx_rw as) [] C e = true := hcall
        refine ⟨d0 + k, by omega, ?_⟩
        have hy := (zx_me_s hya).1
        obtain ⟨h1, h2, h3, h4, h5, h6, h7, h8, h9, h10⟩ := zx_head hy
        refine zx_ofW (cc := y.1.2.1) (maxL := y.1.2.2.1) (ret := y.1.2.2.2) h2 rfl ?_
        intro p en s m args below meth c s₁ B hml hv
        obtain ⟨rfl, hN0, hK, hP, hX⟩ := hv
        have hx := B.exec
        have hb := B.bytes
        have hr := B.returns
        have hts0 := atoms_spec (ws := zx_mc y :: zx_G) B.pre
        have hown : s.vm.findClass y.1.1.cls = some m.cls := findClass_of_methodNamed B.named
        rw [h1] at hown
        have hin : meth.name = y.1.1.name := (name_of_methodNamed B.named B.method).1
        have hC : zx_Cx p (headSpec (zx_mc y :: zx_G) (zx_rm (d0 + k) y)).room s m av.toArray meth c y (d0 + k) N0 (zy_ex A) zy_n0 := ⟨hx, hb, hml, hown, fun w hw => hts0 w (List.mem_cons_of_mem _ hw), fun z => hin.trans (h7 z).1, hN0, hX, ⟨Nat.le_refl _, Nat.le_refl _, Nat.le_refl _, Nat.le_refl _⟩, zx_tw_in hy⟩
        have hle : (lg_sl av).length ≤ y.1.2.2.1 := by rw [(zy_wd_s hsr).1]; exact hwd
        have hl := lv_entry av hle
        rw [lg_entry_eq]
        refine zy_run_s (ws0 := ws) hC (zy_ends hx hb hr B.notSynchronized ?_) h8 ?_ n (fun k' hk' => ih k' hk' d0 k A ws hZA (zy_Ga_Gs hU'.2.2 hG)) A [] 0 (zx_rw as) [] C e (zy_le_rf A) (fun q hq => by cases hq) hcall _ _ _ _ ⟨tys, ws, ⟨hK, hP, hD, hH⟩, va_S.rf, zx_lv_none hl, fun j hj => ?_, trivial, hCR, hE, zy_UN_rf⟩
        · intro A' r C' e' vs tys' ws' t hA' hK' hlen hsr' hW' hCR' hE' hU'' hFt
          exact ⟨⟨A', r, vs, C', e', tys', ws', hA', rfl, hlen, hsr', hW', hCR', hE', hU'', hK'⟩, hFt⟩
        · intro A' pc row st C' e' b _ hb' ls vs H locs _
          exact Or.inl hb'
        · obtain ⟨v, g1, -, g2⟩ := zy_rw_s 0 hsr j hj
          rw [Nat.zero_add] at g1
          exact ⟨v, hl.2.2 (j, v) g1, g2⟩
theorem zy_lm_s {A : zy_V} {e : Nat} (he : zy_ev A e) : ∀ (ts r : List Nat) (vs : List Value), zy_SR A r vs → zy_lm e ts r = true → zy_SR (zy_rs A 1 0 100) ts vs
  | [], [], [], _, _ => trivial
  | [], [], _ :: _, h, _ => h.elim
  | [], _ :: _, _, _, h => by cases h
  | _ :: _, [], _, _, h => by cases h
  | _ :: _, _ :: _, [], h, _ => h.elim
  | t :: ts, v :: r, x :: vs, h, hk => by
    have hk : (zy_mv 1 0 100 e v t && zy_lm e ts r) = true := hk
    obtain ⟨k1, k2⟩ := zx_and_b hk
    exact ⟨zy_mv_s he h.1 k1, zy_lm_s he ts r vs h.2 k2⟩
section ZYF2
variable {A A0 : zy_V} {e row0 : Nat} {C0 C : zy_C} {ws0 ws : va_W} {loc : Nat → Option Value}
theorem zy_k2_s (hZ1 : zy_fi Z = 1) (hZ2 : zy_fl Z = 0) (hZr : zy_fr Z = 100) (hZ : zy_le Z A) (he : zy_ev A e) (hC0 : zy_CR A ws0 C0) (hr0 : ∀ j, zx_lg row0 j % 16 ≠ 0 → ∃ v, loc j = some v ∧ zy_r A (zx_lg row0 j) v) {f : Nat × Nat × Nat × Nat} {v : Nat} {x : Value} (h1 : f.1 % 256 < 100) (h2 : (zy_gl A)[zy_ru A (f.1 % 256)]? = some (f.1 / 256 % 65536 / 128)) (h3 : zy_rd ws (zy_ru A (f.1 % 256)) (f.1 / 256 % 128) (f.1 / 16777216) = some x) (hv : zy_r A v x) (h : zy_k2 row0 C0 f e v = true) : zy_FS Z loc ws0 ws f := by
  unfold zy_k2 at h
  obtain ⟨m1, m2⟩ := zx_and_b h
  have hback : zy_le (zy_rs A 1 0 100) Z := by
    have := zy_rs_le hZ
    rw [hZ1, hZ2, hZr] at this
    exact this
  have hru := hZ.2.2.2.2 (f.1 % 256) (by omega)
  have hgl := zy_gl_le hZ
  rw [hru] at h2 h3
  rw [hgl] at h2
  refine ⟨?_, fun z => ?_⟩
  · intro q hq
    rcases List.mem_cons.mp hq with rfl | hq
    · exact ⟨⟨by show f.1 % 256 < zy_fr Z; omega, h2⟩, x, h3, zy_r_le hback (zy_mv_s he hv m1)⟩
    · cases hq
  · rcases (Bool.or_eq_true _ _).mp m2 with w | w
    · exact absurd (zx_beq_t w) z
    obtain ⟨-, w⟩ := zx_and_b w
    obtain ⟨w3, w⟩ := zx_and_b w
    have w3 := zx_blt_t w3
    rcases zy_sv_s hC0 hZ hZr hr0 w with ⟨s0, w, k0⟩ | w
    · obtain ⟨w4, w⟩ := zx_bft w
      obtain ⟨w4, w5⟩ := zx_and_b w4
      have kk : ∀ t, t < 16 → Nat.beq (Nat.mod (Nat.shiftRight 18 t) 2) 1 = true → t = 1 ∨ t = 4 := by decide
      have w4 := kk _ (Nat.mod_lt _ (by decide)) w4
      have w5 := kk _ (Nat.mod_lt _ (by decide)) w5
      have w4 : s0 % 16 = 1 ∨ s0 % 16 = 4 := w4
      have w5 : v % 16 = 1 ∨ v % 16 = 4 := w5
      obtain ⟨x0, k1, k2⟩ := k0 (by omega)
      obtain ⟨y0, rfl⟩ : ∃ y : Int32, x0 = .int y := by
        rcases w4 with q | q
        · exact ⟨_, ((zy_r1 q).mp k2).2.1⟩
        · exact ⟨_, ((zy_r4 q).mp k2).2.1⟩
      obtain ⟨w6, k3, w⟩ := zy_ad_s he k2 (zy_r_c w3) w
      rw [zx_beq_t w] at k3
      have hx : x = .int (y0 + nI f.2.2.1) := by
        rcases w5 with q | q
        · rw [((zy_r1 q).mp hv).2.1, ((zy_r1 q).mp k3).2.1]
        · rw [((zy_r4 q).mp hv).2.1, ((zy_r4 q).mp k3).2.1]
      rw [hx] at h3
      exact ⟨y0, _, k1, h3, rfl⟩
    · cases w
theorem zy_fm_s (hZ1 : zy_fi Z = 1) (hZ2 : zy_fl Z = 0) (hZr : zy_fr Z = 100) (hF : zy_FX fg Z) (hZ : zy_le Z A) (he : zy_ev A e) (hC0 : zy_CR A ws0 C0) (hC : zy_CR A ws C) (hU : zy_UN (zy_gl A) Wm ws0 ws) {tys : List (ClassId × FieldType)} (hH : zy_HR A T tys ws) (hr0 : ∀ j, zx_lg row0 j % 16 ≠ 0 → ∃ v, loc j = some v ∧ zy_r A (zx_lg row0 j) v) : ∀ (fs : List (Nat × Nat × Nat × Nat)), zy_fm T fg Wm row0 C0 C e fs = true → ∀ f ∈ fs, zy_FS Z loc ws0 ws f := by
  intro fs h f hf
  have h := zy_allr _ fs h f hf
  obtain ⟨h1, h⟩ := zx_and_b h
  have h1 : f.1 % 256 < 100 := zx_blt_t h1
  have tt : zy_tt T fg f.1 (zy_k2 row0 C0 f e) = true → zy_FS Z loc ws0 ws f := fun h => by
    obtain ⟨t, x, g1, g2, g3, g4, g5⟩ := zy_tt_s (zy_FX_le hZ (by omega) hF) hH h
    exact zy_k2_s hZ1 hZ2 hZr hZ he hC0 hr0 h1 g3 g4 (zy_r_le (zy_fz_le (zy_f100 he)) g5) g1
  rcases zy_cg_s h with ⟨v, g1, g2⟩ | h
  · obtain ⟨⟨-, g3⟩, x, g4, g5⟩ := hC _ g1
    exact zy_k2_s hZ1 hZ2 hZr hZ he hC0 hr0 h1 g3 g4 g5 g2
  · rcases zx_bif h with ⟨-, h⟩ | ⟨q, h⟩
    · exact tt h
    · rcases zy_cg_s h with ⟨v, g1, g2⟩ | h
      · obtain ⟨⟨-, g3⟩, x, g4, g5⟩ := hC0 _ g1
        have g3 : (zy_gl A)[zy_ru A (f.1 % 256)]? = some (f.1 / 256 % 65536 / 128) := g3
        have g4 : zy_rd ws0 (zy_ru A (f.1 % 256)) (f.1 / 256 % 128) (f.1 / 16777216) = some x := g4
        refine zy_k2_s hZ1 hZ2 hZr hZ he hC0 hr0 h1 g3 ?_ g5 g2
        rw [hU.2.1 _ _ (f.1 / 256 % 128) (f.1 / 16777216) g3 (Nat.mod_lt _ (by decide)) ?_]
        · exact g4
        · rw [zy_tb_s] at q
          rw [show 128 * (f.1 / 256 % 65536 / 128) + f.1 / 256 % 128 = f.1 / 256 % 65536 by omega]
          exact q
      · exact tt h
theorem zy_Ke_s (hZ1 : zy_fi Z = 1) (hZ2 : zy_fl Z = 0) (hZr : zy_fr Z = 100) (hF : zy_FX fg Z) (hZ : zy_le Z A) (he : zy_ev A e) (hC0 : zy_CR A ws0 C0) (hC : zy_CR A ws C) (hU : zy_UN (zy_gl A) Wm ws0 ws) {tys : List (ClassId × FieldType)} (hH : zy_HR A T tys ws) (hr0 : ∀ j, zx_lg row0 j % 16 ≠ 0 → ∃ v, loc j = some v ∧ zy_r A (zx_lg row0 j) v) {r : List Nat} {vs : List Value} (hs : zy_SR A r vs) : ∀ (ps : List zy_Po), zy_Ke T fg Wm row0 C0 ps r C e = true → ∃ po ∈ ps, zy_SR Z po.1 vs ∧ ∀ f ∈ po.2, zy_FS Z loc ws0 ws f
  | [], h => by cases h
  | po :: ps, h => by
    have h : (bif zy_lm e po.1 r && zy_fm T fg Wm row0 C0 C e po.2 then true else zy_Ke T fg Wm row0 C0 ps r C e) = true := h
    rcases zx_bif h with ⟨q, -⟩ | ⟨-, h⟩
    · obtain ⟨q1, q2⟩ := zx_and_b q
      have hback : zy_le (zy_rs A 1 0 100) Z := by
        have := zy_rs_le hZ
        rw [hZ1, hZ2, hZr] at this
        exact this
      exact ⟨po, List.mem_cons_self, zy_SR_le hback _ _ (zy_lm_s he _ _ _ hs q1), zy_fm_s hZ1 hZ2 hZr hF hZ he hC0 hC hU hH hr0 _ q2⟩
    · obtain ⟨po', h1, h2⟩ := zy_Ke_s hZ1 hZ2 hZr hF hZ he hC0 hC hU hH hr0 hs ps h
      exact ⟨po', List.mem_cons_of_mem _ h1, h2⟩
end ZYF2
theorem zy_sk_s {pc : Nat} {k : List (Nat × Nat) → Bool} : ∀ (sp : List (Nat × List (Nat × Nat))), zy_sk sp pc k = true → ∃ s, k s = true
  | [], h => ⟨[], h⟩
  | q :: sp, h => by
    have h : (bif Nat.beq q.1 pc then k q.2 else zy_sk sp pc k) = true := h
    rcases zx_bif h with ⟨-, h⟩ | ⟨-, h⟩
    · exact ⟨_, h⟩
    · exact zy_sk_s sp h
theorem zy_cx_s {ki kl kr n0 pc row e : Nat} {C : zy_C} {mz : List (Nat × Nat) → Nat → zy_C → Nat → Bool} : ∀ (l : List zy_Ct), zy_cx T fg ki kl kr n0 mz pc row C e l = true → ∃ cu ∈ l, cu.1 = pc ∧ zx_eg cu.2.2.2.1 0 = n0 ∧ Nat.shiftRight cu.2.2.2.1 12288 = 0 ∧ zy_mr ki kl kr e row cu.2.1 = true ∧ zy_mC T fg ki kl kr e C cu.2.2.1 = true ∧ zy_kb e cu.2.2.2.1 ki = true ∧ mz cu.2.2.2.2 row C e = true
  | [], h => by cases h
  | cu :: l, h => by
    have h : (bif Nat.beq cu.1 pc && (Nat.beq (zx_eg cu.2.2.2.1 0) n0 && (Nat.beq (Nat.shiftRight cu.2.2.2.1 12288) 0 && (zy_mr ki kl kr e row cu.2.1 && (zy_mC T fg ki kl kr e C cu.2.2.1 && (zy_kb e cu.2.2.2.1 ki && mz cu.2.2.2.2 row C e))))) then true else zy_cx T fg ki kl kr n0 mz pc row C e l) = true := h
    rcases zx_bif h with ⟨q, -⟩ | ⟨-, h⟩
    · obtain ⟨q1, q⟩ := zx_and_b q
      obtain ⟨q2, q⟩ := zx_and_b q
      obtain ⟨q3, q⟩ := zx_and_b q
      obtain ⟨q4, q⟩ := zx_and_b q
      obtain ⟨q5, q⟩ := zx_and_b q
      obtain ⟨q6, q7⟩ := zx_and_b q
      exact ⟨cu, List.mem_cons_self, zx_beq_t q1, zx_beq_t q2, zx_beq_t q3, q4, q5, q6, q7⟩
    · obtain ⟨cu', h1, h2⟩ := zy_cx_s l h
      exact ⟨cu', List.mem_cons_of_mem _ h1, h2⟩
/-- cuts: where a state fits one, Wm is known there -/
theorem zy_cf_s {p : Program} {en : Env} {R : Room} {s : State} {m : MethodId} {args : Array Value} {below : List Frame} {meth : Method} {c : Code} {Q : State → Prop} {As A0 : zy_V} {ws0 : va_W} {M : zx_M} {es pm : Nat} {mz : List (Nat × Nat) → Nat → zy_C → Nat → Bool} {cuts : List zy_Ct} {sp : List (Nat × List (Nat × Nat))} (hF : zy_FX fg A0) (hs : zy_ev A0 es) (h0 : zy_le A0 As)
    (hP : ∀ cu ∈ cuts, ∀ (A : zy_V) (row : Nat) (C : zy_C) (e : Nat) (ls : Array Slot) (H : Heap) (locs : List Loc) (tys : List (ClassId × FieldType)) (ws : va_W), zy_le As A → zy_Wd D N0 T A0 s H tys ws → va_S (zx_A N0) s.heap H locs → lv_has ls M.1.2.2.1 [] → zy_LR A row ls → zy_CR A ws C → zy_ev A e → zy_UN (zy_gl A0) Wm ws0 ws → (∀ q ∈ cu.2.1, ∃ v, ls[q.1]? = some (.val v) ∧ zy_r A0 q.2 v) → zy_CR A0 ws cu.2.2.1 → zy_ev A0 cu.2.2.2.1 → mz cu.2.2.2.2 row C e = true → W p l en R s m args below meth c H locs 0 0 Q (F0 m cu.1 ls [])) :
    zy_Cu p l en R s m args below meth c Q D N0 T Wm ws0 As M (zy_cf T fg (zy_fi A0) (zy_fl A0) (zy_fr A0) (zx_eg es 0) pm mz cuts sp) := by
  intro A pc row st C e b hA h ls vs H locs hR
  unfold zy_cf at h
  rcases zx_bif h with ⟨-, h⟩ | ⟨-, h⟩
  · cases st with
    | cons _ _ => cases h
    | nil =>
      right
      obtain ⟨tys, ws, ⟨hK, hPp, hD, hH⟩, hS, hl, hL, hT, hCR, hE, hU⟩ := hR
      cases vs with
      | cons _ _ => exact hT.elim
      | nil =>
        have hA0 := zy_le_tr h0 hA
        have hf := zy_f100 hs
        obtain ⟨s1, h⟩ := zy_sk_s sp h
        obtain ⟨B, C', e', g1, g2, g3, h⟩ := zy_sl_s s1 hE hCR (zy_FX_le hA0 hf hF) hH (fun j hj => by
          obtain ⟨v, -, h3⟩ := hL j hj
          exact ⟨v, h3⟩) h
        obtain ⟨cu, c1, rfl, c3, c4, c5, c6, c7, c8⟩ := zy_cx_s _ h
        have hB := zy_le_tr hA0 g1
        have hback := zy_rs_le hB
        have hHB := zy_HR_le g1 (zy_f100 hE) hH
        refine hP cu c1 B row C' e' ls H locs tys ws (zy_le_tr hA g1) ⟨hK, hPp, hD, zy_HR_ge hB hf hHB⟩ hS hl (zy_LR_le g1 hL) g3 g2 ?_ ?_ ?_ ?_ c8
        · rw [← zy_gl_le hA0]
          exact hU
        · intro q hq
          obtain ⟨v, v1, v2⟩ := zy_mr_s g2 (zy_LR_le g1 hL) _ c5 q hq
          exact ⟨v, v1, zy_r_le hback v2⟩
        · exact zy_CR_le hback (zy_mC_s g2 g3 (zy_FX_le hB hf hF) hHB _ c6)
        · exact zy_kb_s g2 hs hB c7 c3 c4
  · exact Or.inl h
theorem zy_e1_s (hZ1 : zy_fi Z = 1) (hZ2 : zy_fl Z = 0) (hZr : zy_fr Z = 100) : zy_ev Z zy_e1 := by
  have hd : ∀ k, zx_eg zy_e1 (192 + k) = 0 := fun k => by
    show (zy_e1 >>> (0 + 64 * (192 + k))) % 18446744073709551616 = 0
    rw [show 0 + 64 * (192 + k) = 64 + (64 * (191 + k)) by omega, Nat.shiftRight_add, show zy_e1 >>> 64 = 0 from by decide, Nat.zero_shiftRight]
  refine ⟨fun k hk => ?_, fun k hk => ?_, ?_, by omega, by omega, by omega, by omega, by omega⟩
  · obtain ⟨k1, k2⟩ := hk
    omega
  · rw [hd k]
    exact ⟨fun z => absurd rfl z, fun n _ hn => by rw [Nat.zero_div, Nat.zero_testBit] at hn; cases hn⟩
  · rw [hZ1, hZ2, hZr]
    decide
/-- a checked contract is kept -/
theorem zy_ck_s (hZ1 : zy_fi Z = 1) (hZ2 : zy_fl Z = 0) (hZr : zy_fr Z = 100) (hF : zy_FX fg Z) {q : zy_Co} {h : zy_Ch} {y : zx_M} (hya : zx_me q.1.1 = some y) (hms : (h.2.2.1.all (fun cu => Nat.ble cu.2.2.2.2.length 24)) = true) (hOk : ∀ t ∈ h.2.1.1, ∀ co ∈ t.2.2, zy_Ok l D N0 T Z co) (hk : zy_ck T fg q h y = true) : zy_Ok l D N0 T Z q := by
  intro y' hy' d hd av tys ws hsr hGw hD hH hCR
  have hyy : y' = y := Option.some.inj (hy'.symm.trans hya)
  rw [hyy]
  obtain ⟨k0, hdk⟩ : ∃ k, d = q.1.2.1 + k := ⟨d - q.1.2.1, by omega⟩
  unfold zy_ck at hk
  obtain ⟨hwd, hk⟩ := zx_and_b hk
  have hwd := zx_ble_t hwd
  have hf100 : 100 ≤ zy_fr Z := by omega
  obtain ⟨B1, vs, e1, b1, b2, b3, hk⟩ := zy_vl_s _ (zy_e1_s hZ1 hZ2 hZr) hsr hk
  obtain ⟨A0, C0, e0, c1, c2, c3, hk⟩ := zy_vc_s _ b2 (zy_CR_le b1 hCR) (fun q hq => by cases hq) hk
  rw [zx_fn_eq, zx_fn_eq, zx_fn_eq, zx_fn_eq, zx_fn_eq] at hk
  have hZ0 := zy_le_tr b1 c1
  have hsr0 := zy_SR_le c1 _ _ b3
  have hn0 := c2.2.2.1
  have hi192 := c2.2.2.2.2.1
  have hl64 := c2.2.2.2.2.2.1
  have e_i : Nat.mod (zx_eg e0 0) 65536 = zy_fi A0 := by
    show zx_eg e0 0 % 65536 = zy_fi A0
    omega
  have e_l : Nat.mod (Nat.div (zx_eg e0 0) 65536) 65536 = zy_fl A0 := by
    show zx_eg e0 0 / 65536 % 65536 = zy_fl A0
    omega
  have e_r : Nat.div (zx_eg e0 0) 4294967296 = zy_fr A0 := by
    show zx_eg e0 0 / 4294967296 = zy_fr A0
    omega
  rw [e_i, e_l, e_r] at hk
  obtain ⟨k1, k2⟩ := zx_and_b hk
  have k2 := zy_allr _ _ k2
  have hF0 := zy_FX_le hZ0 hf100 hF
  have hr0 : ∀ j, zx_lg (zx_rw vs) j % 16 ≠ 0 → ∃ v, zy_av av j = some v ∧ zy_r A0 (zx_lg (zx_rw vs) j) v := fun j hj => by
    obtain ⟨v, -, h2, h3⟩ := zy_rw_s 0 hsr0 j hj
    exact ⟨v, h2, h3⟩
  have hym := (zx_me_s hya).1
  obtain ⟨h1, h2, h3, h4, h5, h6, h7, h8, h9, h10⟩ := zx_head hym
  refine zx_ofW (cc := y.1.2.1) (maxL := y.1.2.2.1) (ret := y.1.2.2.2) h2 rfl ?_
  intro p en s m args below meth c s₁ B hml hv
  obtain ⟨rfl, hN0, hK, hP, hX⟩ := hv
  have hx := B.exec
  have hb := B.bytes
  have hr := B.returns
  have hts0 := atoms_spec (ws := zx_mc y :: zx_G) B.pre
  have hown : s.vm.findClass y.1.1.cls = some m.cls := findClass_of_methodNamed B.named
  rw [h1] at hown
  have hin : meth.name = y.1.1.name := (name_of_methodNamed B.named B.method).1
  have hC : ∀ As, zy_le Z As → zx_Cx p (headSpec (zx_mc y :: zx_G) (zx_rm d y)).room s m av.toArray meth c y d N0 (zy_ex As) zy_n0 := fun As hAs => by
    rw [zy_exA hAs]
    exact ⟨hx, hb, hml, hown, fun w hw => hts0 w (List.mem_cons_of_mem _ hw), fun z => hin.trans (h7 z).1, hN0, hX, ⟨Nat.le_refl _, Nat.le_refl _, Nat.le_refl _, Nat.le_refl _⟩, zx_tw_in hym⟩
  have hCa : ∀ As, zy_le Z As → ∀ n, zy_Ca l D N0 T q.1.2.2.1 d (zy_cl T fg q.1.2.2.1 q.1.2.2.2 h.2.1.1 h.2.1.2 n q.1.2.1) As ws := fun As hAs n => by
    rw [hdk]
    exact zy_Ca_s hZ1 hZ2 hZr hF hOk n q.1.2.1 k0 As ws hAs hGw
  have hRt : ∀ As, zy_le A0 As → zy_Rt p l en (headSpec (zx_mc y :: zx_G) (zx_rm d y)).room s m av.toArray below meth c (MQ below (zy_Qp D N0 T Z q av ws) av.toArray s 0 0 (zx_A N0)) D N0 T q.1.2.2.1 ws As y (zy_Ke T fg q.1.2.2.1 (zx_rw vs) C0 q.2.2.2) := fun As hAs => by
    refine zy_ends hx hb hr B.notSynchronized ?_
    intro A r C e vs' tys' ws' t hA hK' hlen hsr' hW' hCR' hE' hU' hFt
    have hA0 := zy_le_tr hAs hA
    have hZA := zy_le_tr hZ0 hA0
    obtain ⟨po, o1, o2, o3⟩ := zy_Ke_s hZ1 hZ2 hZr hF hZA hE' (zy_CR_le hA0 c3) hCR' hU' hW'.2.2.2 (fun j hj => by
      obtain ⟨v, v1, v2⟩ := hr0 j hj
      exact ⟨v, v1, zy_r_le hA0 v2⟩) hsr' _ hK'
    refine ⟨⟨vs', tys', ws', po, rfl, hlen, o1, o2, o3, ⟨hW'.1, hW'.2.1, hW'.2.2.1, zy_HR_ge hZA hf100 hW'.2.2.2⟩, ?_⟩, hFt⟩
    rw [← zy_gl_le hZA]
    exact hU'
  have hcut : ∀ (N : Nat), ∀ cu ∈ h.2.2.1, ∀ (ls : Array Slot) (H : Heap) (locs : List Loc) (tys' : List (ClassId × FieldType)) (ws' : va_W), zy_Wd D N0 T A0 s H tys' ws' → va_S (zx_A N0) s.heap H locs → lv_has ls y.1.2.2.1 [] → (∀ z ∈ cu.2.1, ∃ v, ls[z.1]? = some (.val v) ∧ zy_r A0 z.2 v) → zy_CR A0 ws' cu.2.2.1 → zy_ev A0 cu.2.2.2.1 → zy_UN (zy_gl A0) q.1.2.2.1 ws ws' → zy_en 24 (zy_mu (zy_lo1 ls) Z ws' cu.2.2.2.2) < N → W p l en (headSpec (zx_mc y :: zx_G) (zx_rm d y)).room s m av.toArray below meth c H locs 0 0 (MQ below (zy_Qp D N0 T Z q av ws) av.toArray s 0 0 (zx_A N0)) (F0 m cu.1 ls []) := by
    intro N
    induction N with
    | zero => intro cu _ ls H locs tys' ws' _ _ _ _ _ _ _ hlt; omega
    | succ N ih =>
      intro cu hcu ls H locs tys' ws' hW' hS' hl' hty hCR' hE' hU' hlt
      have hk3 := k2 cu hcu
      obtain ⟨Bs, row1, es1, r1, r2, r3, hk3⟩ := zy_vr_s (ls := ls) cu.2.1 hE' hty (fun j hj => by
        exfalso
        apply hj
        show ((0 : Nat) >>> (0 + 72 * j)) % 4722366482869645213696 % 16 = 0
        rw [Nat.zero_shiftRight]) hk3
      obtain ⟨As, C1, es2, r4, r5, r6, hk3⟩ := zy_vc_s cu.2.2.1 r2 (zy_CR_le r1 hCR') (fun z hz => by cases hz) hk3
      obtain ⟨bl, hbl, hk3⟩ := zx_bk_s _ hk3
      have hAs := zy_le_tr r1 r4
      have hZs := zy_le_tr hZ0 hAs
      have hL1 := zy_LR_le r4 r3
      refine zy_run_s (ws0 := ws) (hC As hZs) (hRt As hAs) h8 (zy_cf_s hF0 c2 hAs ?_) h.1 (fun n _ => hCa As hZs n) As bl.2 cu.1 row1 [] C1 es2 (zy_le_rf As) (zx_tw_in hym bl hbl) hk3 ls [] H locs ⟨tys', ws', zy_up_all hAs (zy_f100 c2) hW', hS', hl', hL1, trivial, r6, r5, by rw [zy_gl_le hAs]; exact hU'⟩
      intro cu2 hcu2 A row C e ls2 H2 locs2 tys2 ws2 hA hW2 hS2 hl2 hL2 hCR2 hE2 hU2 hty2 hCt2 hEt2 hmz
      refine ih cu2 hcu2 ls2 H2 locs2 tys2 ws2 hW2 hS2 hl2 hty2 hCt2 hEt2 hU2 ?_
      have hlx := zy_mz_s (loc0 := zy_lo1 ls) (loc := zy_lo1 ls2) hE2 (zy_le_tr hZs hA) hZr (zy_CR_le hA r6) hCR2 (zy_lo1_s (zy_LR_le hA hL1)) (zy_lo1_s hL2) _ _ hmz
      have hlen : (zy_mu (zy_lo1 ls) Z ws' cu.2.2.2.2).length ≤ 24 := by
        unfold zy_mu
        rw [List.length_map]
        exact zx_ble_t (List.all_eq_true.mp hms cu hcu)
      have := zy_lx_en 24 _ _ hlen hlx
      omega
  have hle : (lg_sl av).length ≤ y.1.2.2.1 := by rw [(zy_wd_s hsr).1]; exact hwd
  have hl := lv_entry av hle
  rw [lg_entry_eq]
  obtain ⟨bl, hbl, k1⟩ := zx_bk_s _ k1
  refine zy_run_s (ws0 := ws) (hC A0 hZ0) (hRt A0 (zy_le_rf A0)) h8 (zy_cf_s hF0 c2 (zy_le_rf A0) ?_) h.1 (fun n _ => hCa A0 hZ0 n) A0 bl.2 0 (zx_rw vs) [] C0 e0 (zy_le_rf A0) (zx_tw_in hym bl hbl) k1 _ [] _ _ ⟨tys, ws, zy_up_all hZ0 hf100 ⟨hK, hP, hD, hH⟩, va_S.rf, zx_lv_none hl, fun j hj => ?_, trivial, c3, c2, zy_UN_rf⟩
  · intro cu2 hcu2 A row C e ls2 H2 locs2 tys2 ws2 hA hW2 hS2 hl2 hL2 hCR2 hE2 hU2 hty2 hCt2 hEt2 hmz
    exact hcut _ cu2 hcu2 ls2 H2 locs2 tys2 ws2 hW2 hS2 hl2 hty2 hCt2 hEt2 hU2 (Nat.lt_succ_self _)
  · obtain ⟨v, g1, -, g2⟩ := zy_rw_s 0 hsr0 j hj
    rw [Nat.zero_add] at g1
    exact ⟨v, hl.2.2 (j, v) g1, g2⟩
end ZYF
