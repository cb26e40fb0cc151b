/-! one step of the walker, by the instruction (printed by program) -/
section ZW
variable {p : Program} {l : Launch} {en : Env} {R : Room} {s : State} {m : MethodId} {args : Array Value} {below : List Frame} {meth : Method} {c : Code} {Q : State → Prop} {D : va_G} {N0 : Nat} {ex : Nat → Nat} {nu : Nat → Int32} {ad0 : List Nat} {M : zx_M} {d : Nat} {K : zx_K} {nx : zx_N} {call : zx_M → zx_K → zx_N} {cur cur0 : List zx_E} {pc row : Nat} {st : List Nat} {h : zx_H} {e hn ce sl : Nat} {ls : Array Slot} {vs : List Value} {H : Heap} {locs : List Loc}
theorem zx_on3 : zx_on1 3 = "LaneDoors$Lexer" := by decide +kernel
theorem zs_gets {q : zx_Q} {i a : Nat} (hC : zx_Cx p R s m args meth c M d N0 ex nu) (hq : q ∈ zx_FL) (ho : q.1 = M.2.1.1) (hi : q.2.1 = i) (hx : (q.2.2.1 = 200 ∧ a = 20) ∨ (q.2.2.1 = 201 ∧ a = 8)) (hd : decode M.1.2.1 pc = .ok (.getstatic i, 3)) (hN : zx_Nx p l en R s m args below meth c Q D N0 ex nu ad0 M nx) (hv : ∀ q ∈ cur, zx_ve M q) (hR : zx_Rl D N0 ex nu ad0 M s row st h e hn ls vs H locs) (hk : zh_psh nx a (pc + 3) cur row st h e hn ce sl = true) : W p l en R s m args below meth c H locs ce sl Q (F0 m pc ls vs) := by
  obtain ⟨hx0, hb, hml, hown, hts, -, hN0, hX, -⟩ := hC
  have hlink := hts _ (zx_inF hq)
  unfold zx_fw at hlink
  rw [ho, hi] at hlink
  have hS : va_S (zx_A N0) s.heap H locs := by
    obtain ⟨_, _, _, h1, _⟩ := hR
    exact h1
  rcases hx with ⟨hx, rfl⟩ | ⟨hx, rfl⟩ <;> rw [hx] at hlink
  · exact va_gets (own := zx_on1 M.2.1.1) (ref := "java/lang/String") hx0 hb hX.2.2.2.2.1 hS hown hlink (fun _ z => z) hd (zs_psh hN hv hR hk (fun ads => zx_r_c (n := 1) (by decide)))
  · rcases hX.2.2.2.2.2.1 with hz | ⟨t, hz⟩
    · exact va_gets (own := zx_on1 M.2.1.1) (ref := "jdk/internal/util/Preconditions") hx0 hb hz hS hown hlink (fun _ z => z) hd (zs_psh hN hv hR hk (fun ads => (zx_r8 (by decide)).mpr ⟨by decide, Or.inl rfl⟩))
    · exact va_gets (own := zx_on1 M.2.1.1) (ref := "jdk/internal/util/Preconditions") hx0 hb hz hS hown hlink (fun _ z => z) hd (zs_psh hN hv hR hk (fun ads => (zx_r8 (by decide)).mpr ⟨by decide, Or.inr ⟨t, rfl⟩⟩))
theorem zx_cc_lt (c : ClassFile.Cond) : zx_cc c < 6 := by cases c <;> decide
theorem zs_icmpI {cd : ClassFile.Cond} {off : Int} {a : Nat} (hC : zx_Cx p R s m args meth c M d N0 ex nu) (hd : decode M.1.2.1 pc = .ok (.if_icmp cd off, 3)) (ht : (pc : Int) + off = (a : Int)) (hN : zx_Nx p l en R s m args below meth c Q D N0 ex nu ad0 M nx) (hv : ∀ q ∈ cur, zx_ve M q) (hR : zx_Rl D N0 ex nu ad0 M s row st h e hn ls vs H locs) (hk : zh_icmp M nx a (zx_cc cd) (pc + 3) cur row st h e hn ce sl = true) : W p l en R s m args below meth c H locs ce sl Q (F0 m pc ls vs) := by
  obtain ⟨hx0, hb, -, -, -, -, -, -, -, hw⟩ := hC
  obtain ⟨x, y, r, rfl, kt, kf⟩ := zs_icmp (zx_cc_lt cd) hw hN hv hR hk
  cases cd with
  | lt => exact lv_icmp_lt hx0 hb hd ht kt kf
  | ge => exact lv_icmp_ge hx0 hb hd ht (fun z => kt (zx_nle.mpr z)) (fun z => kf (fun w => z (zx_nle.mp w)))
  | gt => exact lv_icmp_gt hx0 hb hd ht kt kf
  | le => exact lv_icmp_le hx0 hb hd ht (fun z => kt (zx_nle.mpr z)) (fun z => kf (fun w => z (zx_nle.mp w)))
  | eq => exact lv_icmp_eq hx0 hb hd ht kt kf
  | ne => exact lv_icmp_ne hx0 hb hd ht kt (fun z => kf (fun w => w z))
theorem zs_ifI {cd : ClassFile.Cond} {off : Int} {a : Nat} (hC : zx_Cx p R s m args meth c M d N0 ex nu) (hd : decode M.1.2.1 pc = .ok (.ifCond cd off, 3)) (ht : (pc : Int) + off = (a : Int)) (hN : zx_Nx p l en R s m args below meth c Q D N0 ex nu ad0 M nx) (hv : ∀ q ∈ cur, zx_ve M q) (hR : zx_Rl D N0 ex nu ad0 M s row st h e hn ls vs H locs) (hk : zh_if M nx a (zx_cc cd) (pc + 3) cur row st h e hn ce sl = true) : W p l en R s m args below meth c H locs ce sl Q (F0 m pc ls vs) := by
  obtain ⟨hx0, hb, -, -, -, -, -, -, -, hw⟩ := hC
  obtain ⟨x, r, rfl, kt, kf⟩ := zs_if (zx_cc_lt cd) hw hN hv hR hk
  cases cd with
  | lt => exact lv_if_lt hx0 hb hd ht kt kf
  | ge => exact lv_if_ge hx0 hb hd ht (fun z => kt (zx_nle.mpr z)) (fun z => kf (fun w => z (zx_nle.mp w)))
  | gt => exact lv_if_gt hx0 hb hd ht kt kf
  | le => exact lv_if_le hx0 hb hd ht (fun z => kt (zx_nle.mpr z)) (fun z => kf (fun w => z (zx_nle.mp w)))
  | eq => exact lv_if_eq hx0 hb hd ht kt kf
  | ne => exact lv_if_ne hx0 hb hd ht kt (fun z => kf (fun w => w z))
theorem zx_tg1_s {off : Int} {op b op' a b' : Nat} (h : zx_tg1 pc off op b = some (op', a, b')) : (pc : Int) + off = (a : Int) ∧ op = op' ∧ b = b' := by
  unfold zx_tg1 at h
  split at h
  · rename_i h0
    have h := Option.some.inj h
    injection h with h1 h2
    injection h2 with h2 h3
    exact ⟨by rw [← h2]; exact (Int.toNat_of_nonneg h0).symm, h1, h3⟩
  · cases h
set_option maxHeartbeats 4000000 in
set_option maxRecDepth 10000 in
theorem zx_op_s {op a b np len : Nat} {ins : Instr} (hC : zx_Cx p R s m args meth c M d N0 ex nu) (hCa : zx_Ca l D N0 ex nu d call) (hRt : zx_Rt p l en R s m args below meth c Q D N0 ex nu ad0 M K) (hrk : zx_rk M.1.2.2.2 = M.2.1.2.2.2.2.2) (hN : zx_Nx p l en R s m args below meth c Q D N0 ex nu ad0 M nx) (hd : decode M.1.2.1 pc = .ok (ins, len)) (hnp : np = pc + len) (hcd : zx_cd M pc ins len = some (op, a, b)) (hre : zx_re1 M (pc, op, a, b, np) = true) (hv0 : ∀ q ∈ cur0, zx_ve M q) (hv : ∀ q ∈ cur, zx_ve M q) (hR : zx_Rl D N0 ex nu ad0 M s row st h e hn ls vs H locs) (hk : zx_op M K call nx op a b np cur0 cur pc row st h e hn ce sl = true) :
    W p l en R s m args below meth c H locs ce sl Q (F0 m pc ls vs) := by
  have hx0 := hC.1
  have hb := hC.2.1
  have hown := hC.2.2.2.1
  have hts := hC.2.2.2.2.1
  have hw : zx_tw M := hC.2.2.2.2.2.2.2.2.2
  subst hnp
  cases ins
  all_goals first | (exact absurd (show (none : Option (Nat × Nat × Nat)) = some (op, a, b) from hcd) (fun z => by cases z)) | skip
  case iload_n k =>
    obtain ⟨hl, he⟩ := zx_le1_s hcd
    have hl := zx_beq_t hl
    subst hl
    cases he
    obtain ⟨x, g1, g2, g3⟩ := zs_ld (Or.inl rfl) hN hv hR (show zh_ld nx _ 146 (pc + 1) cur row st h e hn ce sl = true from hk)
    obtain ⟨y, rfl⟩ := g2.1 rfl
    exact lv_iload_n hx0 hb hd rfl g1 g3
  case iload i =>
    obtain ⟨hl, he⟩ := zx_le1_s hcd
    have hl := zx_beq_t hl
    subst hl
    cases he
    obtain ⟨x, g1, g2, g3⟩ := zs_ld (Or.inl rfl) hN hv hR (show zh_ld nx _ 146 (pc + 2) cur row st h e hn ce sl = true from hk)
    obtain ⟨y, rfl⟩ := g2.1 rfl
    exact lv_iload hx0 hb hd g1 g3
  case aload_n k =>
    obtain ⟨hl, he⟩ := zx_le1_s hcd
    have hl := zx_beq_t hl
    subst hl
    cases he
    obtain ⟨x, g1, g2, g3⟩ := zs_ld (Or.inr (Or.inl rfl)) hN hv hR (show zh_ld nx _ 332 (pc + 1) cur row st h e hn ce sl = true from hk)
    rcases g2.2.1 rfl with rfl | ⟨y, rfl⟩
    · exact lv_aload_nN hx0 hb hd rfl g1 g3
    · exact lv_aload_n hx0 hb hd rfl g1 g3
  case aload i =>
    obtain ⟨hl, he⟩ := zx_le1_s hcd
    have hl := zx_beq_t hl
    subst hl
    cases he
    obtain ⟨x, g1, g2, g3⟩ := zs_ld (Or.inr (Or.inl rfl)) hN hv hR (show zh_ld nx _ 332 (pc + 2) cur row st h e hn ce sl = true from hk)
    rcases g2.2.1 rfl with rfl | ⟨y, rfl⟩
    · exact lv_aloadN hx0 hb hd g1 g3
    · exact lv_aload hx0 hb hd g1 g3
  case lload_n k =>
    obtain ⟨hl, he⟩ := zx_le1_s hcd
    have hl := zx_beq_t hl
    subst hl
    cases he
    obtain ⟨x, g1, g2, g3⟩ := zs_ld (Or.inr (Or.inr rfl)) hN hv hR (show zh_ld nx _ 32 (pc + 1) cur row st h e hn ce sl = true from hk)
    obtain ⟨y, rfl⟩ := g2.2.2 rfl
    exact lv_lload_n hx0 hb hd rfl g1 g3
  case lload i =>
    obtain ⟨hl, he⟩ := zx_le1_s hcd
    have hl := zx_beq_t hl
    subst hl
    cases he
    obtain ⟨x, g1, g2, g3⟩ := zs_ld (Or.inr (Or.inr rfl)) hN hv hR (show zh_ld nx _ 32 (pc + 2) cur row st h e hn ce sl = true from hk)
    obtain ⟨y, rfl⟩ := g2.2.2 rfl
    exact lv_lload hx0 hb hd g1 g3
  case istore_n k =>
    obtain ⟨hl, he⟩ := zx_le1_s hcd
    have hl := zx_beq_t hl
    subst hl
    cases he
    obtain ⟨g0, g1, x, r, rfl, g2, g3⟩ := zs_st1 hN hv hR (show zh_st1 M nx _ 146 (pc + 1) cur row st h e hn ce sl = true from hk)
    obtain ⟨y, rfl⟩ := g2.1 rfl
    exact lv_istore_n hx0 hb hd rfl g0 g1 rfl g3
  case istore i =>
    obtain ⟨hl, he⟩ := zx_le1_s hcd
    have hl := zx_beq_t hl
    subst hl
    cases he
    obtain ⟨g0, g1, x, r, rfl, g2, g3⟩ := zs_st1 hN hv hR (show zh_st1 M nx _ 146 (pc + 2) cur row st h e hn ce sl = true from hk)
    obtain ⟨y, rfl⟩ := g2.1 rfl
    exact lv_istore hx0 hb hd g0 g1 rfl g3
  case astore_n k =>
    obtain ⟨hl, he⟩ := zx_le1_s hcd
    have hl := zx_beq_t hl
    subst hl
    cases he
    obtain ⟨g0, g1, x, r, rfl, g2, g3⟩ := zs_st1 hN hv hR (show zh_st1 M nx _ 332 (pc + 1) cur row st h e hn ce sl = true from hk)
    rcases g2.2.1 rfl with rfl | ⟨y, rfl⟩
    · exact lv_astore_nN hx0 hb hd rfl g0 g1 rfl g3
    · exact lv_astore_n hx0 hb hd rfl g0 g1 rfl g3
  case astore i =>
    obtain ⟨hl, he⟩ := zx_le1_s hcd
    have hl := zx_beq_t hl
    subst hl
    cases he
    obtain ⟨g0, g1, x, r, rfl, g2, g3⟩ := zs_st1 hN hv hR (show zh_st1 M nx _ 332 (pc + 2) cur row st h e hn ce sl = true from hk)
    rcases g2.2.1 rfl with rfl | ⟨y, rfl⟩
    · exact lv_astoreN hx0 hb hd g0 g1 rfl g3
    · exact lv_astore hx0 hb hd g0 g1 rfl g3
  case lstore_n k =>
    obtain ⟨hl, he⟩ := zx_le1_s hcd
    have hl := zx_beq_t hl
    subst hl
    cases he
    obtain ⟨g0, g1, x, r, rfl, g3⟩ := zs_st2 hN hv hR (show zh_st2 M nx _ (pc + 1) cur row st h e hn ce sl = true from hk)
    exact lv_lstore_n hx0 hb hd rfl g0 g1 rfl g3
  case lstore i =>
    obtain ⟨hl, he⟩ := zx_le1_s hcd
    have hl := zx_beq_t hl
    subst hl
    cases he
    obtain ⟨g0, g1, x, r, rfl, g3⟩ := zs_st2 hN hv hR (show zh_st2 M nx _ (pc + 2) cur row st h e hn ce sl = true from hk)
    exact lv_lstore hx0 hb hd g0 g1 rfl g3
  case iinc i n =>
    obtain ⟨hl, he⟩ := zx_le1_s hcd
    have hl := zx_beq_t hl
    subst hl
    cases he
    obtain ⟨g0, g1, x, ⟨kk, g2⟩, g3⟩ := zs_inc (zx_m32_lt n) hN hv hR (show zh_inc M nx _ (zx_c (zx_m32 n)) (pc + 3) cur row st h e hn ce sl = true from hk)
    exact lv_iinc hx0 hb hd g0 g2 (by rw [zx_m32_of]) g1 rfl g3
  case iconst n =>
    obtain ⟨hl, he⟩ := zx_le1_s hcd
    have hl := zx_beq_t hl
    subst hl
    cases he
    exact lv_iconst hx0 hb hd (zx_m32_of n) (zs_psh hN hv hR (show zh_psh nx (zx_c (zx_m32 n)) (pc + 1) cur row st h e hn ce sl = true from hk) (fun ads => zx_r_c (zx_m32_lt n)))
  case bipush n =>
    obtain ⟨hl, he⟩ := zx_le1_s hcd
    obtain ⟨hl, h2⟩ := zx_and_b hl
    have hl := zx_beq_t hl
    subst hl
    cases he
    exact lv_bipush hx0 hb hd (zx_m8_of (of_decide_eq_true h2)) (zs_psh hN hv hR (show zh_psh nx (zx_c (zx_m32 n)) (pc + 2) cur row st h e hn ce sl = true from hk) (fun ads => zx_r_c (zx_m32_lt n)))
  case sipush n =>
    obtain ⟨hl, he⟩ := zx_le1_s hcd
    obtain ⟨hl, h2⟩ := zx_and_b hl
    have hl := zx_beq_t hl
    subst hl
    cases he
    exact lv_sipush hx0 hb hd (zx_m16_of (of_decide_eq_true h2)) (zs_psh hN hv hR (show zh_psh nx (zx_c (zx_m32 n)) (pc + 3) cur row st h e hn ce sl = true from hk) (fun ads => zx_r_c (zx_m32_lt n)))
  case ldc i =>
    simp only [zx_cd] at hcd
    split at hcd
    · rename_i q hz
      obtain ⟨hm, ho, hi⟩ := zx_lf_s hz
      obtain ⟨hl, he⟩ := zx_le1_s hcd
      obtain ⟨hl, h2⟩ := zx_and_b hl
      have hl := zx_beq_t hl
      subst hl
      cases he
      have hc := hts _ (zx_inK hm)
      unfold zx_kw at hc
      rw [ho, hi] at hc
      exact lv_ldc hx0 hb hown hc hd (zs_psh hN hv hR (show zh_psh nx (zx_c q.2.2.1) (pc + 2) cur row st h e hn ce sl = true from hk) (fun ads => zx_r_c (zx_blt_t h2)))
    · split at hcd
      · rename_i hz
        obtain ⟨hz1, rfl⟩ := hz
        obtain ⟨hl, he⟩ := zx_le1_s hcd
        have hl := zx_beq_t hl
        subst hl
        cases he
        refine va_ldcS hx0 hb hown (q := ex 1) (tx := zx_t1) ?_ hd (zs_psh hN hv hR (show zh_psh nx 22 (pc + 2) cur row st h e hn ce sl = true from hk) (fun ads => (zx_r6 (by decide)).mpr ⟨by decide, rfl⟩))
        rw [hz1, zx_on3]
        exact hC.2.2.2.2.2.2.2.1.1
      · split at hcd
        · rename_i hz
          obtain ⟨hz1, rfl⟩ := hz
          obtain ⟨hl, he⟩ := zx_le1_s hcd
          have hl := zx_beq_t hl
          subst hl
          cases he
          refine va_ldcS hx0 hb hown (q := ex 3) (tx := zx_t2) ?_ hd (zs_psh hN hv hR (show zh_psh nx 54 (pc + 2) cur row st h e hn ce sl = true from hk) (fun ads => (zx_r6 (by decide)).mpr ⟨by decide, rfl⟩))
          rw [hz1, zx_on3]
          exact hC.2.2.2.2.2.2.2.1.2.1
        · cases hcd
  case ldc_w i =>
    simp only [zx_cd] at hcd
    split at hcd
    · rename_i q hz
      obtain ⟨hm, ho, hi⟩ := zx_lf_s hz
      obtain ⟨hl, he⟩ := zx_le1_s hcd
      obtain ⟨hl, h2⟩ := zx_and_b hl
      have hl := zx_beq_t hl
      subst hl
      cases he
      have hc := hts _ (zx_inK hm)
      unfold zx_kw at hc
      rw [ho, hi] at hc
      exact lv_ldcw hx0 hb hown hc hd (zs_psh hN hv hR (show zh_psh nx (zx_c q.2.2.1) (pc + 3) cur row st h e hn ce sl = true from hk) (fun ads => zx_r_c (zx_blt_t h2)))
    · cases hcd
  case lconst n =>
    obtain ⟨hl, he⟩ := zx_le1_s hcd
    have hl := zx_beq_t hl
    subst hl
    cases he
    exact lv_lconst hx0 hb hd rfl (zs_psh hN hv hR (show zh_psh nx 5 (pc + 1) cur row st h e hn ce sl = true from hk) (fun ads => zx_r_l _))
  case ldc2_w i =>
    simp only [zx_cd] at hcd
    split at hcd
    · rename_i q hz
      obtain ⟨hm, ho, hi⟩ := zx_lf_s hz
      obtain ⟨hl, he⟩ := zx_le1_s hcd
      have hl := zx_beq_t hl
      subst hl
      cases he
      have hc := hts _ (zx_inJ hm)
      unfold zx_jw at hc
      rw [ho, hi] at hc
      exact lv_ldc2 hx0 hb hown hc hd (zs_psh hN hv hR (show zh_psh nx 5 (pc + 3) cur row st h e hn ce sl = true from hk) (fun ads => zx_r_l _))
    · cases hcd
  case iadd =>
    obtain ⟨hl, he⟩ := zx_le1_s hcd
    have hl := zx_beq_t hl
    subst hl
    cases he
    obtain ⟨x, y, r, rfl, g1, g2⟩ := zs_bin (P := fun _ _ => True) (F := fun x y => x + y) hN hv hR (show zh_bin nx (pc + 1) cur row st h e hn ce sl zx_ad = true from hk) (fun ads a b x y k ha hb hk => ⟨trivial, zx_ad_s ha hb hk⟩)
    exact lv_iadd hx0 hb hd g2
  case isub =>
    obtain ⟨hl, he⟩ := zx_le1_s hcd
    have hl := zx_beq_t hl
    subst hl
    cases he
    obtain ⟨x, y, r, rfl, g1, g2⟩ := zs_bin (P := fun _ _ => True) (F := fun x y => x - y) hN hv hR (show zh_bin nx (pc + 1) cur row st h e hn ce sl (zx_b2 zx_f1) = true from hk) (fun ads a b x y k ha hb hk => ⟨trivial, zx_b2_s (F := fun x y => x - y) (fun x y _ hy => ⟨zx_sub' x y hy, Nat.mod_lt _ (by decide)⟩) ha hb hk⟩)
    exact lv_isub hx0 hb hd g2
  case imul =>
    obtain ⟨hl, he⟩ := zx_le1_s hcd
    have hl := zx_beq_t hl
    subst hl
    cases he
    obtain ⟨x, y, r, rfl, g1, g2⟩ := zs_bin (P := fun _ _ => True) (F := fun x y => x * y) hN hv hR (show zh_bin nx (pc + 1) cur row st h e hn ce sl (zx_b2 zx_f2) = true from hk) (fun ads a b x y k ha hb hk => ⟨trivial, zx_b2_s (F := fun x y => x * y) (fun x y _ _ => ⟨by show nI x * nI y = nI ((x * y) % 4294967296); rw [pk_mul, zx_md], Nat.mod_lt _ (by decide)⟩) ha hb hk⟩)
    exact lv_imul hx0 hb hd g2
  case iand =>
    obtain ⟨hl, he⟩ := zx_le1_s hcd
    have hl := zx_beq_t hl
    subst hl
    cases he
    obtain ⟨x, y, r, rfl, g1, g2⟩ := zs_bin (P := fun _ _ => True) (F := fun x y => x &&& y) hN hv hR (show zh_bin nx (pc + 1) cur row st h e hn ce sl zx_an = true from hk) (fun ads a b x y k ha hb hk => ⟨trivial, zx_an_s ha hb hk⟩)
    exact lv_iand hx0 hb hd g2
  case ior =>
    obtain ⟨hl, he⟩ := zx_le1_s hcd
    have hl := zx_beq_t hl
    subst hl
    cases he
    obtain ⟨x, y, r, rfl, g1, g2⟩ := zs_bin (P := fun _ _ => True) (F := fun x y => x ||| y) hN hv hR (show zh_bin nx (pc + 1) cur row st h e hn ce sl (zx_b2 Nat.lor) = true from hk) (fun ads a b x y k ha hb hk => ⟨trivial, zx_b2_s (F := fun x y => x ||| y) (fun x y hx hy => ⟨zx_or' x y, Nat.or_lt_two_pow (n := 32) hx hy⟩) ha hb hk⟩)
    exact lv_ior hx0 hb hd g2
  case ixor =>
    obtain ⟨hl, he⟩ := zx_le1_s hcd
    have hl := zx_beq_t hl
    subst hl
    cases he
    obtain ⟨x, y, r, rfl, g1, g2⟩ := zs_bin (P := fun _ _ => True) (F := fun x y => x ^^^ y) hN hv hR (show zh_bin nx (pc + 1) cur row st h e hn ce sl (zx_b2 Nat.xor) = true from hk) (fun ads a b x y k ha hb hk => ⟨trivial, zx_b2_s (F := fun x y => x ^^^ y) (fun x y hx hy => ⟨zx_xor' x y, Nat.xor_lt_two_pow (n := 32) hx hy⟩) ha hb hk⟩)
    exact lv_ixor hx0 hb hd g2
  case ishl =>
    obtain ⟨hl, he⟩ := zx_le1_s hcd
    have hl := zx_beq_t hl
    subst hl
    cases he
    obtain ⟨x, y, r, rfl, g1, g2⟩ := zs_bin (P := fun _ _ => True) (F := fun x y => x <<< (y &&& 31)) hN hv hR (show zh_bin nx (pc + 1) cur row st h e hn ce sl (zx_sh zx_g6) = true from hk) (fun ads a b x y k ha hb hk => ⟨trivial, zx_sh_s (F := fun x y => x <<< (y &&& 31)) (fun x y hx hy => ⟨zx_shl' x y hx hy, Nat.mod_lt _ (by decide)⟩) ha hb hk⟩)
    exact lv_ishl hx0 hb hd g2
  case ishr =>
    obtain ⟨hl, he⟩ := zx_le1_s hcd
    have hl := zx_beq_t hl
    subst hl
    cases he
    obtain ⟨x, y, r, rfl, g1, g2⟩ := zs_bin (P := fun _ _ => True) (F := fun x y => x >>> (y &&& 31)) hN hv hR (show zh_bin nx (pc + 1) cur row st h e hn ce sl zx_sr = true from hk) (fun ads a b x y k ha hb hk => ⟨trivial, zx_sr_s ha hb hk⟩)
    exact lv_ishr hx0 hb hd g2
  case iushr =>
    obtain ⟨hl, he⟩ := zx_le1_s hcd
    have hl := zx_beq_t hl
    subst hl
    cases he
    obtain ⟨x, y, r, rfl, g1, g2⟩ := zs_bin (P := fun _ _ => True) (F := fun x y => (x.toUInt32 >>> (y.toUInt32 &&& Int32.toUInt32 31)).toInt32) hN hv hR (show zh_bin nx (pc + 1) cur row st h e hn ce sl (zx_sh zx_g8) = true from hk) (fun ads a b x y k ha hb hk => ⟨trivial, zx_sh_s (F := fun x y => (x.toUInt32 >>> (y.toUInt32 &&& Int32.toUInt32 31)).toInt32) (fun x y hx hy => ⟨zx_ushr' x y hx hy, zx_g8_lt x y hx⟩) ha hb hk⟩)
    exact lv_iushr hx0 hb hd rfl g2
  case idiv =>
    obtain ⟨hl, he⟩ := zx_le1_s hcd
    have hl := zx_beq_t hl
    subst hl
    cases he
    obtain ⟨x, y, r, rfl, g1, g2⟩ := zs_bin (P := fun _ y => ¬ y = 0) (F := fun x y => x / y) hN hv hR (show zh_bin nx (pc + 1) cur row st h e hn ce sl (zx_dv Nat.div) = true from hk) (fun ads a b x y k ha hb hk => zx_dv_s (F := fun x y => x / y) (fun x y hx h0 hy => ⟨pk_div hx h0 hy, Nat.lt_of_le_of_lt (Nat.div_le_self x y) (by omega)⟩) ha hb hk)
    exact lv_idiv hx0 hb hd g1 g2
  case irem =>
    obtain ⟨hl, he⟩ := zx_le1_s hcd
    have hl := zx_beq_t hl
    subst hl
    cases he
    obtain ⟨x, y, r, rfl, g1, g2⟩ := zs_bin (P := fun _ y => ¬ y = 0) (F := fun x y => x - x / y * y) hN hv hR (show zh_bin nx (pc + 1) cur row st h e hn ce sl (zx_dv Nat.mod) = true from hk) (fun ads a b x y k ha hb hk => zx_dv_s (F := fun x y => x - x / y * y) (fun x y hx h0 hy => ⟨pk_rem hx h0 hy, Nat.lt_of_le_of_lt (Nat.mod_le x y) (by omega)⟩) ha hb hk)
    exact lv_irem hx0 hb hd g1 g2
  case i2b =>
    obtain ⟨hl, he⟩ := zx_le1_s hcd
    have hl := zx_beq_t hl
    subst hl
    cases he
    obtain ⟨x, r, rfl, g2⟩ := zs_un (F := fun x => x.toInt8.toInt32) hN hv hR (show zh_un nx (pc + 1) cur row st h e hn ce sl zx_n8 = true from hk) (fun x hx => ⟨zx_n8' x hx, zx_n8_lt x⟩)
    exact lv_i2b hx0 hb hd rfl g2
  case i2c =>
    obtain ⟨hl, he⟩ := zx_le1_s hcd
    have hl := zx_beq_t hl
    subst hl
    cases he
    obtain ⟨x, r, rfl, g2⟩ := zs_un (F := fun x => (x.toUInt32 % 65536).toInt32) hN hv hR (show zh_un nx (pc + 1) cur row st h e hn ce sl zx_n16 = true from hk) (fun x hx => ⟨zx_n16' x hx, Nat.lt_of_lt_of_le (Nat.mod_lt x (by decide : 0 < 65536)) (by decide)⟩)
    exact lv_i2c hx0 hb hd rfl g2
  case i2l =>
    obtain ⟨hl, he⟩ := zx_le1_s hcd
    have hl := zx_beq_t hl
    subst hl
    cases he
    obtain ⟨x, r, rfl, g2⟩ := zs_i2l hN hv hR (show zh_i2l nx (pc + 1) cur row st h e hn ce sl = true from hk)
    exact lv_i2l hx0 hb hd rfl (g2 _)
  case ladd =>
    obtain ⟨hl, he⟩ := zx_le1_s hcd
    have hl := zx_beq_t hl
    subst hl
    cases he
    obtain ⟨x, y, r, rfl, g2⟩ := zs_lbin hN hv hR (show zh_lbin nx (pc + 1) cur row st h e hn ce sl = true from hk)
    exact lv_ladd hx0 hb hd (g2 _)
  case lsub =>
    obtain ⟨hl, he⟩ := zx_le1_s hcd
    have hl := zx_beq_t hl
    subst hl
    cases he
    obtain ⟨x, y, r, rfl, g2⟩ := zs_lbin hN hv hR (show zh_lbin nx (pc + 1) cur row st h e hn ce sl = true from hk)
    exact lv_lsub hx0 hb hd (g2 _)
  case lmul =>
    obtain ⟨hl, he⟩ := zx_le1_s hcd
    have hl := zx_beq_t hl
    subst hl
    cases he
    obtain ⟨x, y, r, rfl, g2⟩ := zs_lbin hN hv hR (show zh_lbin nx (pc + 1) cur row st h e hn ce sl = true from hk)
    exact lv_lmul hx0 hb hd (g2 _)
  case dup =>
    obtain ⟨hl, he⟩ := zx_le1_s hcd
    have hl := zx_beq_t hl
    subst hl
    cases he
    obtain ⟨x, r, rfl, g1, g2⟩ := zs_dup hN hv hR (show zh_dup nx (pc + 1) cur row st h e hn ce sl = true from hk)
    exact lv_dup hx0 hb hd g1 g2
  case pop =>
    obtain ⟨hl, he⟩ := zx_le1_s hcd
    have hl := zx_beq_t hl
    subst hl
    cases he
    obtain ⟨x, r, rfl, g1, g2⟩ := zs_pop hN hv hR (show zh_pop nx (pc + 1) cur row st h e hn ce sl = true from hk)
    exact lv_pop hx0 hb hd g1 g2
  case dup2 =>
    obtain ⟨hl, he⟩ := zx_le1_s hcd
    have hl := zx_beq_t hl
    subst hl
    cases he
    obtain ⟨x, y, r, rfl, g0, g1, g2⟩ := zs_dup2 hN hv hR (show zh_dup2 nx (pc + 1) cur row st h e hn ce sl = true from hk)
    exact lv_dup2_11 hx0 hb hd g1 g0 g2
  case goto off =>
    simp only [zx_cd] at hcd
    split at hcd
    · rename_i hl
      subst hl
      obtain ⟨ht, rfl, rfl⟩ := zx_tg1_s hcd
      exact lv_goto hx0 hb hd ht (zs_jp hw hN hR (show zx_jp M nx a row st h e hn ce sl = true from hk))
    · cases hcd
  case if_icmp cd off =>
    simp only [zx_cd] at hcd
    split at hcd
    · rename_i hl
      subst hl
      obtain ⟨ht, rfl, rfl⟩ := zx_tg1_s hcd
      exact zs_icmpI hC hd ht hN hv hR (show zh_icmp M nx a (zx_cc cd) (pc + 3) cur row st h e hn ce sl = true from hk)
    · cases hcd
  case ifCond cd off =>
    simp only [zx_cd] at hcd
    split at hcd
    · rename_i hl
      subst hl
      obtain ⟨ht, rfl, rfl⟩ := zx_tg1_s hcd
      exact zs_ifI hC hd ht hN hv hR (show zh_if M nx a (zx_cc cd) (pc + 3) cur row st h e hn ce sl = true from hk)
    · cases hcd
  case tableswitch dflt lo hi offs =>
    simp only [zx_cd] at hcd
    split at hcd
    · rename_i hhi
      have hsx : zx_sx pc dflt (zx_tps lo offs.toList) = some (26, a, 0) := by
        have hcd2 := hcd
        unfold zx_sx at hcd2
        split at hcd2
        · rw [Option.map_eq_some_iff] at hcd2
          obtain ⟨i, hi, he⟩ := hcd2
          cases he
          exact hcd
        · cases hcd2
      have hob : op = 26 := by
        rw [hsx] at hcd
        cases hcd
        rfl
      subst hob
      obtain ⟨x, r, t, rfl, g1, g2⟩ := zs_sw hsx hw hN hR (show zh_sw M nx a row st h e hn ce sl = true from hk)
      obtain ⟨o1, o2⟩ := zx_tps_off dflt offs.toList lo x.toInt (fun _ _ => Or.inr trivial)
      rw [Array.length_toList] at o1 o2
      by_cases hr : x.toInt < lo ∨ hi < x.toInt
      · rw [o1 (by omega)] at g1
        exact lv_tableOut hx0 hb hd hr g1 g2
      · have o3 := o2 (by omega) (by omega)
        rw [Array.getElem?_toList] at o3
        exact lv_tableIn hx0 hb hd (by omega) (by omega) o3 g1 g2
    · cases hcd
  case lookupswitch dflt ps =>
    simp only [zx_cd] at hcd
    split at hcd
    · rename_i hso
      have hsx : zx_sx pc dflt (ps.toList) = some (26, a, 0) := by
        have hcd2 := hcd
        unfold zx_sx at hcd2
        split at hcd2
        · rw [Option.map_eq_some_iff] at hcd2
          obtain ⟨i, hi, he⟩ := hcd2
          cases he
          exact hcd
        · cases hcd2
      have hob : op = 26 := by
        rw [hsx] at hcd
        cases hcd
        rfl
      subst hob
      obtain ⟨x, r, t, rfl, g1, g2⟩ := zs_sw hsx hw hN hR (show zh_sw M nx a row st h e hn ce sl = true from hk)
      exact lv_lookup hx0 hb hd hso rfl g1 g2
    · cases hcd
  case getfield i =>
    simp only [zx_cd] at hcd
    split at hcd
    · rename_i q hz
      obtain ⟨hm, ho, hi⟩ := zx_lf_s hz
      split at hcd
      · rename_i hl
        subst hl
        split at hcd
        · rename_i hx
          obtain ⟨h2, he⟩ := zx_le1_s hcd
          cases he
          exact zs_get hC hm ho hi hx (of_decide_eq_true h2) hd hN hv hR (show zh_get nx (7 + 16 * q.2.2.1) q.2.2.2.1 (pc + 3) cur row st h e hn ce sl = true from hk)
        · split at hcd
          · rename_i hx
            cases hcd
            exact zs_str hC hm ho hi (a := 0) hx (by decide) hd hN hv hR (show zh_str nx 0 (pc + 3) cur row st h e hn ce sl = true from hk)
          · split at hcd
            · rename_i hx
              cases hcd
              exact zs_str hC hm ho hi (a := 1) hx (by decide) hd hN hv hR (show zh_str nx 1 (pc + 3) cur row st h e hn ce sl = true from hk)
            · cases hcd
      · cases hcd
    · cases hcd
  case putfield i =>
    simp only [zx_cd] at hcd
    split at hcd
    · rename_i q hz
      obtain ⟨hm, ho, hi⟩ := zx_lf_s hz
      split at hcd
      · rename_i hl
        obtain ⟨hl, hx, hy, hf⟩ := hl
        subst hl
        cases hcd
        exact zs_put hC hm ho hi hx hy hf hd hN hv hR (show zh_put nx (7 + 16 * q.2.2.1 + 1048576 * zx_fm ((zx_ci q.2.2.1).2.1 q.2.2.2.1).2.2.1) q.2.2.2.1 (pc + 3) cur row st h e hn ce sl = true from hk)
      · cases hcd
    · cases hcd
  case getstatic i =>
    simp only [zx_cd] at hcd
    split at hcd
    · rename_i q hz
      obtain ⟨hm, ho, hi⟩ := zx_lf_s hz
      split at hcd
      · rename_i hl
        subst hl
        split at hcd
        · rename_i hx
          cases hcd
          exact zs_gets hC hm ho hi (Or.inl ⟨hx, rfl⟩) hd hN hv hR (show zh_psh nx 20 (pc + 3) cur row st h e hn ce sl = true from hk)
        · split at hcd
          · rename_i hx
            cases hcd
            exact zs_gets hC hm ho hi (Or.inr ⟨hx, rfl⟩) hd hN hv hR (show zh_psh nx 8 (pc + 3) cur row st h e hn ce sl = true from hk)
          · cases hcd
      · cases hcd
    · cases hcd
  case new i =>
    simp only [zx_cd] at hcd
    split at hcd
    · rename_i q hz
      obtain ⟨hm, ho, hi⟩ := zx_lf_s hz
      obtain ⟨hl, he⟩ := zx_le1_s hcd
      obtain ⟨hl, h2⟩ := zx_and_b hl
      have hl := zx_beq_t hl
      subst hl
      cases he
      exact zs_new hC hm ho hi (zx_blt_t h2) hd hN hv hR (show zh_new M nx (zx_nc.getD q.2.2.1 0) (zx_ci q.2.2.1).2.2 (pc + 3) cur row st h e hn ce sl = true from hk)
    · cases hcd
  case newarray t =>
    simp only [zx_cd] at hcd
    split at hcd
    · rename_i hl
      subst hl
      split at hcd
      · cases hcd
        exact zs_arr (Or.inl ⟨rfl, rfl⟩) hC hd hN hv hR (show zh_arr M nx 0 (pc + 2) cur row st h e hn ce sl = true from hk)
      · cases hcd
        exact zs_arr (Or.inr (Or.inl ⟨rfl, rfl⟩)) hC hd hN hv hR (show zh_arr M nx 1 (pc + 2) cur row st h e hn ce sl = true from hk)
      · cases hcd
        exact zs_arr (Or.inr (Or.inr (Or.inl ⟨rfl, rfl⟩))) hC hd hN hv hR (show zh_arr M nx 2 (pc + 2) cur row st h e hn ce sl = true from hk)
      · cases hcd
        exact zs_arr (Or.inr (Or.inr (Or.inr ⟨rfl, rfl⟩))) hC hd hN hv hR (show zh_arr M nx 6 (pc + 2) cur row st h e hn ce sl = true from hk)
      · cases hcd
    · cases hcd
  case anewarray i =>
    simp only [zx_cd] at hcd
    split at hcd
    · rename_i q hz
      obtain ⟨hm, ho, hi⟩ := zx_lf_s hz
      obtain ⟨hl, he⟩ := zx_le1_s hcd
      obtain ⟨hl, h2⟩ := zx_and_b hl
      have hl := zx_beq_t hl
      subst hl
      cases he
      exact zs_anew hC hm ho hi (zx_beq_t h2) hd hN hv hR (show zh_arr M nx 8 (pc + 3) cur row st h e hn ce sl = true from hk)
    · cases hcd
  case arraylength =>
    obtain ⟨hl, he⟩ := zx_le1_s hcd
    have hl := zx_beq_t hl
    subst hl
    cases he
    exact zs_len hC hd hN hv hR (show zh_len nx (pc + 1) cur row st h e hn ce sl = true from hk)
  case iaload =>
    obtain ⟨hl, he⟩ := zx_le1_s hcd
    have hl := zx_beq_t hl
    subst hl
    cases he
    exact zs_ald (Or.inl ⟨rfl, rfl⟩) hC hd hN hv0 hv hR (show zh_ald nx 9 (pc + 1) cur0 cur pc row st h e hn ce sl = true from hk)
  case baload =>
    obtain ⟨hl, he⟩ := zx_le1_s hcd
    have hl := zx_beq_t hl
    subst hl
    cases he
    exact zs_ald (Or.inr ⟨rfl, rfl⟩) hC hd hN hv0 hv hR (show zh_ald nx 54 (pc + 1) cur0 cur pc row st h e hn ce sl = true from hk)
  case iastore =>
    obtain ⟨hl, he⟩ := zx_le1_s hcd
    have hl := zx_beq_t hl
    subst hl
    cases he
    exact zs_ast (Or.inl ⟨rfl, rfl⟩) hC hd hN hv hR (show zh_ast nx 9 (pc + 1) cur row st h e hn ce sl = true from hk)
  case bastore =>
    obtain ⟨hl, he⟩ := zx_le1_s hcd
    have hl := zx_beq_t hl
    subst hl
    cases he
    exact zs_ast (Or.inr ⟨rfl, rfl⟩) hC hd hN hv hR (show zh_ast nx 54 (pc + 1) cur row st h e hn ce sl = true from hk)
  case laload =>
    obtain ⟨hl, he⟩ := zx_le1_s hcd
    have hl := zx_beq_t hl
    subst hl
    cases he
    exact zs_lald hC hd hN hv hR (show zh_lald nx (pc + 1) cur row st h e hn ce sl = true from hk)
  case lastore =>
    obtain ⟨hl, he⟩ := zx_le1_s hcd
    have hl := zx_beq_t hl
    subst hl
    cases he
    exact zs_last hC hd hN hv hR (show zh_last nx (pc + 1) cur row st h e hn ce sl = true from hk)
  case aaload =>
    obtain ⟨hl, he⟩ := zx_le1_s hcd
    have hl := zx_beq_t hl
    subst hl
    cases he
    exact zs_rald hC hd hN hv0 hv hR (show zh_rald nx (pc + 1) cur0 cur pc row st h e hn ce sl = true from hk)
  case aastore =>
    obtain ⟨hl, he⟩ := zx_le1_s hcd
    have hl := zx_beq_t hl
    subst hl
    cases he
    exact zs_rast hC hd hN hv hR (show zh_rast nx (pc + 1) cur row st h e hn ce sl = true from hk)
  case invokevirtual i =>
    simp only [zx_cd] at hcd
    split at hcd
    · rename_i q hz
      obtain ⟨hm, ho, hi⟩ := zx_lf_s hz
      split at hcd
      · rename_i y hy
        split at hcd
        · rename_i hl
          obtain ⟨hl, h0, h9⟩ := hl
          subst hl
          cases hcd
          exact zs_invV hm ho hi rfl h9 hy h0 hd hCa hC hN hv hR (show zh_inv M call nx q.2.2.1 (pc + 3) cur row st h e hn ce sl = true from hk)
        · cases hcd
      · cases hcd
    · cases hcd
  case invokestatic i =>
    simp only [zx_cd] at hcd
    split at hcd
    · rename_i q hz
      obtain ⟨hm, ho, hi⟩ := zx_lf_s hz
      split at hcd
      · rename_i hx
        obtain ⟨hl, he⟩ := zx_le1_s hcd
        have hl := zx_beq_t hl
        subst hl
        cases he
        exact zs_cpy hC hm ho hi hx hd hN hv hR (show zh_cpy nx (pc + 3) cur row st h e hn ce sl = true from hk)
      · split at hcd
        · rename_i y hy
          split at hcd
          · rename_i hl
            obtain ⟨hl, h0, h9⟩ := hl
            subst hl
            cases hcd
            exact zs_invS (Or.inl hm) ho hi rfl h9 hy h0 hd hCa hC hN hv hR (show zh_inv M call nx q.2.2.1 (pc + 3) cur row st h e hn ce sl = true from hk)
          · cases hcd
        · cases hcd
    · split at hcd
      · rename_i q hz
        obtain ⟨hm, ho, hi⟩ := zx_lf_s hz
        split at hcd
        · rename_i y hy
          split at hcd
          · rename_i hl
            obtain ⟨hl, h0, h9⟩ := hl
            subst hl
            cases hcd
            exact zs_invS (Or.inr hm) ho hi rfl h9 hy h0 hd hCa hC hN hv hR (show zh_inv M call nx q.2.2.1 (pc + 3) cur row st h e hn ce sl = true from hk)
          · cases hcd
        · cases hcd
      · cases hcd
  case invokespecial i =>
    simp only [zx_cd] at hcd
    split at hcd
    · rename_i q hz
      obtain ⟨hm, ho, hi⟩ := zx_lf_s hz
      split at hcd
      · rename_i hx
        obtain ⟨hl, he⟩ := zx_le1_s hcd
        have hl := zx_beq_t hl
        subst hl
        cases he
        exact zs_obj hC hm ho hi hx hd hN hv hR (show zh_obj nx (pc + 3) cur row st h e hn ce sl = true from hk)
      · split at hcd
        · rename_i y hy
          split at hcd
          · rename_i hl
            obtain ⟨hl, h0, h9⟩ := hl
            subst hl
            cases hcd
            exact zs_invI (Or.inl hm) ho hi rfl h9 hy h0 hd hCa hC hN hv hR (show zh_inv M call nx q.2.2.1 (pc + 3) cur row st h e hn ce sl = true from hk)
          · cases hcd
        · cases hcd
    · split at hcd
      · rename_i q hz
        obtain ⟨hm, ho, hi⟩ := zx_lf_s hz
        split at hcd
        · rename_i y hy
          split at hcd
          · rename_i hl
            obtain ⟨hl, h0, h9⟩ := hl
            subst hl
            cases hcd
            exact zs_invI (Or.inr hm) ho hi rfl h9 hy h0 hd hCa hC hN hv hR (show zh_inv M call nx q.2.2.1 (pc + 3) cur row st h e hn ce sl = true from hk)
          · cases hcd
        · cases hcd
      · cases hcd
  case lcmp =>
    obtain ⟨hl, he⟩ := zx_le1_s hcd
    have hl := zx_beq_t hl
    subst hl
    cases he
    exact absurd (show false = true from hk) (fun z => by cases z)
  case ineg =>
    obtain ⟨hl, he⟩ := zx_le1_s hcd
    have hl := zx_beq_t hl
    subst hl
    cases he
    exact absurd (show false = true from hk) (fun z => by cases z)
  case lshl =>
    obtain ⟨hl, he⟩ := zx_le1_s hcd
    have hl := zx_beq_t hl
    subst hl
    cases he
    exact absurd (show false = true from hk) (fun z => by cases z)
  case lor =>
    obtain ⟨hl, he⟩ := zx_le1_s hcd
    have hl := zx_beq_t hl
    subst hl
    cases he
    exact absurd (show false = true from hk) (fun z => by cases z)
  case ireturn =>
    obtain ⟨hl, he⟩ := zx_le1_s hcd
    have hl := zx_beq_t hl
    subst hl
    cases he
    obtain ⟨g1, g2⟩ := zx_and_b (show (Nat.ble 1 M.2.1.2.2.2.2.2 && Nat.ble M.2.1.2.2.2.2.2 4) = true from hre)
    exact zs_ret hRt hrk (Or.inl ⟨rfl, zx_ble_t g1, zx_ble_t g2⟩) hd hR (show zh_ret M K st h e hn ce sl = true from hk)
  case lreturn =>
    obtain ⟨hl, he⟩ := zx_le1_s hcd
    have hl := zx_beq_t hl
    subst hl
    cases he
    exact zs_ret hRt hrk (Or.inr (Or.inl ⟨rfl, zx_beq_t (show Nat.beq M.2.1.2.2.2.2.2 5 = true from hre)⟩)) hd hR (show zh_ret M K st h e hn ce sl = true from hk)
  case areturn =>
    obtain ⟨hl, he⟩ := zx_le1_s hcd
    have hl := zx_beq_t hl
    subst hl
    cases he
    exact zs_ret hRt hrk (Or.inr (Or.inr ⟨rfl, zx_beq_t (show Nat.beq M.2.1.2.2.2.2.2 6 = true from hre)⟩)) hd hR (show zh_ret M K st h e hn ce sl = true from hk)
  case return_ =>
    obtain ⟨hl, he⟩ := zx_le1_s hcd
    have hl := zx_beq_t hl
    subst hl
    cases he
    exact zs_rtv hRt hrk hd hR (show zh_rtv M K st h e hn ce sl = true from hk)
theorem zx_st_s (hC : zx_Cx p R s m args meth c M d N0 ex nu) (hCa : zx_Ca l D N0 ex nu d call) (hRt : zx_Rt p l en R s m args below meth c Q D N0 ex nu ad0 M K) (hrk : zx_rk M.1.2.2.2 = M.2.1.2.2.2.2.2) (hN : zx_Nx p l en R s m args below meth c Q D N0 ex nu ad0 M nx) : zx_Nx p l en R s m args below meth c Q D N0 ex nu ad0 M (zx_st M K call nx) := by
  intro cur pc row st h e hn ce sl hv hk ls vs H locs hR
  cases cur with
  | nil =>
    have hk : zx_bk M.2.2 pc (fun cur => nx cur pc row st h e hn ce sl) = true := hk
    obtain ⟨b, hb, hk⟩ := zx_bk_s _ hk
    exact hN _ _ _ _ _ _ _ _ _ (hC.2.2.2.2.2.2.2.2.2 b hb) hk _ _ _ _ hR
  | cons q cur =>
    have hk : (bif Nat.beq q.1 pc then zx_op M K call nx q.2.1 q.2.2.1 q.2.2.2.1 q.2.2.2.2 (q :: cur) cur pc row st h e hn ce sl else false) = true := hk
    obtain ⟨hpc, hk⟩ := zx_bft hk
    have hpc := zx_beq_t hpc
    subst hpc
    obtain ⟨⟨ins, len, hd, hnp, hcd⟩, hre⟩ := hv q List.mem_cons_self
    exact zx_op_s hC hCa hRt hrk hN hd hnp hcd hre hv (fun z hz => hv z (List.mem_cons_of_mem _ hz)) hR hk
end ZW
