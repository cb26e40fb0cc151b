/-! one step of the typed walker: tests, switches -/
section ZYT
variable {p : Program} {l : Launch} {en : Env} {R : Room} {s : State} {m : MethodId} {args : Array Value} {below : List Frame} {meth : Method} {c : Code} {Q : State → Prop} {D : va_G} {N0 : Nat} {T : List Nat} {Wm : Nat} {ws0 : va_W} {A0 A : zy_V} {M : zx_M} {d : Nat} {nx : zy_N} {cur cur0 : List zx_E} {pc row : Nat} {st : List Nat} {C : zy_C} {e : Nat} {ls : Array Slot} {vs : List Value} {H : Heap} {locs : List Loc}
theorem zz_if {a b np : Nat} (hb : b < 6) (hN : zy_Nx p l en R s m args below meth c Q D N0 T Wm ws0 A0 M nx) (hA : zy_le A0 A) (hv : ∀ q ∈ cur, zx_ve M q) (hR : zy_Rl D N0 T Wm ws0 A M s row st C e ls vs H locs) (hk : zyh_if M nx a b np cur row st C e = true) :
    ∃ x r, vs = .int x :: r ∧ (zx_cv b x 0 → W p l en R s m args below meth c H locs 0 0 Q (F0 m a ls r)) ∧ (¬ zx_cv b x 0 → W p l en R s m args below meth c H locs 0 0 Q (F0 m np ls r)) := by
  unfold zyh_if at hk
  obtain ⟨x0, st, rfl, hk⟩ := zx_p1_s hk
  obtain ⟨tys, ws, hW, hS, hl, hL, hT, hCR, hE, hU⟩ := hR
  obtain ⟨x, r, rfl, h2, h3⟩ := zy_SR1 hT
  rcases zx_bif hk with ⟨q, hk⟩ | ⟨-, hk⟩
  · obtain ⟨q1, q2⟩ := zx_and_b q
    have q1 : x0 % 16 = 12 := zx_beq_t q1
    have q2 : 4 ≤ b := zx_ble_t q2
    obtain ⟨-, rfl, n1, n2⟩ := (zy_r12 q1).mp h2
    rcases zx_bif hk with ⟨q3, hk⟩ | ⟨q3, hk⟩
    · have q3 : b = 4 := zx_beq_t q3
      subst q3
      obtain ⟨e', hE', kt, kf⟩ := zy_lq_s hE n1 n2 hk
      refine ⟨_, r, rfl, fun z => ?_, fun z => ?_⟩
      · exact zz_jp hN hA ⟨tys, ws, hW, hS, hl, hL, h3, hCR, hE', hU⟩ (kt ((lg_cmp_eq _ _).mp z))
      · exact hN _ _ _ _ _ _ _ hA hv (kf (fun w => z ((lg_cmp_eq _ _).mpr w))) _ _ _ _ ⟨tys, ws, hW, hS, hl, hL, h3, hCR, hE', hU⟩
    · have q3 : b = 5 := by
        have := zx_beq_f q3
        omega
      subst q3
      obtain ⟨e', hE', kt, kf⟩ := zy_lq_s hE n1 n2 hk
      refine ⟨_, r, rfl, fun z => ?_, fun z => ?_⟩
      · exact zz_jp hN hA ⟨tys, ws, hW, hS, hl, hL, h3, hCR, hE', hU⟩ (kf (fun w => z ((lg_cmp_eq _ _).mpr w)))
      · refine hN _ _ _ _ _ _ _ hA hv (kt ?_) _ _ _ _ ⟨tys, ws, hW, hS, hl, hL, h3, hCR, hE', hU⟩
        by_cases w : lg_cmp (zy_lu A (x0 / 16 % 256)) (zy_lc (x0 / 16 / 256)) = 0
        · exact (lg_cmp_eq _ _).mp w
        · exact absurd w z
  · obtain ⟨q1, q2⟩ := zy_cm_i hk
    obtain ⟨x, rfl⟩ := zy_r_i q1 h2
    obtain ⟨kt, kf⟩ := zy_cm_s hE h2 zy_r_0 hk hb
    refine ⟨x, r, rfl, fun z => ?_, fun z => ?_⟩
    · obtain ⟨e', hE', kt⟩ := kt z
      exact zz_jp hN hA ⟨tys, ws, hW, hS, hl, hL, h3, hCR, hE', hU⟩ kt
    · obtain ⟨e', hE', kf⟩ := kf z
      exact hN _ _ _ _ _ _ _ hA hv kf _ _ _ _ ⟨tys, ws, hW, hS, hl, hL, h3, hCR, hE', hU⟩
/-- switches -/
theorem zy_sw_s {v : Nat} {x : Int32} {st : List Nat} (hr : zy_r A v (.int x)) (dflt : Int) : ∀ (ps : List (Int × Int)) (e : Nat), zy_ev A e → (∀ q ∈ ps, 0 ≤ (pc : Int) + q.2 ∧ -2147483648 ≤ q.1 ∧ q.1 < 2147483648) → 0 ≤ (pc : Int) + dflt → zy_sw M nx row C (zx_row pc dflt ps).2 (zx_row pc dflt ps).1 v st e = true → ∃ (t e' : Nat), (pc : Int) + Op.lookupswitch.offset ps dflt x.toInt = (t : Int) ∧ zy_ev A e' ∧ zy_jp M nx t row st C e' = true
  | [], e, he, _, hd, hk => ⟨((pc : Int) + dflt).toNat, e, (Int.toNat_of_nonneg hd).symm, he, hk⟩
  | q :: ps, e, he, hq, hd, hk => by
    have hk : zy_eq e v (zx_c (zx_m32 q.1)) (fun e => zy_jp M nx ((pc : Int) + q.2).toNat row st C e) (zy_sw M nx row C (zx_row pc dflt ps).2 (zx_row pc dflt ps).1 v st) = true := hk
    obtain ⟨kt, kf⟩ := zy_eq_s he hr (zy_r_c (zx_m32_lt q.1)) hk
    obtain ⟨q1, q2, q3⟩ := hq q List.mem_cons_self
    obtain ⟨qa, qo⟩ := q
    have hi : x = nI (zx_m32 qa) ↔ qa = x.toInt := by
      rw [← Int32.toInt_inj, zx_nI_int _ (zx_m32_lt qa)]
      unfold zx_m32
      have := zx_rg x
      simp only at q2 q3
      split <;> omega
    rw [Op.lookupswitch.offset_cons]
    by_cases hx : qa = x.toInt
    · rw [if_pos hx]
      obtain ⟨e', he', kt⟩ := kt (hi.mpr hx)
      exact ⟨_, e', (Int.toNat_of_nonneg q1).symm, he', kt⟩
    · rw [if_neg hx]
      obtain ⟨e', he', kf⟩ := kf (fun z => hx (hi.mp z))
      exact zy_sw_s hr dflt ps e' he' (fun q hq' => hq q (List.mem_cons_of_mem _ hq')) hd kf
theorem zz_sw {a : Nat} {dflt : Int} {ps : List (Int × Int)} (hsx : zx_sx pc dflt ps = some (26, a, 0)) (hN : zy_Nx p l en R s m args below meth c Q D N0 T Wm ws0 A0 M nx) (hA : zy_le A0 A) (hR : zy_Rl D N0 T Wm ws0 A M s row st C e ls vs H locs) (hk : zyh_sw M nx a row st C e = true) :
    ∃ x r t, vs = .int x :: r ∧ (pc : Int) + Op.lookupswitch.offset ps dflt x.toInt = ((t : Nat) : Int) ∧ W p l en R s m args below meth c H locs 0 0 Q (F0 m t ls r) := by
  unfold zyh_sw at hk
  obtain ⟨v, st, rfl, hk⟩ := zx_p1_s hk
  obtain ⟨q, hk⟩ := zx_bft hk
  obtain ⟨rw', h1, hk⟩ := zx_at_s _ _ hk
  unfold zx_sx at hsx
  split at hsx
  · rename_i hok
    rw [Option.map_eq_some_iff] at hsx
    obtain ⟨i, hi, he⟩ := hsx
    have he : i = a := by injection he with _ he; injection he
    subst he
    obtain ⟨hlt, hdec, -⟩ := List.findIdx?_eq_some_iff_getElem.mp hi
    rw [List.getElem?_eq_getElem hlt] at h1
    have h1 := Option.some.inj h1
    have hdec := of_decide_eq_true hdec
    rw [h1] at hdec
    subst hdec
    obtain ⟨o1, o2⟩ := zx_and_b hok
    obtain ⟨tys, ws, hW, hS, hl, hL, hT, hCR, hE, hU⟩ := hR
    obtain ⟨x, r, rfl, h2, h3⟩ := zy_SR1 hT
    obtain ⟨x, rfl⟩ := zy_r_i q h2
    obtain ⟨t, e', ht, hE', hk⟩ := zy_sw_s h2 dflt ps e hE (fun q hq => of_decide_eq_true (List.all_eq_true.mp o2 q hq)) (of_decide_eq_true o1) hk
    exact ⟨x, r, t, rfl, ht, zz_jp hN hA ⟨tys, ws, hW, hS, hl, hL, h3, hCR, hE', hU⟩ hk⟩
  · cases hsx
/-! what is remembered, and types -/
theorem zy_cg_s {key : Nat} {k : Nat → Bool} {d : Bool} : ∀ {C : zy_C}, zy_cg C key k d = true → (∃ v, (key, v) ∈ C ∧ k v = true) ∨ d = true
  | [], h => Or.inr h
  | q :: C, h => by
    have h : (bif Nat.beq q.1 key then k q.2 else zy_cg C key k d) = true := h
    rcases zx_bif h with ⟨h1, h2⟩ | ⟨-, h2⟩
    · exact Or.inl ⟨q.2, by rw [← zx_beq_t h1]; exact List.mem_cons_self, h2⟩
    · rcases zy_cg_s h2 with ⟨v, h3, h4⟩ | h3
      · exact Or.inl ⟨v, List.mem_cons_of_mem _ h3, h4⟩
      · exact Or.inr h3
theorem zy_kl_s {p : Nat → Bool} : ∀ {C : zy_C} {k : zy_C → Bool}, zy_kl p C k = true → ∃ C', k C' = true ∧ ∀ q ∈ C', q ∈ C ∧ p q.1 = false
  | [], k, h => ⟨[], h, fun _ hq => by cases hq⟩
  | q :: C, k, h => by
    have h : (bif p q.1 then zy_kl p C k else zy_kl p C (fun t => k (q :: t))) = true := h
    rcases zx_bif h with ⟨-, h2⟩ | ⟨h1, h2⟩
    · obtain ⟨C', h3, h4⟩ := zy_kl_s h2
      exact ⟨C', h3, fun z hz => ⟨List.mem_cons_of_mem _ (h4 z hz).1, (h4 z hz).2⟩⟩
    · obtain ⟨C', h3, h4⟩ := zy_kl_s h2
      refine ⟨q :: C', h3, fun z hz => ?_⟩
      rcases List.mem_cons.mp hz with rfl | hz
      · exact ⟨List.mem_cons_self, h1⟩
      · exact ⟨List.mem_cons_of_mem _ (h4 z hz).1, (h4 z hz).2⟩
theorem zy_ft_s (he : zy_ev A e) {v t : Nat} {x : Value} (ht : t < 4722366482869645213696) (hr : zy_r A v x) (h : zy_ft e v t = true) : zy_r (zy_fz A) t x := by
  unfold zy_ft at h
  rcases zx_bif h with ⟨q, h⟩ | ⟨-, h⟩
  · have q : t % 16 = 7 := zx_beq_t q
    obtain ⟨y, rfl⟩ := zy_r_i (zy_iv_i h) hr
    obtain ⟨l, u, hk, a1, a2, a3⟩ := zy_iv_s he hr h
    obtain ⟨k1, k2⟩ := zx_and_b hk
    have k1 : t / 16 / 4294967296 ≤ l := zx_ble_t k1
    have k2 : u ≤ t / 16 % 4294967296 := zx_ble_t k2
    exact (zy_r7 q).mpr ⟨ht, y, rfl, by omega, by omega⟩
  rcases zx_bif h with ⟨q, h⟩ | ⟨-, h⟩
  · have q : t % 16 = 2 := zx_beq_t q
    obtain ⟨q1, h⟩ := zx_and_b h
    obtain ⟨q2, h⟩ := zx_and_b h
    have q1 : v % 16 = 2 := zx_beq_t q1
    have q2 : v / 16 / 256 = t / 16 / 256 := zx_beq_t q2
    obtain ⟨-, i, ad, h1, h2, rfl, h4⟩ := (zy_r2 q1).mp hr
    refine (zy_r2 q).mpr ⟨ht, i, ad, h1, by rw [← q2]; exact h2, rfl, fun z => ?_⟩
    rcases (Bool.or_eq_true _ _).mp h with w | w
    · exact absurd (zx_beq_t w) z
    · obtain ⟨w1, w2⟩ := zx_and_b w
      have w1 : t / 16 % 256 = v / 16 % 256 := zx_beq_t w1
      have w2 : t / 16 % 256 < 100 := zx_blt_t w2
      refine ⟨?_, w2⟩
      show (if t / 16 % 256 < 100 then zy_ru A (t / 16 % 256) else 0) = i
      rw [if_pos w2, w1]
      exact (h4 (by rw [← w1]; exact z)).1
  rcases zx_bif h with ⟨q, h⟩ | ⟨-, h⟩
  · rw [zx_beq_t q]
    obtain ⟨y, rfl⟩ := zy_r_j (zx_beq_t h) hr
    exact zy_r_l y
  · obtain ⟨h1, h2⟩ := zx_and_b h
    rw [zx_beq_t h2] at hr
    have kk : ∀ t, t < 16 → Nat.beq (Nat.mod (Nat.shiftRight 344 t) 2) 1 = true → t = 3 ∨ t = 4 ∨ t = 6 ∨ t = 8 := by decide
    rcases kk (t % 16) (Nat.mod_lt _ (by decide)) h1 with q | q | q | q
    · exact (zy_r3 q).mpr ((zy_r3 q).mp hr)
    · exact (zy_r4 q).mpr ((zy_r4 q).mp hr)
    · obtain ⟨r1, r2⟩ := (zy_r6 q).mp hr
      exact (zy_r6 q).mpr ⟨r1, r2⟩
    · exact (zy_r8 q).mpr ((zy_r8 q).mp hr)
theorem zy_CR_cons {ws : va_W} (hCR : zy_CR A ws C) {r g f i v : Nat} {x : Value} (hf : f < 128) (hg : g < 512) (hr : r < 256) (p1 : r < zy_fr A) (p2 : (zy_gl A)[zy_ru A r]? = some g) (p3 : zy_rd ws (zy_ru A r) f i = some x) (hv : zy_r A v x) : zy_CR A ws ((zy_ky r (128 * g + f) i, v) :: C) := by
  intro z hz
  have e0 : zy_ky r (128 * g + f) i = r + (256 * (128 * g + f) + 16777216 * i) := rfl
  have e1 : zy_ky r (128 * g + f) i % 256 = r := by rw [e0]; omega
  have e2 : zy_ky r (128 * g + f) i / 256 % 65536 / 128 = g := by rw [e0]; omega
  have e3 : zy_ky r (128 * g + f) i / 256 % 128 = f := by rw [e0]; omega
  have e4 : zy_ky r (128 * g + f) i / 16777216 = i := by rw [e0]; omega
  generalize zy_ky r (128 * g + f) i = key at hz e1 e2 e3 e4
  rcases List.mem_cons.mp hz with rfl | hz
  · refine ⟨⟨?_, ?_⟩, x, ?_, hv⟩
    · show key % 256 < zy_fr A
      rw [e1]
      exact p1
    · show (zy_gl A)[zy_ru A (key % 256)]? = some (key / 256 % 65536 / 128)
      rw [e1, e2]
      exact p2
    · show zy_rd ws (zy_ru A (key % 256)) (key / 256 % 128) (key / 16777216) = some x
      rw [e1, e3, e4]
      exact p3
  · exact hCR z hz
theorem zy_gt_s (he : zy_ev A e) {ws : va_W} (hCR : zy_CR A ws C) {r g f i t : Nat} {x : Value} {k : Nat → zy_C → Nat → Bool} (hf : f < 128) (hg : g < 512) (hr : r < 256) (hp : r ≠ 0 → r < zy_fr A ∧ (zy_gl A)[zy_ru A r]? = some g ∧ zy_rd ws (zy_ru A r) f i = some x) (ht : zy_r (zy_fz A) t x) (hk : zy_gt C e r (128 * g + f) i t k = true) : ∃ (B : zy_V) (v : Nat) (C' : zy_C) (e' : Nat), zy_le A B ∧ zy_ev B e' ∧ zy_r B v x ∧ zy_CR B ws C' ∧ k v C' e' = true := by
  unfold zy_gt at hk
  rcases zx_bif hk with ⟨q, hk⟩ | ⟨q, hk⟩
  · obtain ⟨B, v, e', g1, g2, g3, hk⟩ := zy_vt_s he ht hk
    exact ⟨B, v, C, e', g1, g2, g3, zy_CR_le g1 hCR, hk⟩
  · rw [zx_fn_eq] at hk
    have q : r ≠ 0 := zx_beq_f q
    obtain ⟨p1, p2, p3⟩ := hp q
    rcases zy_cg_s hk with ⟨v, h1, hk⟩ | hk
    · have e0 : zy_ky r (128 * g + f) i = r + (256 * (128 * g + f) + 16777216 * i) := rfl
      have e1 : zy_ky r (128 * g + f) i % 256 = r := by rw [e0]; omega
      have e3 : zy_ky r (128 * g + f) i / 256 % 128 = f := by rw [e0]; omega
      have e4 : zy_ky r (128 * g + f) i / 16777216 = i := by rw [e0]; omega
      generalize zy_ky r (128 * g + f) i = key at h1 e1 e3 e4
      obtain ⟨-, y, h2, h3⟩ := hCR _ h1
      have h2 : zy_rd ws (zy_ru A (key % 256)) (key / 256 % 128) (key / 16777216) = some y := h2
      rw [e1, e3, e4, p3] at h2
      have h2 := Option.some.inj h2
      subst h2
      exact ⟨A, v, C, e, zy_le_rf A, he, h3, hCR, hk⟩
    · obtain ⟨B, v, e', g1, g2, g3, hk⟩ := zy_vt_s he ht hk
      rcases zx_bif hk with ⟨-, hk⟩ | ⟨-, hk⟩
      · exact ⟨B, v, C, e', g1, g2, g3, zy_CR_le g1 hCR, hk⟩
      · have hru := g1.2.2.2.2 r p1
        exact ⟨B, v, _, e', g1, g2, g3, zy_CR_cons (zy_CR_le g1 hCR) hf hg hr (Nat.lt_of_lt_of_le p1 g1.2.1.2.2) (by rw [hru, zy_gl_le g1]; exact p2) (by rw [hru]; exact p3) g3, hk⟩
theorem zy_al15_n {k : Nat} : ∀ n : Nat, (@Nat.rec (fun _ => Bool) true (fun d ih => Nat.beq (zx_og k (Nat.succ d)) (zx_og k 1) && ih) n) = true → ∀ j, 1 ≤ j → j ≤ n → zx_og k j = zx_og k 1
  | 0, _, j, h1, h2 => by omega
  | n + 1, h, j, h1, h2 => by
    have h : (Nat.beq (zx_og k (Nat.succ n)) (zx_og k 1) && (@Nat.rec (fun _ => Bool) true (fun d ih => Nat.beq (zx_og k (Nat.succ d)) (zx_og k 1) && ih) n)) = true := h
    obtain ⟨q1, q2⟩ := zx_and_b h
    by_cases hj : j = n + 1
    · subst hj
      exact zx_beq_t q1
    · exact zy_al15_n n q2 j h1 (by omega)
/-- a place within an array, as a number -/
theorem zy_vp {x : Int32} {n : Nat} (h : vp_in x n) : x.toNatClampNeg < n ∧ zx_bz x = x.toNatClampNeg + 2147483648 := by
  have h1 := zx_bz_int x
  rw [vp_in_iff] at h
  have h2 : (x.toNatClampNeg : Int) = x.toInt := by
    show ((x.toInt).toNat : Int) = x.toInt
    omega
  omega
theorem zy_ex1_s (he : zy_ev A e) {i k n : Nat} {x : Int32} {kk : Nat → Bool} (hi : zy_r A i (.int x)) (hin : vp_in x n) (hk : zy_ex1 e i k kk = true) : kk (zy_et k x.toNatClampNeg) = true := by
  obtain ⟨-, hb⟩ := zy_vp hin
  unfold zy_ex1 at hk
  rcases zx_bif hk with ⟨q, hk⟩ | ⟨q, hk⟩
  · have et : ∀ j, zy_et k j = zx_og k (j % 16) := by
      intro j
      unfold zy_et
      rw [q]
      rfl
    rw [et]
    rcases zx_bif hk with ⟨q1, hk⟩ | ⟨-, hk⟩
    · rw [zx_fn_eq] at hk
      obtain ⟨q1, q2⟩ := zx_and_b q1
      have q1 : i % 16 = 11 := zx_beq_t q1
      have q2 : i / 16 / 256 % 16 = 0 := zx_beq_t q2
      obtain ⟨-, h1, h2, -⟩ := (zy_r11 q1).mp hi
      injection h1 with h1
      rw [q2] at h1
      obtain ⟨mm, hm, hnu⟩ := zy_any (zy_nu A (i / 16 % 256))
      have h1 : x = nI 16 * zy_nu A (i / 16 % 256) + nI (i / 16 / 256 / 16) := h1
      rw [hnu, pk_mul, nI_add, ← zx_md] at h1
      have h3 : zx_bz x = zx_bi ((16 * mm + i / 16 / 256 / 16) % 4294967296) := by
        rw [h1]
        exact zx_bz_nI _ (Nat.mod_lt _ (by decide))
      rw [zx_bi_eq] at h3
      have h4 : i / 16 / 256 / 16 % 16 = x.toNatClampNeg % 16 := by omega
      rw [← h4]
      exact hk
    · obtain ⟨l, u, hk, a1, a2, a3⟩ := zy_iv_s he hi hk
      obtain ⟨q1, hk⟩ := zx_bft hk
      obtain ⟨q1, q2⟩ := zx_and_b q1
      obtain ⟨q2, q3⟩ := zx_and_b q2
      rw [zx_fn_eq] at hk
      have q1 := zx_blt_t q1
      have q2 := zx_blt_t q2
      rw [Nat.mod_eq_of_lt (by omega), zy_al15_n 15 q3 _ (by omega) (by omega)]
      exact hk
  · rw [zx_fn_eq] at hk
    have et : zy_et k x.toNatClampNeg = zy_c7v (zy_lo k) (zy_hi k) := by
      unfold zy_et
      rw [q]
      rfl
    rw [et]
    exact hk
theorem zy_et_lt (k j : Nat) : zy_et k j < 4722366482869645213696 := by
  unfold zy_et
  cases Nat.beq (zx_tg k) 9
  · show (zy_lo k * 4294967296 + zy_hi k) * 16 + 7 < _
    have := zy_lo_lt k
    have := zy_hi_lt k
    omega
  · exact zx_dg_lt (by decide)
theorem zy_et7 {k : Nat} (h : k % 16 ≠ 9) (j : Nat) : zy_et k j = zy_c7v (zy_lo k) (zy_hi k) := by
  unfold zy_et
  rw [show Nat.beq (zx_tg k) 9 = false from by
    cases q : Nat.beq (zx_tg k) 9
    · rfl
    · exact absurd (zx_beq_t q) h]
  rfl
theorem zy_fe_s (he : zy_ev A e) {v k j : Nat} {x : Int32} (hr : zy_r A v (.int x)) (ht : (3 ≤ k % 16 ∧ k % 16 < 6) ∨ k % 16 = 9) (h : zy_fe e v k (zy_et k j) = true) : zy_r (zy_fz A) (zy_et k j) (.int (vp_nar (zx_ty (k % 16 % 3)) x)) := by
  unfold zy_fe at h
  rcases zx_bif h with ⟨q, h⟩ | ⟨q4, h⟩
  · have q : k % 16 = 4 := zx_beq_t q
    obtain ⟨k1, k2⟩ := zx_and_b h
    have k1 := zx_ble_t k1
    have k2 := zx_ble_t k2
    rw [zy_et7 (by omega), q]
    have h3 : (x.toInt8.toInt32).toInt = x.toInt.bmod 256 := by
      rw [Int8.toInt_toInt32, Int32.toInt_toInt8]
    have h4 := zx_bz_int (x.toInt8.toInt32)
    have h5 : -128 ≤ x.toInt.bmod 256 ∧ x.toInt.bmod 256 ≤ 127 := by
      simp only [Int.bmod_def]
      constructor <;> split <;> omega
    exact zy_r_7 (x := x.toInt8.toInt32) (by omega) (by omega) (zy_hi_lt k)
  rcases zx_bif h with ⟨q, h⟩ | ⟨q5, h⟩
  · have q : k % 16 = 5 := zx_beq_t q
    obtain ⟨k1, k2⟩ := zx_and_b h
    have k1 := zx_ble_t k1
    have k2 := zx_ble_t k2
    rw [zy_et7 (by omega), q]
    obtain ⟨mm, hm, rfl⟩ := zy_any x
    have h3 : vp_nar (zx_ty (5 % 3)) (nI mm) = nI (mm % 2) := zx_nr_bool mm
    rw [h3]
    have h4 := zy_bz_n (n := mm % 2) (by omega)
    exact zy_r_7 (by omega) (by omega) (zy_hi_lt k)
  · have q4 : k % 16 ≠ 4 := zx_beq_f q4
    have q5 : k % 16 ≠ 5 := zx_beq_f q5
    have h6 := zy_ft_s he (zy_et_lt k j) hr h
    rw [show k % 16 % 3 = 0 by omega]
    exact h6
theorem zy_tags {a k : Nat} {iv ib : Instr} {ins : Instr} (ha : (a = 9 ∧ ins = iv) ∨ (a = 54 ∧ ins = ib)) (h : zx_kc (zy_ta a) (zx_tg k) = true) : ((3 ≤ k % 16 ∧ k % 16 < 6) ∨ k % 16 = 9) ∧ ((k % 16 % 3 = 0 ∧ ins = iv) ∨ ((k % 16 % 3 = 1 ∨ k % 16 % 3 = 2) ∧ ins = ib)) := by
  have e1 : Nat.mod (zx_tg k) 16 = k % 16 := by
    show k % 16 % 16 = k % 16
    omega
  have k5 : ∀ t, t < 16 → Nat.beq (Nat.mod (Nat.shiftRight 520 t) 2) 1 = true → t = 3 ∨ t = 9 := by decide
  have k4 : ∀ t, t < 16 → Nat.beq (Nat.mod (Nat.shiftRight 48 t) 2) 1 = true → t = 4 ∨ t = 5 := by decide
  unfold zx_kc at h
  rw [e1] at h
  rcases ha with ⟨rfl, rfl⟩ | ⟨rfl, rfl⟩
  · rcases k5 _ (Nat.mod_lt _ (by decide)) h with q | q
    · exact ⟨Or.inl (by omega), Or.inl ⟨by omega, rfl⟩⟩
    · exact ⟨Or.inr q, Or.inl ⟨by omega, rfl⟩⟩
  · rcases k4 _ (Nat.mod_lt _ (by decide)) h with q | q
    · exact ⟨Or.inl (by omega), Or.inr ⟨by omega, rfl⟩⟩
    · exact ⟨Or.inl (by omega), Or.inr ⟨by omega, rfl⟩⟩
theorem zy_wd_s : ∀ {f : List Nat} {v : List Value}, zy_SR A f v → (lg_sl v).length = zx_wd f ∧ (v.map fun w => w.category).sum = zx_wd f
  | [], [], _ => ⟨rfl, rfl⟩
  | a :: l, b :: m, h => by
    have hc := zy_r_cat h.1
    obtain ⟨i1, i2⟩ := zy_wd_s h.2
    refine ⟨?_, ?_⟩
    · unfold lg_sl at i1 ⊢
      rw [List.flatMap_cons, List.length_append, i1, zx_wd_cons, ← hc]
      rcases lv_cat b with q | q <;> rw [q] <;> simp
    · rw [List.map_cons, List.sum_cons, i2, zx_wd_cons, hc]
  | [], _ :: _, h => h.elim
  | _ :: _, [], h => h.elim
theorem zy_room {st : List Nat} {vs : List Value} (h : zy_SR A st vs) (hw : Nat.ble (zx_wd st) 8 = true) : (vs.map fun w => w.category).sum ≤ 8 := by rw [(zy_wd_s h).2]; exact zx_ble_t hw
end ZYT
