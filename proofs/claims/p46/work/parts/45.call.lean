/-! contracts are kept: measures, facts behind a call, calls by contract -/
/-- a value of a measure -/
def zy_tn (k : Nat) (x : Int32) : Nat := if k = 1 then 4294967295 - zx_bz x else if k = 2 then zx_bz x else zx_bi (zx_bz x)
def zy_tv (loc : Nat → Option Value) (Z : zy_V) (ws : va_W) (q : Nat × Nat) : Nat := if q.1 = 0 then q.2 % 1099511627776 else match zy_so loc Z ws q.2 with
  | some (.int x) => zy_tn q.1 x
  | _ => 0
def zy_mu (loc : Nat → Option Value) (Z : zy_V) (ws : va_W) (l : List (Nat × Nat)) : List Nat := l.map (zy_tv loc Z ws)
/-- the first that differs is less -/
def zy_lx : List Nat → List Nat → Prop
  | a :: l, b :: m => (a < b ∧ b < 1099511627776) ∨ (a = b ∧ zy_lx l m)
  | _, _ => False
def zy_en : Nat → List Nat → Nat
  | 0, _ => 0
  | _ + 1, [] => 0
  | n + 1, a :: l => (a % 1099511627776) * 1099511627776 ^ n + zy_en n l
theorem zy_en_lt : ∀ (n : Nat) (l : List Nat), zy_en n l < 1099511627776 ^ n
  | 0, _ => Nat.one_pos
  | n + 1, [] => Nat.pow_pos (by decide)
  | n + 1, a :: l => by
    have h1 := zy_en_lt n l
    have h2 : a % 1099511627776 + 1 ≤ 1099511627776 := Nat.mod_lt _ (by decide)
    show (a % 1099511627776) * 1099511627776 ^ n + zy_en n l < 1099511627776 ^ (n + 1)
    calc (a % 1099511627776) * 1099511627776 ^ n + zy_en n l < (a % 1099511627776) * 1099511627776 ^ n + 1099511627776 ^ n := by omega
      _ = (a % 1099511627776 + 1) * 1099511627776 ^ n := (Nat.succ_mul _ _).symm
      _ ≤ 1099511627776 * 1099511627776 ^ n := Nat.mul_le_mul_right _ h2
      _ = 1099511627776 ^ (n + 1) := by rw [Nat.pow_succ, Nat.mul_comm]
theorem zy_lx_en : ∀ (n : Nat) (l m : List Nat), m.length ≤ n → zy_lx l m → zy_en n l < zy_en n m
  | n, [], _, _, h => h.elim
  | n, _ :: _, [], _, h => h.elim
  | 0, _ :: _, _ :: _, hl, _ => by simp at hl
  | n + 1, a :: l, b :: m, hl, h => by
    show (a % 1099511627776) * 1099511627776 ^ n + zy_en n l < (b % 1099511627776) * 1099511627776 ^ n + zy_en n m
    rcases h with ⟨h1, h2⟩ | ⟨h1, h2⟩
    · rw [Nat.mod_eq_of_lt h2, Nat.mod_eq_of_lt (by omega)]
      have h3 := zy_en_lt n l
      calc a * 1099511627776 ^ n + zy_en n l < a * 1099511627776 ^ n + 1099511627776 ^ n := by omega
        _ = (a + 1) * 1099511627776 ^ n := (Nat.succ_mul _ _).symm
        _ ≤ b * 1099511627776 ^ n := Nat.mul_le_mul_right _ h1
        _ ≤ b * 1099511627776 ^ n + zy_en n m := Nat.le_add_right _ _
    · rw [h1]
      have := zy_lx_en n l m (by simpa using hl) h2
      omega
section ZYD
variable {A Z : zy_V} {e : Nat}
theorem zy_tn_lt (k : Nat) (x : Int32) : zy_tn k x < 1099511627776 := by
  have h1 := zx_bz_lt x
  have h2 := zx_bi_lt (zx_bz x)
  unfold zy_tn
  split
  · omega
  · split <;> omega
theorem zy_and_lt {m : Nat} (h0 : 0 < m) : m &&& (m - 1) < m := Nat.lt_of_le_of_lt Nat.and_le_right (by omega)
theorem zy_m1_s (he : zy_ev A e) {kd v0 v1 : Nat} {ih : Bool} {x0 x1 : Value} (h0 : v0 % 16 ≠ 0 → zy_r A v0 x0) (h1 : v1 % 16 ≠ 0 → zy_r A v1 x1) (h : zy_m1 kd e v0 v1 ih = true) : ∃ y0 y1 : Int32, x0 = .int y0 ∧ x1 = .int y1 ∧ (zy_tn kd y1 < zy_tn kd y0 ∨ (zy_tn kd y1 = zy_tn kd y0 ∧ ih = true)) := by
  unfold zy_m1 at h
  rcases zx_bif h with ⟨q, hih⟩ | ⟨-, h⟩
  · obtain ⟨q1, q2⟩ := zx_and_b q
    have q1 := zx_beq_t q1
    subst q1
    have kk : ∀ t, t < 16 → Nat.beq (Nat.mod (Nat.shiftRight 18 t) 2) 1 = true → t = 1 ∨ t = 4 := by decide
    rcases kk _ (Nat.mod_lt _ (by decide)) q2 with w | w <;> have w : v0 % 16 = _ := w
    · obtain ⟨-, e1, -⟩ := (zy_r1 w).mp (h0 (by omega))
      obtain ⟨-, e2, -⟩ := (zy_r1 w).mp (h1 (by omega))
      exact ⟨_, _, e1, e2, Or.inr ⟨rfl, hih⟩⟩
    · obtain ⟨-, e1, -⟩ := (zy_r4 w).mp (h0 (by omega))
      obtain ⟨-, e2, -⟩ := (zy_r4 w).mp (h1 (by omega))
      exact ⟨_, _, e1, e2, Or.inr ⟨rfl, hih⟩⟩
  rcases zx_bif h with ⟨q, h⟩ | ⟨-, h⟩
  · obtain ⟨q1, q2⟩ := zx_and_b q
    obtain ⟨q2, q3⟩ := zx_and_b q2
    obtain ⟨q3, q4⟩ := zx_and_b q3
    have q1 : v0 % 16 = 1 := zx_beq_t q1
    have q2 : v0 / 16 / 256 = 0 := zx_beq_t q2
    have q3 : v1 % 16 = 1 := zx_beq_t q3
    have q4 : v0 / 16 % 256 = v1 / 16 % 256 := zx_beq_t q4
    obtain ⟨-, e1, -, n1⟩ := (zy_r1 q1).mp (h0 (by omega))
    obtain ⟨-, e2, o2, -⟩ := (zy_r1 q3).mp (h1 (by omega))
    rw [q2] at e1
    rw [← q4] at e2
    obtain ⟨l, u, hk, a1, a2, a3⟩ := zy_ivn_s he n1 h
    have hb0 := zy_bz_off (zy_nu A (v0 / 16 % 256)) (o := 0) (by decide)
    have hb1 := zy_bz_off (zy_nu A (v0 / 16 % 256)) o2
    have hlt := zx_bz_lt (zy_nu A (v0 / 16 % 256))
    refine ⟨_, _, e1, e2, Or.inl ?_⟩
    rcases zx_bif hk with ⟨w, hk⟩ | ⟨w, hk⟩
    · rw [zx_beq_t w]
      obtain ⟨k1, k2⟩ := zx_and_b hk
      have k1 : 0 < v1 / 16 / 256 := zx_blt_t k1
      have k2 : u + v1 / 16 / 256 < 4294967296 := zx_blt_t k2
      show 4294967295 - zx_bz _ < 4294967295 - zx_bz _
      rw [hb0, hb1]
      omega
    · obtain ⟨k0, hk⟩ := zx_and_b hk
      rw [zx_beq_t k0]
      obtain ⟨k1, k2⟩ := zx_and_b hk
      have k1 : 2147483648 ≤ v1 / 16 / 256 := zx_ble_t k1
      have k2 : 4294967296 - v1 / 16 / 256 ≤ l := zx_ble_t k2
      show zx_bz _ < zx_bz _
      rw [hb0, hb1]
      omega
  rcases zx_bif h with ⟨q, h⟩ | ⟨-, h⟩
  · obtain ⟨q1, q2⟩ := zx_and_b h
    obtain ⟨q2, q3⟩ := zx_and_b q2
    obtain ⟨q3, q4⟩ := zx_and_b q3
    have q1 : v0 % 16 = 1 := zx_beq_t q1
    have q2 : v0 / 16 / 256 = 0 := zx_beq_t q2
    have q3 : v1 = (v0 / 16 % 256 + 256 * (1 + 16 * 0)) * 16 + 11 := zx_beq_t q3
    have w1 : v1 % 16 = 11 := by omega
    have w2 : v1 / 16 % 256 = v0 / 16 % 256 := by omega
    have w3 : v1 / 16 / 256 % 16 = 1 := by omega
    obtain ⟨-, e1, -, n1⟩ := (zy_r1 q1).mp (h0 (by omega))
    obtain ⟨-, e2, -, -⟩ := (zy_r11 w1).mp (h1 (by omega))
    rw [q2, nI_0, Int32.add_zero] at e1
    rw [w2, w3] at e2
    obtain ⟨l, u, hk, a1, a2, a3⟩ := zy_ivn_s he n1 q4
    refine ⟨_, _, e1, e2, Or.inl ?_⟩
    rw [zx_beq_t q]
    have t3 : ∀ x : Int32, zy_tn 3 x = zx_bi (zx_bz x) := fun x => by unfold zy_tn; rw [if_neg (by decide), if_neg (by decide)]
    rw [t3, t3, show zy_sf 1 (v1 / 16 / 256 / 16) (zy_nu A (v0 / 16 % 256)) = zy_nu A (v0 / 16 % 256) &&& (zy_nu A (v0 / 16 % 256) + nI 4294967295) from rfl]
    have hne : zx_bz (zy_nu A (v0 / 16 % 256)) ≠ 2147483648 := by
      rcases (Bool.or_eq_true _ _).mp hk with z | z
      · have := zx_blt_t z
        omega
      · have := zx_blt_t z
        omega
    obtain ⟨mm, hm, hx⟩ := zy_any (zy_nu A (v0 / 16 % 256))
    rw [hx] at hne ⊢
    rw [zx_bz_nI mm hm, zx_bi_eq] at hne
    have h0m : 0 < mm := by omega
    have e3 : nI mm + nI 4294967295 = nI (mm - 1) := by
      rw [nI_add, ← zx_md, show (mm + 4294967295) % 4294967296 = mm - 1 by omega]
    have hand := zy_and_lt h0m
    rw [e3, zx_and', zx_bz_nI _ (Nat.lt_trans hand hm), zx_bz_nI mm hm, zx_bi_eq, zx_bi_eq, zx_bi_eq, zx_bi_eq]
    omega
  · have i0 := zy_iv_i h
    obtain ⟨l9, u9, h9⟩ := zy_iv_k h
    have i1 := zy_iv_i h9
    have n0 : v0 % 16 ≠ 0 := by rcases zy_kci i0 with q | q | q | q | q | q | q | q <;> omega
    have n1 : v1 % 16 ≠ 0 := by rcases zy_kci i1 with q | q | q | q | q | q | q | q <;> omega
    have h0 := h0 n0
    have h1 := h1 n1
    obtain ⟨y0, rfl⟩ := zy_r_i i0 h0
    obtain ⟨y1, rfl⟩ := zy_r_i i1 h1
    obtain ⟨l0, u0, h, a1, a2, a3⟩ := zy_iv_s he h0 h
    obtain ⟨l1, u1, h, b1, b2, b3⟩ := zy_iv_s he h1 h
    refine ⟨y0, y1, rfl, rfl, ?_⟩
    rcases zx_bif h with ⟨q, h⟩ | ⟨-, h⟩
    · obtain ⟨q1, q2⟩ := zx_and_b q
      obtain ⟨q2, q3⟩ := zx_and_b q2
      have q1 := zx_beq_t q1
      have q2 := zx_beq_t q2
      have q3 := zx_beq_t q3
      refine Or.inr ⟨?_, h⟩
      unfold zy_tn
      rw [show zx_bz y1 = zx_bz y0 by omega]
    · left
      rcases zx_bif h with ⟨w, h⟩ | ⟨w, h⟩
      · rw [zx_beq_t w]
        have h := zx_blt_t h
        show 4294967295 - zx_bz y1 < 4294967295 - zx_bz y0
        omega
      · obtain ⟨k0, h⟩ := zx_and_b h
        rw [zx_beq_t k0]
        have h := zx_blt_t h
        show zx_bz y1 < zx_bz y0
        omega
theorem zy_mz_s (he : zy_ev A e) (hZ : zy_le Z A) (hZr : zy_fr Z = 100) {ws0 ws : va_W} {C0 C : zy_C} {row0 row : Nat} {loc0 loc : Nat → Option Value} (hC0 : zy_CR A ws0 C0) (hC : zy_CR A ws C) (hr0 : ∀ j, zx_lg row0 j % 16 ≠ 0 → ∃ v, loc0 j = some v ∧ zy_r A (zx_lg row0 j) v) (hr : ∀ j, zx_lg row j % 16 ≠ 0 → ∃ v, loc j = some v ∧ zy_r A (zx_lg row j) v) :
    ∀ (l m : List (Nat × Nat)), zy_mz e row0 C0 row C l m = true → zy_lx (zy_mu loc Z ws m) (zy_mu loc0 Z ws0 l)
  | [], _, h => by cases h
  | _ :: _, [], h => by cases h
  | q0 :: l, q1 :: m, h => by
    have h : (bif Nat.beq q0.1 q1.1 then (bif Nat.beq q0.1 0 then (bif Nat.blt q1.2 q0.2 then Nat.blt q0.2 1099511627776 else bif Nat.beq q1.2 q0.2 then zy_mz e row0 C0 row C l m else false) else zy_sv row0 C0 q0.2 (fun v0 => zy_sv row C q1.2 (fun v1 => zy_m1 q0.1 e v0 v1 (zy_mz e row0 C0 row C l m)) false) false) else false) = true := h
    obtain ⟨hk, h⟩ := zx_bft h
    have hk := zx_beq_t hk
    show (zy_tv loc Z ws q1 < zy_tv loc0 Z ws0 q0 ∧ _) ∨ (zy_tv loc Z ws q1 = zy_tv loc0 Z ws0 q0 ∧ zy_lx (zy_mu loc Z ws m) (zy_mu loc0 Z ws0 l))
    rcases zx_bif h with ⟨q, h⟩ | ⟨q, h⟩
    · have q := zx_beq_t q
      have t1 : zy_tv loc Z ws q1 = q1.2 % 1099511627776 := by unfold zy_tv; rw [if_pos (hk.symm.trans q)]
      have t0 : zy_tv loc0 Z ws0 q0 = q0.2 % 1099511627776 := by unfold zy_tv; rw [if_pos q]
      rw [t1, t0]
      rcases zx_bif h with ⟨w, h⟩ | ⟨w, h⟩
      · have w := zx_blt_t w
        have h := zx_blt_t h
        left
        constructor <;> omega
      · obtain ⟨w, h⟩ := zx_bft h
        right
        rw [zx_beq_t w]
        exact ⟨rfl, zy_mz_s he hZ hZr hC0 hC hr0 hr l m h⟩
    · have q := zx_beq_f q
      rcases zy_sv_s hC0 hZ hZr hr0 h with ⟨v0, h, s0⟩ | h
      · rcases zy_sv_s hC hZ hZr hr h with ⟨v1, h, s1⟩ | h
        · have key : ∃ y0 y1 : Int32, zy_so loc0 Z ws0 q0.2 = some (.int y0) ∧ zy_so loc Z ws q1.2 = some (.int y1) ∧ (zy_tn q0.1 y1 < zy_tn q0.1 y0 ∨ (zy_tn q0.1 y1 = zy_tn q0.1 y0 ∧ zy_mz e row0 C0 row C l m = true)) := by
            by_cases z0 : v0 % 16 = 0
            · exfalso
              obtain ⟨y0, y1, f1, -, -⟩ := zy_m1_s (x0 := .null) (x1 := .null) he (fun z => absurd z0 z) (fun z => by
                obtain ⟨x1, -, r1⟩ := s1 z
                exact absurd z0 (fun _ => by
                  obtain ⟨y0, y1, f1, -, -⟩ := zy_m1_s (x0 := .null) (x1 := x1) he (fun z => absurd z0 z) (fun _ => r1) h
                  cases f1)) h
              cases f1
            · obtain ⟨x0, c0, r0⟩ := s0 z0
              by_cases z1 : v1 % 16 = 0
              · exfalso
                obtain ⟨y0, y1, -, f1, -⟩ := zy_m1_s (x0 := x0) (x1 := .null) he (fun _ => r0) (fun z => absurd z1 z) h
                cases f1
              · obtain ⟨x1, c1, r1⟩ := s1 z1
                obtain ⟨y0, y1, rfl, rfl, hh⟩ := zy_m1_s he (fun _ => r0) (fun _ => r1) h
                exact ⟨y0, y1, c0, c1, hh⟩
          obtain ⟨y0, y1, c0, c1, hh⟩ := key
          have t1 : zy_tv loc Z ws q1 = zy_tn q0.1 y1 := by unfold zy_tv; rw [if_neg (fun z => q (hk.trans z)), c1, hk]
          have t0 : zy_tv loc0 Z ws0 q0 = zy_tn q0.1 y0 := by unfold zy_tv; rw [if_neg q, c0]
          rw [t1, t0]
          rcases hh with hh | ⟨hh, h⟩
          · exact Or.inl ⟨hh, zy_tn_lt _ _⟩
          · exact Or.inr ⟨hh, zy_mz_s he hZ hZr hC0 hC hr0 hr l m h⟩
        · cases h
      · cases h
/-- what is known of a place behind a method -/
def zy_FS (Z : zy_V) (loc : Nat → Option Value) (ws0 ws : va_W) (f : Nat × Nat × Nat × Nat) : Prop := zy_CR Z ws [(f.1, f.2.2.2)] ∧ (f.2.1 ≠ 0 → ∃ x y : Int32, zy_so loc Z ws0 f.2.1 = some (.int x) ∧ zy_rd ws (zy_ru Z (f.1 % 256)) (f.1 / 256 % 128) (f.1 / 16777216) = some (.int y) ∧ y = x + nI f.2.2.1)
theorem zy_f1_s (he : zy_ev A e) (hZ : zy_le Z A) (hZr : zy_fr Z = 100) {ws0 ws : va_W} {C0 : zy_C} {row : Nat} {loc : Nat → Option Value} (hC0 : zy_CR A ws0 C0) (hr : ∀ j, zx_lg row j % 16 ≠ 0 → ∃ v, loc j = some v ∧ zy_r A (zx_lg row j) v) {f : Nat × Nat × Nat × Nat} (hf : zy_FS Z loc ws0 ws f) {k : Nat → Nat → Bool} (h : zy_f1 row C0 f e k = true) : ∃ (B : zy_V) (v e' : Nat) (x : Value), zy_le A B ∧ zy_ev B e' ∧ zy_rd ws (zy_ru Z (f.1 % 256)) (f.1 / 256 % 128) (f.1 / 16777216) = some x ∧ zy_r B v x ∧ k v e' = true := by
  obtain ⟨-, x, c1, c2⟩ := hf.1 _ List.mem_cons_self
  have c1 : zy_rd ws (zy_ru Z (f.1 % 256)) (f.1 / 256 % 128) (f.1 / 16777216) = some x := c1
  have c2 : zy_r Z f.2.2.2 x := c2
  have dflt : zy_vt e f.2.2.2 k = true → ∃ (B : zy_V) (v e' : Nat) (x : Value), zy_le A B ∧ zy_ev B e' ∧ zy_rd ws (zy_ru Z (f.1 % 256)) (f.1 / 256 % 128) (f.1 / 16777216) = some x ∧ zy_r B v x ∧ k v e' = true := fun h => by
    obtain ⟨B, v, e', g1, g2, g3, h⟩ := zy_vt_s2 he (zy_r_le hZ c2) h
    exact ⟨B, v, e', x, g1, g2, c1, g3, h⟩
  unfold zy_f1 at h
  rcases zx_bif h with ⟨-, h⟩ | ⟨q, h⟩
  · exact dflt h
  have q := zx_beq_f q
  rcases zy_sv_s hC0 hZ hZr hr h with ⟨v, h, s0⟩ | h
  · rcases zx_bif h with ⟨w, h⟩ | ⟨-, h⟩
    · obtain ⟨w1, w2⟩ := zx_and_b w
      obtain ⟨w2, w3⟩ := zx_and_b w2
      have w2 : f.2.2.2 % 16 = 7 := zx_beq_t w2
      have w3 := zx_blt_t w3
      have kk : ∀ t, t < 16 → Nat.beq (Nat.mod (Nat.shiftRight 18 t) 2) 1 = true → t ≠ 0 := by decide
      obtain ⟨x0, c3, r0⟩ := s0 (kk _ (Nat.mod_lt _ (by decide)) w1)
      obtain ⟨y0, y1, d1, d2, d3⟩ := hf.2 q
      rw [c3] at d1
      have d1 := Option.some.inj d1
      subst d1
      obtain ⟨v2, r2, h⟩ := zy_ad_s he r0 (zy_r_c w3) h
      rw [← d3] at r2
      rw [c1] at d2
      have d2 := Option.some.inj d2
      subst d2
      obtain ⟨-, y2, d4, b1, b2⟩ := (zy_r7 w2).mp c2
      injection d4 with d4
      subst d4
      obtain ⟨e', he', h⟩ := zy_rf_s he r2 b1 b2 h
      exact ⟨A, v2, e', .int y1, zy_le_rf A, he', c1, r2, h⟩
    · exact dflt h
  · exact dflt h
theorem zy_pf_s (hZr : zy_fr Z = 100) {ws0 ws : va_W} {C0 : zy_C} {row : Nat} {loc : Nat → Option Value} : ∀ (l : List (Nat × Nat × Nat × Nat)) {A : zy_V} {e : Nat} {C : zy_C} {k : zy_C → Nat → Bool}, zy_ev A e → zy_le Z A → zy_CR A ws0 C0 → zy_CR A ws C → (∀ j, zx_lg row j % 16 ≠ 0 → ∃ v, loc j = some v ∧ zy_r A (zx_lg row j) v) → (∀ f ∈ l, zy_FS Z loc ws0 ws f) → zy_pf row C0 l C e k = true → ∃ (B : zy_V) (C' : zy_C) (e' : Nat), zy_le A B ∧ zy_ev B e' ∧ zy_CR B ws C' ∧ k C' e' = true
  | [], A, e, C, k, he, _, _, hC, _, _, h => ⟨A, C, e, zy_le_rf A, he, hC, h⟩
  | f :: l, A, e, C, k, he, hZ, hC0, hC, hr, hf, h => by
    have h : zy_f1 row C0 f e (fun v e => zy_pf row C0 l ((f.1, v) :: C) e k) = true := h
    obtain ⟨B, v, e', x, g1, g2, g3, g4, h⟩ := zy_f1_s he hZ hZr hC0 hr (hf f List.mem_cons_self) h
    obtain ⟨⟨c1, c2⟩, -⟩ := (hf f List.mem_cons_self).1 _ List.mem_cons_self
    have c1 : f.1 % 256 < zy_fr Z := c1
    have hZB := zy_le_tr hZ g1
    have hru := hZB.2.2.2.2 _ c1
    obtain ⟨B2, C2, e2, f1, f2, f3, h⟩ := zy_pf_s hZr l g2 hZB (zy_CR_le g1 hC0) (zy_CR_add (zy_CR_le g1 hC) (key := f.1) (Nat.lt_of_lt_of_le c1 hZB.2.1.2.2) (by rw [hru, zy_gl_le hZB]; exact c2) (by rw [hru]; exact g3) g4) (fun j hj => by
      obtain ⟨w, w1, w2⟩ := hr j hj
      exact ⟨w, w1, zy_r_le g1 w2⟩) (fun z hz => hf z (List.mem_cons_of_mem _ hz)) h
    exact ⟨B2, C2, e2, zy_le_tr g1 f1, f2, f3, h⟩
theorem zy_p1_s (he : zy_ev A e) (hZ : zy_le Z A) (hZr : zy_fr Z = 100) {ws0 ws : va_W} {C0 C : zy_C} {row : Nat} {loc : Nat → Option Value} (hC0 : zy_CR A ws0 C0) (hC : zy_CR A ws C) (hr : ∀ j, zx_lg row j % 16 ≠ 0 → ∃ v, loc j = some v ∧ zy_r A (zx_lg row j) v) {po : zy_Po} {vs : List Value} (hv : zy_SR Z po.1 vs) (hl : vs.length ≤ 1) (hf : ∀ f ∈ po.2, zy_FS Z loc ws0 ws f) {K : zy_K} (h : zy_p1 row C0 po C e K = true) : ∃ (B : zy_V) (r : List Nat) (C' : zy_C) (e' : Nat), zy_le A B ∧ zy_ev B e' ∧ zy_CR B ws C' ∧ zy_SR B r vs ∧ K r C' e' = true := by
  obtain ⟨p1, p2⟩ := po
  cases p1 with
  | nil =>
    have h : zy_pf row C0 p2 C e (fun C e => K [] C e) = true := h
    obtain ⟨B, C', e', g1, g2, g3, h⟩ := zy_pf_s hZr p2 he hZ hC0 hC hr hf h
    cases vs with
    | nil => exact ⟨B, [], C', e', g1, g2, g3, trivial, h⟩
    | cons _ _ => exact hv.elim
  | cons t p1 =>
    have h : zy_vt e t (fun v e => zy_pf row C0 p2 C e (fun C e => K [v] C e)) = true := h
    obtain ⟨x, r, rfl, h1, h2⟩ := zy_SR1 hv
    obtain ⟨B1, v, e1, b1, b2, b3, h⟩ := zy_vt_s2 he (zy_r_le hZ h1) h
    obtain ⟨B, C', e', g1, g2, g3, h⟩ := zy_pf_s hZr p2 b2 (zy_le_tr hZ b1) (zy_CR_le b1 hC0) (zy_CR_le b1 hC) (fun j hj => by
      obtain ⟨w, w1, w2⟩ := hr j hj
      exact ⟨w, w1, zy_r_le b1 w2⟩) hf h
    cases r with
    | nil => exact ⟨B, [v], C', e', zy_le_tr b1 g1, g2, g3, ⟨zy_r_le g1 b3, trivial⟩, h⟩
    | cons _ _ => simp at hl
theorem zy_pa_s {row : Nat} {C0 C : zy_C} {K : zy_K} : ∀ (l : List zy_Po), zy_pa row C0 l C e K = true → ∀ po ∈ l, zy_p1 row C0 po C e K = true
  | [], _, _, h => by cases h
  | q :: l, h, po, hp => by
    have h : (zy_p1 row C0 q C e K && zy_pa row C0 l C e K) = true := h
    obtain ⟨h1, h2⟩ := zx_and_b h
    rcases List.mem_cons.mp hp with rfl | hp
    · exact h1
    · exact zy_pa_s l h2 po hp
theorem zy_CR_un {gl : List Nat} {W : Nat} {ws ws' : va_W} {C C' : zy_C} (hgl : gl = zy_gl A) (hC : zy_CR A ws C) (hU : zy_UN gl W ws ws') (h : ∀ q ∈ C', q ∈ C ∧ zy_tb W (zy_kw q.1) = false) : zy_CR A ws' C' := fun q hq => by
  obtain ⟨h1, h2⟩ := h q hq
  obtain ⟨⟨g1, g2⟩, x, g3, g4⟩ := hC q h1
  refine ⟨⟨g1, g2⟩, x, ?_, g4⟩
  rw [hU.2.1 _ _ (q.1 / 256 % 128) (q.1 / 16777216) (by rw [hgl]; exact g2) (Nat.mod_lt _ (by decide)) ?_]
  · exact g3
  · rw [zy_tb_s] at h2
    rw [show 128 * (q.1 / 256 % 65536 / 128) + q.1 / 256 % 128 = q.1 / 256 % 65536 by omega]
    exact h2
theorem zy_UN_sub {gl : List Nat} {W W' : Nat} {ws ws' : va_W} (h : zy_UN gl W' ws ws') (hs : Nat.beq (Nat.land W W') W' = true) : zy_UN gl W ws ws' := by
  refine ⟨h.1, fun i g f a hg hf hb => h.2.1 i g f a hg hf ?_, h.2.2⟩
  have hs : W &&& W' = W' := zx_beq_t hs
  rw [← hs, Nat.testBit_and, hb]
  rfl
end ZYD
/-- how a method by contract ends -/
def zy_Qp (D : va_G) (N0 : Nat) (T : List Nat) (Z : zy_V) (q : zy_Co) (av : List Value) (ws0 : va_W) : Array Value → State → Outcome → State → Prop := fun _ st o t =>
  (∃ (vs : List Value) (tys : List (ClassId × FieldType)) (ws : va_W) (po : zy_Po), o = .returned vs.head? ∧ vs.length ≤ 1 ∧ po ∈ q.2.2.2 ∧ zy_SR Z po.1 vs ∧ (∀ f ∈ po.2, zy_FS Z (zy_av av) ws0 ws f) ∧ zy_Wd D N0 T Z t t.heap tys ws ∧ zy_UN (zy_gl Z) q.1.2.2.1 ws0 ws) ∧ va_F (zx_A N0) st t
/-- a contract is kept -/
def zy_Ok (l : Launch) (D : va_G) (N0 : Nat) (T : List Nat) (Z : zy_V) (q : zy_Co) : Prop :=
  ∀ (y : zx_M), zx_me q.1.1 = some y → ∀ (d : Nat), q.1.2.1 ≤ d → ∀ (av : List Value) (tys : List (ClassId × FieldType)) (ws : va_W), zy_SR Z q.2.1 av → zy_Gs (zy_gl Z) q.1.2.2.2 ws → va_D (zx_A N0) ws → zy_HR Z T tys ws → zy_CR Z ws q.2.2.1 →
    Met l y.1.1 (zx_mc y :: zx_G) (zx_rm d y) (zx_Pc D N0 (zy_ex Z) zy_n0 av tys ws) (zy_Qp D N0 T Z q av ws) 0 0 (zx_A N0)
section ZYE
variable {l : Launch} {D : va_G} {N0 : Nat} {T fg : List Nat} {Z : zy_V}
theorem zy_HR_ge {A : zy_V} (h : zy_le Z A) (hf : 100 ≤ zy_fr Z) {tys : List (ClassId × FieldType)} {ws : va_W} (hh : zy_HR A T tys ws) : zy_HR Z T tys ws := by
  unfold zy_HR zy_ads zy_gl at hh ⊢
  rw [← h.1, ← zy_fz_eq h hf] at hh
  exact hh
theorem zy_cs_s {W g d0 a row : Nat} {K : zy_K} {C : zy_C} {e : Nat} : ∀ (cs : List zy_Co), zy_cs T fg W g d0 a K row C e cs = true → ∃ q ∈ cs, zy_cm1 T fg W g q d0 a row C e = true ∧ zy_kl (fun z => zy_tb q.1.2.2.1 (zy_kw z)) C (fun C1 => zy_pa row C q.2.2.2 C1 e K) = true
  | [], h => by cases h
  | q :: cs, h => by
    have h : (bif zy_cm1 T fg W g q d0 a row C e then zy_kl (fun z => zy_tb q.1.2.2.1 (zy_kw z)) C (fun C1 => zy_pa row C q.2.2.2 C1 e K) else zy_cs T fg W g d0 a K row C e cs) = true := h
    rcases zx_bif h with ⟨h1, h⟩ | ⟨-, h⟩
    · exact ⟨q, List.mem_cons_self, h1, h⟩
    · obtain ⟨q', h1, h2⟩ := zy_cs_s cs h
      exact ⟨q', List.mem_cons_of_mem _ h1, h2⟩
theorem zy_tb_find {W g d0 a row : Nat} {K : zy_K} {C : zy_C} {e : Nat} : ∀ (tb : zy_Tb), zy_cc T fg W g tb d0 a K row C e = true → ∃ q ∈ tb, zy_sl T fg row q.2.1 C e (fun C e => zy_cs T fg W g d0 a K row C e q.2.2) = true
  | [], h => by cases h
  | q :: tb, h => by
    have h : (bif Nat.beq q.1 a then zy_sl T fg row q.2.1 C e (fun C e => zy_cs T fg W g d0 a K row C e q.2.2) else zy_cc T fg W g tb d0 a K row C e) = true := h
    rcases zx_bif h with ⟨-, h⟩ | ⟨-, h⟩
    · exact ⟨q, List.mem_cons_self, h⟩
    · obtain ⟨q', h1, h2⟩ := zy_tb_find tb h
      exact ⟨q', List.mem_cons_of_mem _ h1, h2⟩
theorem zy_cc_s (hZ1 : zy_fi Z = 1) (hZ2 : zy_fl Z = 0) (hZr : zy_fr Z = 100) (hF : zy_FX fg Z) {W g : Nat} {tb : zy_Tb} (hOk : ∀ t ∈ tb, ∀ co ∈ t.2.2, zy_Ok l D N0 T Z co) {d0 k a : Nat} {y : zx_M} {K : zy_K} {A : zy_V} {as : List Nat} {C : zy_C} {e : Nat} {av : List Value} {tys : List (ClassId × FieldType)} {ws : va_W} (hZ : zy_le Z A) (hGw : zy_Gs (zy_gl Z) g ws) (hya : zx_me a = some y) (hcall : zy_cc T fg W g tb d0 a K (zx_rw as) C e = true) (hsr : zy_SR A as av) (hD : va_D (zx_A N0) ws) (hH : zy_HR A T tys ws) (hCR : zy_CR A ws C) (hE : zy_ev A e) :
    ∃ d', d0 + k = d' + 1 ∧ Met l y.1.1 (zx_mc y :: zx_G) (zx_rm d' y) (zx_Pc D N0 (zy_ex A) zy_n0 av tys ws) (zy_Qc D N0 T W ws A K) 0 0 (zx_A N0) := by
  have hf100 : 100 ≤ zy_fr Z := by omega
  obtain ⟨t, ht, h⟩ := zy_tb_find tb hcall
  have hrow : ∀ j, zx_lg (zx_rw as) j % 16 ≠ 0 → ∃ v, zy_av av j = some v ∧ zy_r A (zx_lg (zx_rw as) j) v := fun j hj => by
    obtain ⟨v, -, h2, h3⟩ := zy_rw_s 0 hsr j hj
    exact ⟨v, h2, h3⟩
  obtain ⟨B, C1, e1, g1, g2, g3, h⟩ := zy_sl_s t.2.1 hE hCR (zy_FX_le hZ hf100 hF) hH (fun j hj => by
    obtain ⟨v, -, h3⟩ := hrow j hj
    exact ⟨v, h3⟩) h
  obtain ⟨q, hq, hm, h⟩ := zy_cs_s _ h
  have hZB := zy_le_tr hZ g1
  have hHB := zy_HR_le g1 (zy_f100 hE) hH
  unfold zy_cm1 at hm
  obtain ⟨m1, hm⟩ := zx_and_b hm
  obtain ⟨m2, hm⟩ := zx_and_b hm
  obtain ⟨m3, hm⟩ := zx_and_b hm
  obtain ⟨m4, hm⟩ := zx_and_b hm
  obtain ⟨m5, m6⟩ := zx_and_b hm
  have m1 := zx_beq_t m1
  have m2 : q.1.2.1 < d0 := zx_blt_t m2
  have hback : zy_le (zy_rs B 1 0 100) Z := by
    have := zy_rs_le hZB
    rw [hZ1, hZ2, hZr] at this
    exact this
  have s1 := zy_SR_le hback _ _ (zy_ma_s g2 _ _ _ (zy_SR_le g1 _ _ hsr) m5)
  have s2 := zy_CR_le hback (zy_mC_s g2 g3 (zy_FX_le hZB hf100 hF) hHB _ m6)
  refine ⟨d0 + k - 1, by omega, ?_⟩
  have hM := hOk t ht q hq y (by rw [m1]; exact hya) (d0 + k - 1) (by omega) av tys ws s1 (zy_Gs_sub m4 hGw) hD (zy_HR_ge hZ hf100 hH) s2
  have hex : zy_ex A = zy_ex Z := zy_exA hZ
  rw [hex]
  refine MetFree.mono hM (fun _ _ h => h) (fun _ _ _ _ _ h => h) ?_
  intro a' s' o t' _ ⟨⟨⟨vs, tys', ws', po, o1, o2, o3, o4, o5, o6, o7⟩, o8⟩, hL⟩
  refine ⟨⟨?_, o8⟩, hL⟩
  obtain ⟨C2, h, hC2⟩ := zy_kl_s h
  have hp := zy_pa_s _ h po o3
  obtain ⟨B2, r, C3, e3, b1, b2, b3, b4, b5⟩ := zy_p1_s g2 hZB hZr (ws0 := ws) (ws := ws') g3 (zy_CR_un (zy_gl_le hZB).symm g3 o7 hC2) (fun j hj => by
    obtain ⟨v, h1, h2⟩ := hrow j hj
    exact ⟨v, h1, zy_r_le g1 h2⟩) o4 o2 o5 hp
  refine ⟨B2, r, vs, C3, e3, tys', ws', zy_le_tr g1 b1, o1, o2, b4, zy_up_all (zy_le_tr hZB b1) hf100 o6, b3, b2, ?_, b5⟩
  rw [zy_gl_le (zy_le_tr hZB b1)]
  exact zy_UN_sub o7 m3
end ZYE
