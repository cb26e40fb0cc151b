/-! what tests and sums say of the typed walker's ints -/
section ZYA
variable {A : zy_V} {e : Nat}
theorem zy_xor_sign (x : Int32) {c : Nat} (hc : c < 2147483648) : 2147483648 ≤ zx_bz (x ^^^ nI c) ↔ 2147483648 ≤ zx_bz x := by
  obtain ⟨n, hn, rfl⟩ := zy_any x
  have h1 : ∀ m, m < 2147483648 → m ^^^ c < 2147483648 := fun m hm => Nat.xor_lt_two_pow (n := 31) hm hc
  have h2 : n ^^^ c < 4294967296 := Nat.xor_lt_two_pow (n := 32) hn (by omega)
  rw [zx_xor', zx_bz_nI _ h2, zx_bz_nI _ hn, zx_bi_eq, zx_bi_eq]
  have h3 : n ^^^ c < 2147483648 ↔ n < 2147483648 := by
    constructor
    · intro h
      have := h1 _ h
      rw [Nat.xor_assoc, Nat.xor_self, Nat.xor_zero] at this
      exact this
    · exact h1 n
  omega
theorem zy_bit_ge {x : Int32} {c : Nat} (hc : c < 31) (hx : 2147483648 ≤ zx_bz x) (h : 2147483649 ≤ zx_bz (x >>> (nI c &&& 31) &&& 1)) : 2147483648 + 2 ^ c ≤ zx_bz x := by
  obtain ⟨n, n1, rfl, n3⟩ := zy_nn hx
  rw [zy_shr_n n1 (by omega), show (1 : Int32) = nI 1 from by decide, zx_and', Nat.and_one_is_mod] at h
  have hd : n / 2 ^ c < 2147483648 := Nat.lt_of_le_of_lt (Nat.div_le_self _ _) n1
  rw [zy_bz_n (by omega)] at h
  have h1 : 1 ≤ n / 2 ^ c := by
    rcases Nat.eq_zero_or_pos (n / 2 ^ c) with z | z
    · rw [z] at h; omega
    · exact z
  have h2 : 2 ^ c ≤ n := by
    have := (Nat.le_div_iff_mul_le (Nat.pow_pos (by decide : 0 < 2))).mp h1
    omega
  omega
/-- no bit above -/
theorem zy_hm {x : Int32} {c : Nat} (hp : 2 ^ (4294967296 - c).log2 = 4294967296 - c) (h1 : 4294967296 - c < 2147483648) (hc : c < 4294967296) (h : zx_bz (x &&& nI c) = 2147483648) : 2147483648 ≤ zx_bz x ∧ zx_bz x ≤ 2147483648 + (4294967295 - c) := by
  obtain ⟨n, hn, rfl⟩ := zy_any x
  have h3 : n &&& c < 4294967296 := Nat.and_lt_two_pow (n := 32) n hc
  rw [zx_and', zx_bz_nI _ h3, zx_bi_eq] at h
  have h0 : n &&& c = 0 := by omega
  generalize hj : (4294967296 - c).log2 = j at hp
  have hj31 : j < 31 := by
    rcases Nat.lt_or_ge j 31 with z | z
    · exact z
    · have : 2 ^ 31 ≤ 2 ^ j := Nat.pow_le_pow_right (by decide) z
      omega
  have hcj : c = 2 ^ 32 - 2 ^ j := by
    have : (2 : Nat) ^ 32 = 4294967296 := by decide
    omega
  have hnj : n < 2 ^ j := by
    rcases Nat.lt_or_ge n (2 ^ j) with z | z
    · exact z
    · exfalso
      obtain ⟨i, hi1, hi2⟩ := Nat.exists_ge_and_testBit_of_ge_two_pow z
      have p32 : (2 : Nat) ^ 32 = 4294967296 := by decide
      have p31 : (2 : Nat) ^ 31 = 2147483648 := by decide
      have hi3 : i < 32 := by
        rcases Nat.lt_or_ge i 32 with y | y
        · exact y
        · have hp2 : (2 : Nat) ^ 32 ≤ 2 ^ i := Nat.pow_le_pow_right (by decide) y
          have := Nat.testBit_lt_two_pow (x := n) (i := i) (by omega)
          rw [this] at hi2
          cases hi2
      have hj0 : 0 < 2 ^ j := Nat.pow_pos (by decide)
      have hj1 : (2 : Nat) ^ j ≤ 2 ^ 31 := Nat.pow_le_pow_right (by decide) (by omega)
      have hj2 : (2 : Nat) ^ j ≤ 2 ^ i := Nat.pow_le_pow_right (by decide) hi1
      have hc2 : c.testBit i = true := by
        rw [hcj, show 2 ^ 32 - 2 ^ j = 2 ^ 32 - ((2 ^ j - 1) + 1) by omega]
        rw [Nat.testBit_two_pow_sub_succ (by omega)]
        have : (2 ^ j - 1).testBit i = false := Nat.testBit_lt_two_pow (by omega)
        rw [this]
        simp [hi3]
      have h4 : (n &&& c).testBit i = true := by rw [Nat.testBit_and, hi2, hc2]; rfl
      rw [h0, Nat.zero_testBit] at h4
      cases h4
  have h5 : 2 ^ j ≤ 2 ^ 30 := Nat.pow_le_pow_right (by decide) (by omega)
  have h6 : (2 : Nat) ^ 30 = 1073741824 := by decide
  rw [zy_bz_n (by omega)]
  omega
theorem zy_rf_s (he : zy_ev A e) {v l u : Nat} {y : Int32} (h : zy_r A v (.int y)) (hl : l ≤ zx_bz y) (hu : zx_bz y ≤ u) {k : Nat → Bool} (hk : zy_rf e v l u k = true) : ∃ e', zy_ev A e' ∧ k e' = true := by
  unfold zy_rf at hk
  rcases zx_bif hk with ⟨q, hk⟩ | ⟨-, hk⟩
  · have q : v % 16 = 1 := zx_beq_t q
    obtain ⟨-, h1, ho, hn⟩ := (zy_r1 q).mp h
    cases h1
    obtain ⟨lo, up, hk, g1, g2, hup⟩ := zy_ivn_s (n := zy_k1 v) he hn hk
    have g1 : lo ≤ zx_bz (zy_nu A (v / 16 % 256)) := g1
    have g2 : zx_bz (zy_nu A (v / 16 % 256)) ≤ up := g2
    rw [zx_fn_eq] at hk
    have hb := zy_bz_off (zy_nu A (v / 16 % 256)) ho
    have hk1 : (bif Nat.beq (v / 16 / 256) 0 then zy_up e (v / 16 % 256) l u k else
      bif Nat.blt (v / 16 / 256) 2147483648 then (bif Nat.blt (Nat.add up (v / 16 / 256)) 4294967296 then (bif Nat.ble (v / 16 / 256) u then zy_up e (v / 16 % 256) (Nat.sub l (v / 16 / 256)) (Nat.sub u (v / 16 / 256)) k else true) else k e) else
      bif Nat.ble (Nat.sub 4294967296 (v / 16 / 256)) lo then zy_up e (v / 16 % 256) (Nat.add l (Nat.sub 4294967296 (v / 16 / 256))) (Nat.add u (Nat.sub 4294967296 (v / 16 / 256))) k else k e) = true := hk
    generalize v / 16 / 256 = o at hk1 ho hb hl hu
    have hlt := zx_bz_lt (zy_nu A (v / 16 % 256))
    rw [hb] at hl hu
    rcases zx_bif hk1 with ⟨q1, hk⟩ | ⟨q1, hk⟩
    · have q1 := zx_beq_t q1
      subst q1
      exact zy_up_s he hn (by omega) (by omega) hk
    rcases zx_bif hk with ⟨q2, hk⟩ | ⟨q2, hk⟩
    · have q2 := zx_blt_t q2
      rcases zx_bif hk with ⟨q3, hk⟩ | ⟨q3, hk⟩
      · have q3 : up + o < 4294967296 := zx_blt_t q3
        rcases zx_bif hk with ⟨q4, hk⟩ | ⟨q4, -⟩
        · exact zy_up_s he hn (show l - o ≤ _ by omega) (show _ ≤ u - o by omega) hk
        · have q4 := zx_ble_f q4
          omega
      · exact ⟨e, he, hk⟩
    · have q2 := zx_blt_f q2
      rcases zx_bif hk with ⟨q3, hk⟩ | ⟨q3, hk⟩
      · have q3 : 4294967296 - o ≤ lo := zx_ble_t q3
        exact zy_up_s he hn (show l + (4294967296 - o) ≤ _ by omega) (show _ ≤ u + (4294967296 - o) by omega) hk
      · exact ⟨e, he, hk⟩
  rcases zx_bif hk with ⟨q, hk⟩ | ⟨-, hk⟩
  · obtain ⟨q, q2⟩ := zx_and_b q
    have q : v % 16 = 14 := zx_beq_t q
    have q2 := zx_ble_t q2
    obtain ⟨-, h1, ho, hn⟩ := (zy_r14 q).mp h
    cases h1
    obtain ⟨lo, up, hk, g1, g2, hup⟩ := zy_ivn_s (n := zy_k1 v) he hn hk
    rcases zx_bif hk with ⟨q3, hk⟩ | ⟨q3, hk⟩
    · have q3 := zx_ble_t q3
      have := zy_bit_ge (x := zy_nu A (v / 16 % 256)) ho (Nat.le_trans q3 g1) (by omega)
      have hlt := zx_bz_lt (zy_nu A (v / 16 % 256))
      exact zy_up_s (n := zy_k1 v) he hn this (show zx_bz (zy_nu A (v / 16 % 256)) ≤ 4294967295 by omega) hk
    · exact ⟨e, he, hk⟩
  rcases zx_bif hk with ⟨q, hk⟩ | ⟨-, hk⟩
  · obtain ⟨q, q2⟩ := zx_and_b q
    have q : v % 16 = 15 := zx_beq_t q
    have q2 := zx_ble_t q2
    obtain ⟨-, h1, ho, hn⟩ := (zy_r15 q).mp h
    cases h1
    have := (zy_xor_sign (zy_nu A (v / 16 % 256)) ho).mp (by omega)
    have hlt := zx_bz_lt (zy_nu A (v / 16 % 256))
    exact zy_up_s (n := zy_k1 v) he hn this (show zx_bz (zy_nu A (v / 16 % 256)) ≤ 4294967295 by omega) hk
  rcases zx_bif hk with ⟨q, hk⟩ | ⟨-, hk⟩
  · obtain ⟨q, q2⟩ := zx_and_b q
    have q : v % 16 = 15 := zx_beq_t q
    have q2 := zx_blt_t q2
    obtain ⟨-, h1, ho, hn⟩ := (zy_r15 q).mp h
    cases h1
    have h3 : ¬ 2147483648 ≤ zx_bz (zy_nu A (v / 16 % 256)) := fun z => by
      have := (zy_xor_sign (zy_nu A (v / 16 % 256)) ho).mpr z
      omega
    exact zy_up_s (n := zy_k1 v) he hn (Nat.zero_le _) (show zx_bz (zy_nu A (v / 16 % 256)) ≤ 2147483647 by omega) hk
  rcases zx_bif hk with ⟨q, hk⟩ | ⟨-, hk⟩
  · have q : v % 16 = 11 := zx_beq_t q
    obtain ⟨-, h1, ho, hn⟩ := (zy_r11 q).mp h
    cases h1
    rw [zx_fn_eq, zx_fn_eq] at hk
    have hk : (bif Nat.beq (v / 16 / 256 % 16) 2 && (Nat.beq l 2147483648 && (Nat.beq u 2147483648 && (Nat.blt 0 (Nat.sub 4294967296 (v / 16 / 256 / 16)) && (Nat.blt (Nat.sub 4294967296 (v / 16 / 256 / 16)) 2147483648 && Nat.beq (Nat.pow 2 (Nat.log2 (Nat.sub 4294967296 (v / 16 / 256 / 16)))) (Nat.sub 4294967296 (v / 16 / 256 / 16)))))) then zy_up e (v / 16 % 256) 2147483648 (Nat.add 2147483648 (Nat.sub 4294967295 (v / 16 / 256 / 16))) k else
      bif Nat.beq (v / 16 / 256 % 16) 5 && (Nat.blt 0 (v / 16 / 256 / 16) && Nat.blt (v / 16 / 256 / 16) 2147483648) then zy_ivn e (v / 16 % 256) (fun lv hv => bif Nat.ble 2147483648 lv then
        (bif Nat.ble 2147483649 l then zy_up e (v / 16 % 256) 2147483649 4294967295 k else
         bif Nat.blt (Nat.succ u) (Nat.add 2147483648 (v / 16 / 256 / 16)) && Nat.beq (Nat.mod (Nat.sub hv 2147483648) (v / 16 / 256 / 16)) (Nat.pred (v / 16 / 256 / 16)) then zy_up e (v / 16 % 256) 0 (Nat.pred hv) k else k e) else k e) else k e) = true := hk
    generalize v / 16 / 256 / 16 = c at hk ho hl hu
    generalize v / 16 / 256 % 16 = s at hk hl hu
    generalize v / 16 % 256 = n at hk hl hu hn
    have hx := zx_bz_lt (zy_nu A n)
    rcases zx_bif hk with ⟨q, hk⟩ | ⟨-, hk⟩
    · obtain ⟨q1, q2⟩ := zx_and_b q
      obtain ⟨q2, q3⟩ := zx_and_b q2
      obtain ⟨q3, q4⟩ := zx_and_b q3
      obtain ⟨q4, q5⟩ := zx_and_b q4
      obtain ⟨q5, q6⟩ := zx_and_b q5
      have q1 := zx_beq_t q1
      have q2 := zx_beq_t q2
      have q3 := zx_beq_t q3
      have q4 : 0 < 4294967296 - c := zx_blt_t q4
      have q5 : 4294967296 - c < 2147483648 := zx_blt_t q5
      have q6 : 2 ^ (4294967296 - c).log2 = 4294967296 - c := zx_beq_t q6
      rw [q1] at hl hu
      have h0 : zx_bz (zy_nu A n &&& nI c) = 2147483648 := by
        have : zx_bz (zy_sf 2 c (zy_nu A n)) = 2147483648 := by omega
        exact this
      have h1 := zy_hm (x := zy_nu A n) q6 q5 ho h0
      exact zy_up_s he hn h1.1 (show _ ≤ 2147483648 + (4294967295 - c) by omega) hk
    rcases zx_bif hk with ⟨q, hk⟩ | ⟨-, hk⟩
    · obtain ⟨q1, q2⟩ := zx_and_b q
      obtain ⟨q2, q3⟩ := zx_and_b q2
      have q1 := zx_beq_t q1
      have q2 := zx_blt_t q2
      have q3 := zx_blt_t q3
      rw [q1] at hl hu
      obtain ⟨lo, up, hk, g1, g2, hup⟩ := zy_ivn_s he hn hk
      rcases zx_bif hk with ⟨q4, hk⟩ | ⟨-, hk⟩
      · have q4 := zx_ble_t q4
        obtain ⟨m, m1, m2, m3⟩ := zy_nn (x := zy_nu A n) (by omega)
        have e1 : zx_bz (zy_sf 5 c (zy_nu A n)) = m % c + 2147483648 := by
          rw [m2]
          have r1 : m % c ≤ m := Nat.mod_le _ _
          rw [show zy_sf 5 c (nI m) = nI (m % c) from zy_rem_nn m1 q2 q3, zy_bz_n (by omega)]
        rw [e1] at hl hu
        rcases zx_bif hk with ⟨q5, hk⟩ | ⟨-, hk⟩
        · have q5 := zx_ble_t q5
          have r1 : m % c ≤ m := Nat.mod_le _ _
          exact zy_up_s he hn (show 2147483649 ≤ _ by omega) (show _ ≤ 4294967295 by omega) hk
        rcases zx_bif hk with ⟨q5, hk⟩ | ⟨-, hk⟩
        · obtain ⟨q5, q6⟩ := zx_and_b q5
          have q5 : u + 1 < 2147483648 + c := zx_blt_t q5
          have q6 : (up - 2147483648) % c = c - 1 := zx_beq_t q6
          refine zy_up_s he hn (Nat.zero_le _) (show zx_bz (zy_nu A n) ≤ up - 1 from ?_) hk
          rcases Nat.lt_or_ge (zx_bz (zy_nu A n)) up with z | z
          · omega
          · have : m = up - 2147483648 := by omega
            rw [this, q6] at hu
            omega
        · exact ⟨e, he, hk⟩
      · exact ⟨e, he, hk⟩
    · exact ⟨e, he, hk⟩
  · exact ⟨e, he, hk⟩
theorem zy_const {l : Nat} {y : Int32} (h : zx_bz y = l) : zy_r A (zx_c (zx_bi l)) (.int y) := by
  have := zy_r_c (A := A) (zx_bi_lt l)
  rw [← h, ← zx_of_bz y] at this
  rw [← h]
  exact this
/-- a value as it is known now -/
theorem zy_n1_s (he : zy_ev A e) {v : Nat} {x : Value} (h : zy_r A v x) {k : Nat → Bool} (hk : zy_n1 e v k = true) : ∃ v' : Nat, zy_r A v' x ∧ k v' = true := by
  unfold zy_n1 at hk
  rcases zx_bif hk with ⟨q, hk⟩ | ⟨-, hk⟩
  · have hi := zy_iv_i hk
    obtain ⟨y, rfl⟩ := zy_r_i hi h
    obtain ⟨l, u, hk, h1, h2, h3⟩ := zy_iv_s he h hk
    rcases zx_bif hk with ⟨q1, hk2⟩ | ⟨-, hk⟩
    · have q1 := zx_beq_t q1
      rw [zx_fn_eq] at hk2
      exact ⟨_, zy_const (by omega), hk2⟩
    · exact ⟨_, h, hk⟩
  · exact ⟨_, h, hk⟩
/-- what a kept value may be: 1, 4, 7, a reference or a long, or n and (n - 1) -/
def zy_kp (v : Nat) : Prop := zx_kc 63488 v = false ∨ (v % 16 = 11 ∧ v / 16 / 256 % 16 = 1)
theorem zy_no_s (he : zy_ev A e) {v : Nat} {x : Value} (h : zy_r A v x) {k : Nat → Bool} (hk : zy_no e v k = true) : ∃ v' : Nat, zy_r A v' x ∧ k v' = true ∧ zy_kp v' := by
  have hc : ∀ n, zx_kc 63488 (zx_c n) = false := fun n => by
    unfold zx_kc
    rw [show Nat.mod (zx_c n) 16 = 4 from zx_c_kd n]
    rfl
  have h7 : ∀ l u, zx_kc 63488 (zy_c7v l u) = false := fun l u => by
    unfold zx_kc
    rw [show Nat.mod (zy_c7v l u) 16 = 7 from by show (zx_bd l u * 16 + 7) % 16 = 7; omega]
    rfl
  unfold zy_no at hk
  rcases zx_bif hk with ⟨q, hk⟩ | ⟨q, hk⟩
  · have hi := zy_iv_i hk
    obtain ⟨y, rfl⟩ := zy_r_i hi h
    obtain ⟨l, u, hk, h1, h2, h3⟩ := zy_iv_s he h hk
    rcases zx_bif hk with ⟨q1, hk2⟩ | ⟨-, hk⟩
    · have q1 := zx_beq_t q1
      rw [zx_fn_eq] at hk2
      exact ⟨_, zy_const (by omega), hk2, Or.inl (hc _)⟩
    rcases zx_bif hk with ⟨q1, hk2⟩ | ⟨q1, hk⟩
    · rw [zx_fn_eq] at hk2
      exact ⟨_, zy_r_7 h1 h2 h3, hk2, Or.inl (h7 _ _)⟩
    · refine ⟨_, h, hk, ?_⟩
      cases q2 : zx_kc 63488 v
      · exact Or.inl q2
      · rw [q2] at q1
        have q1 : (Nat.beq (zx_kd v) 11 && Nat.beq (Nat.mod (zy_o1 v) 16) 1) = true := by simpa using q1
        obtain ⟨a, b⟩ := zx_and_b q1
        exact Or.inr ⟨zx_beq_t a, zx_beq_t b⟩
  · refine ⟨_, h, hk, Or.inl ?_⟩
    have q9 : ∀ t, t < 16 → Nat.beq (Nat.mod (Nat.shiftRight 63618 t) 2) 1 = false → Nat.beq (Nat.mod (Nat.shiftRight 63488 t) 2) 1 = false := by decide
    exact q9 _ (Nat.mod_lt _ (by decide)) q
/-- two ints by their bounds -/
theorem zy_w2_s (he : zy_ev A e) {g : Nat → Nat → Nat → Nat → (Nat → Bool) → Bool} {F : Int32 → Int32 → Int32} {P : Int32 → Int32 → Prop} (hg : ∀ (l1 h1 l2 h2 : Nat) (x y : Int32) (k : Nat → Bool), l1 ≤ zx_bz x → zx_bz x ≤ h1 → h1 < 4294967296 → l2 ≤ zx_bz y → zx_bz y ≤ h2 → h2 < 4294967296 → g l1 h1 l2 h2 k = true → P x y ∧ ∃ c, zy_r A c (.int (F x y)) ∧ k c = true) {a b : Nat} {x y : Int32} (ha : zy_r A a (.int x)) (hb : zy_r A b (.int y)) {k : Nat → Bool} (hk : zy_w2 e a b g k = true) :
    P x y ∧ ∃ c : Nat, zy_r A c (.int (F x y)) ∧ k c = true := by
  unfold zy_w2 at hk
  obtain ⟨l1, h1, hk, p1, p2, p3⟩ := zy_iv_s he ha hk
  obtain ⟨l2, h2, hk, p4, p5, p6⟩ := zy_iv_s he hb hk
  exact hg _ _ _ _ _ _ _ p1 p2 p3 p4 p5 p6 hk
theorem zy_b2_s (he : zy_ev A e) {f : Nat → Nat → Nat} {g : Nat → Nat → Nat → Nat → (Nat → Bool) → Bool} {F : Int32 → Int32 → Int32} (hf : ∀ x y : Nat, x < 4294967296 → y < 4294967296 → F (nI x) (nI y) = nI (f x y) ∧ f x y < 4294967296)
    (hg : ∀ (l1 h1 l2 h2 : Nat) (x y : Int32) (k : Nat → Bool), l1 ≤ zx_bz x → zx_bz x ≤ h1 → h1 < 4294967296 → l2 ≤ zx_bz y → zx_bz y ≤ h2 → h2 < 4294967296 → g l1 h1 l2 h2 k = true → ∃ c, zy_r A c (.int (F x y)) ∧ k c = true) {a b : Nat} {x y : Int32} (ha : zy_r A a (.int x)) (hb : zy_r A b (.int y)) {k : Nat → Bool} (hk : zy_b2 f g e a b k = true) :
    ∃ c : Nat, zy_r A c (.int (F x y)) ∧ k c = true := by
  unfold zy_b2 at hk
  rcases zx_bif hk with ⟨q, hk⟩ | ⟨-, hk⟩
  · obtain ⟨q1, q2⟩ := zx_and_b q
    have q1 : a % 16 = 4 := zx_beq_t q1
    have q2 : b % 16 = 4 := zx_beq_t q2
    rw [zx_fn_eq] at hk
    obtain ⟨-, h1, h2⟩ := (zy_r4 q1).mp ha
    obtain ⟨-, h3, h4⟩ := (zy_r4 q2).mp hb
    cases h1
    cases h3
    obtain ⟨e1, e2⟩ := hf _ _ h2 h4
    refine ⟨_, ?_, hk⟩
    rw [e1]
    exact zy_r_c e2
  · exact (zy_w2_s (P := fun _ _ => True) he (fun l1 h1 l2 h2 x y k a1 a2 a3 a4 a5 a6 hk => ⟨trivial, hg l1 h1 l2 h2 x y k a1 a2 a3 a4 a5 a6 hk⟩) ha hb hk).2
theorem zy_wadd_s (l1 h1 l2 h2 : Nat) (x y : Int32) (k : Nat → Bool) (a1 : l1 ≤ zx_bz x) (a2 : zx_bz x ≤ h1) (_ : h1 < 4294967296) (b1 : l2 ≤ zx_bz y) (b2 : zx_bz y ≤ h2) (_ : h2 < 4294967296) (hk : zy_wadd l1 h1 l2 h2 k = true) : ∃ c, zy_r A c (.int (x + y)) ∧ k c = true := by
  unfold zy_wadd at hk
  rcases zx_bif hk with ⟨q, hk⟩ | ⟨-, hk⟩
  · obtain ⟨q1, q2⟩ := zx_and_b q
    have q1 : 2147483648 ≤ l1 + l2 := zx_ble_t q1
    have q2 : h1 + h2 < 6442450944 := zx_blt_t q2
    rw [zx_fn_eq] at hk
    have e1 := zx_bz_int x
    have e2 := zx_bz_int y
    have e3 := zx_bz_int (x + y)
    have e4 := zy_ti_add (x := x) (y := y) (by omega) (by omega)
    exact ⟨_, zy_r_7 (show l1 + l2 - 2147483648 ≤ _ by omega) (show _ ≤ h1 + h2 - 2147483648 by omega) (show h1 + h2 - 2147483648 < _ by omega), hk⟩
  · exact ⟨_, zy_r_un _, hk⟩
theorem zy_wsub_s (l1 h1 l2 h2 : Nat) (x y : Int32) (k : Nat → Bool) (a1 : l1 ≤ zx_bz x) (a2 : zx_bz x ≤ h1) (_ : h1 < 4294967296) (b1 : l2 ≤ zx_bz y) (b2 : zx_bz y ≤ h2) (_ : h2 < 4294967296) (hk : zy_wsub l1 h1 l2 h2 k = true) : ∃ c, zy_r A c (.int (x - y)) ∧ k c = true := by
  unfold zy_wsub at hk
  rcases zx_bif hk with ⟨q, hk⟩ | ⟨-, hk⟩
  · obtain ⟨q1, q2⟩ := zx_and_b q
    have q1 : h2 ≤ l1 + 2147483648 := zx_ble_t q1
    have q2 : h1 + 2147483648 < 4294967296 + l2 := zx_blt_t q2
    rw [zx_fn_eq] at hk
    have e1 := zx_bz_int x
    have e2 := zx_bz_int y
    have e3 := zx_bz_int (x - y)
    have e4 := zy_ti_sub (x := x) (y := y) (by omega) (by omega)
    exact ⟨_, zy_r_7 (show l1 + 2147483648 - h2 ≤ _ by omega) (show _ ≤ h1 + 2147483648 - l2 by omega) (show h1 + 2147483648 - l2 < _ by omega), hk⟩
  · exact ⟨_, zy_r_un _, hk⟩
theorem zy_wmul_s (l1 h1 l2 h2 : Nat) (x y : Int32) (k : Nat → Bool) (a1 : l1 ≤ zx_bz x) (a2 : zx_bz x ≤ h1) (_ : h1 < 4294967296) (b1 : l2 ≤ zx_bz y) (b2 : zx_bz y ≤ h2) (_ : h2 < 4294967296) (hk : zy_wmul l1 h1 l2 h2 k = true) : ∃ c, zy_r A c (.int (x * y)) ∧ k c = true := by
  unfold zy_wmul at hk
  rcases zx_bif hk with ⟨q, hk⟩ | ⟨-, hk⟩
  · obtain ⟨q1, q2⟩ := zx_and_b q
    obtain ⟨q2, q3⟩ := zx_and_b q2
    have q1 := zx_ble_t q1
    have q2 := zx_ble_t q2
    have q3 : (h1 - 2147483648) * (h2 - 2147483648) < 2147483648 := zx_blt_t q3
    rw [zx_fn_eq] at hk
    obtain ⟨n, n1, rfl, n3⟩ := zy_nn (x := x) (by omega)
    obtain ⟨m, m1, rfl, m3⟩ := zy_nn (x := y) (by omega)
    have e1 : n * m ≤ (h1 - 2147483648) * (h2 - 2147483648) := Nat.mul_le_mul (by omega) (by omega)
    have e2 : (l1 - 2147483648) * (l2 - 2147483648) ≤ n * m := Nat.mul_le_mul (by omega) (by omega)
    have e3 : nI n * nI m = nI (n * m) := by rw [pk_mul]
    refine ⟨_, ?_, hk⟩
    rw [e3]
    have e4 := zy_bz_n (n := n * m) (by omega)
    exact zy_r_7 (show 2147483648 + (l1 - 2147483648) * (l2 - 2147483648) ≤ _ by omega) (show _ ≤ 2147483648 + (h1 - 2147483648) * (h2 - 2147483648) by omega) (show 2147483648 + (h1 - 2147483648) * (h2 - 2147483648) < _ by omega)
  · exact ⟨_, zy_r_un _, hk⟩
theorem zy_and_l (x : Int32) {y : Int32} (h : 2147483648 ≤ zx_bz y) : 2147483648 ≤ zx_bz (x &&& y) ∧ zx_bz (x &&& y) ≤ zx_bz y := by
  obtain ⟨n, n1, rfl, n3⟩ := zy_nn h
  have := zx_and_le x n n1
  omega
theorem zy_wand_s (l1 h1 l2 h2 : Nat) (x y : Int32) (k : Nat → Bool) (a1 : l1 ≤ zx_bz x) (a2 : zx_bz x ≤ h1) (a3 : h1 < 4294967296) (b1 : l2 ≤ zx_bz y) (b2 : zx_bz y ≤ h2) (b3 : h2 < 4294967296) (hk : zy_wand l1 h1 l2 h2 k = true) : ∃ c, zy_r A c (.int (x &&& y)) ∧ k c = true := by
  unfold zy_wand at hk
  have hc : x &&& y = y &&& x := Int32.and_comm x y
  rcases zx_bif hk with ⟨q, hk⟩ | ⟨-, hk⟩
  · have q := zx_ble_t q
    have hx := zy_and_l y (y := x) (by omega)
    rw [← hc] at hx
    rcases zx_bif hk with ⟨q2, hk⟩ | ⟨-, hk⟩
    · have q2 := zx_ble_t q2
      have hy := zy_and_l x (y := y) (by omega)
      rw [zx_fn_eq, zy_mn_eq] at hk
      exact ⟨_, zy_r_7 (by omega) (show _ ≤ min h1 h2 by omega) (by omega), hk⟩
    · rw [zx_fn_eq] at hk
      exact ⟨_, zy_r_7 (by omega) (by omega) a3, hk⟩
  rcases zx_bif hk with ⟨q, hk⟩ | ⟨-, hk⟩
  · have q := zx_ble_t q
    have hy := zy_and_l x (y := y) (by omega)
    rw [zx_fn_eq] at hk
    exact ⟨_, zy_r_7 (by omega) (by omega) b3, hk⟩
  · exact ⟨_, zy_r_un _, hk⟩
theorem zy_wor_s (l1 h1 l2 h2 : Nat) (x y : Int32) (k : Nat → Bool) (a1 : l1 ≤ zx_bz x) (a2 : zx_bz x ≤ h1) (a3 : h1 < 4294967296) (b1 : l2 ≤ zx_bz y) (b2 : zx_bz y ≤ h2) (b3 : h2 < 4294967296) (hk : zy_wor l1 h1 l2 h2 k = true) : ∃ c, zy_r A c (.int (x ||| y)) ∧ k c = true := by
  unfold zy_wor at hk
  rcases zx_bif hk with ⟨q, hk⟩ | ⟨-, hk⟩
  · obtain ⟨q1, q2⟩ := zx_and_b q
    have q1 := zx_ble_t q1
    have q2 := zx_ble_t q2
    obtain ⟨n, n1, rfl, n3⟩ := zy_nn (x := x) (by omega)
    obtain ⟨m, m1, rfl, m3⟩ := zy_nn (x := y) (by omega)
    rw [zx_fn_eq, zy_mx_eq] at hk
    have eM : max (Nat.sub h1 2147483648) (Nat.sub h2 2147483648) = max (h1 - 2147483648) (h2 - 2147483648) := rfl
    rw [eM] at hk
    generalize hw : max (h1 - 2147483648) (h2 - 2147483648) = w at hk
    have hp : w < 2 ^ (Nat.log2 w + 1) := Nat.lt_log2_self
    have hp2 : 2 ^ (Nat.log2 w + 1) ≤ 2147483648 := by
      rcases Nat.eq_zero_or_pos w with z | z
      · rw [z]; decide
      · have h4 : Nat.log2 w < 31 := (Nat.log2_lt (by omega)).mpr (by omega)
        exact Nat.pow_le_pow_right (by decide) (by omega : Nat.log2 w + 1 ≤ 31)
    have h5 : n ||| m < 2 ^ (Nat.log2 w + 1) := Nat.or_lt_two_pow (by omega) (by omega)
    refine ⟨_, ?_, hk⟩
    rw [zx_or']
    have e4 := zy_bz_n (n := n ||| m) (by omega)
    exact zy_r_7 (by omega) (show _ ≤ 2147483648 + (2 ^ (Nat.log2 w + 1) - 1) by omega) (show 2147483648 + (2 ^ (Nat.log2 w + 1) - 1) < _ by omega)
  · exact ⟨_, zy_r_un _, hk⟩
theorem zy_wxor_s (l1 h1 l2 h2 : Nat) (x y : Int32) (k : Nat → Bool) (a1 : l1 ≤ zx_bz x) (a2 : zx_bz x ≤ h1) (_ : h1 < 4294967296) (b1 : l2 ≤ zx_bz y) (_ : zx_bz y ≤ h2) (_ : h2 < 4294967296) (hk : zy_wxor l1 h1 l2 h2 k = true) : ∃ c, zy_r A c (.int (x ^^^ y)) ∧ k c = true := by
  have hx := zx_bz_lt (x ^^^ y)
  unfold zy_wxor at hk
  rcases zx_bif hk with ⟨q, hk⟩ | ⟨-, hk⟩
  · have q := zx_ble_t q
    obtain ⟨m, m1, rfl, m3⟩ := zy_nn (x := y) (by omega)
    have hs := zy_xor_sign x m1
    rcases zx_bif hk with ⟨q2, hk⟩ | ⟨-, hk⟩
    · have q2 := zx_ble_t q2
      rw [zx_fn_eq] at hk
      exact ⟨_, zy_r_7 (hs.mpr (by omega)) (by omega) (by decide), hk⟩
    rcases zx_bif hk with ⟨q2, hk⟩ | ⟨-, hk⟩
    · have q2 := zx_blt_t q2
      rw [zx_fn_eq] at hk
      refine ⟨_, zy_r_7 (Nat.zero_le _) ?_ (by decide), hk⟩
      rcases Nat.lt_or_ge (zx_bz (x ^^^ nI m)) 2147483648 with z | z
      · omega
      · have := hs.mp z
        omega
    · exact ⟨_, zy_r_un _, hk⟩
  · exact ⟨_, zy_r_un _, hk⟩
theorem zy_wushr_s (l1 h1 l2 h2 : Nat) (x y : Int32) (k : Nat → Bool) (a1 : l1 ≤ zx_bz x) (a2 : zx_bz x ≤ h1) (a3 : h1 < 4294967296) (b1 : l2 ≤ zx_bz y) (b2 : zx_bz y ≤ h2) (_ : h2 < 4294967296) (hk : zy_wushr l1 h1 l2 h2 k = true) : ∃ c, zy_r A c (.int ((x.toUInt32 >>> (y.toUInt32 &&& Int32.toUInt32 31)).toInt32)) ∧ k c = true := by
  unfold zy_wushr at hk
  rcases zx_bif hk with ⟨q, hk⟩ | ⟨-, hk⟩
  · obtain ⟨q1, q2⟩ := zx_and_b q
    obtain ⟨q2, q3⟩ := zx_and_b q2
    obtain ⟨q3, q4⟩ := zx_and_b q3
    have q1 := zx_ble_t q1
    have q2 := zx_beq_t q2
    have q3 := zx_ble_t q3
    have q4 := zx_blt_t q4
    obtain ⟨n, n1, rfl, n3⟩ := zy_nn (x := x) (by omega)
    obtain ⟨m, m1, rfl, m3⟩ := zy_nn (x := y) (by omega)
    have em : l2 - 2147483648 = m := by omega
    have d1 : n / 2 ^ m ≤ n := Nat.div_le_self _ _
    have d2 : (l1 - 2147483648) / 2 ^ m ≤ n / 2 ^ m := Nat.div_le_div_right (by omega)
    have d3 : n / 2 ^ m ≤ (h1 - 2147483648) / 2 ^ m := Nat.div_le_div_right (by omega)
    have d4 : (h1 - 2147483648) / 2 ^ m ≤ h1 - 2147483648 := Nat.div_le_self _ _
    rw [zx_fn_eq] at hk
    have hk : k (zy_c7v (2147483648 + (l1 - 2147483648) / 2 ^ (l2 - 2147483648)) (2147483648 + (h1 - 2147483648) / 2 ^ (l2 - 2147483648))) = true := hk
    rw [em] at hk
    rw [zx_ushr' n m (by omega) (by omega), show zx_g8 n m = n / 2 ^ m from rfl]
    exact ⟨_, zy_r_7 (by rw [zy_bz_n (by omega)]; omega) (by rw [zy_bz_n (by omega)]; omega) (by omega), hk⟩
  · exact ⟨_, zy_r_un _, hk⟩
theorem zy_wun_s {F : Int32 → Int32 → Int32} (l1 h1 l2 h2 : Nat) (x y : Int32) (k : Nat → Bool) (hk : zy_wun l1 h1 l2 h2 k = true) : ∃ c, zy_r A c (.int (F x y)) ∧ k c = true := ⟨_, zy_r_un _, hk⟩
theorem zy_wshl_s (l1 h1 l2 h2 : Nat) (x y : Int32) (k : Nat → Bool) (a1 : l1 ≤ zx_bz x) (a2 : zx_bz x ≤ h1) (_ : h1 < 4294967296) (b1 : l2 ≤ zx_bz y) (b2 : zx_bz y ≤ h2) (_ : h2 < 4294967296) (hk : zy_wshl l1 h1 l2 h2 k = true) : ∃ c, zy_r A c (.int (x <<< (y &&& 31))) ∧ k c = true := by
  unfold zy_wshl at hk
  rcases zx_bif hk with ⟨q, hk⟩ | ⟨-, hk⟩
  · obtain ⟨q1, q2⟩ := zx_and_b q
    obtain ⟨q2, q3⟩ := zx_and_b q2
    obtain ⟨q3, q4⟩ := zx_and_b q3
    have q1 := zx_ble_t q1
    have q2 := zx_ble_t q2
    have q3 := zx_blt_t q3
    have q4 : (h1 - 2147483648) * 2 ^ (h2 - 2147483648) < 2147483648 := zx_blt_t q4
    rw [zx_fn_eq] at hk
    obtain ⟨n, n1, rfl, n3⟩ := zy_nn (x := x) (by omega)
    obtain ⟨m, m1, rfl, m3⟩ := zy_nn (x := y) (by omega)
    have e1 : n * 2 ^ m ≤ (h1 - 2147483648) * 2 ^ (h2 - 2147483648) := Nat.mul_le_mul (by omega) (Nat.pow_le_pow_right (by decide) (by omega))
    have e2 : (l1 - 2147483648) * 2 ^ (l2 - 2147483648) ≤ n * 2 ^ m := Nat.mul_le_mul (by omega) (Nat.pow_le_pow_right (by decide) (by omega))
    refine ⟨_, ?_, hk⟩
    rw [zx_shl' n m (by omega) (by omega), show zx_g6 n m = n * 2 ^ m % 4294967296 from rfl, Nat.mod_eq_of_lt (by omega)]
    have e4 := zy_bz_n (n := n * 2 ^ m) (by omega)
    exact zy_r_7 (show 2147483648 + (l1 - 2147483648) * 2 ^ (l2 - 2147483648) ≤ _ by omega) (show _ ≤ 2147483648 + (h1 - 2147483648) * 2 ^ (h2 - 2147483648) by omega) (show 2147483648 + (h1 - 2147483648) * 2 ^ (h2 - 2147483648) < _ by omega)
  · exact ⟨_, zy_r_un _, hk⟩
theorem zy_m31 (m : Nat) : nI m &&& 31 = nI (m % 32) &&& 31 := by
  rw [show (31 : Int32) = nI 31 from by decide, zx_and', zx_and', show (31 : Nat) = 2 ^ 5 - 1 from rfl, Nat.and_two_pow_sub_one_eq_mod, Nat.and_two_pow_sub_one_eq_mod, show (2 : Nat) ^ 5 = 32 from rfl, Nat.mod_mod]
theorem zy_wshr_s (l1 h1 l2 h2 : Nat) (x y : Int32) (k : Nat → Bool) (a1 : l1 ≤ zx_bz x) (a2 : zx_bz x ≤ h1) (a3 : h1 < 4294967296) (_ : l2 ≤ zx_bz y) (_ : zx_bz y ≤ h2) (_ : h2 < 4294967296) (hk : zy_wshr l1 h1 l2 h2 k = true) : ∃ c, zy_r A c (.int (x >>> (y &&& 31))) ∧ k c = true := by
  unfold zy_wshr at hk
  rcases zx_bif hk with ⟨q, hk⟩ | ⟨-, hk⟩
  · have q := zx_ble_t q
    rw [zx_fn_eq] at hk
    obtain ⟨n, n1, rfl, n3⟩ := zy_nn (x := x) (by omega)
    obtain ⟨m, m1, rfl⟩ := zy_any y
    refine ⟨_, ?_, hk⟩
    have hd : n / 2 ^ (m % 32) ≤ n := Nat.div_le_self _ _
    rw [zy_m31, zy_shr_n n1 (Nat.mod_lt _ (by decide))]
    generalize n / 2 ^ (m % 32) = z at hd ⊢
    have e4 := zy_bz_n (n := z) (by omega)
    exact zy_r_7 (by omega) (by omega) a3
  · exact ⟨_, zy_r_un _, hk⟩
theorem zy_sh_s (he : zy_ev A e) {f : Nat → Nat → Nat} {g : Nat → Nat → Nat → Nat → (Nat → Bool) → Bool} {F : Int32 → Int32 → Int32} (hf : ∀ x y : Nat, x < 4294967296 → y < 32 → F (nI x) (nI y) = nI (f x y) ∧ f x y < 4294967296)
    (hg : ∀ (l1 h1 l2 h2 : Nat) (x y : Int32) (k : Nat → Bool), l1 ≤ zx_bz x → zx_bz x ≤ h1 → h1 < 4294967296 → l2 ≤ zx_bz y → zx_bz y ≤ h2 → h2 < 4294967296 → g l1 h1 l2 h2 k = true → ∃ c, zy_r A c (.int (F x y)) ∧ k c = true) {a b : Nat} {x y : Int32} (ha : zy_r A a (.int x)) (hb : zy_r A b (.int y)) {k : Nat → Bool} (hk : zy_sh f g e a b k = true) :
    ∃ c : Nat, zy_r A c (.int (F x y)) ∧ k c = true := by
  unfold zy_sh at hk
  rcases zx_bif hk with ⟨q, hk⟩ | ⟨-, hk⟩
  · obtain ⟨q1, q2⟩ := zx_and_b q
    obtain ⟨q2, q3⟩ := zx_and_b q2
    have q1 : a % 16 = 4 := zx_beq_t q1
    have q2 : b % 16 = 4 := zx_beq_t q2
    have q3 : b / 16 < 32 := zx_blt_t q3
    rw [zx_fn_eq] at hk
    obtain ⟨-, h1, h2⟩ := (zy_r4 q1).mp ha
    obtain ⟨-, h3, h4⟩ := (zy_r4 q2).mp hb
    cases h1
    cases h3
    obtain ⟨e1, e2⟩ := hf _ _ h2 q3
    refine ⟨_, ?_, hk⟩
    rw [e1]
    exact zy_r_c e2
  · exact (zy_w2_s (P := fun _ _ => True) he (fun l1 h1 l2 h2 x y k a1 a2 a3 a4 a5 a6 hk => ⟨trivial, hg l1 h1 l2 h2 x y k a1 a2 a3 a4 a5 a6 hk⟩) ha hb hk).2
theorem zy_rem_neg {x : Int32} {m : Nat} (hx : x.toInt < 0) (h0 : 0 < m) (hm : m < 2147483648) : -(m : Int) < (x - x / nI m * nI m).toInt ∧ (x - x / nI m * nI m).toInt ≤ 0 := by
  have hmi : (nI m).toInt = (m : Int) := by rw [zx_nI_int m (by omega), if_pos hm]
  have hr := zx_rg x
  have hq0 : 0 ≤ (-x.toInt) / (m : Int) := Int.ediv_nonneg (by omega) (by omega)
  have hq1 : (-x.toInt) / (m : Int) ≤ -x.toInt := Int.ediv_le_self _ (by omega)
  have hd : (x / nI m).toInt = -((-x.toInt) / (m : Int)) := by
    have h := Int.neg_tdiv (-x.toInt) (m : Int)
    have h2 : (-x.toInt).tdiv (m : Int) = (-x.toInt) / (m : Int) := Int.tdiv_eq_ediv_of_nonneg (by omega)
    rw [Int.neg_neg, h2] at h
    rw [Int32.toInt_div, hmi, h]
    show Int.bmod _ 4294967296 = _
    simp only [Int.bmod_def]
    split <;> omega
  have e1 := Int.mul_ediv_add_emod (-x.toInt) (m : Int)
  have r1 : 0 ≤ (-x.toInt) % (m : Int) := Int.emod_nonneg _ (by omega)
  have r2 : (-x.toInt) % (m : Int) < (m : Int) := Int.emod_lt_of_pos _ (by omega)
  have hp0 : -((-x.toInt) / (m : Int)) * (m : Int) = -((m : Int) * ((-x.toInt) / (m : Int))) := by rw [Int.neg_mul, Int.mul_comm]
  generalize (m : Int) * ((-x.toInt) / (m : Int)) = w at e1 hp0
  have hp : (x / nI m * nI m).toInt = -w := by
    rw [zy_ti_mul (by rw [hd, hmi, hp0]; omega) (by rw [hd, hmi, hp0]; omega), hd, hmi, hp0]
  rw [zy_ti_sub (by rw [hp]; omega) (by rw [hp]; omega), hp]
  omega
theorem zy_nz_s {l h : Nat} {y : Int32} (hz : zy_nz l h = true) (b1 : l ≤ zx_bz y) (b2 : zx_bz y ≤ h) : ¬ y = 0 := by
  intro e
  subst e
  have h0 : zx_bz 0 = 2147483648 := by decide
  rw [h0] at b1 b2
  rcases (Bool.or_eq_true _ _).mp hz with q | q <;> have q := zx_blt_t q <;> omega
theorem zy_wdiv_s (l1 h1 l2 h2 : Nat) (x y : Int32) (k : Nat → Bool) (a1 : l1 ≤ zx_bz x) (a2 : zx_bz x ≤ h1) (a3 : h1 < 4294967296) (b1 : l2 ≤ zx_bz y) (b2 : zx_bz y ≤ h2) (b3 : h2 < 4294967296) (hk : zy_wdiv l1 h1 l2 h2 k = true) : ¬ y = 0 ∧ ∃ c, zy_r A c (.int (x / y)) ∧ k c = true := by
  unfold zy_wdiv at hk
  obtain ⟨hz, hk⟩ := zx_bft hk
  refine ⟨zy_nz_s hz b1 b2, ?_⟩
  rcases zx_bif hk with ⟨q, hk⟩ | ⟨-, hk⟩
  · obtain ⟨q1, q2⟩ := zx_and_b q
    obtain ⟨q2, q3⟩ := zx_and_b q2
    have q1 := zx_ble_t q1
    have q2 := zx_beq_t q2
    have q3 := zx_blt_t q3
    rw [zx_fn_eq] at hk
    obtain ⟨n, n1, rfl, n3⟩ := zy_nn (x := x) (by omega)
    obtain ⟨m, m1, rfl, m3⟩ := zy_nn (x := y) (by omega)
    have em : l2 - 2147483648 = m := by omega
    refine ⟨_, ?_, hk⟩
    have hd : n / m ≤ n := Nat.div_le_self _ _
    rw [pk_div n1 (by omega) m1]
    have e4 := zy_bz_n (n := n / m) (by omega)
    have e5 : (l1 - 2147483648) / m ≤ n / m := Nat.div_le_div_right (by omega)
    have e6 : n / m ≤ (h1 - 2147483648) / m := Nat.div_le_div_right (by omega)
    have e7 : (h1 - 2147483648) / m ≤ h1 - 2147483648 := Nat.div_le_self _ _
    exact zy_r_7 (show 2147483648 + (l1 - 2147483648) / (l2 - 2147483648) ≤ _ by rw [em]; omega) (show _ ≤ 2147483648 + (h1 - 2147483648) / (l2 - 2147483648) by rw [em]; omega) (show 2147483648 + (h1 - 2147483648) / (l2 - 2147483648) < _ by rw [em]; omega)
  · exact ⟨_, zy_r_un _, hk⟩
theorem zy_wrem_s (l1 h1 l2 h2 : Nat) (x y : Int32) (k : Nat → Bool) (a1 : l1 ≤ zx_bz x) (a2 : zx_bz x ≤ h1) (a3 : h1 < 4294967296) (b1 : l2 ≤ zx_bz y) (b2 : zx_bz y ≤ h2) (b3 : h2 < 4294967296) (hk : zy_wrem l1 h1 l2 h2 k = true) : ¬ y = 0 ∧ ∃ c, zy_r A c (.int (x - x / y * y)) ∧ k c = true := by
  unfold zy_wrem at hk
  obtain ⟨hz, hk⟩ := zx_bft hk
  refine ⟨zy_nz_s hz b1 b2, ?_⟩
  rcases zx_bif hk with ⟨q, hk⟩ | ⟨-, hk⟩
  · obtain ⟨q2, q3⟩ := zx_and_b q
    have q2 := zx_beq_t q2
    have q3 := zx_blt_t q3
    obtain ⟨m, m1, rfl, m3⟩ := zy_nn (x := y) (by omega)
    have ep : Nat.pred l2 = l2 - 1 := rfl
    have pos : ∀ {x : Int32}, 2147483648 ≤ zx_bz x → 2147483648 ≤ zx_bz (x - x / nI m * nI m) ∧ zx_bz (x - x / nI m * nI m) ≤ zx_bz x ∧ zx_bz (x - x / nI m * nI m) ≤ l2 - 1 := by
      intro x hx
      obtain ⟨n, n1, rfl, n3⟩ := zy_nn hx
      have r1 : n % m < m := Nat.mod_lt _ (by omega)
      have r2 : n % m ≤ n := Nat.mod_le _ _
      rw [pk_rem n1 (by omega) m1, zy_bz_n (by omega)]
      omega
    rcases zx_bif hk with ⟨q, hk⟩ | ⟨q, hk⟩
    · have q := zx_ble_t q
      rw [zx_fn_eq, zy_mn_eq, ep] at hk
      obtain ⟨p1, p2, p3⟩ := pos (x := x) (by omega)
      exact ⟨_, zy_r_7 p1 (show _ ≤ min h1 (l2 - 1) by omega) (by omega), hk⟩
    rcases zx_bif hk with ⟨q, hk⟩ | ⟨q, hk⟩
    · have q := zx_ble_t q
      rw [zx_fn_eq] at hk
      refine ⟨_, zy_r_7 (show 4294967297 - l2 ≤ _ from ?_) (show _ ≤ 2147483648 from ?_) (by omega), hk⟩
      · rcases Nat.lt_or_ge (zx_bz x) 2147483648 with z | z
        · have e1 := zx_bz_int x
          have e2 := zx_bz_int (x - x / nI m * nI m)
          have := zy_rem_neg (x := x) (m := m) (by omega) (by omega) m1
          omega
        · have := pos z
          omega
      · rcases Nat.lt_or_ge (zx_bz x) 2147483648 with z | z
        · have e1 := zx_bz_int x
          have e2 := zx_bz_int (x - x / nI m * nI m)
          have := zy_rem_neg (x := x) (m := m) (by omega) (by omega) m1
          omega
        · have := pos z
          omega
    · rw [zx_fn_eq, ep] at hk
      refine ⟨_, zy_r_7 (show 4294967297 - l2 ≤ _ from ?_) (show _ ≤ l2 - 1 from ?_) (by omega), hk⟩
      · rcases Nat.lt_or_ge (zx_bz x) 2147483648 with z | z
        · have e1 := zx_bz_int x
          have e2 := zx_bz_int (x - x / nI m * nI m)
          have := zy_rem_neg (x := x) (m := m) (by omega) (by omega) m1
          omega
        · have := pos z
          omega
      · rcases Nat.lt_or_ge (zx_bz x) 2147483648 with z | z
        · have e1 := zx_bz_int x
          have e2 := zx_bz_int (x - x / nI m * nI m)
          have := zy_rem_neg (x := x) (m := m) (by omega) (by omega) m1
          omega
        · have := pos z
          omega
  · exact ⟨_, zy_r_un _, hk⟩
theorem zy_dv_s (he : zy_ev A e) {f : Nat → Nat → Nat} {g : Nat → Nat → Nat → Nat → (Nat → Bool) → Bool} {F : Int32 → Int32 → Int32} (hf : ∀ x y : Nat, x < 2147483648 → 0 < y → y < 2147483648 → F (nI x) (nI y) = nI (f x y) ∧ f x y < 4294967296)
    (hg : ∀ (l1 h1 l2 h2 : Nat) (x y : Int32) (k : Nat → Bool), l1 ≤ zx_bz x → zx_bz x ≤ h1 → h1 < 4294967296 → l2 ≤ zx_bz y → zx_bz y ≤ h2 → h2 < 4294967296 → g l1 h1 l2 h2 k = true → ¬ y = 0 ∧ ∃ c, zy_r A c (.int (F x y)) ∧ k c = true) {a b : Nat} {x y : Int32} (ha : zy_r A a (.int x)) (hb : zy_r A b (.int y)) {k : Nat → Bool} (hk : zy_dv f g e a b k = true) :
    ¬ y = 0 ∧ ∃ c : Nat, zy_r A c (.int (F x y)) ∧ k c = true := by
  unfold zy_dv at hk
  rcases zx_bif hk with ⟨q, hk⟩ | ⟨-, hk⟩
  · obtain ⟨q1, q2⟩ := zx_and_b q
    obtain ⟨q2, q3⟩ := zx_and_b q2
    obtain ⟨q3, q4⟩ := zx_and_b q3
    obtain ⟨q4, q5⟩ := zx_and_b q4
    have q1 : a % 16 = 4 := zx_beq_t q1
    have q2 : b % 16 = 4 := zx_beq_t q2
    have q3 : a / 16 < 2147483648 := zx_blt_t q3
    have q4 : 0 < b / 16 := zx_blt_t q4
    have q5 : b / 16 < 2147483648 := zx_blt_t q5
    rw [zx_fn_eq] at hk
    obtain ⟨-, h1, -⟩ := (zy_r4 q1).mp ha
    obtain ⟨-, h3, -⟩ := (zy_r4 q2).mp hb
    cases h1
    cases h3
    obtain ⟨e1, e2⟩ := hf _ _ q3 q4 q5
    refine ⟨fun z => ?_, _, ?_, hk⟩
    · have h5 := zy_bz_n q5
      rw [z] at h5
      have h0 : zx_bz 0 = 2147483648 := by decide
      omega
    · rw [e1]
      exact zy_r_c e2
  · exact zy_w2_s (P := fun _ y => ¬ y = 0) he hg ha hb hk
end ZYA
