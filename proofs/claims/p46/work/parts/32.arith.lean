/-! what tests and sums say of the typed walker's ints -/
section ZYA
variable {A : zy_V} {e : Nat}
theorem zy_xor_sign (x : Int32) {c : Nat} (hc : c < 2147483648) : 2147483648 ≤ zx_bz (x ^^^ nI c) ↔ 2147483648 ≤ zx_bz x := by
  obtain ⟨n, hn, rfl⟩ := zy_any x
  have h1 : ∀ m, m < 2147483648 → m ^^^ c < 2147483648 := fun m hm => Nat.xor_lt_two_pow (n := 31) hm hc
  have h2 : n ^^^ c < 4294967296 := Nat.xor_lt_two_pow (n := 32) hn (by omega)
  rw [zx_xor', zx_bz_nI _ h2, zx_bz_nI _ hn, zx_bi_eq, zx_bi_eq]
  have h3 : n ^^^ c < 2147483648 ↔ n < 2147483648 := by
    constructor
    · intro h
      have := h1 _ h
      rw [Nat.xor_assoc, Nat.xor_self, Nat.xor_zero] at this
      exact this
    · exact h1 n
  omega
theorem zy_bit_ge {x : Int32} {c : Nat} (hc : c < 31) (hx : 2147483648 ≤ zx_bz x) (h : 2147483649 ≤ zx_bz (x >>> (nI c &&& 31) &&& 1)) : 2147483648 + 2 ^ c ≤ zx_bz x := by
  obtain ⟨n, n1, rfl, n3⟩ := zy_nn hx
  rw [zy_shr_n n1 (by omega), show (1 : Int32) = nI 1 from by decide, zx_and', Nat.and_one_is_mod] at h
  have hd : n / 2 ^ c < 2147483648 := Nat.lt_of_le_of_lt (Nat.div_le_self _ _) n1
  rw [zy_bz_n (by omega)] at h
  have h1 : 1 ≤ n / 2 ^ c := by
    rcases Nat.eq_zero_or_pos (n / 2 ^ c) with z | z
    · rw [z] at h; omega
    · exact z
  have h2 : 2 ^ c ≤ n := by
    have := (Nat.le_div_iff_mul_le (Nat.pow_pos (by decide : 0 < 2))).mp h1
    omega
  omega
theorem zy_rf_s (he : zy_ev A e) {v l u : Nat} {y : Int32} (h : zy_r A v (.int y)) (hl : l ≤ zx_bz y) (hu : zx_bz y ≤ u) {k : Nat → Bool} (hk : zy_rf e v l u k = true) : ∃ e', zy_ev A e' ∧ k e' = true := by
  unfold zy_rf at hk
  rcases zx_bif hk with ⟨q, hk⟩ | ⟨-, hk⟩
  · have q : v % 16 = 1 := zx_beq_t q
    obtain ⟨-, h1, ho, hn⟩ := (zy_r1 q).mp h
    cases h1
    obtain ⟨lo, up, hk, g1, g2, hup⟩ := zy_ivn_s (n := zy_k1 v) he hn hk
    have g1 : lo ≤ zx_bz (zy_nu A (v / 16 % 256)) := g1
    have g2 : zx_bz (zy_nu A (v / 16 % 256)) ≤ up := g2
    rw [zx_fn_eq] at hk
    have hb := zy_bz_off (zy_nu A (v / 16 % 256)) ho
    have hk1 : (bif Nat.beq (v / 16 / 256) 0 then zy_up e (v / 16 % 256) l u k else
      bif Nat.blt (v / 16 / 256) 2147483648 then (bif Nat.blt (Nat.add up (v / 16 / 256)) 4294967296 then (bif Nat.ble (v / 16 / 256) u then zy_up e (v / 16 % 256) (Nat.sub l (v / 16 / 256)) (Nat.sub u (v / 16 / 256)) k else true) else k e) else
      bif Nat.ble (Nat.sub 4294967296 (v / 16 / 256)) lo then zy_up e (v / 16 % 256) (Nat.add l (Nat.sub 4294967296 (v / 16 / 256))) (Nat.add u (Nat.sub 4294967296 (v / 16 / 256))) k else k e) = true := hk
    generalize v / 16 / 256 = o at hk1 ho hb hl hu
    have hlt := zx_bz_lt (zy_nu A (v / 16 % 256))
    rw [hb] at hl hu
    rcases zx_bif hk1 with ⟨q1, hk⟩ | ⟨q1, hk⟩
    · have q1 := zx_beq_t q1
      subst q1
      exact zy_up_s he hn (by omega) (by omega) hk
    rcases zx_bif hk with ⟨q2, hk⟩ | ⟨q2, hk⟩
    · have q2 := zx_blt_t q2
      rcases zx_bif hk with ⟨q3, hk⟩ | ⟨q3, hk⟩
      · have q3 : up + o < 4294967296 := zx_blt_t q3
        rcases zx_bif hk with ⟨q4, hk⟩ | ⟨q4, -⟩
        · exact zy_up_s he hn (show l - o ≤ _ by omega) (show _ ≤ u - o by omega) hk
        · have q4 := zx_ble_f q4
          omega
      · exact ⟨e, he, hk⟩
    · have q2 := zx_blt_f q2
      rcases zx_bif hk with ⟨q3, hk⟩ | ⟨q3, hk⟩
      · have q3 : 4294967296 - o ≤ lo := zx_ble_t q3
        exact zy_up_s he hn (show l + (4294967296 - o) ≤ _ by omega) (show _ ≤ u + (4294967296 - o) by omega) hk
      · exact ⟨e, he, hk⟩
  rcases zx_bif hk with ⟨q, hk⟩ | ⟨-, hk⟩
  · obtain ⟨q, q2⟩ := zx_and_b q
    have q : v % 16 = 14 := zx_beq_t q
    have q2 := zx_ble_t q2
    obtain ⟨-, h1, ho, hn⟩ := (zy_r14 q).mp h
    cases h1
    obtain ⟨lo, up, hk, g1, g2, hup⟩ := zy_ivn_s (n := zy_k1 v) he hn hk
    rcases zx_bif hk with ⟨q3, hk⟩ | ⟨q3, hk⟩
    · have q3 := zx_ble_t q3
      have := zy_bit_ge (x := zy_nu A (v / 16 % 256)) ho (Nat.le_trans q3 g1) (by omega)
      have hlt := zx_bz_lt (zy_nu A (v / 16 % 256))
      exact zy_up_s (n := zy_k1 v) he hn this (show zx_bz (zy_nu A (v / 16 % 256)) ≤ 4294967295 by omega) hk
    · exact ⟨e, he, hk⟩
  rcases zx_bif hk with ⟨q, hk⟩ | ⟨-, hk⟩
  · obtain ⟨q, q2⟩ := zx_and_b q
    have q : v % 16 = 15 := zx_beq_t q
    have q2 := zx_ble_t q2
    obtain ⟨-, h1, ho, hn⟩ := (zy_r15 q).mp h
    cases h1
    have := (zy_xor_sign (zy_nu A (v / 16 % 256)) ho).mp (by omega)
    have hlt := zx_bz_lt (zy_nu A (v / 16 % 256))
    exact zy_up_s (n := zy_k1 v) he hn this (show zx_bz (zy_nu A (v / 16 % 256)) ≤ 4294967295 by omega) hk
  rcases zx_bif hk with ⟨q, hk⟩ | ⟨-, hk⟩
  · obtain ⟨q, q2⟩ := zx_and_b q
    have q : v % 16 = 15 := zx_beq_t q
    have q2 := zx_blt_t q2
    obtain ⟨-, h1, ho, hn⟩ := (zy_r15 q).mp h
    cases h1
    have h3 : ¬ 2147483648 ≤ zx_bz (zy_nu A (v / 16 % 256)) := fun z => by
      have := (zy_xor_sign (zy_nu A (v / 16 % 256)) ho).mpr z
      omega
    exact zy_up_s (n := zy_k1 v) he hn (Nat.zero_le _) (show zx_bz (zy_nu A (v / 16 % 256)) ≤ 2147483647 by omega) hk
  · exact ⟨e, he, hk⟩
theorem zy_const {l : Nat} {y : Int32} (h : zx_bz y = l) : zy_r A (zx_c (zx_bi l)) (.int y) := by
  have := zy_r_c (A := A) (zx_bi_lt l)
  rw [← h, ← zx_of_bz y] at this
  rw [← h]
  exact this
/-- a value as it is known now -/
theorem zy_n1_s (he : zy_ev A e) {v : Nat} {x : Value} (h : zy_r A v x) {k : Nat → Bool} (hk : zy_n1 e v k = true) : ∃ v' : Nat, zy_r A v' x ∧ k v' = true := by
  unfold zy_n1 at hk
  rcases zx_bif hk with ⟨q, hk⟩ | ⟨-, hk⟩
  · have hi := zy_iv_i hk
    obtain ⟨y, rfl⟩ := zy_r_i hi h
    obtain ⟨l, u, hk, h1, h2, h3⟩ := zy_iv_s he h hk
    rcases zx_bif hk with ⟨q1, hk2⟩ | ⟨-, hk⟩
    · have q1 := zx_beq_t q1
      rw [zx_fn_eq] at hk2
      exact ⟨_, zy_const (by omega), hk2⟩
    · exact ⟨_, h, hk⟩
  · exact ⟨_, h, hk⟩
theorem zy_no_s (he : zy_ev A e) {v : Nat} {x : Value} (h : zy_r A v x) {k : Nat → Bool} (hk : zy_no e v k = true) : ∃ v' : Nat, zy_r A v' x ∧ k v' = true ∧ (zx_kc 61440 v' = false) := by
  have hc : ∀ n, zx_kc 61440 (zx_c n) = false := fun n => by
    unfold zx_kc
    rw [show Nat.mod (zx_c n) 16 = 4 from zx_c_kd n]
    rfl
  have h7 : ∀ l u, zx_kc 61440 (zy_c7v l u) = false := fun l u => by
    unfold zx_kc
    rw [show Nat.mod (zy_c7v l u) 16 = 7 from by show (zx_bd l u * 16 + 7) % 16 = 7; omega]
    rfl
  unfold zy_no at hk
  rcases zx_bif hk with ⟨q, hk⟩ | ⟨q, hk⟩
  · have hi := zy_iv_i hk
    obtain ⟨y, rfl⟩ := zy_r_i hi h
    obtain ⟨l, u, hk, h1, h2, h3⟩ := zy_iv_s he h hk
    rcases zx_bif hk with ⟨q1, hk2⟩ | ⟨-, hk⟩
    · have q1 := zx_beq_t q1
      rw [zx_fn_eq] at hk2
      exact ⟨_, zy_const (by omega), hk2, hc _⟩
    rcases zx_bif hk with ⟨q1, hk2⟩ | ⟨q1, hk⟩
    · rw [zx_fn_eq] at hk2
      exact ⟨_, zy_r_7 h1 h2 h3, hk2, h7 _ _⟩
    · exact ⟨_, h, hk, q1⟩
  · refine ⟨_, h, hk, ?_⟩
    have q9 : ∀ t, t < 16 → Nat.beq (Nat.mod (Nat.shiftRight 61570 t) 2) 1 = false → Nat.beq (Nat.mod (Nat.shiftRight 61440 t) 2) 1 = false := by decide
    exact q9 _ (Nat.mod_lt _ (by decide)) q
/-- two ints by their bounds -/
theorem zy_w2_s (he : zy_ev A e) {g : Nat → Nat → Nat → Nat → (Nat → Bool) → Bool} {F : Int32 → Int32 → Int32} {P : Int32 → Int32 → Prop} (hg : ∀ (l1 h1 l2 h2 : Nat) (x y : Int32) (k : Nat → Bool), l1 ≤ zx_bz x → zx_bz x ≤ h1 → h1 < 4294967296 → l2 ≤ zx_bz y → zx_bz y ≤ h2 → h2 < 4294967296 → g l1 h1 l2 h2 k = true → P x y ∧ ∃ c, zy_r A c (.int (F x y)) ∧ k c = true) {a b : Nat} {x y : Int32} (ha : zy_r A a (.int x)) (hb : zy_r A b (.int y)) {k : Nat → Bool} (hk : zy_w2 e a b g k = true) :
    P x y ∧ ∃ c : Nat, zy_r A c (.int (F x y)) ∧ k c = true := by
  unfold zy_w2 at hk
  obtain ⟨l1, h1, hk, p1, p2, p3⟩ := zy_iv_s he ha hk
  obtain ⟨l2, h2, hk, p4, p5, p6⟩ := zy_iv_s he hb hk
  exact hg _ _ _ _ _ _ _ p1 p2 p3 p4 p5 p6 hk
theorem zy_b2_s (he : zy_ev A e) {f : Nat → Nat → Nat} {g : Nat → Nat → Nat → Nat → (Nat → Bool) → Bool} {F : Int32 → Int32 → Int32} (hf : ∀ x y : Nat, x < 4294967296 → y < 4294967296 → F (nI x) (nI y) = nI (f x y) ∧ f x y < 4294967296)
    (hg : ∀ (l1 h1 l2 h2 : Nat) (x y : Int32) (k : Nat → Bool), l1 ≤ zx_bz x → zx_bz x ≤ h1 → h1 < 4294967296 → l2 ≤ zx_bz y → zx_bz y ≤ h2 → h2 < 4294967296 → g l1 h1 l2 h2 k = true → ∃ c, zy_r A c (.int (F x y)) ∧ k c = true) {a b : Nat} {x y : Int32} (ha : zy_r A a (.int x)) (hb : zy_r A b (.int y)) {k : Nat → Bool} (hk : zy_b2 f g e a b k = true) :
    ∃ c : Nat, zy_r A c (.int (F x y)) ∧ k c = true := by
  unfold zy_b2 at hk
  rcases zx_bif hk with ⟨q, hk⟩ | ⟨-, hk⟩
  · obtain ⟨q1, q2⟩ := zx_and_b q
    have q1 : a % 16 = 4 := zx_beq_t q1
    have q2 : b % 16 = 4 := zx_beq_t q2
    rw [zx_fn_eq] at hk
    obtain ⟨-, h1, h2⟩ := (zy_r4 q1).mp ha
    obtain ⟨-, h3, h4⟩ := (zy_r4 q2).mp hb
    cases h1
    cases h3
    obtain ⟨e1, e2⟩ := hf _ _ h2 h4
    refine ⟨_, ?_, hk⟩
    rw [e1]
    exact zy_r_c e2
  · exact (zy_w2_s (P := fun _ _ => True) he (fun l1 h1 l2 h2 x y k a1 a2 a3 a4 a5 a6 hk => ⟨trivial, hg l1 h1 l2 h2 x y k a1 a2 a3 a4 a5 a6 hk⟩) ha hb hk).2
theorem zy_wadd_s (l1 h1 l2 h2 : Nat) (x y : Int32) (k : Nat → Bool) (a1 : l1 ≤ zx_bz x) (a2 : zx_bz x ≤ h1) (_ : h1 < 4294967296) (b1 : l2 ≤ zx_bz y) (b2 : zx_bz y ≤ h2) (_ : h2 < 4294967296) (hk : zy_wadd l1 h1 l2 h2 k = true) : ∃ c, zy_r A c (.int (x + y)) ∧ k c = true := by
  unfold zy_wadd at hk
  rcases zx_bif hk with ⟨q, hk⟩ | ⟨-, hk⟩
  · obtain ⟨q1, q2⟩ := zx_and_b q
    have q1 : 2147483648 ≤ l1 + l2 := zx_ble_t q1
    have q2 : h1 + h2 < 6442450944 := zx_blt_t q2
    rw [zx_fn_eq] at hk
    have e1 := zx_bz_int x
    have e2 := zx_bz_int y
    have e3 := zx_bz_int (x + y)
    have e4 := zy_ti_add (x := x) (y := y) (by omega) (by omega)
    exact ⟨_, zy_r_7 (show l1 + l2 - 2147483648 ≤ _ by omega) (show _ ≤ h1 + h2 - 2147483648 by omega) (show h1 + h2 - 2147483648 < _ by omega), hk⟩
  · exact ⟨_, zy_r_un _, hk⟩
theorem zy_wsub_s (l1 h1 l2 h2 : Nat) (x y : Int32) (k : Nat → Bool) (a1 : l1 ≤ zx_bz x) (a2 : zx_bz x ≤ h1) (_ : h1 < 4294967296) (b1 : l2 ≤ zx_bz y) (b2 : zx_bz y ≤ h2) (_ : h2 < 4294967296) (hk : zy_wsub l1 h1 l2 h2 k = true) : ∃ c, zy_r A c (.int (x - y)) ∧ k c = true := by
  unfold zy_wsub at hk
  rcases zx_bif hk with ⟨q, hk⟩ | ⟨-, hk⟩
  · obtain ⟨q1, q2⟩ := zx_and_b q
    have q1 : h2 ≤ l1 + 2147483648 := zx_ble_t q1
    have q2 : h1 + 2147483648 < 4294967296 + l2 := zx_blt_t q2
    rw [zx_fn_eq] at hk
    have e1 := zx_bz_int x
    have e2 := zx_bz_int y
    have e3 := zx_bz_int (x - y)
    have e4 := zy_ti_sub (x := x) (y := y) (by omega) (by omega)
    exact ⟨_, zy_r_7 (show l1 + 2147483648 - h2 ≤ _ by omega) (show _ ≤ h1 + 2147483648 - l2 by omega) (show h1 + 2147483648 - l2 < _ by omega), hk⟩
  · exact ⟨_, zy_r_un _, hk⟩
theorem zy_wmul_s (l1 h1 l2 h2 : Nat) (x y : Int32) (k : Nat → Bool) (a1 : l1 ≤ zx_bz x) (a2 : zx_bz x ≤ h1) (_ : h1 < 4294967296) (b1 : l2 ≤ zx_bz y) (b2 : zx_bz y ≤ h2) (_ : h2 < 4294967296) (hk : zy_wmul l1 h1 l2 h2 k = true) : ∃ c, zy_r A c (.int (x * y)) ∧ k c = true := by
  unfold zy_wmul at hk
  rcases zx_bif hk with ⟨q, hk⟩ | ⟨-, hk⟩
  · obtain ⟨q1, q2⟩ := zx_and_b q
    obtain ⟨q2, q3⟩ := zx_and_b q2
    have q1 := zx_ble_t q1
    have q2 := zx_ble_t q2
    have q3 : (h1 - 2147483648) * (h2 - 2147483648) < 2147483648 := zx_blt_t q3
    rw [zx_fn_eq] at hk
    obtain ⟨n, n1, rfl, n3⟩ := zy_nn (x := x) (by omega)
    obtain ⟨m, m1, rfl, m3⟩ := zy_nn (x := y) (by omega)
    have e1 : n * m ≤ (h1 - 2147483648) * (h2 - 2147483648) := Nat.mul_le_mul (by omega) (by omega)
    have e2 : (l1 - 2147483648) * (l2 - 2147483648) ≤ n * m := Nat.mul_le_mul (by omega) (by omega)
    have e3 : nI n * nI m = nI (n * m) := by rw [pk_mul]
    refine ⟨_, ?_, hk⟩
    rw [e3]
    have e4 := zy_bz_n (n := n * m) (by omega)
    exact zy_r_7 (show 2147483648 + (l1 - 2147483648) * (l2 - 2147483648) ≤ _ by omega) (show _ ≤ 2147483648 + (h1 - 2147483648) * (h2 - 2147483648) by omega) (show 2147483648 + (h1 - 2147483648) * (h2 - 2147483648) < _ by omega)
  · exact ⟨_, zy_r_un _, hk⟩
theorem zy_and_l (x : Int32) {y : Int32} (h : 2147483648 ≤ zx_bz y) : 2147483648 ≤ zx_bz (x &&& y) ∧ zx_bz (x &&& y) ≤ zx_bz y := by
  obtain ⟨n, n1, rfl, n3⟩ := zy_nn h
  have := zx_and_le x n n1
  omega
theorem zy_wand_s (l1 h1 l2 h2 : Nat) (x y : Int32) (k : Nat → Bool) (a1 : l1 ≤ zx_bz x) (a2 : zx_bz x ≤ h1) (a3 : h1 < 4294967296) (b1 : l2 ≤ zx_bz y) (b2 : zx_bz y ≤ h2) (b3 : h2 < 4294967296) (hk : zy_wand l1 h1 l2 h2 k = true) : ∃ c, zy_r A c (.int (x &&& y)) ∧ k c = true := by
  unfold zy_wand at hk
  have hc : x &&& y = y &&& x := Int32.and_comm x y
  rcases zx_bif hk with ⟨q, hk⟩ | ⟨-, hk⟩
  · have q := zx_ble_t q
    have hx := zy_and_l y (y := x) (by omega)
    rw [← hc] at hx
    rcases zx_bif hk with ⟨q2, hk⟩ | ⟨-, hk⟩
    · have q2 := zx_ble_t q2
      have hy := zy_and_l x (y := y) (by omega)
      rw [zx_fn_eq, zy_mn_eq] at hk
      exact ⟨_, zy_r_7 (by omega) (show _ ≤ min h1 h2 by omega) (by omega), hk⟩
    · rw [zx_fn_eq] at hk
      exact ⟨_, zy_r_7 (by omega) (by omega) a3, hk⟩
  rcases zx_bif hk with ⟨q, hk⟩ | ⟨-, hk⟩
  · have q := zx_ble_t q
    have hy := zy_and_l x (y := y) (by omega)
    rw [zx_fn_eq] at hk
    exact ⟨_, zy_r_7 (by omega) (by omega) b3, hk⟩
  · exact ⟨_, zy_r_un _, hk⟩
theorem zy_wor_s (l1 h1 l2 h2 : Nat) (x y : Int32) (k : Nat → Bool) (a1 : l1 ≤ zx_bz x) (a2 : zx_bz x ≤ h1) (a3 : h1 < 4294967296) (b1 : l2 ≤ zx_bz y) (b2 : zx_bz y ≤ h2) (b3 : h2 < 4294967296) (hk : zy_wor l1 h1 l2 h2 k = true) : ∃ c, zy_r A c (.int (x ||| y)) ∧ k c = true := by
  unfold zy_wor at hk
  rcases zx_bif hk with ⟨q, hk⟩ | ⟨-, hk⟩
  · obtain ⟨q1, q2⟩ := zx_and_b q
    have q1 := zx_ble_t q1
    have q2 := zx_ble_t q2
    obtain ⟨n, n1, rfl, n3⟩ := zy_nn (x := x) (by omega)
    obtain ⟨m, m1, rfl, m3⟩ := zy_nn (x := y) (by omega)
    rw [zx_fn_eq, zy_mx_eq] at hk
    have eM : max (Nat.sub h1 2147483648) (Nat.sub h2 2147483648) = max (h1 - 2147483648) (h2 - 2147483648) := rfl
    rw [eM] at hk
    generalize hw : max (h1 - 2147483648) (h2 - 2147483648) = w at hk
    have hp : w < 2 ^ (Nat.log2 w + 1) := Nat.lt_log2_self
    have hp2 : 2 ^ (Nat.log2 w + 1) ≤ 2147483648 := by
      rcases Nat.eq_zero_or_pos w with z | z
      · rw [z]; decide
      · have h4 : Nat.log2 w < 31 := (Nat.log2_lt (by omega)).mpr (by omega)
        exact Nat.pow_le_pow_right (by decide) (by omega : Nat.log2 w + 1 ≤ 31)
    have h5 : n ||| m < 2 ^ (Nat.log2 w + 1) := Nat.or_lt_two_pow (by omega) (by omega)
    refine ⟨_, ?_, hk⟩
    rw [zx_or']
    have e4 := zy_bz_n (n := n ||| m) (by omega)
    exact zy_r_7 (by omega) (show _ ≤ 2147483648 + (2 ^ (Nat.log2 w + 1) - 1) by omega) (show 2147483648 + (2 ^ (Nat.log2 w + 1) - 1) < _ by omega)
  · exact ⟨_, zy_r_un _, hk⟩
theorem zy_wun_s {F : Int32 → Int32 → Int32} (l1 h1 l2 h2 : Nat) (x y : Int32) (k : Nat → Bool) (hk : zy_wun l1 h1 l2 h2 k = true) : ∃ c, zy_r A c (.int (F x y)) ∧ k c = true := ⟨_, zy_r_un _, hk⟩
theorem zy_wshl_s (l1 h1 l2 h2 : Nat) (x y : Int32) (k : Nat → Bool) (a1 : l1 ≤ zx_bz x) (a2 : zx_bz x ≤ h1) (_ : h1 < 4294967296) (b1 : l2 ≤ zx_bz y) (b2 : zx_bz y ≤ h2) (_ : h2 < 4294967296) (hk : zy_wshl l1 h1 l2 h2 k = true) : ∃ c, zy_r A c (.int (x <<< (y &&& 31))) ∧ k c = true := by
  unfold zy_wshl at hk
  rcases zx_bif hk with ⟨q, hk⟩ | ⟨-, hk⟩
  · obtain ⟨q1, q2⟩ := zx_and_b q
    obtain ⟨q2, q3⟩ := zx_and_b q2
    obtain ⟨q3, q4⟩ := zx_and_b q3
    have q1 := zx_ble_t q1
    have q2 := zx_ble_t q2
    have q3 := zx_blt_t q3
    have q4 : (h1 - 2147483648) * 2 ^ (h2 - 2147483648) < 2147483648 := zx_blt_t q4
    rw [zx_fn_eq] at hk
    obtain ⟨n, n1, rfl, n3⟩ := zy_nn (x := x) (by omega)
    obtain ⟨m, m1, rfl, m3⟩ := zy_nn (x := y) (by omega)
    have e1 : n * 2 ^ m ≤ (h1 - 2147483648) * 2 ^ (h2 - 2147483648) := Nat.mul_le_mul (by omega) (Nat.pow_le_pow_right (by decide) (by omega))
    have e2 : (l1 - 2147483648) * 2 ^ (l2 - 2147483648) ≤ n * 2 ^ m := Nat.mul_le_mul (by omega) (Nat.pow_le_pow_right (by decide) (by omega))
    refine ⟨_, ?_, hk⟩
    rw [zx_shl' n m (by omega) (by omega), show zx_g6 n m = n * 2 ^ m % 4294967296 from rfl, Nat.mod_eq_of_lt (by omega)]
    have e4 := zy_bz_n (n := n * 2 ^ m) (by omega)
    exact zy_r_7 (show 2147483648 + (l1 - 2147483648) * 2 ^ (l2 - 2147483648) ≤ _ by omega) (show _ ≤ 2147483648 + (h1 - 2147483648) * 2 ^ (h2 - 2147483648) by omega) (show 2147483648 + (h1 - 2147483648) * 2 ^ (h2 - 2147483648) < _ by omega)
  · exact ⟨_, zy_r_un _, hk⟩
theorem zy_m31 (m : Nat) : nI m &&& 31 = nI (m % 32) &&& 31 := by
  rw [show (31 : Int32) = nI 31 from by decide, zx_and', zx_and', show (31 : Nat) = 2 ^ 5 - 1 from rfl, Nat.and_two_pow_sub_one_eq_mod, Nat.and_two_pow_sub_one_eq_mod, show (2 : Nat) ^ 5 = 32 from rfl, Nat.mod_mod]
theorem zy_wshr_s (l1 h1 l2 h2 : Nat) (x y : Int32) (k : Nat → Bool) (a1 : l1 ≤ zx_bz x) (a2 : zx_bz x ≤ h1) (a3 : h1 < 4294967296) (_ : l2 ≤ zx_bz y) (_ : zx_bz y ≤ h2) (_ : h2 < 4294967296) (hk : zy_wshr l1 h1 l2 h2 k = true) : ∃ c, zy_r A c (.int (x >>> (y &&& 31))) ∧ k c = true := by
  unfold zy_wshr at hk
  rcases zx_bif hk with ⟨q, hk⟩ | ⟨-, hk⟩
  · have q := zx_ble_t q
    rw [zx_fn_eq] at hk
    obtain ⟨n, n1, rfl, n3⟩ := zy_nn (x := x) (by omega)
    obtain ⟨m, m1, rfl⟩ := zy_any y
    refine ⟨_, ?_, hk⟩
    have hd : n / 2 ^ (m % 32) ≤ n := Nat.div_le_self _ _
    rw [zy_m31, zy_shr_n n1 (Nat.mod_lt _ (by decide))]
    generalize n / 2 ^ (m % 32) = z at hd ⊢
    have e4 := zy_bz_n (n := z) (by omega)
    exact zy_r_7 (by omega) (by omega) a3
  · exact ⟨_, zy_r_un _, hk⟩
theorem zy_sh_s (he : zy_ev A e) {f : Nat → Nat → Nat} {g : Nat → Nat → Nat → Nat → (Nat → Bool) → Bool} {F : Int32 → Int32 → Int32} (hf : ∀ x y : Nat, x < 4294967296 → y < 32 → F (nI x) (nI y) = nI (f x y) ∧ f x y < 4294967296)
    (hg : ∀ (l1 h1 l2 h2 : Nat) (x y : Int32) (k : Nat → Bool), l1 ≤ zx_bz x → zx_bz x ≤ h1 → h1 < 4294967296 → l2 ≤ zx_bz y → zx_bz y ≤ h2 → h2 < 4294967296 → g l1 h1 l2 h2 k = true → ∃ c, zy_r A c (.int (F x y)) ∧ k c = true) {a b : Nat} {x y : Int32} (ha : zy_r A a (.int x)) (hb : zy_r A b (.int y)) {k : Nat → Bool} (hk : zy_sh f g e a b k = true) :
    ∃ c : Nat, zy_r A c (.int (F x y)) ∧ k c = true := by
  unfold zy_sh at hk
  rcases zx_bif hk with ⟨q, hk⟩ | ⟨-, hk⟩
  · obtain ⟨q1, q2⟩ := zx_and_b q
    obtain ⟨q2, q3⟩ := zx_and_b q2
    have q1 : a % 16 = 4 := zx_beq_t q1
    have q2 : b % 16 = 4 := zx_beq_t q2
    have q3 : b / 16 < 32 := zx_blt_t q3
    rw [zx_fn_eq] at hk
    obtain ⟨-, h1, h2⟩ := (zy_r4 q1).mp ha
    obtain ⟨-, h3, h4⟩ := (zy_r4 q2).mp hb
    cases h1
    cases h3
    obtain ⟨e1, e2⟩ := hf _ _ h2 q3
    refine ⟨_, ?_, hk⟩
    rw [e1]
    exact zy_r_c e2
  · exact (zy_w2_s (P := fun _ _ => True) he (fun l1 h1 l2 h2 x y k a1 a2 a3 a4 a5 a6 hk => ⟨trivial, hg l1 h1 l2 h2 x y k a1 a2 a3 a4 a5 a6 hk⟩) ha hb hk).2
theorem zy_rem_neg {x : Int32} {m : Nat} (hx : x.toInt < 0) (h0 : 0 < m) (hm : m < 2147483648) : -(m : Int) < (x - x / nI m * nI m).toInt ∧ (x - x / nI m * nI m).toInt ≤ 0 := by
  have hmi : (nI m).toInt = (m : Int) := by rw [zx_nI_int m (by omega), if_pos hm]
  have hr := zx_rg x
  have hq0 : 0 ≤ (-x.toInt) / (m : Int) := Int.ediv_nonneg (by omega) (by omega)
  have hq1 : (-x.toInt) / (m : Int) ≤ -x.toInt := Int.ediv_le_self _ (by omega)
  have hd : (x / nI m).toInt = -((-x.toInt) / (m : Int)) := by
    have h := Int.neg_tdiv (-x.toInt) (m : Int)
    have h2 : (-x.toInt).tdiv (m : Int) = (-x.toInt) / (m : Int) := Int.tdiv_eq_ediv_of_nonneg (by omega)
    rw [Int.neg_neg, h2] at h
    rw [Int32.toInt_div, hmi, h]
    show Int.bmod _ 4294967296 = _
    simp only [Int.bmod_def]
    split <;> omega
  have e1 := Int.mul_ediv_add_emod (-x.toInt) (m : Int)
  have r1 : 0 ≤ (-x.toInt) % (m : Int) := Int.emod_nonneg _ (by omega)
  have r2 : (-x.toInt) % (m : Int) < (m : Int) := Int.emod_lt_of_pos _ (by omega)
  have hp0 : -((-x.toInt) / (m : Int)) * (m : Int) = -((m : Int) * ((-x.toInt) / (m : Int))) := by rw [Int.neg_mul, Int.mul_comm]
  generalize (m : Int) * ((-x.toInt) / (m : Int)) = w at e1 hp0
  have hp : (x / nI m * nI m).toInt = -w := by
    rw [zy_ti_mul (by rw [hd, hmi, hp0]; omega) (by rw [hd, hmi, hp0]; omega), hd, hmi, hp0]
  rw [zy_ti_sub (by rw [hp]; omega) (by rw [hp]; omega), hp]
  omega
theorem zy_nz_s {l h : Nat} {y : Int32} (hz : zy_nz l h = true) (b1 : l ≤ zx_bz y) (b2 : zx_bz y ≤ h) : ¬ y = 0 := by
  intro e
  subst e
  have h0 : zx_bz 0 = 2147483648 := by decide
  rw [h0] at b1 b2
  rcases (Bool.or_eq_true _ _).mp hz with q | q <;> have q := zx_blt_t q <;> omega
theorem zy_wdiv_s (l1 h1 l2 h2 : Nat) (x y : Int32) (k : Nat → Bool) (a1 : l1 ≤ zx_bz x) (a2 : zx_bz x ≤ h1) (a3 : h1 < 4294967296) (b1 : l2 ≤ zx_bz y) (b2 : zx_bz y ≤ h2) (b3 : h2 < 4294967296) (hk : zy_wdiv l1 h1 l2 h2 k = true) : ¬ y = 0 ∧ ∃ c, zy_r A c (.int (x / y)) ∧ k c = true := by
  unfold zy_wdiv at hk
  obtain ⟨hz, hk⟩ := zx_bft hk
  refine ⟨zy_nz_s hz b1 b2, ?_⟩
  rcases zx_bif hk with ⟨q, hk⟩ | ⟨-, hk⟩
  · obtain ⟨q1, q2⟩ := zx_and_b q
    obtain ⟨q2, q3⟩ := zx_and_b q2
    have q1 := zx_ble_t q1
    have q2 := zx_beq_t q2
    have q3 := zx_blt_t q3
    rw [zx_fn_eq] at hk
    obtain ⟨n, n1, rfl, n3⟩ := zy_nn (x := x) (by omega)
    obtain ⟨m, m1, rfl, m3⟩ := zy_nn (x := y) (by omega)
    have em : l2 - 2147483648 = m := by omega
    refine ⟨_, ?_, hk⟩
    have hd : n / m ≤ n := Nat.div_le_self _ _
    rw [pk_div n1 (by omega) m1]
    have e4 := zy_bz_n (n := n / m) (by omega)
    have e5 : (l1 - 2147483648) / m ≤ n / m := Nat.div_le_div_right (by omega)
    have e6 : n / m ≤ (h1 - 2147483648) / m := Nat.div_le_div_right (by omega)
    have e7 : (h1 - 2147483648) / m ≤ h1 - 2147483648 := Nat.div_le_self _ _
    exact zy_r_7 (show 2147483648 + (l1 - 2147483648) / (l2 - 2147483648) ≤ _ by rw [em]; omega) (show _ ≤ 2147483648 + (h1 - 2147483648) / (l2 - 2147483648) by rw [em]; omega) (show 2147483648 + (h1 - 2147483648) / (l2 - 2147483648) < _ by rw [em]; omega)
  · exact ⟨_, zy_r_un _, hk⟩
theorem zy_wrem_s (l1 h1 l2 h2 : Nat) (x y : Int32) (k : Nat → Bool) (a1 : l1 ≤ zx_bz x) (a2 : zx_bz x ≤ h1) (a3 : h1 < 4294967296) (b1 : l2 ≤ zx_bz y) (b2 : zx_bz y ≤ h2) (b3 : h2 < 4294967296) (hk : zy_wrem l1 h1 l2 h2 k = true) : ¬ y = 0 ∧ ∃ c, zy_r A c (.int (x - x / y * y)) ∧ k c = true := by
  unfold zy_wrem at hk
  obtain ⟨hz, hk⟩ := zx_bft hk
  refine ⟨zy_nz_s hz b1 b2, ?_⟩
  rcases zx_bif hk with ⟨q, hk⟩ | ⟨-, hk⟩
  · obtain ⟨q2, q3⟩ := zx_and_b q
    have q2 := zx_beq_t q2
    have q3 := zx_blt_t q3
    obtain ⟨m, m1, rfl, m3⟩ := zy_nn (x := y) (by omega)
    have ep : Nat.pred l2 = l2 - 1 := rfl
    have pos : ∀ {x : Int32}, 2147483648 ≤ zx_bz x → 2147483648 ≤ zx_bz (x - x / nI m * nI m) ∧ zx_bz (x - x / nI m * nI m) ≤ zx_bz x ∧ zx_bz (x - x / nI m * nI m) ≤ l2 - 1 := by
      intro x hx
      obtain ⟨n, n1, rfl, n3⟩ := zy_nn hx
      have r1 : n % m < m := Nat.mod_lt _ (by omega)
      have r2 : n % m ≤ n := Nat.mod_le _ _
      rw [pk_rem n1 (by omega) m1, zy_bz_n (by omega)]
      omega
    rcases zx_bif hk with ⟨q, hk⟩ | ⟨q, hk⟩
    · have q := zx_ble_t q
      rw [zx_fn_eq, zy_mn_eq, ep] at hk
      obtain ⟨p1, p2, p3⟩ := pos (x := x) (by omega)
      exact ⟨_, zy_r_7 p1 (show _ ≤ min h1 (l2 - 1) by omega) (by omega), hk⟩
    · rw [zx_fn_eq, ep] at hk
      refine ⟨_, zy_r_7 (show 4294967297 - l2 ≤ _ from ?_) (show _ ≤ l2 - 1 from ?_) (by omega), hk⟩
      · rcases Nat.lt_or_ge (zx_bz x) 2147483648 with z | z
        · have e1 := zx_bz_int x
          have e2 := zx_bz_int (x - x / nI m * nI m)
          have := zy_rem_neg (x := x) (m := m) (by omega) (by omega) m1
          omega
        · have := pos z
          omega
      · rcases Nat.lt_or_ge (zx_bz x) 2147483648 with z | z
        · have e1 := zx_bz_int x
          have e2 := zx_bz_int (x - x / nI m * nI m)
          have := zy_rem_neg (x := x) (m := m) (by omega) (by omega) m1
          omega
        · have := pos z
          omega
  · exact ⟨_, zy_r_un _, hk⟩
theorem zy_dv_s (he : zy_ev A e) {f : Nat → Nat → Nat} {g : Nat → Nat → Nat → Nat → (Nat → Bool) → Bool} {F : Int32 → Int32 → Int32} (hf : ∀ x y : Nat, x < 2147483648 → 0 < y → y < 2147483648 → F (nI x) (nI y) = nI (f x y) ∧ f x y < 4294967296)
    (hg : ∀ (l1 h1 l2 h2 : Nat) (x y : Int32) (k : Nat → Bool), l1 ≤ zx_bz x → zx_bz x ≤ h1 → h1 < 4294967296 → l2 ≤ zx_bz y → zx_bz y ≤ h2 → h2 < 4294967296 → g l1 h1 l2 h2 k = true → ¬ y = 0 ∧ ∃ c, zy_r A c (.int (F x y)) ∧ k c = true) {a b : Nat} {x y : Int32} (ha : zy_r A a (.int x)) (hb : zy_r A b (.int y)) {k : Nat → Bool} (hk : zy_dv f g e a b k = true) :
    ¬ y = 0 ∧ ∃ c : Nat, zy_r A c (.int (F x y)) ∧ k c = true := by
  unfold zy_dv at hk
  rcases zx_bif hk with ⟨q, hk⟩ | ⟨-, hk⟩
  · obtain ⟨q1, q2⟩ := zx_and_b q
    obtain ⟨q2, q3⟩ := zx_and_b q2
    obtain ⟨q3, q4⟩ := zx_and_b q3
    obtain ⟨q4, q5⟩ := zx_and_b q4
    have q1 : a % 16 = 4 := zx_beq_t q1
    have q2 : b % 16 = 4 := zx_beq_t q2
    have q3 : a / 16 < 2147483648 := zx_blt_t q3
    have q4 : 0 < b / 16 := zx_blt_t q4
    have q5 : b / 16 < 2147483648 := zx_blt_t q5
    rw [zx_fn_eq] at hk
    obtain ⟨-, h1, -⟩ := (zy_r4 q1).mp ha
    obtain ⟨-, h3, -⟩ := (zy_r4 q2).mp hb
    cases h1
    cases h3
    obtain ⟨e1, e2⟩ := hf _ _ q3 q4 q5
    refine ⟨fun z => ?_, _, ?_, hk⟩
    · have h5 := zy_bz_n q5
      rw [z] at h5
      have h0 : zx_bz 0 = 2147483648 := by decide
      omega
    · rw [e1]
      exact zy_r_c e2
  · exact zy_w2_s (P := fun _ y => ¬ y = 0) he hg ha hb hk
end ZYA
