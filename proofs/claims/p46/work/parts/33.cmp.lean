/-! sums, tests and places -/
section ZYB
variable {A : zy_V} {e : Nat}
theorem zy_r_nm {n o : Nat} {x : Int32} (hn : zy_nb A (n % 256)) (ho : o < 4294967296) (hx : x = zy_nu A (n % 256) + nI o) : zy_r A (zy_nm (n % 256) o) (.int x) := by
  have e0 : zy_nm (n % 256) o = (n % 256 + 256 * o) * 16 + 1 := rfl
  have e1 : ((n % 256 + 256 * o) * 16 + 1) / 16 = n % 256 + 256 * o := by omega
  have e2 : (n % 256 + 256 * o) % 256 = n % 256 := by omega
  have e3 : (n % 256 + 256 * o) / 256 = o := by omega
  rw [e0, zy_r1 (by omega), e1, e2, e3]
  exact ⟨by omega, by rw [hx], ho, hn⟩
theorem zy_r_ch {n s c : Nat} {x : Int32} (hn : zy_nb A (n % 256)) (hs : s < 16) (hc : c < 4294967296) (hx : x = zy_sf s c (zy_nu A (n % 256))) : zy_r A (zy_ch (n % 256) s c) (.int x) := by
  have e0 : zy_ch (n % 256) s c = (n % 256 + 256 * (s + 16 * c)) * 16 + 11 := rfl
  have e1 : ((n % 256 + 256 * (s + 16 * c)) * 16 + 11) / 16 = n % 256 + 256 * (s + 16 * c) := by omega
  have e2 : (n % 256 + 256 * (s + 16 * c)) % 256 = n % 256 := by omega
  have e3 : (n % 256 + 256 * (s + 16 * c)) / 256 = s + 16 * c := by omega
  have e4 : (s + 16 * c) % 16 = s := by omega
  have e5 : (s + 16 * c) / 16 = c := by omega
  rw [e0, zy_r11 (by omega), e1, e2, e3, e4, e5]
  exact ⟨by omega, by rw [hx], hc, hn⟩
theorem zy_ad_s (he : zy_ev A e) {a b : Nat} {x y : Int32} (ha : zy_r A a (.int x)) (hb : zy_r A b (.int y)) {k : Nat → Bool} (hk : zy_ad e a b k = true) : ∃ c : Nat, zy_r A c (.int (x + y)) ∧ k c = true := by
  unfold zy_ad at hk
  have key : ∀ o c : Nat, nI o + nI c = nI (zx_f0 o c) ∧ zx_f0 o c < 4294967296 := fun o c => ⟨by show nI o + nI c = nI ((o + c) % 4294967296); rw [nI_add, zx_md], Nat.mod_lt _ (by decide)⟩
  rcases zx_bif hk with ⟨q, hk⟩ | ⟨-, hk⟩
  · obtain ⟨q1, q2⟩ := zx_and_b q
    have q1 : a % 16 = 1 := zx_beq_t q1
    have q2 : b % 16 = 4 := zx_beq_t q2
    rw [zx_fn_eq] at hk
    obtain ⟨-, h1, ho, hn⟩ := (zy_r1 q1).mp ha
    obtain ⟨-, h3, -⟩ := (zy_r4 q2).mp hb
    cases h1
    cases h3
    obtain ⟨k1, k2⟩ := key (a / 16 / 256) (b / 16)
    exact ⟨_, zy_r_nm (n := a / 16) hn k2 (by show _ = zy_nu A (a / 16 % 256) + nI (zx_f0 (a / 16 / 256) (b / 16)); rw [← k1, Int32.add_assoc]), hk⟩
  rcases zx_bif hk with ⟨q, hk⟩ | ⟨-, hk⟩
  · obtain ⟨q1, q2⟩ := zx_and_b q
    have q1 : b % 16 = 1 := zx_beq_t q1
    have q2 : a % 16 = 4 := zx_beq_t q2
    rw [zx_fn_eq] at hk
    obtain ⟨-, h1, ho, hn⟩ := (zy_r1 q1).mp hb
    obtain ⟨-, h3, -⟩ := (zy_r4 q2).mp ha
    cases h1
    cases h3
    obtain ⟨k1, k2⟩ := key (b / 16 / 256) (a / 16)
    exact ⟨_, zy_r_nm (n := b / 16) hn k2 (by show _ = zy_nu A (b / 16 % 256) + nI (zx_f0 (b / 16 / 256) (a / 16)); rw [← k1, Int32.add_comm, Int32.add_assoc]), hk⟩
  rcases zx_bif hk with ⟨q, hk⟩ | ⟨-, hk⟩
  · obtain ⟨q1, q2⟩ := zx_and_b q
    obtain ⟨q2, q3⟩ := zx_and_b q2
    obtain ⟨q3, q4⟩ := zx_and_b q3
    have q1 : a % 16 = 11 := zx_beq_t q1
    have q2 : a / 16 / 256 % 16 = 0 := zx_beq_t q2
    have q3 : b % 16 = 4 := zx_beq_t q3
    rw [zx_fn_eq] at hk
    obtain ⟨-, h1, ho, hn⟩ := (zy_r11 q1).mp ha
    obtain ⟨-, h3, -⟩ := (zy_r4 q3).mp hb
    cases h1
    cases h3
    obtain ⟨k1, k2⟩ := key (a / 16 / 256 / 16) (b / 16)
    refine ⟨_, zy_r_ch (s := 0) hn (by decide) k2 ?_, hk⟩
    rw [q2]
    show nI 16 * zy_nu A (a / 16 % 256) + nI (a / 16 / 256 / 16) + nI (b / 16) = nI 16 * zy_nu A (a / 16 % 256) + nI (zx_f0 (a / 16 / 256 / 16) (b / 16))
    rw [← k1, Int32.add_assoc]
  · exact zy_b2_s (F := fun x y => x + y) he (fun x y _ _ => key x y) zy_wadd_s ha hb hk
theorem zy_sb_s (he : zy_ev A e) {a b : Nat} {x y : Int32} (ha : zy_r A a (.int x)) (hb : zy_r A b (.int y)) {k : Nat → Bool} (hk : zy_sb e a b k = true) : ∃ c : Nat, zy_r A c (.int (x - y)) ∧ k c = true := by
  unfold zy_sb at hk
  rcases zx_bif hk with ⟨q, hk⟩ | ⟨-, hk⟩
  · obtain ⟨q1, q2⟩ := zx_and_b q
    have q1 : a % 16 = 1 := zx_beq_t q1
    have q2 : b % 16 = 4 := zx_beq_t q2
    rw [zx_fn_eq] at hk
    obtain ⟨-, h1, ho, hn⟩ := (zy_r1 q1).mp ha
    obtain ⟨-, h3, h4⟩ := (zy_r4 q2).mp hb
    cases h1
    cases h3
    have k1 := zx_sub' (a / 16 / 256) (b / 16) h4
    exact ⟨_, zy_r_nm (n := a / 16) hn (Nat.mod_lt _ (by decide)) (by show _ = zy_nu A (a / 16 % 256) + nI (zx_f1 (a / 16 / 256) (b / 16)); rw [← k1, Int32.sub_eq_add_neg, Int32.sub_eq_add_neg, Int32.add_assoc]), hk⟩
  · exact zy_b2_s (F := fun x y => x - y) he (fun x y _ hy => ⟨zx_sub' x y hy, Nat.mod_lt _ (by decide)⟩) zy_wsub_s ha hb hk
theorem zy_nm_r {b n : Nat} {y : Int32} (hb : zy_r A b (.int y)) (h : b = zy_nm (zy_k1 n) 4294967295) : y = zy_nu A (n / 16 % 256) + nI 4294967295 := by
  have e0 : b = (n / 16 % 256 + 256 * 4294967295) * 16 + 1 := h
  have e1 : b / 16 = n / 16 % 256 + 256 * 4294967295 := by omega
  have e2 : b / 16 % 256 = n / 16 % 256 := by omega
  have e3 : b / 16 / 256 = 4294967295 := by omega
  obtain ⟨-, h1, -⟩ := (zy_r1 (by omega)).mp hb
  rw [e2, e3] at h1
  injection h1
theorem zy_ml_s (he : zy_ev A e) {a b : Nat} {x y : Int32} (ha : zy_r A a (.int x)) (hb : zy_r A b (.int y)) {k : Nat → Bool} (hk : zy_ml e a b k = true) : ∃ c : Nat, zy_r A c (.int (x * y)) ∧ k c = true := by
  unfold zy_ml at hk
  rcases zx_bif hk with ⟨q, hk⟩ | ⟨-, hk⟩
  · obtain ⟨q1, q2⟩ := zx_and_b q
    obtain ⟨q2, q3⟩ := zx_and_b q2
    have q1 := zx_beq_t q1
    have q2 : b % 16 = 1 := zx_beq_t q2
    have q3 : b / 16 / 256 = 0 := zx_beq_t q3
    rw [q1] at ha
    rw [zx_fn_eq] at hk
    obtain ⟨-, h3, -⟩ := (zy_r4 (by decide)).mp ha
    obtain ⟨-, h1, ho, hn⟩ := (zy_r1 q2).mp hb
    cases h1
    have h3 : x = nI 16 := by injection h3
    rw [h3]
    refine ⟨_, zy_r_ch (s := 0) (c := 0) (n := b / 16) hn (by decide) (by decide) ?_, hk⟩
    rw [q3]
    show nI 16 * (zy_nu A (b / 16 % 256) + nI 0) = nI 16 * zy_nu A (b / 16 % 256) + nI 0
    rw [nI_0, Int32.add_zero, Int32.add_zero]
  · exact zy_b2_s (F := fun x y => x * y) he (fun x y _ _ => ⟨by show nI x * nI y = nI ((x * y) % 4294967296); rw [pk_mul, zx_md], Nat.mod_lt _ (by decide)⟩) zy_wmul_s ha hb hk
theorem zy_rm_s (he : zy_ev A e) {a b : Nat} {x y : Int32} (ha : zy_r A a (.int x)) (hb : zy_r A b (.int y)) {k : Nat → Bool} (hk : zy_rm e a b k = true) : ¬ y = 0 ∧ ∃ c : Nat, zy_r A c (.int (x - x / y * y)) ∧ k c = true := by
  have gen : zy_dv Nat.mod zy_wrem e a b k = true → ¬ y = 0 ∧ ∃ c : Nat, zy_r A c (.int (x - x / y * y)) ∧ k c = true := fun hk =>
    zy_dv_s (F := fun x y => x - x / y * y) he (fun x y hx h0 hy => ⟨pk_rem hx h0 hy, Nat.lt_of_le_of_lt (Nat.mod_le _ _) (by omega)⟩) zy_wrem_s ha hb hk
  unfold zy_rm at hk
  rcases zx_bif hk with ⟨q, hk⟩ | ⟨-, hk⟩
  · obtain ⟨q1, q2⟩ := zx_and_b q
    obtain ⟨q2, q3⟩ := zx_and_b q2
    obtain ⟨q3, q4⟩ := zx_and_b q3
    obtain ⟨q4, q5⟩ := zx_and_b q4
    have q1 : a % 16 = 1 := zx_beq_t q1
    have q2 : a / 16 / 256 = 0 := zx_beq_t q2
    have q3 : b % 16 = 4 := zx_beq_t q3
    have q4 : 0 < b / 16 := zx_blt_t q4
    have q5 : b / 16 < 2147483648 := zx_blt_t q5
    obtain ⟨l, u, hk, g1, g2, g3⟩ := zy_iv_s he ha hk
    rcases zx_bif hk with ⟨-, hk⟩ | ⟨-, hk⟩
    · rw [zx_fn_eq] at hk
      obtain ⟨-, h1, ho, hn⟩ := (zy_r1 q1).mp ha
      obtain ⟨-, h3, h4⟩ := (zy_r4 q3).mp hb
      cases h1
      cases h3
      refine ⟨fun z => ?_, _, zy_r_ch (s := 5) (n := a / 16) hn (by decide) h4 ?_, hk⟩
      · have := zy_bz_n q5
        rw [z] at this
        have h0 : zx_bz 0 = 2147483648 := by decide +kernel
        omega
      · rw [q2, nI_0, Int32.add_zero]
        rfl
    · exact gen hk
  · exact gen hk
theorem zy_an_s (he : zy_ev A e) {a b : Nat} {x y : Int32} (ha : zy_r A a (.int x)) (hb : zy_r A b (.int y)) {k : Nat → Bool} (hk : zy_an e a b k = true) : ∃ c : Nat, zy_r A c (.int (x &&& y)) ∧ k c = true := by
  unfold zy_an at hk
  have hm : nI (68719476724 / 16) = -1 := by decide +kernel
  rcases zx_bif hk with ⟨q, hk2⟩ | ⟨-, hk⟩
  · obtain ⟨q1, q2⟩ := zx_and_b q
    have q1 : a % 16 = 13 := zx_beq_t q1
    have q2 := zx_beq_t q2
    subst q2
    obtain ⟨h0, h1, ho, hn⟩ := (zy_r13 q1).mp ha
    obtain ⟨-, h3, -⟩ := (zy_r4 (by decide)).mp hb
    cases h1
    have h3 : y = 1 := by
      injection h3 with h3
    subst h3
    have e1 : (a + 1) / 16 = a / 16 := by omega
    refine ⟨_, ?_, hk2⟩
    show zy_r A (a + 1) _
    rw [zy_r14 (by omega), e1]
    exact ⟨by omega, rfl, ho, hn⟩
  rcases zx_bif hk with ⟨q, hk⟩ | ⟨-, hk⟩
  · obtain ⟨q1, q2⟩ := zx_and_b q
    obtain ⟨q2, q3⟩ := zx_and_b q2
    obtain ⟨q3, q4⟩ := zx_and_b q3
    have q1 : a % 16 = 1 := zx_beq_t q1
    have q2 : a / 16 / 256 = 0 := zx_beq_t q2
    have q3 : b % 16 = 4 := zx_beq_t q3
    rw [zx_fn_eq] at hk
    obtain ⟨-, h1, ho, hn⟩ := (zy_r1 q1).mp ha
    obtain ⟨-, h3, h4⟩ := (zy_r4 q3).mp hb
    cases h1
    cases h3
    refine ⟨_, zy_r_ch (s := 2) (n := a / 16) hn (by decide) h4 ?_, hk⟩
    rw [q2, nI_0, Int32.add_zero]
    rfl
  rcases zx_bif hk with ⟨q, hk⟩ | ⟨-, hk⟩
  · obtain ⟨q1, q2⟩ := zx_and_b q
    obtain ⟨q2, q3⟩ := zx_and_b q2
    have q1 : a % 16 = 1 := zx_beq_t q1
    have q2 : a / 16 / 256 = 0 := zx_beq_t q2
    have q3 := zx_beq_t q3
    rw [zx_fn_eq] at hk
    obtain ⟨-, h1, ho, hn⟩ := (zy_r1 q1).mp ha
    cases h1
    have h5 := zy_nm_r hb q3
    refine ⟨_, zy_r_ch (s := 1) (c := 0) (n := a / 16) hn (by decide) (by decide) ?_, hk⟩
    rw [q2, nI_0, Int32.add_zero, h5]
    rfl
  rcases zx_bif hk with ⟨q, hk⟩ | ⟨-, hk⟩
  · obtain ⟨q1, q2⟩ := zx_and_b q
    obtain ⟨q2, q3⟩ := zx_and_b q2
    have q1 : a % 16 = 11 := zx_beq_t q1
    have q2 : a / 16 / 256 % 16 = 3 := zx_beq_t q2
    have q3 := zx_beq_t q3
    rw [zx_fn_eq] at hk
    obtain ⟨-, h1, ho, hn⟩ := (zy_r11 q1).mp ha
    cases h1
    have h5 := zy_nm_r hb q3
    refine ⟨_, zy_r_ch (s := 4) (c := 0) (n := a / 16) hn (by decide) (by decide) ?_, hk⟩
    rw [q2, h5]
    rfl
  rcases zx_bif hk with ⟨q, hk2⟩ | ⟨-, hk⟩
  · have q := zx_beq_t (zx_and_b q).1
    subst q
    obtain ⟨-, h1, -⟩ := (zy_r4 (by decide)).mp hb
    cases h1
    refine ⟨_, ?_, hk2⟩
    rw [hm, Int32.and_neg_one]
    exact ha
  rcases zx_bif hk with ⟨q, hk2⟩ | ⟨-, hk⟩
  · have q := zx_beq_t (zx_and_b q).1
    subst q
    obtain ⟨-, h1, -⟩ := (zy_r4 (by decide)).mp ha
    cases h1
    refine ⟨_, ?_, hk2⟩
    rw [hm, Int32.and_comm, Int32.and_neg_one]
    exact hb
  · exact zy_b2_s (F := fun x y => x &&& y) he (fun x y _ hy => ⟨zx_and' x y, Nat.and_lt_two_pow (n := 32) x hy⟩) zy_wand_s ha hb hk
theorem zy_xr_s (he : zy_ev A e) {a b : Nat} {x y : Int32} (ha : zy_r A a (.int x)) (hb : zy_r A b (.int y)) {k : Nat → Bool} (hk : zy_xr e a b k = true) : ∃ c : Nat, zy_r A c (.int (x ^^^ y)) ∧ k c = true := by
  unfold zy_xr at hk
  rcases zx_bif hk with ⟨q, hk⟩ | ⟨-, hk⟩
  · obtain ⟨q1, q2⟩ := zx_and_b q
    obtain ⟨q2, q3⟩ := zx_and_b q2
    have q1 : a % 16 = 1 := zx_beq_t q1
    have q2 : a / 16 / 256 = 0 := zx_beq_t q2
    have q3 := zx_beq_t q3
    rw [q3] at hb
    rw [zx_fn_eq] at hk
    obtain ⟨-, h1, ho, hn⟩ := (zy_r1 q1).mp ha
    obtain ⟨-, h3, -⟩ := (zy_r4 (by decide)).mp hb
    cases h1
    have h3 : y = nI 4294967295 := by injection h3
    rw [h3]
    refine ⟨_, zy_r_ch (s := 3) (c := 0) (n := a / 16) hn (by decide) (by decide) ?_, hk⟩
    rw [q2, nI_0, Int32.add_zero]
    rfl
  rcases zx_bif hk with ⟨q, hk⟩ | ⟨-, hk⟩
  · obtain ⟨q1, q2⟩ := zx_and_b q
    obtain ⟨q2, q3⟩ := zx_and_b q2
    obtain ⟨q3, q4⟩ := zx_and_b q3
    have q1 : a % 16 = 1 := zx_beq_t q1
    have q2 : a / 16 / 256 = 0 := zx_beq_t q2
    have q3 : b % 16 = 4 := zx_beq_t q3
    have q4 : b / 16 < 2147483648 := zx_blt_t q4
    rw [zx_fn_eq] at hk
    obtain ⟨-, h1, ho, hn⟩ := (zy_r1 q1).mp ha
    obtain ⟨-, h3, -⟩ := (zy_r4 q3).mp hb
    cases h1
    cases h3
    refine ⟨_, ?_, hk⟩
    show zy_r A ((a / 16 % 256 + 256 * (b / 16)) * 16 + 15) _
    have e1 : ((a / 16 % 256 + 256 * (b / 16)) * 16 + 15) / 16 = a / 16 % 256 + 256 * (b / 16) := by omega
    have e2 : (a / 16 % 256 + 256 * (b / 16)) % 256 = a / 16 % 256 := by omega
    have e3 : (a / 16 % 256 + 256 * (b / 16)) / 256 = b / 16 := by omega
    rw [zy_r15 (by omega), e1, e2, e3, q2, nI_0, Int32.add_zero]
    exact ⟨by omega, rfl, q4, hn⟩
  · exact zy_b2_s (F := fun x y => x ^^^ y) he (fun x y hx hy => ⟨zx_xor' x y, Nat.xor_lt_two_pow (n := 32) hx hy⟩) zy_wxor_s ha hb hk
theorem zy_sr_s (he : zy_ev A e) {a b : Nat} {x y : Int32} (ha : zy_r A a (.int x)) (hb : zy_r A b (.int y)) {k : Nat → Bool} (hk : zy_sr e a b k = true) : ∃ c : Nat, zy_r A c (.int (x >>> (y &&& 31))) ∧ k c = true := by
  unfold zy_sr at hk
  rcases zx_bif hk with ⟨q, hk⟩ | ⟨-, hk⟩
  · obtain ⟨q1, q2⟩ := zx_and_b q
    obtain ⟨q2, q3⟩ := zx_and_b q2
    obtain ⟨q3, q4⟩ := zx_and_b q3
    have q1 : a % 16 = 1 := zx_beq_t q1
    have q2 : a / 16 / 256 = 0 := zx_beq_t q2
    have q3 : b % 16 = 4 := zx_beq_t q3
    have q4 : b / 16 < 31 := zx_blt_t q4
    rw [zx_fn_eq] at hk
    obtain ⟨-, h1, ho, hn⟩ := (zy_r1 q1).mp ha
    obtain ⟨-, h3, -⟩ := (zy_r4 q3).mp hb
    cases h1
    cases h3
    refine ⟨_, ?_, hk⟩
    show zy_r A ((a / 16 % 256 + 256 * (b / 16)) * 16 + 13) _
    have e1 : ((a / 16 % 256 + 256 * (b / 16)) * 16 + 13) / 16 = a / 16 % 256 + 256 * (b / 16) := by omega
    have e2 : (a / 16 % 256 + 256 * (b / 16)) % 256 = a / 16 % 256 := by omega
    have e3 : (a / 16 % 256 + 256 * (b / 16)) / 256 = b / 16 := by omega
    rw [zy_r13 (by omega), e1, e2, e3, q2, nI_0, Int32.add_zero]
    exact ⟨by omega, rfl, q4, hn⟩
  · exact zy_sh_s (F := fun x y => x >>> (y &&& 31)) he (fun x y hx hy => ⟨zx_shr' x y hx hy, zx_g7_lt x y hx⟩) zy_wshr_s ha hb hk
theorem zy_u1_s (he : zy_ev A e) {f : Nat → Nat} {F : Int32 → Int32} {lo hi : Nat} (hf : ∀ x : Nat, x < 4294967296 → F (nI x) = nI (f x) ∧ f x < 4294967296) (hF : ∀ x : Int32, lo ≤ zx_bz (F x) ∧ zx_bz (F x) ≤ hi) (hi2 : hi < 4294967296) (hid : ∀ x : Int32, lo ≤ zx_bz x → zx_bz x ≤ hi → F x = x) {a : Nat} {x : Int32} (ha : zy_r A a (.int x)) {k : Nat → Bool} (hk : zy_u1 f lo hi e a k = true) :
    ∃ c : Nat, zy_r A c (.int (F x)) ∧ k c = true := by
  unfold zy_u1 at hk
  rcases zx_bif hk with ⟨q, hk⟩ | ⟨-, hk⟩
  · have q1 : a % 16 = 4 := zx_beq_t q
    rw [zx_fn_eq] at hk
    obtain ⟨-, h1, h2⟩ := (zy_r4 q1).mp ha
    cases h1
    obtain ⟨e1, e2⟩ := hf _ h2
    refine ⟨_, ?_, hk⟩
    rw [e1]
    exact zy_r_c e2
  · obtain ⟨l, u, hk, p1, p2, p3⟩ := zy_iv_s he ha hk
    rcases zx_bif hk with ⟨q, hk⟩ | ⟨-, hk⟩
    · obtain ⟨q1, q2⟩ := zx_and_b q
      have q1 := zx_ble_t q1
      have q2 := zx_ble_t q2
      exact ⟨_, by rw [hid x (by omega) (by omega)]; exact ha, hk⟩
    · rw [zx_fn_eq] at hk
      exact ⟨_, zy_r_7 (hF x).1 (hF x).2 hi2, hk⟩
theorem zy_ng_s (he : zy_ev A e) {a : Nat} {x : Int32} (ha : zy_r A a (.int x)) {k : Nat → Bool} (hk : zy_ng e a k = true) : ∃ c : Nat, zy_r A c (.int (-x)) ∧ k c = true := by
  unfold zy_ng at hk
  obtain ⟨l, u, hk, p1, p2, p3⟩ := zy_iv_s he ha hk
  rcases zx_bif hk with ⟨q, hk⟩ | ⟨-, hk⟩
  · have q := zx_ble_t q
    rw [zx_fn_eq] at hk
    have e1 := zx_bz_int x
    have e2 := zx_bz_int (-x)
    have e3 := zy_ti_neg (x := x) (by omega)
    exact ⟨_, zy_r_7 (show 4294967296 - u ≤ _ by omega) (show _ ≤ 4294967296 - l by omega) (show 4294967296 - l < _ by omega), hk⟩
  · exact ⟨_, zy_r_un _, hk⟩
theorem zy_lt_s (he : zy_ev A e) {a b : Nat} {x y : Int32} (ha : zy_r A a (.int x)) (hb : zy_r A b (.int y)) {kt kf : Nat → Bool} (hk : zy_lt e a b kt kf = true) :
    (x < y → ∃ e' : Nat, zy_ev A e' ∧ kt e' = true) ∧ (¬ x < y → ∃ e' : Nat, zy_ev A e' ∧ kf e' = true) := by
  unfold zy_lt at hk
  obtain ⟨l1, u1, hk, a1, a2, a3⟩ := zy_iv_s he ha hk
  obtain ⟨l2, u2, hk, b1, b2, b3⟩ := zy_iv_s he hb hk
  rw [zx_lt']
  rcases zx_bif hk with ⟨q, hk⟩ | ⟨q, hk⟩
  · have q := zx_blt_t q
    exact ⟨fun _ => ⟨e, he, hk⟩, fun z => absurd (by omega) z⟩
  rcases zx_bif hk with ⟨q2, hk⟩ | ⟨q2, hk⟩
  · have q2 := zx_ble_t q2
    exact ⟨fun z => absurd z (by omega), fun _ => ⟨e, he, hk⟩⟩
  obtain ⟨k1, k2⟩ := zx_and_b hk
  rw [zy_mn_eq, zy_mx_eq] at k1 k2
  have ep : Nat.pred u2 = u2 - 1 := rfl
  have es : Nat.succ l1 = l1 + 1 := rfl
  refine ⟨fun z => ?_, fun z => ?_⟩
  · obtain ⟨e', he', k1⟩ := zy_rf_s he ha a1 (by omega) k1
    exact zy_rf_s he' hb (by omega) b2 k1
  · obtain ⟨e', he', k2⟩ := zy_rf_s he ha (by omega) a2 k2
    exact zy_rf_s he' hb b1 (by omega) k2
theorem zy_eq_s (he : zy_ev A e) {a b : Nat} {x y : Int32} (ha : zy_r A a (.int x)) (hb : zy_r A b (.int y)) {kt kf : Nat → Bool} (hk : zy_eq e a b kt kf = true) :
    (x = y → ∃ e' : Nat, zy_ev A e' ∧ kt e' = true) ∧ (¬ x = y → ∃ e' : Nat, zy_ev A e' ∧ kf e' = true) := by
  unfold zy_eq at hk
  obtain ⟨l1, u1, hk, a1, a2, a3⟩ := zy_iv_s he ha hk
  obtain ⟨l2, u2, hk, b1, b2, b3⟩ := zy_iv_s he hb hk
  rcases zx_bif hk with ⟨q, hk⟩ | ⟨q, hk⟩
  · rw [zx_eq']
    refine ⟨fun z => absurd z ?_, fun _ => ⟨e, he, hk⟩⟩
    rcases (Bool.or_eq_true _ _).mp q with q | q <;> have q := zx_blt_t q <;> omega
  rcases zx_bif hk with ⟨q2, hk⟩ | ⟨q2, hk⟩
  · rw [zx_eq']
    obtain ⟨q3, q4⟩ := zx_and_b q2
    have q3 := zx_beq_t q3
    have q4 := zx_beq_t q4
    obtain ⟨q5, q6⟩ := (Bool.or_eq_false_iff).mp q
    have q5 := zx_blt_f q5
    have q6 := zx_blt_f q6
    exact ⟨fun _ => ⟨e, he, hk⟩, fun z => absurd (by omega) z⟩
  rcases zx_bif hk with ⟨q3, hk2⟩ | ⟨q3, hk⟩
  · obtain ⟨q6, q7⟩ := zx_and_b q3
    have q8 := zy_kc2 q6
    have q9 := zx_beq_t q7
    obtain ⟨-, h1, -⟩ := (zy_r1 q8).mp ha
    rw [← q9] at hb
    obtain ⟨-, h2, -⟩ := (zy_r1 q8).mp hb
    injection h1 with h1
    injection h2 with h2
    exact ⟨fun _ => ⟨e, he, hk2⟩, fun z => absurd (by rw [h1, h2]) z⟩
  obtain ⟨k1, k2⟩ := zx_and_b hk
  rw [zx_eq']
  rw [zy_mn_eq, zy_mx_eq] at k1
  have pp : ∀ n : Nat, Nat.pred n = n - 1 := fun _ => rfl
  have ps : ∀ n : Nat, Nat.succ n = n + 1 := fun _ => rfl
  refine ⟨fun z => ?_, fun z => ?_⟩
  · obtain ⟨e', he', k1⟩ := zy_rf_s he ha (by omega) (by omega) k1
    exact zy_rf_s he' hb (by omega) (by omega) k1
  · rcases zx_bif k2 with ⟨q5, k2⟩ | ⟨-, k2⟩
    · have q5 := zx_beq_t q5
      obtain ⟨k3, k4⟩ := zx_and_b k2
      rw [pp] at k3
      rw [ps] at k4
      by_cases hlt : zx_bz x < l2
      · rw [show Nat.blt l1 l2 = true from Nat.ble_eq_true_of_le (show l1 + 1 ≤ l2 by omega), cond_true] at k3
        exact zy_rf_s he ha a1 (by omega) k3
      · rw [show Nat.blt l2 u1 = true from Nat.ble_eq_true_of_le (show l2 + 1 ≤ u1 by omega), cond_true] at k4
        exact zy_rf_s he ha (by omega) a2 k4
    rcases zx_bif k2 with ⟨q5, k2⟩ | ⟨-, k2⟩
    · have q5 := zx_beq_t q5
      obtain ⟨k3, k4⟩ := zx_and_b k2
      rw [pp] at k3
      rw [ps] at k4
      by_cases hlt : zx_bz y < l1
      · rw [show Nat.blt l2 l1 = true from Nat.ble_eq_true_of_le (show l2 + 1 ≤ l1 by omega), cond_true] at k3
        exact zy_rf_s he hb b1 (by omega) k3
      · rw [show Nat.blt l1 u2 = true from Nat.ble_eq_true_of_le (show l1 + 1 ≤ u2 by omega), cond_true] at k4
        exact zy_rf_s he hb (by omega) b2 k4
    · exact ⟨e, he, k2⟩
theorem zy_cm_s (he : zy_ev A e) {a b c : Nat} {x y : Int32} (ha : zy_r A a (.int x)) (hb : zy_r A b (.int y)) {kt kf : Nat → Bool} (hk : zy_cm c e a b kt kf = true) (hc : c < 6) :
    (zx_cv c x y → ∃ e' : Nat, zy_ev A e' ∧ kt e' = true) ∧ (¬ zx_cv c x y → ∃ e' : Nat, zy_ev A e' ∧ kf e' = true) := by
  match c, hc, hk with
  | 0, _, hk => exact zy_lt_s he ha hb hk
  | 1, _, hk =>
    obtain ⟨h2, h3⟩ := zy_lt_s he ha hb (kt := kf) (kf := kt) hk
    exact ⟨h3, fun z => h2 (Classical.not_not.mp z)⟩
  | 2, _, hk => exact zy_lt_s he hb ha hk
  | 3, _, hk =>
    obtain ⟨h2, h3⟩ := zy_lt_s he hb ha (kt := kf) (kf := kt) hk
    exact ⟨h3, fun z => h2 (Classical.not_not.mp z)⟩
  | 4, _, hk => exact zy_eq_s he ha hb hk
  | 5, _, hk =>
    obtain ⟨h2, h3⟩ := zy_eq_s he ha hb (kt := kf) (kf := kt) hk
    exact ⟨h3, fun z => h2 (Classical.not_not.mp z)⟩
theorem zy_cm_i {c a b : Nat} {kt kf : Nat → Bool} (hk : zy_cm c e a b kt kf = true) : zy_ii a = true ∧ zy_ii b = true := by
  have hl : ∀ {a b : Nat} {kt kf : Nat → Bool}, zy_lt e a b kt kf = true → zy_ii a = true ∧ zy_ii b = true := fun h => ⟨zy_iv_i h, by
    obtain ⟨l, u, h⟩ := zy_iv_k h
    exact zy_iv_i h⟩
  have hq : ∀ {a b : Nat} {kt kf : Nat → Bool}, zy_eq e a b kt kf = true → zy_ii a = true ∧ zy_ii b = true := fun h => ⟨zy_iv_i h, by
    obtain ⟨l, u, h⟩ := zy_iv_k h
    exact zy_iv_i h⟩
  unfold zy_cm at hk
  rcases zx_bif hk with ⟨-, hk⟩ | ⟨-, hk⟩
  · rcases zx_bif hk with ⟨-, hk⟩ | ⟨-, hk⟩ <;> exact hl hk
  rcases zx_bif hk with ⟨-, hk⟩ | ⟨-, hk⟩
  · rcases zx_bif hk with ⟨-, hk⟩ | ⟨-, hk⟩ <;> exact (hl hk).symm
  · rcases zx_bif hk with ⟨-, hk⟩ | ⟨-, hk⟩ <;> exact hq hk
theorem zy_in_s (he : zy_ev A e) {i : Nat} {x : Int32} {n : Nat} (hi : zy_r A i (.int x)) (hn : zy_in e i n = true) : vp_in x n := by
  unfold zy_in at hn
  obtain ⟨l, u, hk, a1, a2, -⟩ := zy_iv_s he hi hn
  obtain ⟨q1, q2⟩ := zx_and_b hk
  have q1 := zx_ble_t q1
  have q2 : u < n + 2147483648 := zx_blt_t q2
  have hz := zx_bz_int x
  rw [vp_in_iff]
  omega
theorem zy_sn_s (he : zy_ev A e) {i l : Nat} {x : Int32} (hi : zy_r A i (.int x)) {k : Nat → Bool} : ∀ n, zy_sn e i l k n = true → l ≤ zx_bz x → zx_bz x < l + n → ∃ e', zy_ev A e' ∧ k e' = true
  | 0, _, h1, h2 => absurd h2 (by omega)
  | n + 1, hk, h1, h2 => by
    have hk : (zx_fn (Nat.add l n) (fun v => zy_rf e i v v k) && zy_sn e i l k n) = true := hk
    obtain ⟨k1, k2⟩ := zx_and_b hk
    rw [zx_fn_eq] at k1
    by_cases h : zx_bz x = l + n
    · exact zy_rf_s he hi (show l + n ≤ _ by omega) (show _ ≤ l + n by omega) k1
    · exact zy_sn_s he hi n k2 h1 (by omega)
theorem zy_sp_s (he : zy_ev A e) {i : Nat} {x : Int32} (hi : zy_r A i (.int x)) {k : Nat → Bool} (hk : zy_sp e i k = true) : ∃ e', zy_ev A e' ∧ k e' = true := by
  unfold zy_sp at hk
  obtain ⟨l, u, hk, a1, a2, a3⟩ := zy_iv_s he hi hk
  obtain ⟨-, hk⟩ := zx_bft hk
  exact zy_sn_s he hi _ hk a1 (show zx_bz x < l + (u + 1 - l) by omega)
end ZYB
