/-! what the walker's values stand for -/
def zx_r (ads : List Nat) (ex : Nat → Nat) (nu : Nat → Int32) (v : Nat) (x : Value) : Prop := v < 4722366482869645213696 ∧ match v % 16 with
  | 1 => x = .int (nu (v / 16))
  | 2 => ∃ q, ads[v / 16]? = some q ∧ x = .ref q
  | 3 => x = .null
  | 4 => x = .int (nI (v / 16)) ∧ v / 16 < 4294967296
  | 5 => ∃ y, x = .long y
  | 6 => x = .ref (ex (v / 16))
  | 7 => ∃ y, x = .int y ∧ v / 16 / 4294967296 ≤ zx_bz y ∧ zx_bz y ≤ v / 16 % 4294967296
  | 8 => x = .null ∨ ∃ q, x = .ref q
  | _ => False
def zx_ev (nu : Nat → Int32) (e : Nat) : Prop := ∀ k : Nat, zx_eg e k = 0 ∨ (zx_eg e k / 4294967296 ≤ zx_bz (nu k) ∧ zx_bz (nu k) ≤ zx_eg e k % 4294967296)
theorem zx_c_eq (n : Nat) : zx_c n = n * 16 + 4 := rfl
theorem zx_c_kd (n : Nat) : zx_c n % 16 = 4 := by rw [zx_c_eq]; omega
theorem zx_c_pl (n : Nat) : zx_c n / 16 = n := by rw [zx_c_eq]; omega
theorem zx_kc146 {v : Nat} (h : zx_kc 146 v = true) : v % 16 = 1 ∨ v % 16 = 4 ∨ v % 16 = 7 := by
  have q : ∀ t, t < 16 → Nat.beq (Nat.mod (Nat.shiftRight 146 t) 2) 1 = true → t = 1 ∨ t = 4 ∨ t = 7 := by decide
  exact q _ (Nat.mod_lt _ (by decide)) h
theorem zx_kc332 {v : Nat} (h : zx_kc 332 v = true) : v % 16 = 2 ∨ v % 16 = 3 ∨ v % 16 = 6 ∨ v % 16 = 8 := by
  have q : ∀ t, t < 16 → Nat.beq (Nat.mod (Nat.shiftRight 332 t) 2) 1 = true → t = 2 ∨ t = 3 ∨ t = 6 ∨ t = 8 := by decide
  exact q _ (Nat.mod_lt _ (by decide)) h
theorem zx_kc32 {v : Nat} (h : zx_kc 32 v = true) : v % 16 = 5 := by
  have q : ∀ t, t < 16 → Nat.beq (Nat.mod (Nat.shiftRight 32 t) 2) 1 = true → t = 5 := by decide
  exact q _ (Nat.mod_lt _ (by decide)) h
theorem zx_kc130 {v : Nat} (h : zx_kc 130 v = true) : v % 16 = 1 ∨ v % 16 = 7 := by
  have q : ∀ t, t < 16 → Nat.beq (Nat.mod (Nat.shiftRight 130 t) 2) 1 = true → t = 1 ∨ t = 7 := by decide
  exact q _ (Nat.mod_lt _ (by decide)) h
theorem zx_kc9 {v : Nat} (h : zx_kc 9 v = true) : v % 16 = 0 ∨ v % 16 = 3 := by
  have q : ∀ t, t < 16 → Nat.beq (Nat.mod (Nat.shiftRight 9 t) 2) 1 = true → t = 0 ∨ t = 3 := by decide
  exact q _ (Nat.mod_lt _ (by decide)) h
theorem zx_kc54 {v : Nat} (h : zx_kc 54 v = true) : v % 16 = 1 ∨ v % 16 = 2 ∨ v % 16 = 4 ∨ v % 16 = 5 := by
  have q : ∀ t, t < 16 → Nat.beq (Nat.mod (Nat.shiftRight 54 t) 2) 1 = true → t = 1 ∨ t = 2 ∨ t = 4 ∨ t = 5 := by decide
  exact q _ (Nat.mod_lt _ (by decide)) h
section ZR
variable {ads : List Nat} {ex : Nat → Nat} {nu : Nat → Int32} {e : Nat}
theorem zx_r1 {v : Nat} {x : Value} (h : v % 16 = 1) : zx_r ads ex nu v x ↔ v < 4722366482869645213696 ∧ x = .int (nu (v / 16)) := by unfold zx_r; rw [h]; exact Iff.rfl
theorem zx_r2 {v : Nat} {x : Value} (h : v % 16 = 2) : zx_r ads ex nu v x ↔ v < 4722366482869645213696 ∧ ∃ q, ads[v / 16]? = some q ∧ x = .ref q := by unfold zx_r; rw [h]; exact Iff.rfl
theorem zx_r3 {v : Nat} {x : Value} (h : v % 16 = 3) : zx_r ads ex nu v x ↔ v < 4722366482869645213696 ∧ x = .null := by unfold zx_r; rw [h]; exact Iff.rfl
theorem zx_r4 {v : Nat} {x : Value} (h : v % 16 = 4) : zx_r ads ex nu v x ↔ v < 4722366482869645213696 ∧ (x = .int (nI (v / 16)) ∧ v / 16 < 4294967296) := by unfold zx_r; rw [h]; exact Iff.rfl
theorem zx_r5 {v : Nat} {x : Value} (h : v % 16 = 5) : zx_r ads ex nu v x ↔ v < 4722366482869645213696 ∧ ∃ y, x = .long y := by unfold zx_r; rw [h]; exact Iff.rfl
theorem zx_r6 {v : Nat} {x : Value} (h : v % 16 = 6) : zx_r ads ex nu v x ↔ v < 4722366482869645213696 ∧ x = .ref (ex (v / 16)) := by unfold zx_r; rw [h]; exact Iff.rfl
theorem zx_r7 {v : Nat} {x : Value} (h : v % 16 = 7) : zx_r ads ex nu v x ↔ v < 4722366482869645213696 ∧ ∃ y, x = .int y ∧ v / 16 / 4294967296 ≤ zx_bz y ∧ zx_bz y ≤ v / 16 % 4294967296 := by unfold zx_r; rw [h]; exact Iff.rfl
theorem zx_r8 {v : Nat} {x : Value} (h : v % 16 = 8) : zx_r ads ex nu v x ↔ v < 4722366482869645213696 ∧ (x = .null ∨ ∃ q, x = .ref q) := by unfold zx_r; rw [h]; exact Iff.rfl
theorem zx_r_lt {v : Nat} {x : Value} (h : zx_r ads ex nu v x) : v < 4722366482869645213696 := h.1
theorem zx_r_kd {v : Nat} {x : Value} (h : zx_r ads ex nu v x) : v % 16 = 1 ∨ v % 16 = 2 ∨ v % 16 = 3 ∨ v % 16 = 4 ∨ v % 16 = 5 ∨ v % 16 = 6 ∨ v % 16 = 7 ∨ v % 16 = 8 := by
  obtain ⟨-, h⟩ := h
  have hl : v % 16 < 16 := Nat.mod_lt _ (by decide)
  generalize v % 16 = t at h hl
  match t, h, hl with
  | 0, h, _ => exact h.elim
  | 1, _, _ => omega
  | 2, _, _ => omega
  | 3, _, _ => omega
  | 4, _, _ => omega
  | 5, _, _ => omega
  | 6, _, _ => omega
  | 7, _, _ => omega
  | 8, _, _ => omega
  | (k + 9), h, _ => exact h.elim
theorem zx_r_c {n : Nat} (h : n < 4294967296) : zx_r ads ex nu (zx_c n) (.int (nI n)) := by
  rw [zx_r4 (zx_c_kd n), zx_c_pl]
  exact ⟨by rw [zx_c_eq]; omega, rfl, h⟩
theorem zx_r_un (x : Int32) : zx_r ads ex nu zx_un (.int x) := by
  rw [zx_r7 (by decide)]
  refine ⟨by decide, x, rfl, ?_, ?_⟩
  · exact Nat.zero_le _
  · have := zx_bz_lt x
    show _ ≤ 4294967295
    omega
theorem zx_r_i {v : Nat} {x : Value} (hi : zx_ii v = true) (h : zx_r ads ex nu v x) : ∃ y : Int32, x = .int y := by
  rcases zx_kc146 hi with q | q | q
  · exact ⟨_, ((zx_r1 q).mp h).2⟩
  · exact ⟨_, ((zx_r4 q).mp h).2.1⟩
  · obtain ⟨-, y, hy, -⟩ := (zx_r7 q).mp h
    exact ⟨y, hy⟩
theorem zx_r_r {v : Nat} {x : Value} (hi : zx_kc 332 v = true) (h : zx_r ads ex nu v x) : x = .null ∨ ∃ q, x = .ref q := by
  rcases zx_kc332 hi with q | q | q | q
  · obtain ⟨-, y, -, hy⟩ := (zx_r2 q).mp h
    exact Or.inr ⟨y, hy⟩
  · exact Or.inl ((zx_r3 q).mp h).2
  · exact Or.inr ⟨_, ((zx_r6 q).mp h).2⟩
  · exact ((zx_r8 q).mp h).2
theorem zx_r_j {v : Nat} {x : Value} (hi : v % 16 = 5) (h : zx_r ads ex nu v x) : ∃ y : Int64, x = .long y := ((zx_r5 hi).mp h).2
theorem zx_r_l (y : Int64) : zx_r ads ex nu 5 (.long y) := (zx_r5 (by decide)).mpr ⟨by decide, y, rfl⟩
theorem zx_r_cat {v : Nat} {x : Value} (h : zx_r ads ex nu v x) : x.category = bif Nat.beq (zx_kd v) 5 then 2 else 1 := by
  have e : zx_kd v = v % 16 := rfl
  rw [e]
  rcases zx_r_kd h with q | q | q | q | q | q | q | q <;> rw [q]
  · rw [((zx_r1 q).mp h).2]; rfl
  · obtain ⟨-, y, -, rfl⟩ := (zx_r2 q).mp h; rfl
  · rw [((zx_r3 q).mp h).2]; rfl
  · rw [((zx_r4 q).mp h).2.1]; rfl
  · obtain ⟨-, y, rfl⟩ := (zx_r5 q).mp h; rfl
  · rw [((zx_r6 q).mp h).2]; rfl
  · obtain ⟨-, y, rfl, -⟩ := (zx_r7 q).mp h; rfl
  · rcases ((zx_r8 q).mp h).2 with rfl | ⟨y, rfl⟩ <;> rfl
theorem zx_r_mono {ads' : List Nat} (hp : ∀ (i q : Nat), ads[i]? = some q → ads'[i]? = some q) {v : Nat} {x : Value} (h : zx_r ads ex nu v x) : zx_r ads' ex nu v x := by
  rcases zx_r_kd h with q | q | q | q | q | q | q | q
  · exact (zx_r1 q).mpr ((zx_r1 q).mp h)
  · obtain ⟨h0, y, h1, h2⟩ := (zx_r2 q).mp h
    exact (zx_r2 q).mpr ⟨h0, y, hp _ _ h1, h2⟩
  · exact (zx_r3 q).mpr ((zx_r3 q).mp h)
  · exact (zx_r4 q).mpr ((zx_r4 q).mp h)
  · exact (zx_r5 q).mpr ((zx_r5 q).mp h)
  · exact (zx_r6 q).mpr ((zx_r6 q).mp h)
  · exact (zx_r7 q).mpr ((zx_r7 q).mp h)
  · exact (zx_r8 q).mpr ((zx_r8 q).mp h)
/-- bounds of an int -/
theorem zx_iv_s (he : zx_ev nu e) {v : Nat} {y : Int32} (h : zx_r ads ex nu v (.int y)) {k : Nat → Nat → Bool} (hk : zx_iv e v k = true) :
    ∃ l u, k l u = true ∧ l ≤ zx_bz y ∧ zx_bz y ≤ u ∧ u < 4294967296 ∧ (v % 16 = 1 → y = nu (v / 16)) := by
  unfold zx_iv at hk
  rcases zx_bif hk with ⟨q, hk⟩ | ⟨-, hk⟩
  · have q : v % 16 = 4 := zx_beq_t q
    rw [zx_fn_eq] at hk
    obtain ⟨-, h1, h2⟩ := (zx_r4 q).mp h
    cases h1
    have e1 := zx_bz_nI (v / 16) h2
    have e2 : zx_bi (zx_pl v) = zx_bi (v / 16) := rfl
    exact ⟨_, _, hk, by rw [e1, e2]; exact Nat.le_refl _, by rw [e1, e2]; exact Nat.le_refl _, zx_bi_lt _, fun z => by omega⟩
  rcases zx_bif hk with ⟨q, hk⟩ | ⟨-, hk⟩
  · have q : v % 16 = 1 := zx_beq_t q
    rw [zx_fn_eq] at hk
    rcases zx_bif hk with ⟨-, hk⟩ | ⟨q0, hk⟩
    · cases hk
    rw [zx_fn_eq, zx_fn_eq] at hk
    obtain ⟨-, h1⟩ := (zx_r1 q).mp h
    cases h1
    rcases he (v / 16) with h2 | h2
    · exact absurd h2 (zx_beq_f q0)
    · exact ⟨_, _, hk, h2.1, h2.2, Nat.mod_lt _ (by decide), fun _ => rfl⟩
  rcases zx_bft hk with ⟨q, hk⟩
  have q : v % 16 = 7 := zx_beq_t q
  rw [zx_fn_eq, zx_fn_eq, zx_fn_eq] at hk
  obtain ⟨-, y', h1, h2, h3⟩ := (zx_r7 q).mp h
  cases h1
  exact ⟨_, _, hk, h2, h3, Nat.mod_lt _ (by decide), fun z => by omega⟩
theorem zx_iv_i {v : Nat} {k : Nat → Nat → Bool} (hk : zx_iv e v k = true) : zx_ii v = true := by
  unfold zx_iv at hk
  have q : ∀ t, t = 1 ∨ t = 4 ∨ t = 7 → Nat.beq (Nat.mod (Nat.shiftRight 146 t) 2) 1 = true := by rintro t (rfl | rfl | rfl) <;> decide
  rcases zx_bif hk with ⟨q1, hk⟩ | ⟨-, hk⟩
  · exact q _ (Or.inr (Or.inl (zx_beq_t q1)))
  rcases zx_bif hk with ⟨q1, hk⟩ | ⟨-, hk⟩
  · exact q _ (Or.inl (zx_beq_t q1))
  rcases zx_bft hk with ⟨q1, hk⟩
  exact q _ (Or.inr (Or.inr (zx_beq_t q1)))
theorem zx_bd_eq (l h : Nat) : zx_bd l h = l * 4294967296 + h := rfl
theorem zx_ev_set {i l u : Nat} (he : zx_ev nu e) (h1 : l ≤ zx_bz (nu i)) (h2 : zx_bz (nu i) ≤ u) (hu : u < 4294967296) : zx_ev nu (zx_es e i (zx_bd l u)) := by
  have hb := zx_bz_lt (nu i)
  have hlt : zx_bd l u < 18446744073709551616 := by rw [zx_bd_eq]; omega
  intro k
  by_cases hk : k = i
  · subst hk
    rw [show zx_eg (zx_es e k (zx_bd l u)) k = zx_bd l u from zx_sd_same (by decide) e k _ hlt, zx_bd_eq]
    right
    constructor <;> omega
  · rw [show zx_eg (zx_es e i (zx_bd l u)) k = zx_eg e k from zx_sd_other (by decide) e i _ k hlt hk]
    exact he k
/-- a value as it is known now -/
theorem zx_no_s (he : zx_ev nu e) {v : Nat} {x : Value} (h : zx_r ads ex nu v x) {k : Nat → Bool} (hk : zx_no e v k = true) : ∃ v' : Nat, zx_r ads ex nu v' x ∧ k v' = true := by
  unfold zx_no at hk
  rcases zx_bif hk with ⟨q, hk⟩ | ⟨-, hk⟩
  · have hi := zx_iv_i hk
    obtain ⟨y, rfl⟩ := zx_r_i hi h
    obtain ⟨l, u, hk, h1, h2, h3, -⟩ := zx_iv_s he h hk
    rcases zx_bif hk with ⟨q1, hk2⟩ | ⟨-, hk⟩
    · have q1 := zx_beq_t q1
      rw [zx_fn_eq] at hk2
      have e1 : zx_bz y = l := by omega
      refine ⟨_, ?_, hk2⟩
      have := zx_r_c (ads := ads) (ex := ex) (nu := nu) (zx_bi_lt l)
      rw [← e1, ← zx_of_bz y] at this
      rw [← e1]
      exact this
    · exact ⟨_, h, hk⟩
  · exact ⟨_, h, hk⟩
/-- two numbers that are known -/
theorem zx_b2_s {f : Nat → Nat → Nat} {F : Int32 → Int32 → Int32} (hf : ∀ x y : Nat, x < 4294967296 → y < 4294967296 → F (nI x) (nI y) = nI (f x y) ∧ f x y < 4294967296) {a b : Nat} {x y : Int32} (ha : zx_r ads ex nu a (.int x)) (hb : zx_r ads ex nu b (.int y)) {k : Nat → Bool} (hk : zx_b2 f a b k = true) :
    ∃ c : Nat, zx_r ads ex nu c (.int (F x y)) ∧ k c = true := by
  unfold zx_b2 at hk
  rcases zx_bif hk with ⟨q, hk⟩ | ⟨-, hk⟩
  · obtain ⟨q1, q2⟩ := zx_and_b q
    have q1 : a % 16 = 4 := zx_beq_t q1
    have q2 : b % 16 = 4 := zx_beq_t q2
    rw [zx_fn_eq] at hk
    obtain ⟨-, h1, h2⟩ := (zx_r4 q1).mp ha
    obtain ⟨-, h3, h4⟩ := (zx_r4 q2).mp hb
    cases h1
    cases h3
    obtain ⟨e1, e2⟩ := hf _ _ h2 h4
    refine ⟨_, ?_, hk⟩
    rw [e1]
    exact zx_r_c e2
  · obtain ⟨-, hk⟩ := zx_bft hk
    exact ⟨_, zx_r_un _, hk⟩
theorem zx_c0 {v : Nat} (h : v = 4) {x : Int32} (hr : zx_r ads ex nu v (.int x)) : x = 0 := by
  subst h
  obtain ⟨-, h1, -⟩ := (zx_r4 (by decide)).mp hr
  cases h1
  exact nI_0
theorem zx_ad_s {a b : Nat} {x y : Int32} (ha : zx_r ads ex nu a (.int x)) (hb : zx_r ads ex nu b (.int y)) {k : Nat → Bool} (hk : zx_ad a b k = true) : ∃ c : Nat, zx_r ads ex nu c (.int (x + y)) ∧ k c = true := by
  unfold zx_ad at hk
  rcases zx_bif hk with ⟨q, hk⟩ | ⟨-, hk⟩
  · have e1 := zx_c0 (zx_beq_t (zx_and_b q).1) hb
    exact ⟨_, by rw [e1, Int32.add_zero]; exact ha, hk⟩
  rcases zx_bif hk with ⟨q, hk⟩ | ⟨-, hk⟩
  · have e1 := zx_c0 (zx_beq_t (zx_and_b q).1) ha
    exact ⟨_, by rw [e1, Int32.zero_add]; exact hb, hk⟩
  · exact zx_b2_s (f := zx_f0) (F := fun x y => x + y) (fun x y _ _ => ⟨by show nI x + nI y = nI ((x + y) % 4294967296); rw [nI_add, zx_md], Nat.mod_lt _ (by decide)⟩) ha hb hk
theorem zx_and_le (x : Int32) (c : Nat) (hc : c < 2147483648) : 2147483648 ≤ zx_bz (x &&& nI c) ∧ zx_bz (x &&& nI c) ≤ 2147483648 + c := by
  obtain ⟨n, hn, rfl⟩ : ∃ n, n < 4294967296 ∧ x = nI n := ⟨_, zx_bi_lt _, zx_of_bz x⟩
  have h1 : n &&& c ≤ c := Nat.and_le_right
  rw [zx_and', zx_bz_nI _ (by omega), zx_bi_eq]
  omega
theorem zx_an_s {a b : Nat} {x y : Int32} (ha : zx_r ads ex nu a (.int x)) (hb : zx_r ads ex nu b (.int y)) {k : Nat → Bool} (hk : zx_an a b k = true) : ∃ c : Nat, zx_r ads ex nu c (.int (x &&& y)) ∧ k c = true := by
  unfold zx_an at hk
  rcases zx_bif hk with ⟨q, hk2⟩ | ⟨-, hk⟩
  · have q := zx_beq_t (zx_and_b q).1
    subst q
    obtain ⟨-, h1, -⟩ := (zx_r4 (by decide)).mp hb
    cases h1
    refine ⟨_, ?_, hk2⟩
    rw [show (nI (68719476724 / 16)) = -1 from by decide +kernel, Int32.and_neg_one]
    exact ha
  rcases zx_bif hk with ⟨q, hk⟩ | ⟨-, hk⟩
  · obtain ⟨q1, q2⟩ := zx_and_b q
    obtain ⟨-, q3⟩ := zx_and_b q2
    have q1 : b % 16 = 4 := zx_beq_t q1
    have q3 : b / 16 < 2147483648 := zx_blt_t q3
    rw [zx_fn_eq] at hk
    obtain ⟨-, h1, h2⟩ := (zx_r4 q1).mp hb
    cases h1
    refine ⟨_, ?_, hk⟩
    have e0 : Nat.add (Nat.mul (Nat.add 9223372036854775808 (Nat.add 2147483648 (zx_pl b))) 16) 7 = (9223372036854775808 + (2147483648 + b / 16)) * 16 + 7 := rfl
    rw [e0, zx_r7 (by omega)]
    have e1 : ((9223372036854775808 + (2147483648 + b / 16)) * 16 + 7) / 16 = 9223372036854775808 + (2147483648 + b / 16) := by omega
    have := zx_and_le x (b / 16) q3
    refine ⟨by omega, _, rfl, ?_, ?_⟩
    · rw [e1]; omega
    · rw [e1]; omega
  · exact zx_b2_s (f := Nat.land) (F := fun x y => x &&& y) (fun x y _ hy => ⟨zx_and' x y, Nat.and_lt_two_pow (n := 32) x hy⟩) ha hb hk
theorem zx_sh_s {f : Nat → Nat → Nat} {F : Int32 → Int32 → Int32} (hf : ∀ x y : Nat, x < 4294967296 → y < 32 → F (nI x) (nI y) = nI (f x y) ∧ f x y < 4294967296) {a b : Nat} {x y : Int32} (ha : zx_r ads ex nu a (.int x)) (hb : zx_r ads ex nu b (.int y)) {k : Nat → Bool} (hk : zx_sh f a b k = true) :
    ∃ c : Nat, zx_r ads ex nu c (.int (F x y)) ∧ k c = true := by
  unfold zx_sh at hk
  rcases zx_bif hk with ⟨q, hk⟩ | ⟨-, hk⟩
  · obtain ⟨q1, q2⟩ := zx_and_b q
    obtain ⟨q2, q3⟩ := zx_and_b q2
    have q1 : a % 16 = 4 := zx_beq_t q1
    have q2 : b % 16 = 4 := zx_beq_t q2
    rw [zx_fn_eq] at hk
    obtain ⟨-, h1, h2⟩ := (zx_r4 q1).mp ha
    obtain ⟨-, h3, h4⟩ := (zx_r4 q2).mp hb
    cases h1
    cases h3
    obtain ⟨e1, e2⟩ := hf _ _ h2 (zx_blt_t q3)
    refine ⟨_, ?_, hk⟩
    rw [show b / 16 = zx_pl b from rfl, e1]
    exact zx_r_c e2
  · obtain ⟨-, hk⟩ := zx_bft hk
    exact ⟨_, zx_r_un _, hk⟩
theorem zx_sr_s {a b : Nat} {x y : Int32} (ha : zx_r ads ex nu a (.int x)) (hb : zx_r ads ex nu b (.int y)) {k : Nat → Bool} (hk : zx_sr a b k = true) : ∃ c : Nat, zx_r ads ex nu c (.int (x >>> (y &&& 31))) ∧ k c = true := by
  unfold zx_sr at hk
  rcases zx_bif hk with ⟨q, hk⟩ | ⟨-, hk⟩
  · have q1 := zx_beq_t (zx_and_b q).1
    have e1 := zx_c0 q1 ha
    refine ⟨_, ?_, hk⟩
    rw [e1, Int32.zero_shiftRight, ← e1, ← q1]
    exact ha
  · exact zx_sh_s (f := zx_g7) (F := fun x y => x >>> (y &&& 31)) (fun x y hx hy => ⟨zx_shr' x y hx hy, zx_g7_lt x y hx⟩) ha hb hk
theorem zx_dv_s {f : Nat → Nat → Nat} {F : Int32 → Int32 → Int32} (hf : ∀ x y : Nat, x < 2147483648 → 0 < y → y < 2147483648 → F (nI x) (nI y) = nI (f x y) ∧ f x y < 4294967296) {a b : Nat} {x y : Int32} (ha : zx_r ads ex nu a (.int x)) (hb : zx_r ads ex nu b (.int y)) {k : Nat → Bool} (hk : zx_dv f a b k = true) :
    ¬ y = 0 ∧ ∃ c : Nat, zx_r ads ex nu c (.int (F x y)) ∧ k c = true := by
  unfold zx_dv at hk
  obtain ⟨q, hk⟩ := zx_bft hk
  obtain ⟨q1, q2⟩ := zx_and_b q
  obtain ⟨q2, q3⟩ := zx_and_b q2
  obtain ⟨q3, q4⟩ := zx_and_b q3
  obtain ⟨q4, q5⟩ := zx_and_b q4
  have q1 : a % 16 = 4 := zx_beq_t q1
  have q2 : b % 16 = 4 := zx_beq_t q2
  have q3 : a / 16 < 2147483648 := zx_blt_t q3
  have q4 : 0 < b / 16 := zx_blt_t q4
  have q5 : b / 16 < 2147483648 := zx_blt_t q5
  rw [zx_fn_eq] at hk
  obtain ⟨-, h1, h2⟩ := (zx_r4 q1).mp ha
  obtain ⟨-, h3, h4⟩ := (zx_r4 q2).mp hb
  cases h1
  cases h3
  obtain ⟨e1, e2⟩ := hf _ _ q3 q4 q5
  refine ⟨nI_ne0 q4 q5, _, ?_, hk⟩
  rw [e1]
  exact zx_r_c e2
theorem zx_u1_s {f : Nat → Nat} {F : Int32 → Int32} (hf : ∀ x : Nat, x < 4294967296 → F (nI x) = nI (f x) ∧ f x < 4294967296) {a : Nat} {x : Int32} (ha : zx_r ads ex nu a (.int x)) {k : Nat → Bool} (hk : zx_u1 f a k = true) :
    ∃ c : Nat, zx_r ads ex nu c (.int (F x)) ∧ k c = true := by
  unfold zx_u1 at hk
  rcases zx_bif hk with ⟨q, hk⟩ | ⟨-, hk⟩
  · have q1 : a % 16 = 4 := zx_beq_t q
    rw [zx_fn_eq] at hk
    obtain ⟨-, h1, h2⟩ := (zx_r4 q1).mp ha
    cases h1
    obtain ⟨e1, e2⟩ := hf _ h2
    refine ⟨_, ?_, hk⟩
    rw [e1]
    exact zx_r_c e2
  · obtain ⟨-, hk⟩ := zx_bft hk
    exact ⟨_, zx_r_un _, hk⟩
theorem zx_lt_s (he : zx_ev nu e) {a b : Nat} {x y : Int32} (ha : zx_r ads ex nu a (.int x)) (hb : zx_r ads ex nu b (.int y)) {kt kf : Nat → Bool} (hk : zx_lt e a b kt kf = true) :
    ∃ e' : Nat, zx_ev nu e' ∧ (x < y → kt e' = true) ∧ (¬ x < y → kf e' = true) := by
  unfold zx_lt at hk
  obtain ⟨l1, u1, hk, a1, a2, a3, a4⟩ := zx_iv_s he ha hk
  obtain ⟨l2, u2, hk, b1, b2, b3, b4⟩ := zx_iv_s he hb hk
  rw [zx_lt']
  rcases zx_bif hk with ⟨q, hk⟩ | ⟨q, hk⟩
  · have q := zx_blt_t q
    exact ⟨e, he, fun _ => hk, fun z => absurd (by omega) z⟩
  have q := zx_blt_f q
  rcases zx_bif hk with ⟨q2, hk⟩ | ⟨q2, hk⟩
  · have q2 := zx_ble_t q2
    exact ⟨e, he, fun z => absurd z (by omega), fun _ => hk⟩
  have q2 := zx_ble_f q2
  rcases zx_bif hk with ⟨q3, hk⟩ | ⟨q3, hk⟩
  · obtain ⟨q3, q4⟩ := zx_and_b q3
    have q3 : a % 16 = 1 := zx_beq_t q3
    have q4 := zx_beq_t q4
    have ex1 := a4 q3
    obtain ⟨k1, k2⟩ := zx_and_b hk
    rw [zx_fn_eq] at k1 k2
    have e0 : zx_pl a = a / 16 := rfl
    by_cases hlt : zx_bz x < zx_bz y
    · exact ⟨_, zx_ev_set he (by rw [e0, ← ex1]; exact a1) (by rw [e0, ← ex1]; show _ ≤ l2 - 1; omega) (by show l2 - 1 < _; omega), fun _ => k1, fun z => absurd hlt z⟩
    · exact ⟨_, zx_ev_set he (by rw [e0, ← ex1]; omega) (by rw [e0, ← ex1]; exact a2) a3, fun z => absurd z hlt, fun _ => k2⟩
  rcases zx_bif hk with ⟨q3, hk⟩ | ⟨q3, hk⟩
  · obtain ⟨q3, q4⟩ := zx_and_b q3
    have q3 : b % 16 = 1 := zx_beq_t q3
    have q4 := zx_beq_t q4
    have ex1 := b4 q3
    obtain ⟨k1, k2⟩ := zx_and_b hk
    rw [zx_fn_eq] at k1 k2
    have e0 : zx_pl b = b / 16 := rfl
    by_cases hlt : zx_bz x < zx_bz y
    · exact ⟨_, zx_ev_set he (by rw [e0, ← ex1]; show l1 + 1 ≤ _; omega) (by rw [e0, ← ex1]; exact b2) b3, fun _ => k1, fun z => absurd hlt z⟩
    · exact ⟨_, zx_ev_set he (by rw [e0, ← ex1]; exact b1) (by rw [e0, ← ex1]; omega) (by omega), fun z => absurd z hlt, fun _ => k2⟩
  obtain ⟨k1, k2⟩ := zx_and_b hk
  exact ⟨e, he, fun _ => k1, fun _ => k2⟩
theorem zx_eq_s (he : zx_ev nu e) {a b : Nat} {x y : Int32} (ha : zx_r ads ex nu a (.int x)) (hb : zx_r ads ex nu b (.int y)) {kt kf : Nat → Bool} (hk : zx_eq e a b kt kf = true) :
    ∃ e' : Nat, zx_ev nu e' ∧ (x = y → kt e' = true) ∧ (¬ x = y → kf e' = true) := by
  unfold zx_eq at hk
  obtain ⟨l1, u1, hk, a1, a2, a3, a4⟩ := zx_iv_s he ha hk
  obtain ⟨l2, u2, hk, b1, b2, b3, b4⟩ := zx_iv_s he hb hk
  rw [zx_eq']
  rcases zx_bif hk with ⟨q, hk⟩ | ⟨q, hk⟩
  · refine ⟨e, he, fun z => absurd z ?_, fun _ => hk⟩
    rcases (Bool.or_eq_true _ _).mp q with q | q <;> have q := zx_blt_t q <;> omega
  rcases zx_bif hk with ⟨q2, hk⟩ | ⟨q2, hk⟩
  · obtain ⟨q3, q4⟩ := zx_and_b q2
    have q3 := zx_beq_t q3
    have q4 := zx_beq_t q4
    obtain ⟨q5, q6⟩ := (Bool.or_eq_false_iff).mp q
    have q5 := zx_blt_f q5
    have q6 := zx_blt_f q6
    exact ⟨e, he, fun _ => hk, fun z => absurd (by omega) z⟩
  rcases zx_bif hk with ⟨q3, hk2⟩ | ⟨q3, hk⟩
  · obtain ⟨q3, q4⟩ := zx_and_b q3
    have q3 : a % 16 = 1 := zx_beq_t q3
    have q4 := zx_beq_t q4
    have e1 := a4 q3
    have e2 := b4 (by rw [← q4]; exact q3)
    exact ⟨e, he, fun _ => hk2, fun z => absurd (by rw [e1, e2, q4]) z⟩
  rcases zx_bif hk with ⟨q3, hk⟩ | ⟨q3, hk⟩
  · obtain ⟨q3, q4⟩ := zx_and_b q3
    have q3 : a % 16 = 1 := zx_beq_t q3
    have q4 := zx_beq_t q4
    have ex1 := a4 q3
    obtain ⟨k1, k2⟩ := zx_and_b hk
    obtain ⟨k2, k3⟩ := zx_and_b k2
    rw [zx_fn_eq] at k1
    have e0 : zx_pl a = a / 16 := rfl
    by_cases heq : zx_bz x = zx_bz y
    · exact ⟨_, zx_ev_set he (by rw [e0, ← ex1]; omega) (by rw [e0, ← ex1]; omega) (by omega), fun _ => k1, fun z => absurd heq z⟩
    by_cases hlt : zx_bz x < l2
    · rw [show Nat.blt l1 l2 = true from Nat.ble_eq_true_of_le (show l1 + 1 ≤ l2 by omega), cond_true, zx_fn_eq] at k2
      exact ⟨_, zx_ev_set he (by rw [e0, ← ex1]; exact a1) (by rw [e0, ← ex1]; show _ ≤ l2 - 1; omega) (by show l2 - 1 < _; omega), fun z => absurd z heq, fun _ => k2⟩
    · rw [show Nat.blt l2 u1 = true from Nat.ble_eq_true_of_le (show l2 + 1 ≤ u1 by omega), cond_true, zx_fn_eq] at k3
      exact ⟨_, zx_ev_set he (by rw [e0, ← ex1]; show l2 + 1 ≤ _; omega) (by rw [e0, ← ex1]; exact a2) a3, fun z => absurd z heq, fun _ => k3⟩
  rcases zx_bif hk with ⟨q3, hk⟩ | ⟨q3, hk⟩
  · obtain ⟨q3, q4⟩ := zx_and_b q3
    have q3 : b % 16 = 1 := zx_beq_t q3
    have q4 := zx_beq_t q4
    have ex1 := b4 q3
    obtain ⟨k1, k2⟩ := zx_and_b hk
    obtain ⟨k2, k3⟩ := zx_and_b k2
    rw [zx_fn_eq] at k1
    have e0 : zx_pl b = b / 16 := rfl
    by_cases heq : zx_bz x = zx_bz y
    · exact ⟨_, zx_ev_set he (by rw [e0, ← ex1]; omega) (by rw [e0, ← ex1]; omega) (by omega), fun _ => k1, fun z => absurd heq z⟩
    by_cases hlt : zx_bz y < l1
    · rw [show Nat.blt l2 l1 = true from Nat.ble_eq_true_of_le (show l2 + 1 ≤ l1 by omega), cond_true, zx_fn_eq] at k2
      exact ⟨_, zx_ev_set he (by rw [e0, ← ex1]; exact b1) (by rw [e0, ← ex1]; show _ ≤ l1 - 1; omega) (by show l1 - 1 < _; omega), fun z => absurd z heq, fun _ => k2⟩
    · rw [show Nat.blt l1 u2 = true from Nat.ble_eq_true_of_le (show l1 + 1 ≤ u2 by omega), cond_true, zx_fn_eq] at k3
      exact ⟨_, zx_ev_set he (by rw [e0, ← ex1]; show l1 + 1 ≤ _; omega) (by rw [e0, ← ex1]; exact b2) b3, fun z => absurd z heq, fun _ => k3⟩
  obtain ⟨k1, k2⟩ := zx_and_b hk
  exact ⟨e, he, fun _ => k1, fun _ => k2⟩
/-- what a comparison says of two ints -/
def zx_cv (c : Nat) (x y : Int32) : Prop := match c with
  | 0 => x < y
  | 1 => ¬ x < y
  | 2 => y < x
  | 3 => ¬ y < x
  | 4 => x = y
  | _ => ¬ x = y
theorem zx_cm_s (he : zx_ev nu e) {a b c : Nat} {x y : Int32} (ha : zx_r ads ex nu a (.int x)) (hb : zx_r ads ex nu b (.int y)) {kt kf : Nat → Bool} (hk : zx_cm c e a b kt kf = true) (hc : c < 6) :
    ∃ e' : Nat, zx_ev nu e' ∧ (zx_cv c x y → kt e' = true) ∧ (¬ zx_cv c x y → kf e' = true) := by
  match c, hc, hk with
  | 0, _, hk => exact zx_lt_s he ha hb hk
  | 1, _, hk =>
    obtain ⟨e', h1, h2, h3⟩ := zx_lt_s he ha hb (kt := kf) (kf := kt) hk
    exact ⟨e', h1, h3, fun z => h2 (Classical.not_not.mp z)⟩
  | 2, _, hk => exact zx_lt_s he hb ha hk
  | 3, _, hk =>
    obtain ⟨e', h1, h2, h3⟩ := zx_lt_s he hb ha (kt := kf) (kf := kt) hk
    exact ⟨e', h1, h3, fun z => h2 (Classical.not_not.mp z)⟩
  | 4, _, hk => exact zx_eq_s he ha hb hk
  | 5, _, hk =>
    obtain ⟨e', h1, h2, h3⟩ := zx_eq_s he ha hb (kt := kf) (kf := kt) hk
    exact ⟨e', h1, h3, fun z => h2 (Classical.not_not.mp z)⟩
theorem zx_iv_k {v : Nat} {k : Nat → Nat → Bool} (hk : zx_iv e v k = true) : ∃ l u, k l u = true := by
  unfold zx_iv at hk
  rcases zx_bif hk with ⟨q1, hk⟩ | ⟨-, hk⟩
  · rw [zx_fn_eq] at hk; exact ⟨_, _, hk⟩
  rcases zx_bif hk with ⟨q1, hk⟩ | ⟨-, hk⟩
  · rw [zx_fn_eq] at hk
    rcases zx_bif hk with ⟨-, hk⟩ | ⟨q0, hk⟩
    · cases hk
    rw [zx_fn_eq, zx_fn_eq] at hk
    exact ⟨_, _, hk⟩
  rcases zx_bft hk with ⟨q1, hk⟩
  rw [zx_fn_eq, zx_fn_eq, zx_fn_eq] at hk
  exact ⟨_, _, hk⟩
theorem zx_cm_i {c a b : Nat} {kt kf : Nat → Bool} (hk : zx_cm c e a b kt kf = true) : zx_ii a = true ∧ zx_ii b = true := by
  have hl : ∀ {a b : Nat} {kt kf : Nat → Bool}, zx_lt e a b kt kf = true → zx_ii a = true ∧ zx_ii b = true := fun h => ⟨zx_iv_i h, by
    obtain ⟨l, u, h⟩ := zx_iv_k h
    exact zx_iv_i h⟩
  have hq : ∀ {a b : Nat} {kt kf : Nat → Bool}, zx_eq e a b kt kf = true → zx_ii a = true ∧ zx_ii b = true := fun h => ⟨zx_iv_i h, by
    obtain ⟨l, u, h⟩ := zx_iv_k h
    exact zx_iv_i h⟩
  unfold zx_cm at hk
  rcases zx_bif hk with ⟨-, hk⟩ | ⟨-, hk⟩
  · rcases zx_bif hk with ⟨-, hk⟩ | ⟨-, hk⟩ <;> exact hl hk
  rcases zx_bif hk with ⟨-, hk⟩ | ⟨-, hk⟩
  · rcases zx_bif hk with ⟨-, hk⟩ | ⟨-, hk⟩ <;> exact (hl hk).symm
  · rcases zx_bif hk with ⟨-, hk⟩ | ⟨-, hk⟩ <;> exact hq hk
theorem zx_in_s (he : zx_ev nu e) {i : Nat} {x : Int32} {n : Nat} (hi : zx_r ads ex nu i (.int x)) (hn : zx_in e i n = true) : vp_in x n := by
  unfold zx_in at hn
  obtain ⟨l, u, hk, a1, a2, -, -⟩ := zx_iv_s he hi hn
  obtain ⟨q1, q2⟩ := zx_and_b hk
  have q1 := zx_ble_t q1
  have q2 : u < n + 2147483648 := zx_blt_t q2
  have hz := zx_bz_int x
  rw [vp_in_iff]
  omega
theorem zx_sp_s (he : zx_ev nu e) {i : Nat} {x : Int32} (hi : zx_r ads ex nu i (.int x)) {k : Nat → Bool} (hk : zx_sp e i k = true) : ∃ e', zx_ev nu e' ∧ k e' = true := by
  unfold zx_sp at hk
  obtain ⟨l, u, hk, a1, a2, a3, a4⟩ := zx_iv_s he hi hk
  obtain ⟨q, hk⟩ := zx_bft hk
  obtain ⟨q1, q2⟩ := zx_and_b q
  have q1 : i % 16 = 1 := zx_beq_t q1
  have q2 : u < l + 4 := zx_blt_t q2
  have ex1 := a4 q1
  have e0 : zx_pl i = i / 16 := rfl
  obtain ⟨k0, k1⟩ := zx_and_b hk
  obtain ⟨k1, k2⟩ := zx_and_b k1
  obtain ⟨k2, k3⟩ := zx_and_b k2
  have key : ∀ d : Nat, zx_bz x = l + d → zx_ev nu (zx_es e (zx_pl i) (zx_bd (l + d) (l + d))) := fun d hd => zx_ev_set he (by rw [e0, ← ex1]; omega) (by rw [e0, ← ex1]; omega) (by omega)
  rcases (show zx_bz x = l + 0 ∨ zx_bz x = l + 1 ∨ zx_bz x = l + 2 ∨ zx_bz x = l + 3 by omega) with h | h | h | h
  · rw [zx_fn_eq] at k0
    exact ⟨_, key 0 h, k0⟩
  · rw [show Nat.ble (Nat.add l 1) u = true from Nat.ble_eq_true_of_le (show l + 1 ≤ u by omega), cond_true, zx_fn_eq] at k1
    exact ⟨_, key 1 h, k1⟩
  · rw [show Nat.ble (Nat.add l 2) u = true from Nat.ble_eq_true_of_le (show l + 2 ≤ u by omega), cond_true, zx_fn_eq] at k2
    exact ⟨_, key 2 h, k2⟩
  · rw [show Nat.ble (Nat.add l 3) u = true from Nat.ble_eq_true_of_le (show l + 3 ≤ u by omega), cond_true, zx_fn_eq] at k3
    exact ⟨_, key 3 h, k3⟩
end ZR
