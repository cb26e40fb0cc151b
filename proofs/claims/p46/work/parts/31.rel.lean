/-! what the typed walker's values stand for -/
/-- the long constants of the reference -/
def zy_lc (n : Nat) : Int64 := lN (zy_lcs.getD n 0)
/-- what is fixed (addresses, groups, what is outside), what the names stand for (references, ints, longs), and the first names that are free (ints, longs, references) -/
abbrev zy_V : Type := (List Nat × List Nat × (Nat → Nat)) × ((Nat → Nat) × (Nat → Int32) × (Nat → Int64)) × (Nat × Nat × Nat)
def zy_ads (A : zy_V) : List Nat := A.1.1
def zy_gl (A : zy_V) : List Nat := A.1.2.1
def zy_ex (A : zy_V) : Nat → Nat := A.1.2.2
def zy_ru (A : zy_V) : Nat → Nat := A.2.1.1
def zy_nu (A : zy_V) : Nat → Int32 := A.2.1.2.1
def zy_lu (A : zy_V) : Nat → Int64 := A.2.1.2.2
def zy_fi (A : zy_V) : Nat := A.2.2.1
def zy_fl (A : zy_V) : Nat := A.2.2.2.1
def zy_fr (A : zy_V) : Nat := A.2.2.2.2
/-- a name that is given -/
def zy_nb (A : zy_V) (k : Nat) : Prop := 0 < k ∧ k < zy_fi A
def zy_sf (s c : Nat) (x : Int32) : Int32 := match s with
  | 0 => nI 16 * x + nI c
  | 1 => x &&& (x + nI 4294967295)
  | 2 => x &&& nI c
  | 3 => x ^^^ nI 4294967295
  | 4 => (x ^^^ nI 4294967295) &&& (x + nI 4294967295)
  | _ => x - x / nI c * nI c
def zy_r (A : zy_V) (v : Nat) (x : Value) : Prop := v < 4722366482869645213696 ∧ match v % 16 with
  | 1 => x = .int (zy_nu A (v / 16 % 256) + nI (v / 16 / 256)) ∧ v / 16 / 256 < 4294967296 ∧ zy_nb A (v / 16 % 256)
  | 2 => ∃ i q, (zy_ads A)[i]? = some q ∧ (zy_gl A)[i]? = some (v / 16 / 256) ∧ x = .ref q ∧ (v / 16 % 256 ≠ 0 → zy_ru A (v / 16 % 256) = i ∧ v / 16 % 256 < zy_fr A)
  | 3 => x = .null
  | 4 => x = .int (nI (v / 16)) ∧ v / 16 < 4294967296
  | 5 => ∃ y, x = .long y ∧ (v / 16 % 2 = 1 → y = zy_lu A (v / 16 / 2) ∧ v / 16 / 2 < zy_fl A) ∧ (v / 16 % 2 = 0 → v / 16 ≠ 0 → y = zy_lc (v / 16 / 2 - 1))
  | 6 => x = .ref (zy_ex A (v / 16))
  | 7 => ∃ y, x = .int y ∧ v / 16 / 4294967296 ≤ zx_bz y ∧ zx_bz y ≤ v / 16 % 4294967296
  | 8 => x = .null ∨ ∃ q, x = .ref q
  | 11 => x = .int (zy_sf (v / 16 / 256 % 16) (v / 16 / 256 / 16) (zy_nu A (v / 16 % 256))) ∧ v / 16 / 256 / 16 < 4294967296 ∧ zy_nb A (v / 16 % 256)
  | 12 => x = .int (lg_cmp (zy_lu A (v / 16 % 256)) (zy_lc (v / 16 / 256))) ∧ v / 16 % 256 < zy_fl A ∧ v / 16 / 256 < 25
  | 13 => x = .int (zy_nu A (v / 16 % 256) >>> (nI (v / 16 / 256) &&& 31)) ∧ v / 16 / 256 < 31 ∧ zy_nb A (v / 16 % 256)
  | 14 => x = .int (zy_nu A (v / 16 % 256) >>> (nI (v / 16 / 256) &&& 31) &&& 1) ∧ v / 16 / 256 < 31 ∧ zy_nb A (v / 16 % 256)
  | 15 => x = .int (zy_nu A (v / 16 % 256) ^^^ nI (v / 16 / 256)) ∧ v / 16 / 256 < 2147483648 ∧ zy_nb A (v / 16 % 256)
  | _ => False
/-- what is known: bounds of named ints (192 of them), which constant a named long is or is not (from place 192 on) -/
def zy_ev (A : zy_V) (e : Nat) : Prop := (∀ k : Nat, zy_nb A k → zx_eg e k = 0 ∨ (zx_eg e k / 4294967296 ≤ zx_bz (zy_nu A k) ∧ zx_bz (zy_nu A k) ≤ zx_eg e k % 4294967296)) ∧
  (∀ k : Nat, k < 64 → (zx_eg e (192 + k) % 4294967296 ≠ 0 → zy_lu A k = zy_lc (zx_eg e (192 + k) % 4294967296 - 1)) ∧ ∀ n, n < 32 → (zx_eg e (192 + k) / 4294967296).testBit n = true → zy_lu A k ≠ zy_lc n) ∧
  (zx_eg e 0 = zy_fi A + 65536 * zy_fl A + 4294967296 * zy_fr A ∧ 0 < zy_fi A ∧ zy_fi A ≤ 192 ∧ zy_fl A ≤ 64 ∧ 100 ≤ zy_fr A ∧ zy_fr A ≤ 256)
theorem zy_kci {v : Nat} (h : zy_ii v = true) : v % 16 = 1 ∨ v % 16 = 4 ∨ v % 16 = 7 ∨ v % 16 = 11 ∨ v % 16 = 12 ∨ v % 16 = 13 ∨ v % 16 = 14 ∨ v % 16 = 15 := by
  have q : ∀ t, t < 16 → Nat.beq (Nat.mod (Nat.shiftRight 63634 t) 2) 1 = true → t = 1 ∨ t = 4 ∨ t = 7 ∨ t = 11 ∨ t = 12 ∨ t = 13 ∨ t = 14 ∨ t = 15 := by decide
  exact q _ (Nat.mod_lt _ (by decide)) h
theorem zy_kc2 {v : Nat} (h : zx_kc 2 v = true) : v % 16 = 1 := by
  have q : ∀ t, t < 16 → Nat.beq (Nat.mod (Nat.shiftRight 2 t) 2) 1 = true → t = 1 := by decide
  exact q _ (Nat.mod_lt _ (by decide)) h
section ZYR
variable {A : zy_V} {e : Nat}
theorem zy_r1 {v : Nat} {x : Value} (h : v % 16 = 1) : zy_r A v x ↔ v < 4722366482869645213696 ∧ (x = .int (zy_nu A (v / 16 % 256) + nI (v / 16 / 256)) ∧ v / 16 / 256 < 4294967296 ∧ zy_nb A (v / 16 % 256)) := by unfold zy_r; rw [h]; exact Iff.rfl
theorem zy_r2 {v : Nat} {x : Value} (h : v % 16 = 2) : zy_r A v x ↔ v < 4722366482869645213696 ∧ ∃ i q, (zy_ads A)[i]? = some q ∧ (zy_gl A)[i]? = some (v / 16 / 256) ∧ x = .ref q ∧ (v / 16 % 256 ≠ 0 → zy_ru A (v / 16 % 256) = i ∧ v / 16 % 256 < zy_fr A) := by unfold zy_r; rw [h]; exact Iff.rfl
theorem zy_r3 {v : Nat} {x : Value} (h : v % 16 = 3) : zy_r A v x ↔ v < 4722366482869645213696 ∧ x = .null := by unfold zy_r; rw [h]; exact Iff.rfl
theorem zy_r4 {v : Nat} {x : Value} (h : v % 16 = 4) : zy_r A v x ↔ v < 4722366482869645213696 ∧ (x = .int (nI (v / 16)) ∧ v / 16 < 4294967296) := by unfold zy_r; rw [h]; exact Iff.rfl
theorem zy_r5 {v : Nat} {x : Value} (h : v % 16 = 5) : zy_r A v x ↔ v < 4722366482869645213696 ∧ ∃ y, x = .long y ∧ (v / 16 % 2 = 1 → y = zy_lu A (v / 16 / 2) ∧ v / 16 / 2 < zy_fl A) ∧ (v / 16 % 2 = 0 → v / 16 ≠ 0 → y = zy_lc (v / 16 / 2 - 1)) := by unfold zy_r; rw [h]; exact Iff.rfl
theorem zy_r6 {v : Nat} {x : Value} (h : v % 16 = 6) : zy_r A v x ↔ v < 4722366482869645213696 ∧ x = .ref (zy_ex A (v / 16)) := by unfold zy_r; rw [h]; exact Iff.rfl
theorem zy_r7 {v : Nat} {x : Value} (h : v % 16 = 7) : zy_r A v x ↔ v < 4722366482869645213696 ∧ ∃ y, x = .int y ∧ v / 16 / 4294967296 ≤ zx_bz y ∧ zx_bz y ≤ v / 16 % 4294967296 := by unfold zy_r; rw [h]; exact Iff.rfl
theorem zy_r8 {v : Nat} {x : Value} (h : v % 16 = 8) : zy_r A v x ↔ v < 4722366482869645213696 ∧ (x = .null ∨ ∃ q, x = .ref q) := by unfold zy_r; rw [h]; exact Iff.rfl
theorem zy_r11 {v : Nat} {x : Value} (h : v % 16 = 11) : zy_r A v x ↔ v < 4722366482869645213696 ∧ (x = .int (zy_sf (v / 16 / 256 % 16) (v / 16 / 256 / 16) (zy_nu A (v / 16 % 256))) ∧ v / 16 / 256 / 16 < 4294967296 ∧ zy_nb A (v / 16 % 256)) := by unfold zy_r; rw [h]; exact Iff.rfl
theorem zy_r12 {v : Nat} {x : Value} (h : v % 16 = 12) : zy_r A v x ↔ v < 4722366482869645213696 ∧ (x = .int (lg_cmp (zy_lu A (v / 16 % 256)) (zy_lc (v / 16 / 256))) ∧ v / 16 % 256 < zy_fl A ∧ v / 16 / 256 < 25) := by unfold zy_r; rw [h]; exact Iff.rfl
theorem zy_r13 {v : Nat} {x : Value} (h : v % 16 = 13) : zy_r A v x ↔ v < 4722366482869645213696 ∧ (x = .int (zy_nu A (v / 16 % 256) >>> (nI (v / 16 / 256) &&& 31)) ∧ v / 16 / 256 < 31 ∧ zy_nb A (v / 16 % 256)) := by unfold zy_r; rw [h]; exact Iff.rfl
theorem zy_r14 {v : Nat} {x : Value} (h : v % 16 = 14) : zy_r A v x ↔ v < 4722366482869645213696 ∧ (x = .int (zy_nu A (v / 16 % 256) >>> (nI (v / 16 / 256) &&& 31) &&& 1) ∧ v / 16 / 256 < 31 ∧ zy_nb A (v / 16 % 256)) := by unfold zy_r; rw [h]; exact Iff.rfl
theorem zy_r15 {v : Nat} {x : Value} (h : v % 16 = 15) : zy_r A v x ↔ v < 4722366482869645213696 ∧ (x = .int (zy_nu A (v / 16 % 256) ^^^ nI (v / 16 / 256)) ∧ v / 16 / 256 < 2147483648 ∧ zy_nb A (v / 16 % 256)) := by unfold zy_r; rw [h]; exact Iff.rfl
theorem zy_r_lt {v : Nat} {x : Value} (h : zy_r A v x) : v < 4722366482869645213696 := h.1
theorem zy_r_kd {v : Nat} {x : Value} (h : zy_r A v x) : v % 16 = 1 ∨ v % 16 = 2 ∨ v % 16 = 3 ∨ v % 16 = 4 ∨ v % 16 = 5 ∨ v % 16 = 6 ∨ v % 16 = 7 ∨ v % 16 = 8 ∨ v % 16 = 11 ∨ v % 16 = 12 ∨ v % 16 = 13 ∨ v % 16 = 14 ∨ v % 16 = 15 := by
  obtain ⟨-, h⟩ := h
  have hl : v % 16 < 16 := Nat.mod_lt _ (by decide)
  generalize v % 16 = t at h hl
  match t, h, hl with
  | 0, h, _ => exact h.elim
  | 1, _, _ => omega
  | 2, _, _ => omega
  | 3, _, _ => omega
  | 4, _, _ => omega
  | 5, _, _ => omega
  | 6, _, _ => omega
  | 7, _, _ => omega
  | 8, _, _ => omega
  | 9, h, _ => exact h.elim
  | 10, h, _ => exact h.elim
  | 11, _, _ => omega
  | 12, _, _ => omega
  | 13, _, _ => omega
  | 14, _, _ => omega
  | 15, _, _ => omega
  | (k + 16), _, hl => omega
theorem zy_r_c {n : Nat} (h : n < 4294967296) : zy_r A (zx_c n) (.int (nI n)) := by
  rw [zy_r4 (zx_c_kd n), zx_c_pl]
  exact ⟨by rw [zx_c_eq]; omega, rfl, h⟩
theorem zy_r_0 : zy_r A 4 (.int 0) := by
  have h := zy_r_c (A := A) (n := 0) (by decide)
  rw [nI_0] at h
  exact h
/-- an int between bounds -/
theorem zy_r_7 {l u : Nat} {x : Int32} (h1 : l ≤ zx_bz x) (h2 : zx_bz x ≤ u) (hu : u < 4294967296) : zy_r A (zy_c7v l u) (.int x) := by
  have hb := zx_bz_lt x
  have e0 : zy_c7v l u = (l * 4294967296 + u) * 16 + 7 := rfl
  have e1 : ((l * 4294967296 + u) * 16 + 7) / 16 = l * 4294967296 + u := by omega
  rw [e0, zy_r7 (by omega), e1]
  exact ⟨by omega, x, rfl, by omega, by omega⟩
theorem zy_r_un (x : Int32) : zy_r A zx_un (.int x) := by
  rw [zy_r7 (by decide)]
  refine ⟨by decide, x, rfl, ?_, ?_⟩
  · exact Nat.zero_le _
  · have := zx_bz_lt x
    show _ ≤ 4294967295
    omega
theorem zy_r_i {v : Nat} {x : Value} (hi : zy_ii v = true) (h : zy_r A v x) : ∃ y : Int32, x = .int y := by
  rcases zy_kci hi with q | q | q | q | q | q | q | q
  · exact ⟨_, ((zy_r1 q).mp h).2.1⟩
  · exact ⟨_, ((zy_r4 q).mp h).2.1⟩
  · obtain ⟨-, y, hy, -⟩ := (zy_r7 q).mp h
    exact ⟨y, hy⟩
  · exact ⟨_, ((zy_r11 q).mp h).2.1⟩
  · exact ⟨_, ((zy_r12 q).mp h).2.1⟩
  · exact ⟨_, ((zy_r13 q).mp h).2.1⟩
  · exact ⟨_, ((zy_r14 q).mp h).2.1⟩
  · exact ⟨_, ((zy_r15 q).mp h).2.1⟩
theorem zy_r_r {v : Nat} {x : Value} (hi : zx_kc 332 v = true) (h : zy_r A v x) : x = .null ∨ ∃ q, x = .ref q := by
  rcases zx_kc332 hi with q | q | q | q
  · obtain ⟨-, i, y, -, -, hy, -⟩ := (zy_r2 q).mp h
    exact Or.inr ⟨y, hy⟩
  · exact Or.inl ((zy_r3 q).mp h).2
  · exact Or.inr ⟨_, ((zy_r6 q).mp h).2⟩
  · exact ((zy_r8 q).mp h).2
theorem zy_r_j {v : Nat} {x : Value} (hi : v % 16 = 5) (h : zy_r A v x) : ∃ y : Int64, x = .long y := by
  obtain ⟨-, y, hy, -⟩ := (zy_r5 hi).mp h
  exact ⟨y, hy⟩
theorem zy_r_l (y : Int64) : zy_r A 5 (.long y) := (zy_r5 (by decide)).mpr ⟨by decide, y, rfl, fun h => absurd h (by decide), fun _ h => absurd rfl h⟩
theorem zy_r_cat {v : Nat} {x : Value} (h : zy_r A v x) : x.category = bif Nat.beq (zx_kd v) 5 then 2 else 1 := by
  have e : zx_kd v = v % 16 := rfl
  rw [e]
  rcases zy_r_kd h with q | q | q | q | q | q | q | q | q | q | q | q | q <;> rw [q]
  · rw [((zy_r1 q).mp h).2.1]; rfl
  · obtain ⟨-, i, y, -, -, rfl, -⟩ := (zy_r2 q).mp h; rfl
  · rw [((zy_r3 q).mp h).2]; rfl
  · rw [((zy_r4 q).mp h).2.1]; rfl
  · obtain ⟨-, y, rfl, -⟩ := (zy_r5 q).mp h; rfl
  · rw [((zy_r6 q).mp h).2]; rfl
  · obtain ⟨-, y, rfl, -⟩ := (zy_r7 q).mp h; rfl
  · rcases ((zy_r8 q).mp h).2 with rfl | ⟨y, rfl⟩ <;> rfl
  · rw [((zy_r11 q).mp h).2.1]; rfl
  · rw [((zy_r12 q).mp h).2.1]; rfl
  · rw [((zy_r13 q).mp h).2.1]; rfl
  · rw [((zy_r14 q).mp h).2.1]; rfl
  · rw [((zy_r15 q).mp h).2.1]; rfl
/-- bounds of a named int -/
theorem zy_ivn_s (he : zy_ev A e) {n : Nat} (hn : zy_nb A n) {k : Nat → Nat → Bool} (hk : zy_ivn e n k = true) :
    ∃ l u, k l u = true ∧ l ≤ zx_bz (zy_nu A n) ∧ zx_bz (zy_nu A n) ≤ u ∧ u < 4294967296 := by
  unfold zy_ivn at hk
  rw [zx_fn_eq] at hk
  rcases zx_bif hk with ⟨-, hk⟩ | ⟨q0, hk⟩
  · cases hk
  rw [zx_fn_eq, zx_fn_eq] at hk
  rcases he.1 n hn with h2 | h2
  · exact absurd h2 (zx_beq_f q0)
  · exact ⟨_, _, hk, h2.1, h2.2, Nat.mod_lt _ (by decide)⟩
theorem zy_w11_k {s c l h : Nat} {k : Nat → Nat → Bool} (hk : zy_w11 s c l h k = true) : ∃ l u, k l u = true := by
  unfold zy_w11 at hk
  rcases zx_bif hk with ⟨q1, hk⟩ | ⟨-, hk⟩
  · rcases zx_bif hk with ⟨-, hk⟩ | ⟨-, hk⟩
    · rw [zx_fn_eq, zx_fn_eq] at hk; exact ⟨_, _, hk⟩
    · exact ⟨_, _, hk⟩
  rcases zx_bif hk with ⟨q1, hk⟩ | ⟨-, hk⟩
  · rcases zx_bif hk with ⟨-, hk⟩ | ⟨-, hk⟩ <;> exact ⟨_, _, hk⟩
  rcases zx_bif hk with ⟨q1, hk⟩ | ⟨-, hk⟩
  · rw [zx_fn_eq, zx_fn_eq] at hk; exact ⟨_, _, hk⟩
  rcases zx_bif hk with ⟨q1, hk⟩ | ⟨-, hk⟩
  · rcases zx_bif hk with ⟨-, hk⟩ | ⟨-, hk⟩ <;> exact ⟨_, _, hk⟩
  rcases zx_bif hk with ⟨q1, hk⟩ | ⟨-, hk⟩
  · rw [zx_fn_eq] at hk; exact ⟨_, _, hk⟩
  · exact ⟨_, _, hk⟩
theorem zy_mn_le (a b : Nat) : zy_mn a b ≤ a ∧ zy_mn a b ≤ b ∧ (zy_mn a b = a ∨ zy_mn a b = b) := by
  unfold zy_mn
  cases h : Nat.ble a b
  · have := zx_ble_f h; rw [cond_false]; omega
  · have := zx_ble_t h; rw [cond_true]; omega
/-- all bits turned -/
theorem zy_not_bz (x : Int32) : zx_bz (x ^^^ nI 4294967295) = 4294967295 - zx_bz x := by
  have h0 : x ^^^ nI 4294967295 = ~~~x := by rw [show nI 4294967295 = -1 from by decide +kernel]; exact Int32.xor_neg_one
  have h1 := zx_bz_int x
  have h2 := zx_bz_int (~~~x)
  have h3 := zx_rg x
  have h4 : (~~~x).toInt = Int.bmod (-x.toInt - 1) 4294967296 := Int32.toInt_not x
  simp only [Int.bmod_def] at h4
  rw [h0]
  split at h4 <;> omega
theorem zy_not_n {n : Nat} (hn : n < 4294967296) : n ^^^ 4294967295 = 4294967295 - n := by
  have h := zy_not_bz (nI n)
  have h2 : n ^^^ 4294967295 < 4294967296 := Nat.xor_lt_two_pow (n := 32) hn (by decide)
  rw [zx_xor', zx_bz_nI _ h2, zx_bz_nI _ hn, zx_bi_eq, zx_bi_eq] at h
  omega
theorem zy_tz_ok : ((List.range 1024).all (fun n => Nat.beq n 0 || Nat.ble (Nat.land (Nat.sub 4294967295 n) (Nat.sub n 1)) 511)) = true := by decide +kernel
theorem zy_rem_nn {n c : Nat} (hn : n < 2147483648) (hc : 0 < c) (hc2 : c < 2147483648) : nI n - nI n / nI c * nI c = nI (n % c) := by
  exact pk_rem hn hc hc2
theorem zy_w11_s {s c l u : Nat} {x : Int32} {k : Nat → Nat → Bool} (hc : c < 4294967296) (h1 : l ≤ zx_bz x) (h2 : zx_bz x ≤ u) (hu : u < 4294967296) (hk : zy_w11 s c l u k = true) : ∃ l' u', k l' u' = true ∧ l' ≤ zx_bz (zy_sf s c x) ∧ zx_bz (zy_sf s c x) ≤ u' ∧ u' < 4294967296 := by
  have full : ∀ z : Int32, 0 ≤ zx_bz z ∧ zx_bz z ≤ 4294967295 := fun z => by have := zx_bz_lt z; omega
  unfold zy_w11 at hk
  rcases zx_bif hk with ⟨q, hk⟩ | ⟨q, hk⟩
  · rw [zx_beq_t q]
    rcases zx_bif hk with ⟨q1, hk⟩ | ⟨-, hk⟩
    · obtain ⟨q1, q2⟩ := zx_and_b q1
      obtain ⟨q2, q3⟩ := zx_and_b q2
      have q1 := zx_ble_t q1
      have q2 := zx_ble_t q2
      have q3 := zx_blt_t q3
      rw [zx_fn_eq, zx_fn_eq] at hk
      obtain ⟨n, n1, rfl, n3⟩ := zy_nn (x := x) (by omega)
      have e1 : zy_sf 0 c (nI n) = nI (16 * n + c) := by
        show nI 16 * nI n + nI c = _
        rw [pk_mul, nI_add]
      rw [e1, zy_bz_n (by omega)]
      exact ⟨_, _, hk, (show 2147483648 + c + 16 * (l - 2147483648) ≤ _ by omega), (show _ ≤ 2147483648 + c + 16 * (u - 2147483648) by omega), (show 2147483648 + c + 16 * (u - 2147483648) < _ by omega)⟩
    · exact ⟨_, _, hk, (full _).1, (full _).2, by decide⟩
  rcases zx_bif hk with ⟨q1, hk⟩ | ⟨q1, hk⟩
  · have q := zx_beq_f q
    have q1 := zx_ble_t q1
    rcases zx_bif hk with ⟨q2, hk⟩ | ⟨-, hk⟩
    · have q2 := zx_ble_t q2
      have land : ∀ z : Int32, 2147483648 ≤ zx_bz (x &&& z) ∧ zx_bz (x &&& z) ≤ zx_bz x := fun z => by
        obtain ⟨n, n1, rfl, n3⟩ := zy_nn (x := x) (by omega)
        obtain ⟨m, m1, rfl⟩ := zy_any z
        have h3 : n &&& m ≤ n := Nat.and_le_left
        rw [zx_and', zy_bz_n (by omega), zy_bz_n n1]
        omega
      have hs : s = 1 ∨ s = 2 := by omega
      rcases hs with hs | hs <;> rw [hs]
      · have := land (x + nI 4294967295)
        exact ⟨_, _, hk, this.1, Nat.le_trans this.2 h2, hu⟩
      · have := land (nI c)
        exact ⟨_, _, hk, this.1, Nat.le_trans this.2 h2, hu⟩
    · exact ⟨_, _, hk, (full _).1, (full _).2, by decide⟩
  rcases zx_bif hk with ⟨q2, hk⟩ | ⟨q2, hk⟩
  · rw [zx_beq_t q2]
    rw [zx_fn_eq, zx_fn_eq] at hk
    have e1 : zx_bz (zy_sf 3 c x) = 4294967295 - zx_bz x := zy_not_bz x
    rw [e1]
    exact ⟨_, _, hk, (show 4294967295 - u ≤ _ by omega), (show _ ≤ 4294967295 - l by omega), (show 4294967295 - l < _ by omega)⟩
  rcases zx_bif hk with ⟨q3, hk⟩ | ⟨q3, hk⟩
  · rw [zx_beq_t q3]
    rcases zx_bif hk with ⟨q4, hk⟩ | ⟨-, hk⟩
    · obtain ⟨q4, q5⟩ := zx_and_b q4
      have q4 := zx_ble_t q4
      have q5 := zx_ble_t q5
      obtain ⟨n, n1, rfl, n3⟩ := zy_nn (x := x) (by omega)
      have hn : n < 1024 := by omega
      have t1 := List.all_eq_true.mp zy_tz_ok n (List.mem_range.mpr hn)
      have t2 : (4294967295 - n) &&& (n - 1) ≤ 511 := by
        rcases (Bool.or_eq_true _ _).mp t1 with z | z
        · have := zx_beq_t z
          omega
        · exact zx_ble_t z
      have e0 : n ^^^ 4294967295 = 4294967295 - n := zy_not_n (by omega)
      have e2 : nI n + nI 4294967295 = nI (n - 1) := by
        rw [nI_add, show n + 4294967295 = (n - 1) + 4294967296 by omega, ← zx_md (n - 1 + 4294967296), ← zx_md (n - 1), Nat.add_mod_right]
      have e1 : zy_sf 4 c (nI n) = nI ((4294967295 - n) &&& (n - 1)) := by
        show (nI n ^^^ nI 4294967295) &&& (nI n + nI 4294967295) = _
        rw [zx_xor', e0, e2, zx_and']
      rw [e1, zy_bz_n (by omega)]
      exact ⟨_, _, hk, by omega, by omega, by decide⟩
    · exact ⟨_, _, hk, (full _).1, (full _).2, by decide⟩
  rcases zx_bif hk with ⟨q4, hk⟩ | ⟨q4, hk⟩
  · obtain ⟨q4, q5⟩ := zx_and_b q4
    obtain ⟨q5, q6⟩ := zx_and_b q5
    have q4 := zx_blt_t q4
    have q5 := zx_blt_t q5
    have q6 := zx_ble_t q6
    have a0 := zx_beq_f q
    have a1 := zx_ble_f q1
    have a2 := zx_beq_f q2
    have a3 := zx_beq_f q3
    obtain ⟨n, n1, rfl, n3⟩ := zy_nn (x := x) (by omega)
    have e1 : zy_sf s c (nI n) = nI (n % c) := by
      unfold zy_sf
      split
      · omega
      · omega
      · omega
      · omega
      · omega
      · exact zy_rem_nn n1 q4 q5
    have r1 : n % c < c := Nat.mod_lt _ q4
    have r2 : n % c ≤ n := Nat.mod_le _ _
    rw [zx_fn_eq] at hk
    obtain ⟨m1, m2, m3⟩ := zy_mn_le u (Nat.add 2147483647 c)
    have m2' : zy_mn u (Nat.add 2147483647 c) ≤ 2147483647 + c := m2
    have m3' : zy_mn u (Nat.add 2147483647 c) = u ∨ zy_mn u (Nat.add 2147483647 c) = 2147483647 + c := m3
    rw [e1, zy_bz_n (by omega)]
    exact ⟨_, _, hk, by omega, by omega, by omega⟩
  · exact ⟨_, _, hk, (full _).1, (full _).2, by decide⟩
/-- an int shifted right -/
theorem zy_shr_n {n c : Nat} (hn : n < 2147483648) (hc : c < 32) : nI n >>> (nI c &&& 31) = nI (n / 2 ^ c) := by
  rw [zx_shr' n c (by omega) hc]
  unfold zx_g7
  rw [show Nat.blt n 2147483648 = true from Nat.ble_eq_true_of_le (show n + 1 ≤ 2147483648 by omega)]
  rfl
theorem zy_iv_s (he : zy_ev A e) {v : Nat} {y : Int32} (h : zy_r A v (.int y)) {k : Nat → Nat → Bool} (hk : zy_iv e v k = true) :
    ∃ l u, k l u = true ∧ l ≤ zx_bz y ∧ zx_bz y ≤ u ∧ u < 4294967296 := by
  have hyl := zx_bz_lt y
  unfold zy_iv at hk
  rcases zx_bif hk with ⟨q, hk⟩ | ⟨-, hk⟩
  · have q : v % 16 = 4 := zx_beq_t q
    rw [zx_fn_eq] at hk
    obtain ⟨-, h1, h2⟩ := (zy_r4 q).mp h
    cases h1
    have e1 := zx_bz_nI (v / 16) h2
    have e2 : zx_bi (zx_pl v) = zx_bi (v / 16) := rfl
    exact ⟨_, _, hk, by rw [e1, e2]; exact Nat.le_refl _, by rw [e1, e2]; exact Nat.le_refl _, zx_bi_lt _⟩
  rcases zx_bif hk with ⟨q, hk⟩ | ⟨-, hk⟩
  · have q : v % 16 = 7 := zx_beq_t q
    rw [zx_fn_eq, zx_fn_eq, zx_fn_eq] at hk
    obtain ⟨-, y', h1, h2, h3⟩ := (zy_r7 q).mp h
    cases h1
    exact ⟨_, _, hk, h2, h3, Nat.mod_lt _ (by decide)⟩
  rcases zx_bif hk with ⟨q, hk⟩ | ⟨-, hk⟩
  · have q : v % 16 = 1 := zx_beq_t q
    obtain ⟨-, h1, ho, hn⟩ := (zy_r1 q).mp h
    cases h1
    obtain ⟨lo, up, hk, g1, g2, hup⟩ := zy_ivn_s (n := zy_k1 v) he hn hk
    have g1 : lo ≤ zx_bz (zy_nu A (v / 16 % 256)) := g1
    have g2 : zx_bz (zy_nu A (v / 16 % 256)) ≤ up := g2
    rw [zx_fn_eq] at hk
    have hb := zy_bz_off (zy_nu A (v / 16 % 256)) ho
    have hk1 : (bif Nat.beq (v / 16 / 256) 0 then k lo up else
      bif Nat.blt (v / 16 / 256) 2147483648 then (bif Nat.blt (Nat.add up (v / 16 / 256)) 4294967296 then zx_fn (Nat.add lo (v / 16 / 256)) (fun l => zx_fn (Nat.add up (v / 16 / 256)) (fun h => k l h)) else k 0 4294967295) else
      bif Nat.ble (Nat.sub 4294967296 (v / 16 / 256)) lo then zx_fn (Nat.sub lo (Nat.sub 4294967296 (v / 16 / 256))) (fun l => zx_fn (Nat.sub up (Nat.sub 4294967296 (v / 16 / 256))) (fun h => k l h)) else k 0 4294967295) = true := hk
    generalize v / 16 / 256 = o at hk1 ho hb hyl ⊢
    have hlt := zx_bz_lt (zy_nu A (v / 16 % 256))
    rw [hb]
    rcases zx_bif hk1 with ⟨q1, hk⟩ | ⟨q1, hk⟩
    · have q1 := zx_beq_t q1
      subst q1
      exact ⟨lo, up, hk, by omega, by omega, hup⟩
    rcases zx_bif hk with ⟨q2, hk⟩ | ⟨q2, hk⟩
    · have q2 := zx_blt_t q2
      rcases zx_bif hk with ⟨q3, hk⟩ | ⟨q3, hk⟩
      · have q3 : up + o < 4294967296 := zx_blt_t q3
        rw [zx_fn_eq, zx_fn_eq] at hk
        exact ⟨lo + o, up + o, hk, by omega, by omega, q3⟩
      · exact ⟨_, _, hk, Nat.zero_le _, by omega, by decide⟩
    · have q2 := zx_blt_f q2
      rcases zx_bif hk with ⟨q3, hk⟩ | ⟨q3, hk⟩
      · have q3 : 4294967296 - o ≤ lo := zx_ble_t q3
        rw [zx_fn_eq, zx_fn_eq] at hk
        exact ⟨lo - (4294967296 - o), up - (4294967296 - o), hk, by omega, by omega, by omega⟩
      · exact ⟨_, _, hk, Nat.zero_le _, by omega, by decide⟩
  rcases zx_bif hk with ⟨q, hk⟩ | ⟨-, hk⟩
  · have q : v % 16 = 14 := zx_beq_t q
    obtain ⟨-, h1, ho, hn⟩ := (zy_r14 q).mp h
    cases h1
    have := zx_and_le (zy_nu A (v / 16 % 256) >>> (nI (v / 16 / 256) &&& 31)) 1 (by decide)
    exact ⟨_, _, hk, this.1, this.2, by decide⟩
  rcases zx_bif hk with ⟨q, hk⟩ | ⟨-, hk⟩
  · have q : v % 16 = 13 := zx_beq_t q
    obtain ⟨-, h1, ho, hn⟩ := (zy_r13 q).mp h
    cases h1
    obtain ⟨lo, up, hk, g1, g2, hup⟩ := zy_ivn_s (n := zy_k1 v) he hn hk
    have g1 : lo ≤ zx_bz (zy_nu A (v / 16 % 256)) := g1
    have g2 : zx_bz (zy_nu A (v / 16 % 256)) ≤ up := g2
    rcases zx_bif hk with ⟨q3, hk⟩ | ⟨q3, hk⟩
    · have q3 := zx_ble_t q3
      rw [zx_fn_eq] at hk
      obtain ⟨n, n1, n2, n3⟩ := zy_nn (x := zy_nu A (v / 16 % 256)) (by omega)
      refine ⟨_, _, hk, ?_, ?_, ?_⟩
      · rw [n2, zy_shr_n n1 (by omega), zy_bz_n (Nat.lt_of_le_of_lt (Nat.div_le_self _ _) n1)]
        exact Nat.le_add_left _ _
      · rw [n2, zy_shr_n n1 (by omega), zy_bz_n (Nat.lt_of_le_of_lt (Nat.div_le_self _ _) n1)]
        have : n / 2 ^ (v / 16 / 256) ≤ (up - 2147483648) / 2 ^ (v / 16 / 256) := Nat.div_le_div_right (by omega)
        show n / 2 ^ (v / 16 / 256) + 2147483648 ≤ 2147483648 + (up - 2147483648) / 2 ^ (v / 16 / 256)
        omega
      · have : (up - 2147483648) / 2 ^ (v / 16 / 256) ≤ up - 2147483648 := Nat.div_le_self _ _
        show 2147483648 + (up - 2147483648) / 2 ^ (v / 16 / 256) < 4294967296
        omega
    · exact ⟨_, _, hk, Nat.zero_le _, by omega, by decide⟩
  rcases zx_bif hk with ⟨q, hk⟩ | ⟨-, hk⟩
  · have q : v % 16 = 11 := zx_beq_t q
    obtain ⟨-, h1, ho, hn⟩ := (zy_r11 q).mp h
    cases h1
    obtain ⟨lo, up, hk, g1, g2, hup⟩ := zy_ivn_s (n := zy_k1 v) he hn hk
    rw [zx_fn_eq, zx_fn_eq] at hk
    exact zy_w11_s ho g1 g2 hup hk
  obtain ⟨-, hk⟩ := zx_bft hk
  exact ⟨_, _, hk, Nat.zero_le _, by omega, by decide⟩
theorem zy_iv_i {v : Nat} {k : Nat → Nat → Bool} (hk : zy_iv e v k = true) : zy_ii v = true := by
  unfold zy_iv at hk
  have q : ∀ t, t = 1 ∨ t = 4 ∨ t = 7 ∨ t = 11 ∨ t = 12 ∨ t = 13 ∨ t = 14 ∨ t = 15 → Nat.beq (Nat.mod (Nat.shiftRight 63634 t) 2) 1 = true := by rintro t (rfl | rfl | rfl | rfl | rfl | rfl | rfl | rfl) <;> decide
  have q' : ∀ c, Nat.beq (zx_kd v) c = true → v % 16 = c := fun c h => zx_beq_t h
  rcases zx_bif hk with ⟨q1, hk⟩ | ⟨-, hk⟩
  · exact q (v % 16) (by have := q' _ q1; omega)
  rcases zx_bif hk with ⟨q1, hk⟩ | ⟨-, hk⟩
  · exact q (v % 16) (by have := q' _ q1; omega)
  rcases zx_bif hk with ⟨q1, hk⟩ | ⟨-, hk⟩
  · exact q (v % 16) (by have := q' _ q1; omega)
  rcases zx_bif hk with ⟨q1, hk⟩ | ⟨-, hk⟩
  · exact q (v % 16) (by have := q' _ q1; omega)
  rcases zx_bif hk with ⟨q1, hk⟩ | ⟨-, hk⟩
  · exact q (v % 16) (by have := q' _ q1; omega)
  rcases zx_bif hk with ⟨q1, hk⟩ | ⟨-, hk⟩
  · exact q (v % 16) (by have := q' _ q1; omega)
  obtain ⟨q1, -⟩ := zx_bft hk
  rcases (Bool.or_eq_true _ _).mp q1 with q1 | q1
  · exact q (v % 16) (by have := q' _ q1; omega)
  · exact q (v % 16) (by have := q' _ q1; omega)
theorem zy_ivn_k {n : Nat} {k : Nat → Nat → Bool} (hk : zy_ivn e n k = true) : ∃ l u, k l u = true := by
  unfold zy_ivn at hk
  rw [zx_fn_eq] at hk
  rcases zx_bif hk with ⟨-, hk⟩ | ⟨q0, hk⟩
  · cases hk
  rw [zx_fn_eq, zx_fn_eq] at hk
  exact ⟨_, _, hk⟩
theorem zy_iv_k {v : Nat} {k : Nat → Nat → Bool} (hk : zy_iv e v k = true) : ∃ l u, k l u = true := by
  unfold zy_iv at hk
  rcases zx_bif hk with ⟨q1, hk⟩ | ⟨-, hk⟩
  · rw [zx_fn_eq] at hk; exact ⟨_, _, hk⟩
  rcases zx_bif hk with ⟨q1, hk⟩ | ⟨-, hk⟩
  · rw [zx_fn_eq, zx_fn_eq, zx_fn_eq] at hk; exact ⟨_, _, hk⟩
  rcases zx_bif hk with ⟨q1, hk⟩ | ⟨-, hk⟩
  · obtain ⟨l, u, hk⟩ := zy_ivn_k hk
    rw [zx_fn_eq] at hk
    rcases zx_bif hk with ⟨-, hk⟩ | ⟨-, hk⟩
    · exact ⟨_, _, hk⟩
    rcases zx_bif hk with ⟨-, hk⟩ | ⟨-, hk⟩
    · rcases zx_bif hk with ⟨-, hk⟩ | ⟨-, hk⟩
      · rw [zx_fn_eq, zx_fn_eq] at hk; exact ⟨_, _, hk⟩
      · exact ⟨_, _, hk⟩
    · rcases zx_bif hk with ⟨-, hk⟩ | ⟨-, hk⟩
      · rw [zx_fn_eq, zx_fn_eq] at hk; exact ⟨_, _, hk⟩
      · exact ⟨_, _, hk⟩
  rcases zx_bif hk with ⟨q1, hk⟩ | ⟨-, hk⟩
  · exact ⟨_, _, hk⟩
  rcases zx_bif hk with ⟨q1, hk⟩ | ⟨-, hk⟩
  · obtain ⟨l, u, hk⟩ := zy_ivn_k hk
    rcases zx_bif hk with ⟨-, hk⟩ | ⟨-, hk⟩
    · rw [zx_fn_eq] at hk; exact ⟨_, _, hk⟩
    · exact ⟨_, _, hk⟩
  rcases zx_bif hk with ⟨q1, hk⟩ | ⟨-, hk⟩
  · obtain ⟨l, u, hk⟩ := zy_ivn_k hk
    rw [zx_fn_eq, zx_fn_eq] at hk
    exact zy_w11_k hk
  obtain ⟨-, hk⟩ := zx_bft hk
  exact ⟨_, _, hk⟩
theorem zy_mx_eq (a b : Nat) : zy_mx a b = max a b := by
  unfold zy_mx
  cases h : Nat.ble a b
  · have := zx_ble_f h; rw [cond_false]; omega
  · have := zx_ble_t h; rw [cond_true]; omega
theorem zy_mn_eq (a b : Nat) : zy_mn a b = min a b := by
  unfold zy_mn
  cases h : Nat.ble a b
  · have := zx_ble_f h; rw [cond_false]; omega
  · have := zx_ble_t h; rw [cond_true]; omega
theorem zy_ev_set {i l u : Nat} (he : zy_ev A e) (hi : zy_nb A i) (h1 : l ≤ zx_bz (zy_nu A i)) (h2 : zx_bz (zy_nu A i) ≤ u) (hu : u < 4294967296) : zy_ev A (zx_es e i (zx_bd l u)) := by
  have hb := zx_bz_lt (zy_nu A i)
  have hlt : zx_bd l u < 18446744073709551616 := by rw [zx_bd_eq]; omega
  have hi2 : 0 < i ∧ i < 192 := ⟨hi.1, Nat.lt_of_lt_of_le hi.2 he.2.2.2.2.1⟩
  refine ⟨fun k hk => ?_, fun k hk => ?_, ?_⟩
  · by_cases hki : k = i
    · subst hki
      rw [show zx_eg (zx_es e k (zx_bd l u)) k = zx_bd l u from zx_sd_same (by decide) e k _ hlt, zx_bd_eq]
      right
      constructor <;> omega
    · rw [show zx_eg (zx_es e i (zx_bd l u)) k = zx_eg e k from zx_sd_other (by decide) e i _ k hlt hki]
      exact he.1 k hk
  · rw [show zx_eg (zx_es e i (zx_bd l u)) (192 + k) = zx_eg e (192 + k) from zx_sd_other (by decide) e i _ (192 + k) hlt (by omega)]
    exact he.2.1 k hk
  · rw [show zx_eg (zx_es e i (zx_bd l u)) 0 = zx_eg e 0 from zx_sd_other (by decide) e i _ 0 hlt (by omega)]
    exact he.2.2
theorem zy_up_s (he : zy_ev A e) {n l u : Nat} (hn : zy_nb A n) (h1 : l ≤ zx_bz (zy_nu A n)) (h2 : zx_bz (zy_nu A n) ≤ u) {k : Nat → Bool} (hk : zy_up e n l u k = true) : ∃ e', zy_ev A e' ∧ k e' = true := by
  unfold zy_up at hk
  obtain ⟨lv, hv, hk, g1, g2, g3⟩ := zy_ivn_s he hn hk
  rw [zy_mx_eq, zy_mn_eq] at hk
  rcases zx_bif hk with ⟨-, hk⟩ | ⟨q, -⟩
  · rw [zx_fn_eq] at hk
    exact ⟨_, zy_ev_set he hn (by omega) (by omega) (by omega), hk⟩
  · have q := zx_ble_f q
    omega
end ZYR
