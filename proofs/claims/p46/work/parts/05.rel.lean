/-! what the walker's values stand for -/
def zx_lcs : List Nat := [1818324581]
def zx_lc (n : Nat) : Int64 := lN (zx_lcs.getD n 0)
def zx_r (ads : List Nat) (ex : Nat → Nat) (nu : Nat → Int32) (lu : Nat → Int64) (v : Nat) (x : Value) : Prop := v < 4722366482869645213696 ∧ match v % 16 with
  | 1 => x = .int (nu (v / 16 % 256) + nI (v / 16 / 256)) ∧ v / 16 / 256 < 4294967296
  | 2 => ∃ q, ads[v / 16]? = some q ∧ x = .ref q
  | 3 => x = .null
  | 4 => x = .int (nI (v / 16)) ∧ v / 16 < 4294967296
  | 5 => ∃ y, x = .long y ∧ (v / 16 % 2 = 1 → y = lu (v / 16 / 2)) ∧ (v / 16 % 2 = 0 → v / 16 ≠ 0 → y = zx_lc (v / 16 / 2 - 1))
  | 6 => x = .ref (ex (v / 16))
  | 7 => ∃ y, x = .int y ∧ v / 16 / 4294967296 ≤ zx_bz y ∧ zx_bz y ≤ v / 16 % 4294967296
  | 8 => x = .null ∨ ∃ q, x = .ref q
  | 12 => x = .int (lg_cmp (lu (v / 16 % 256)) (zx_lc (v / 16 / 256)))
  | _ => False
/-- what is known: bounds of named ints (192 of them), which constant a named long is or is not (from place 192 on) -/
def zx_ev (nu : Nat → Int32) (lu : Nat → Int64) (e : Nat) : Prop := (∀ k : Nat, k < 192 → zx_eg e k = 0 ∨ (zx_eg e k / 4294967296 ≤ zx_bz (nu k) ∧ zx_bz (nu k) ≤ zx_eg e k % 4294967296)) ∧
  ∀ k : Nat, (zx_eg e (192 + k) % 4294967296 ≠ 0 → lu k = zx_lc (zx_eg e (192 + k) % 4294967296 - 1)) ∧ ∀ n, n < 32 → (zx_eg e (192 + k) / 4294967296).testBit n = true → lu k ≠ zx_lc n
theorem zx_c_eq (n : Nat) : zx_c n = n * 16 + 4 := rfl
theorem zx_c_kd (n : Nat) : zx_c n % 16 = 4 := by rw [zx_c_eq]; omega
theorem zx_c_pl (n : Nat) : zx_c n / 16 = n := by rw [zx_c_eq]; omega
theorem zx_kc146 {v : Nat} (h : zx_kc 146 v = true) : v % 16 = 1 ∨ v % 16 = 4 ∨ v % 16 = 7 := by
  have q : ∀ t, t < 16 → Nat.beq (Nat.mod (Nat.shiftRight 146 t) 2) 1 = true → t = 1 ∨ t = 4 ∨ t = 7 := by decide
  exact q _ (Nat.mod_lt _ (by decide)) h
theorem zx_kc332 {v : Nat} (h : zx_kc 332 v = true) : v % 16 = 2 ∨ v % 16 = 3 ∨ v % 16 = 6 ∨ v % 16 = 8 := by
  have q : ∀ t, t < 16 → Nat.beq (Nat.mod (Nat.shiftRight 332 t) 2) 1 = true → t = 2 ∨ t = 3 ∨ t = 6 ∨ t = 8 := by decide
  exact q _ (Nat.mod_lt _ (by decide)) h
theorem zx_kc32 {v : Nat} (h : zx_kc 32 v = true) : v % 16 = 5 := by
  have q : ∀ t, t < 16 → Nat.beq (Nat.mod (Nat.shiftRight 32 t) 2) 1 = true → t = 5 := by decide
  exact q _ (Nat.mod_lt _ (by decide)) h
theorem zx_kc130 {v : Nat} (h : zx_kc 130 v = true) : v % 16 = 1 ∨ v % 16 = 7 := by
  have q : ∀ t, t < 16 → Nat.beq (Nat.mod (Nat.shiftRight 130 t) 2) 1 = true → t = 1 ∨ t = 7 := by decide
  exact q _ (Nat.mod_lt _ (by decide)) h
theorem zx_kc9 {v : Nat} (h : zx_kc 9 v = true) : v % 16 = 0 ∨ v % 16 = 3 := by
  have q : ∀ t, t < 16 → Nat.beq (Nat.mod (Nat.shiftRight 9 t) 2) 1 = true → t = 0 ∨ t = 3 := by decide
  exact q _ (Nat.mod_lt _ (by decide)) h
theorem zx_kc54 {v : Nat} (h : zx_kc 54 v = true) : v % 16 = 1 ∨ v % 16 = 2 ∨ v % 16 = 4 ∨ v % 16 = 5 := by
  have q : ∀ t, t < 16 → Nat.beq (Nat.mod (Nat.shiftRight 54 t) 2) 1 = true → t = 1 ∨ t = 2 ∨ t = 4 ∨ t = 5 := by decide
  exact q _ (Nat.mod_lt _ (by decide)) h
theorem zx_kc2 {v : Nat} (h : zx_kc 2 v = true) : v % 16 = 1 := by
  have q : ∀ t, t < 16 → Nat.beq (Nat.mod (Nat.shiftRight 2 t) 2) 1 = true → t = 1 := by decide
  exact q _ (Nat.mod_lt _ (by decide)) h
section ZR
variable {ads : List Nat} {ex : Nat → Nat} {nu : Nat → Int32} {lu : Nat → Int64} {e : Nat}
theorem zx_r1 {v : Nat} {x : Value} (h : v % 16 = 1) : zx_r ads ex nu lu v x ↔ v < 4722366482869645213696 ∧ (x = .int (nu (v / 16 % 256) + nI (v / 16 / 256)) ∧ v / 16 / 256 < 4294967296) := by unfold zx_r; rw [h]; exact Iff.rfl
theorem zx_r2 {v : Nat} {x : Value} (h : v % 16 = 2) : zx_r ads ex nu lu v x ↔ v < 4722366482869645213696 ∧ ∃ q, ads[v / 16]? = some q ∧ x = .ref q := by unfold zx_r; rw [h]; exact Iff.rfl
theorem zx_r3 {v : Nat} {x : Value} (h : v % 16 = 3) : zx_r ads ex nu lu v x ↔ v < 4722366482869645213696 ∧ x = .null := by unfold zx_r; rw [h]; exact Iff.rfl
theorem zx_r4 {v : Nat} {x : Value} (h : v % 16 = 4) : zx_r ads ex nu lu v x ↔ v < 4722366482869645213696 ∧ (x = .int (nI (v / 16)) ∧ v / 16 < 4294967296) := by unfold zx_r; rw [h]; exact Iff.rfl
theorem zx_r5 {v : Nat} {x : Value} (h : v % 16 = 5) : zx_r ads ex nu lu v x ↔ v < 4722366482869645213696 ∧ ∃ y, x = .long y ∧ (v / 16 % 2 = 1 → y = lu (v / 16 / 2)) ∧ (v / 16 % 2 = 0 → v / 16 ≠ 0 → y = zx_lc (v / 16 / 2 - 1)) := by unfold zx_r; rw [h]; exact Iff.rfl
theorem zx_r6 {v : Nat} {x : Value} (h : v % 16 = 6) : zx_r ads ex nu lu v x ↔ v < 4722366482869645213696 ∧ x = .ref (ex (v / 16)) := by unfold zx_r; rw [h]; exact Iff.rfl
theorem zx_r7 {v : Nat} {x : Value} (h : v % 16 = 7) : zx_r ads ex nu lu v x ↔ v < 4722366482869645213696 ∧ ∃ y, x = .int y ∧ v / 16 / 4294967296 ≤ zx_bz y ∧ zx_bz y ≤ v / 16 % 4294967296 := by unfold zx_r; rw [h]; exact Iff.rfl
theorem zx_r8 {v : Nat} {x : Value} (h : v % 16 = 8) : zx_r ads ex nu lu v x ↔ v < 4722366482869645213696 ∧ (x = .null ∨ ∃ q, x = .ref q) := by unfold zx_r; rw [h]; exact Iff.rfl
theorem zx_r12 {v : Nat} {x : Value} (h : v % 16 = 12) : zx_r ads ex nu lu v x ↔ v < 4722366482869645213696 ∧ x = .int (lg_cmp (lu (v / 16 % 256)) (zx_lc (v / 16 / 256))) := by unfold zx_r; rw [h]; exact Iff.rfl
theorem zx_r_lt {v : Nat} {x : Value} (h : zx_r ads ex nu lu v x) : v < 4722366482869645213696 := h.1
theorem zx_r_kd {v : Nat} {x : Value} (h : zx_r ads ex nu lu v x) : v % 16 = 1 ∨ v % 16 = 2 ∨ v % 16 = 3 ∨ v % 16 = 4 ∨ v % 16 = 5 ∨ v % 16 = 6 ∨ v % 16 = 7 ∨ v % 16 = 8 ∨ v % 16 = 12 := by
  obtain ⟨-, h⟩ := h
  have hl : v % 16 < 16 := Nat.mod_lt _ (by decide)
  generalize v % 16 = t at h hl
  match t, h, hl with
  | 0, h, _ => exact h.elim
  | 1, _, _ => omega
  | 2, _, _ => omega
  | 3, _, _ => omega
  | 4, _, _ => omega
  | 5, _, _ => omega
  | 6, _, _ => omega
  | 7, _, _ => omega
  | 8, _, _ => omega
  | 9, h, _ => exact h.elim
  | 10, h, _ => exact h.elim
  | 11, h, _ => exact h.elim
  | 12, _, _ => omega
  | (k + 13), h, _ => exact h.elim
theorem zx_r_c {n : Nat} (h : n < 4294967296) : zx_r ads ex nu lu (zx_c n) (.int (nI n)) := by
  rw [zx_r4 (zx_c_kd n), zx_c_pl]
  exact ⟨by rw [zx_c_eq]; omega, rfl, h⟩
theorem zx_bd_eq (l h : Nat) : zx_bd l h = l * 4294967296 + h := rfl
/-- an int between bounds -/
theorem zx_r_7 {l u : Nat} {x : Int32} (h1 : l ≤ zx_bz x) (h2 : zx_bz x ≤ u) (hu : u < 4294967296) : zx_r ads ex nu lu (zx_c7v l u) (.int x) := by
  have hb := zx_bz_lt x
  have e0 : zx_c7v l u = (l * 4294967296 + u) * 16 + 7 := rfl
  have e1 : ((l * 4294967296 + u) * 16 + 7) / 16 = l * 4294967296 + u := by omega
  rw [e0, zx_r7 (by omega), e1]
  exact ⟨by omega, x, rfl, by omega, by omega⟩
theorem zx_r_un (x : Int32) : zx_r ads ex nu lu zx_un (.int x) := by
  rw [zx_r7 (by decide)]
  refine ⟨by decide, x, rfl, ?_, ?_⟩
  · exact Nat.zero_le _
  · have := zx_bz_lt x
    show _ ≤ 4294967295
    omega
theorem zx_r_i {v : Nat} {x : Value} (hi : zx_ii v = true) (h : zx_r ads ex nu lu v x) : ∃ y : Int32, x = .int y := by
  rcases zx_kc146 hi with q | q | q
  · exact ⟨_, ((zx_r1 q).mp h).2.1⟩
  · exact ⟨_, ((zx_r4 q).mp h).2.1⟩
  · obtain ⟨-, y, hy, -⟩ := (zx_r7 q).mp h
    exact ⟨y, hy⟩
theorem zx_r_r {v : Nat} {x : Value} (hi : zx_kc 332 v = true) (h : zx_r ads ex nu lu v x) : x = .null ∨ ∃ q, x = .ref q := by
  rcases zx_kc332 hi with q | q | q | q
  · obtain ⟨-, y, -, hy⟩ := (zx_r2 q).mp h
    exact Or.inr ⟨y, hy⟩
  · exact Or.inl ((zx_r3 q).mp h).2
  · exact Or.inr ⟨_, ((zx_r6 q).mp h).2⟩
  · exact ((zx_r8 q).mp h).2
theorem zx_r_j {v : Nat} {x : Value} (hi : v % 16 = 5) (h : zx_r ads ex nu lu v x) : ∃ y : Int64, x = .long y := by
  obtain ⟨-, y, hy, -⟩ := (zx_r5 hi).mp h
  exact ⟨y, hy⟩
theorem zx_r_l (y : Int64) : zx_r ads ex nu lu 5 (.long y) := (zx_r5 (by decide)).mpr ⟨by decide, y, rfl, fun h => absurd h (by decide), fun _ h => absurd rfl h⟩
theorem zx_r_cat {v : Nat} {x : Value} (h : zx_r ads ex nu lu v x) : x.category = bif Nat.beq (zx_kd v) 5 then 2 else 1 := by
  have e : zx_kd v = v % 16 := rfl
  rw [e]
  rcases zx_r_kd h with q | q | q | q | q | q | q | q | q <;> rw [q]
  · rw [((zx_r1 q).mp h).2.1]; rfl
  · obtain ⟨-, y, -, rfl⟩ := (zx_r2 q).mp h; rfl
  · rw [((zx_r3 q).mp h).2]; rfl
  · rw [((zx_r4 q).mp h).2.1]; rfl
  · obtain ⟨-, y, rfl, -⟩ := (zx_r5 q).mp h; rfl
  · rw [((zx_r6 q).mp h).2]; rfl
  · obtain ⟨-, y, rfl, -⟩ := (zx_r7 q).mp h; rfl
  · rcases ((zx_r8 q).mp h).2 with rfl | ⟨y, rfl⟩ <;> rfl
  · rw [((zx_r12 q).mp h).2]; rfl
theorem zx_r_mono {ads' : List Nat} (hp : ∀ (i q : Nat), ads[i]? = some q → ads'[i]? = some q) {v : Nat} {x : Value} (h : zx_r ads ex nu lu v x) : zx_r ads' ex nu lu v x := by
  rcases zx_r_kd h with q | q | q | q | q | q | q | q | q
  · exact (zx_r1 q).mpr ((zx_r1 q).mp h)
  · obtain ⟨h0, y, h1, h2⟩ := (zx_r2 q).mp h
    exact (zx_r2 q).mpr ⟨h0, y, hp _ _ h1, h2⟩
  · exact (zx_r3 q).mpr ((zx_r3 q).mp h)
  · exact (zx_r4 q).mpr ((zx_r4 q).mp h)
  · exact (zx_r5 q).mpr ((zx_r5 q).mp h)
  · exact (zx_r6 q).mpr ((zx_r6 q).mp h)
  · exact (zx_r7 q).mpr ((zx_r7 q).mp h)
  · exact (zx_r8 q).mpr ((zx_r8 q).mp h)
  · exact (zx_r12 q).mpr ((zx_r12 q).mp h)
/-- bounds of an int -/
theorem zx_iv_s (he : zx_ev nu lu e) {v : Nat} {y : Int32} (h : zx_r ads ex nu lu v (.int y)) {k : Nat → Nat → Bool} (hk : zx_iv e v k = true) (hv : v % 16 = 1 → v / 16 % 256 < 192) :
    ∃ l u, k l u = true ∧ l ≤ zx_bz y ∧ zx_bz y ≤ u ∧ u < 4294967296 := by
  unfold zx_iv at hk
  rcases zx_bif hk with ⟨q, hk⟩ | ⟨-, hk⟩
  · have q : v % 16 = 4 := zx_beq_t q
    rw [zx_fn_eq] at hk
    obtain ⟨-, h1, h2⟩ := (zx_r4 q).mp h
    cases h1
    have e1 := zx_bz_nI (v / 16) h2
    have e2 : zx_bi (zx_pl v) = zx_bi (v / 16) := rfl
    exact ⟨_, _, hk, by rw [e1, e2]; exact Nat.le_refl _, by rw [e1, e2]; exact Nat.le_refl _, zx_bi_lt _⟩
  rcases zx_bif hk with ⟨q, hk⟩ | ⟨-, hk⟩
  · have q : v % 16 = 7 := zx_beq_t q
    rw [zx_fn_eq, zx_fn_eq, zx_fn_eq] at hk
    obtain ⟨-, y', h1, h2, h3⟩ := (zx_r7 q).mp h
    cases h1
    exact ⟨_, _, hk, h2, h3, Nat.mod_lt _ (by decide)⟩
  rcases zx_bft hk with ⟨q, hk⟩
  have q : v % 16 = 1 := zx_beq_t q
  rw [zx_fn_eq] at hk
  rcases zx_bif hk with ⟨-, hk⟩ | ⟨q0, hk⟩
  · cases hk
  rw [zx_fn_eq, zx_fn_eq, zx_fn_eq] at hk
  obtain ⟨-, h1, ho⟩ := (zx_r1 q).mp h
  cases h1
  have eo : zx_o1 v = v / 16 / 256 := rfl
  have hb := zx_bz_off (nu (v / 16 % 256)) ho
  have hlt := zx_bz_lt (nu (v / 16 % 256))
  rcases he.1 (v / 16 % 256) (hv q) with h2 | h2
  · exact absurd h2 (zx_beq_f q0)
  generalize hl : zx_eg e (v / 16 % 256) / 4294967296 = lo at h2
  generalize hh : zx_eg e (v / 16 % 256) % 4294967296 = up at h2
  have hup : up < 4294967296 := by rw [← hh]; exact Nat.mod_lt _ (by decide)
  have hk1 : (bif Nat.beq (v / 16 / 256) 0 then k lo up else
    bif Nat.blt (v / 16 / 256) 2147483648 then (bif Nat.blt (Nat.add up (v / 16 / 256)) 4294967296 then zx_fn (Nat.add lo (v / 16 / 256)) (fun l => zx_fn (Nat.add up (v / 16 / 256)) (fun h => k l h)) else k 0 4294967295) else
    bif Nat.ble (Nat.sub 4294967296 (v / 16 / 256)) lo then zx_fn (Nat.sub lo (Nat.sub 4294967296 (v / 16 / 256))) (fun l => zx_fn (Nat.sub up (Nat.sub 4294967296 (v / 16 / 256))) (fun h => k l h)) else k 0 4294967295) = true := by
    rw [← hl, ← hh]
    exact hk
  generalize v / 16 / 256 = o at hk1 ho hb ⊢
  rw [hb]
  rcases zx_bif hk1 with ⟨q1, hk⟩ | ⟨q1, hk⟩
  · have q1 := zx_beq_t q1
    subst q1
    exact ⟨lo, up, hk, by omega, by omega, hup⟩
  rcases zx_bif hk with ⟨q2, hk⟩ | ⟨q2, hk⟩
  · have q2 := zx_blt_t q2
    rcases zx_bif hk with ⟨q3, hk⟩ | ⟨q3, hk⟩
    · have q3 : up + o < 4294967296 := zx_blt_t q3
      rw [zx_fn_eq, zx_fn_eq] at hk
      exact ⟨lo + o, up + o, hk, by omega, by omega, q3⟩
    · exact ⟨_, _, hk, Nat.zero_le _, by omega, by decide⟩
  · have q2 := zx_blt_f q2
    rcases zx_bif hk with ⟨q3, hk⟩ | ⟨q3, hk⟩
    · have q3 : 4294967296 - o ≤ lo := zx_ble_t q3
      rw [zx_fn_eq, zx_fn_eq] at hk
      exact ⟨lo - (4294967296 - o), up - (4294967296 - o), hk, by omega, by omega, by omega⟩
    · exact ⟨_, _, hk, Nat.zero_le _, by omega, by decide⟩
end ZR
