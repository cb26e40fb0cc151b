/-! what the walker's values stand for -/
def zx_r (ads : List Nat) (ex : Nat → Nat) (nu : Nat → Int32) (a : zx_V) (v : Value) : Prop := match a.1 with
  | 0 => v = .int (nI a.2.1) ∧ a.2.1 < 4294967296
  | 1 => v = .int (nu a.2.1)
  | 2 => ∃ q, ads[a.2.1]? = some q ∧ v = .ref q
  | 3 => v = .null
  | 4 => v = .long (lN a.2.1)
  | 5 => ∃ x, v = .long x
  | 6 => v = .ref (ex a.2.1)
  | 7 => ∃ x, v = .int x ∧ a.2.1 ≤ zx_bz x ∧ zx_bz x ≤ a.2.2
  | 8 => v = .null ∨ ∃ q, v = .ref q
  | _ => False
def zx_ev (nu : Nat → Int32) (e : zx_L) : Prop := ∀ (k : Nat) (q : Nat × Nat), e[k]? = some q → q.1 ≤ zx_bz (nu k) ∧ zx_bz (nu k) ≤ q.2
section ZR
variable {ads : List Nat} {ex : Nat → Nat} {nu : Nat → Int32} {e : zx_L}
theorem zx_r_c {n : Nat} (z : Nat) (h : n < 4294967296) : zx_r ads ex nu (0, n, z) (.int (nI n)) := ⟨rfl, h⟩
theorem zx_r_un (x : Int32) : zx_r ads ex nu zx_un (.int x) := ⟨x, rfl, Nat.zero_le _, Nat.le_of_lt_succ (zx_bz_lt x)⟩
/-- an int: its value, and its interval -/
theorem zx_r_i {a : zx_V} {v : Value} (hi : zx_ii a = true) (h : zx_r ads ex nu a v) : ∃ x : Int32, v = .int x := by
  obtain ⟨t, n, m⟩ := a
  match t, hi, h with
  | 0, _, h => exact ⟨_, h.1⟩
  | 1, _, h => exact ⟨_, h⟩
  | 7, _, h => exact ⟨_, h.choose_spec.1⟩
theorem zx_r_iv {a : zx_V} {v : Value} {q : Nat × Nat} (he : zx_ev nu e) (hi : zx_iv e a = some q) (h : zx_r ads ex nu a v) : ∃ x : Int32, v = .int x ∧ q.1 ≤ zx_bz x ∧ zx_bz x ≤ q.2 ∧ (a.1 = 1 → x = nu a.2.1) := by
  obtain ⟨t, n, m⟩ := a
  match t, hi, h with
  | 0, hi, h =>
    obtain ⟨h1, h2⟩ := h
    have hi : some (zx_bi n, zx_bi n) = some q := hi
    have hq := Option.some.inj hi
    subst hq
    refine ⟨_, h1, ?_, ?_, fun z => by cases z⟩ <;> rw [zx_bz_nI _ h2] <;> exact Nat.le_refl _
  | 1, hi, h =>
    have h2 := he n q hi
    exact ⟨_, h, h2.1, h2.2, fun _ => rfl⟩
  | 7, hi, h =>
    obtain ⟨x, h1, h2, h3⟩ := h
    have hi : some (n, m) = some q := hi
    have hq := Option.some.inj hi
    subst hq
    exact ⟨x, h1, h2, h3, fun z => by cases z⟩
theorem zx_r_j {a : zx_V} {v : Value} (hi : zx_jj a = true) (h : zx_r ads ex nu a v) : ∃ x : Int64, v = .long x := by
  obtain ⟨t, n, m⟩ := a
  match t, hi, h with
  | 4, _, h => exact ⟨_, h⟩
  | 5, _, h => exact h
theorem zx_r_r {a : zx_V} {v : Value} (hi : zx_rr a = true) (h : zx_r ads ex nu a v) : v = .null ∨ ∃ q, v = .ref q := by
  obtain ⟨t, n, m⟩ := a
  match t, hi, h with
  | 2, _, h => exact Or.inr ⟨_, h.choose_spec.2⟩
  | 3, _, h => exact Or.inl h
  | 6, _, h => exact Or.inr ⟨_, h⟩
  | 8, _, h => exact h
theorem zx_r_cat {a : zx_V} {v : Value} (h : zx_r ads ex nu a v) : v.category = zx_ct a := by
  obtain ⟨t, n, m⟩ := a
  match t, h with
  | 0, h => rw [h.1]; rfl
  | 1, h => rw [show v = .int (nu n) from h]; rfl
  | 2, h => obtain ⟨q, -, rfl⟩ := h; rfl
  | 3, h => rw [show v = .null from h]; rfl
  | 4, h => rw [show v = .long (lN n) from h]; rfl
  | 5, h => obtain ⟨q, rfl⟩ := h; rfl
  | 6, h => rw [show v = .ref (ex n) from h]; rfl
  | 7, h => obtain ⟨q, rfl, -⟩ := h; rfl
  | 8, h => rcases h with rfl | ⟨q, rfl⟩ <;> rfl
  | (k + 9), h => exact h.elim
theorem zx_r_mono {ads' : List Nat} (hp : ∀ (i q : Nat), ads[i]? = some q → ads'[i]? = some q) {a : zx_V} {v : Value} (h : zx_r ads ex nu a v) : zx_r ads' ex nu a v := by
  obtain ⟨t, n, m⟩ := a
  match t, h with
  | 0, h => exact h
  | 1, h => exact h
  | 2, h => obtain ⟨q, h1, h2⟩ := h; exact ⟨q, hp _ _ h1, h2⟩
  | 3, h => exact h
  | 4, h => exact h
  | 5, h => exact h
  | 6, h => exact h
  | 7, h => exact h
  | 8, h => exact h
  | (k + 9), h => exact h.elim
/-- a value as it is known now -/
theorem zx_no_s (he : zx_ev nu e) {a : zx_V} {v : Value} (h : zx_r ads ex nu a v) {k : zx_V → Bool} (hk : zx_no e a k = true) : ∃ a' : zx_V, zx_r ads ex nu a' v ∧ k a' = true := by
  obtain ⟨t, n, m⟩ := a
  match t, h, hk with
  | 0, h, hk => exact ⟨_, h, hk⟩
  | 1, h, hk =>
    unfold zx_no at hk
    cases hq : e[n]? with
    | none => simp only [hq] at hk; exact ⟨_, h, hk⟩
    | some q =>
      obtain ⟨l, hh⟩ := q
      simp only [hq] at hk
      cases hb : Nat.beq l hh with
      | false => rw [hb] at hk; exact ⟨_, h, hk⟩
      | true =>
        rw [hb, cond_true, zx_fn_eq] at hk
        have h1 := Nat.eq_of_beq_eq_true hb
        have h2 := he n _ hq
        have h3 : zx_bz (nu n) = l := by have := h2.1; have := h2.2; simp only at *; omega
        refine ⟨(0, zx_bi l, 0), ⟨?_, Nat.mod_lt _ (by decide)⟩, hk⟩
        rw [show v = .int (nu n) from h, ← h3]
        exact congrArg Value.int (zx_of_bz (nu n))
  | 2, h, hk => exact ⟨_, h, hk⟩
  | 3, h, hk => exact ⟨_, h, hk⟩
  | 4, h, hk => exact ⟨_, h, hk⟩
  | 5, h, hk => exact ⟨_, h, hk⟩
  | 6, h, hk => exact ⟨_, h, hk⟩
  | 7, h, hk =>
    have hk : (bif Nat.beq n m then zx_fn (zx_bi n) (fun n => k (0, n, 0)) else k (7, n, m)) = true := hk
    cases hb : Nat.beq n m with
    | false => rw [hb] at hk; exact ⟨_, h, hk⟩
    | true =>
      rw [hb, cond_true, zx_fn_eq] at hk
      have h1 := Nat.eq_of_beq_eq_true hb
      obtain ⟨x, hx, h2, h3⟩ := h
      have h4 : zx_bz x = n := by simp only at *; omega
      refine ⟨(0, zx_bi n, 0), ⟨?_, Nat.mod_lt _ (by decide)⟩, hk⟩
      rw [hx, ← h4]
      exact congrArg Value.int (zx_of_bz x)
  | 8, h, hk => exact ⟨_, h, hk⟩
  | (k + 9), h, _ => exact h.elim
end ZR
