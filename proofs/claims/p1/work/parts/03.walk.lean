/-! A walker over numbers: values are (kind, n, m); it runs the class's bytecode on a world whose numbers are known or lie in an interval -/
abbrev zx_V : Type := Nat × Nat × Nat
abbrev zx_L : Type := List (Nat × Nat)
abbrev zx_C : Type := Nat × Nat × Nat × Nat × List zx_V
abbrev zx_E : Type := Nat × Instr × Nat × Nat × Nat
abbrev zx_M : Type := (MethodName × ByteArray × Nat × Option FieldType) × (Nat × Nat × Nat × Nat × Nat) × List (Nat × List zx_E)
abbrev zx_F : Type := zx_M × Nat × Nat × List (Nat × zx_V) × List zx_V × Nat × Nat
noncomputable def zx_fn (n : Nat) (k : Nat → Bool) : Bool := @Nat.rec (fun _ => Bool) (k 0) (fun m _ => k (Nat.succ m)) n
theorem zx_fn_eq (n : Nat) (k : Nat → Bool) : zx_fn n k = k n := by cases n <;> rfl
noncomputable def zx_fl {α : Type} (l : List α) (k : List α → Bool) : Bool := @List.rec α (fun _ => (List α → Bool) → Bool) (fun k => k []) (fun a _ ih k => ih (fun t => k (a :: t))) l k
theorem zx_fl_eq {α : Type} (l : List α) : ∀ (k : List α → Bool), zx_fl l k = k l := by
  induction l with
  | nil => intro k; rfl
  | cons a l ih => intro k; exact ih (fun t => k (a :: t))
def zx_at (c : List (Nat × List zx_E)) (pc : Nat) : Option zx_E := match c with
  | [] => none
  | (h, es) :: r => bif Nat.blt pc h then es.find? (fun q => Nat.beq q.1 pc) else zx_at r pc
theorem zx_at_in : ∀ (c : List (Nat × List zx_E)) (pc : Nat) (q : zx_E), zx_at c pc = some q → q.1 = pc ∧ ∃ r ∈ c, q ∈ r.2 := by
  intro c
  induction c with
  | nil => intro pc q h; cases h
  | cons a c ih =>
    intro pc q h
    obtain ⟨hh, es⟩ := a
    unfold zx_at at h
    cases hb : Nat.blt pc hh with
    | true =>
      rw [hb] at h
      have h1 : es.find? (fun q => Nat.beq q.1 pc) = some q := h
      exact ⟨Nat.eq_of_beq_eq_true (List.find?_some (p := fun q : zx_E => Nat.beq q.1 pc) h1), (hh, es), List.mem_cons_self, List.mem_of_find?_eq_some h1⟩
    | false =>
      rw [hb] at h
      obtain ⟨h1, r, h2, h3⟩ := ih pc q h
      exact ⟨h1, r, List.mem_cons_of_mem _ h2, h3⟩
/-! numbers -/
def zx_bi (n : Nat) : Nat := (n + 2147483648) % 4294967296
def zx_bz (x : Int32) : Nat := (x.toInt + 2147483648).toNat
theorem zx_rg (x : Int32) : -2147483648 ≤ x.toInt ∧ x.toInt < 2147483648 := ⟨Int32.le_toInt x, Int32.toInt_lt x⟩
theorem zx_bz_int (x : Int32) : (zx_bz x : Int) = x.toInt + 2147483648 := by
  have := zx_rg x
  unfold zx_bz
  omega
theorem zx_bz_lt (x : Int32) : zx_bz x < 4294967296 := by
  have h1 := zx_bz_int x
  have := zx_rg x
  omega
theorem zx_lt (x y : Int32) : x < y ↔ zx_bz x < zx_bz y := by
  rw [Int32.lt_iff_toInt_lt]
  have h1 := zx_bz_int x
  have h2 := zx_bz_int y
  omega
theorem zx_eq (x y : Int32) : x = y ↔ zx_bz x = zx_bz y := by
  rw [← Int32.toInt_inj]
  have h1 := zx_bz_int x
  have h2 := zx_bz_int y
  omega
theorem zx_le (x y : Int32) : x ≤ y ↔ zx_bz x ≤ zx_bz y := by
  rw [Int32.le_iff_toInt_le]
  have h1 := zx_bz_int x
  have h2 := zx_bz_int y
  omega
theorem zx_nI_int (n : Nat) (h : n < 4294967296) : (nI n).toInt = if n < 2147483648 then (n : Int) else (n : Int) - 4294967296 := by
  have h1 : (nI n).toInt = (nI n).toBitVec.toInt := rfl
  rw [h1, BitVec.toInt_eq_toNat_cond, pk_tn (by omega)]
  split <;> split <;> omega
theorem zx_bz_nI (n : Nat) (h : n < 4294967296) : zx_bz (nI n) = zx_bi n := by
  have h1 := zx_bz_int (nI n)
  rw [zx_nI_int n h] at h1
  unfold zx_bi
  split at h1 <;> omega
theorem zx_of_bz (x : Int32) : x = nI (zx_bi (zx_bz x)) := by
  have hl := zx_bz_lt x
  have h0 : zx_bi (zx_bz x) < 4294967296 := Nat.mod_lt _ (by decide)
  rw [zx_eq, zx_bz_nI _ h0]
  unfold zx_bi
  omega
theorem zx_md (n : Nat) : nI (n % 4294967296) = nI n := by
  have h : ∀ k : Nat, (nI k).toBitVec = BitVec.ofNat 32 k := fun k => rfl
  apply Int32.toBitVec_inj.mp
  rw [h, h]
  apply BitVec.eq_of_toNat_eq
  simp
