/-! the walker's numbers are the machine's -/
theorem zx_fn_eq (n : Nat) (k : Nat → Bool) : zx_fn n k = k n := by cases n <;> rfl
theorem zx_and_b {a b : Bool} (h : (a && b) = true) : a = true ∧ b = true := by cases a <;> cases b <;> simp_all
theorem zx_bif {c a b : Bool} (h : (bif c then a else b) = true) : (c = true ∧ a = true) ∨ (c = false ∧ b = true) := by cases c <;> simp_all
theorem zx_bft {c a : Bool} (h : (bif c then a else false) = true) : c = true ∧ a = true := by cases c <;> simp_all
theorem zx_blt_f {a b : Nat} (h : Nat.blt a b = false) : b ≤ a := by
  rcases Nat.lt_or_ge a b with q | q
  · have : Nat.blt a b = true := Nat.ble_eq_true_of_le q
    rw [this] at h; cases h
  · exact q
theorem zx_blt_t {a b : Nat} (h : Nat.blt a b = true) : a < b := Nat.le_of_ble_eq_true h
theorem zx_ble_t {a b : Nat} (h : Nat.ble a b = true) : a ≤ b := Nat.le_of_ble_eq_true h
theorem zx_ble_f {a b : Nat} (h : Nat.ble a b = false) : b < a := by
  rcases Nat.lt_or_ge b a with q | q
  · exact q
  · have : Nat.ble a b = true := Nat.ble_eq_true_of_le q
    rw [this] at h; cases h
theorem zx_beq_t {a b : Nat} (h : Nat.beq a b = true) : a = b := Nat.eq_of_beq_eq_true h
theorem zx_beq_f {a b : Nat} (h : Nat.beq a b = false) : a ≠ b := fun e => by subst e; rw [Nat.beq_refl] at h; cases h
/-- lists -/
theorem zx_at_s {α : Type} {k : α → Bool} : ∀ (l : List α) (i : Nat), zx_at l i k = true → ∃ a, l[i]? = some a ∧ k a = true
  | [], _, h => by cases h
  | a :: l, 0, h => ⟨a, rfl, h⟩
  | _ :: l, i + 1, h => zx_at_s l i h
theorem zx_up_s {α : Type} {x : α} : ∀ (l : List α) (i : Nat) (k : List α → Bool), zx_up l i x k = true → i < l.length ∧ k (l.set i x) = true
  | [], _, _, h => by cases h
  | a :: l, 0, k, h => ⟨Nat.succ_pos _, h⟩
  | a :: l, i + 1, k, h => by
    obtain ⟨h1, h2⟩ := zx_up_s l i (fun t' => k (a :: t')) h
    exact ⟨Nat.succ_lt_succ h1, h2⟩
theorem zx_bk_s {pc : Nat} {k : List zx_E → Bool} : ∀ (t : List (Nat × List zx_E)), zx_bk t pc k = true → ∃ q ∈ t, k q.2 = true
  | [], h => by cases h
  | q :: t, h => by
    have h : (bif Nat.beq q.1 pc then k q.2 else zx_bk t pc k) = true := h
    rcases zx_bif h with ⟨-, h1⟩ | ⟨-, h1⟩
    · exact ⟨q, List.mem_cons_self, h1⟩
    · obtain ⟨q', m, h2⟩ := zx_bk_s t h1
      exact ⟨q', List.mem_cons_of_mem _ m, h2⟩
theorem zx_p1_s {st : List Nat} {k : Nat → List Nat → Bool} (h : zx_p1 st k = true) : ∃ a t, st = a :: t ∧ k a t = true := by
  cases st with
  | nil => cases h
  | cons a t => exact ⟨a, t, rfl, h⟩
theorem zx_p2_s {st : List Nat} {k : Nat → Nat → List Nat → Bool} (h : zx_p2 st k = true) : ∃ y x t, st = y :: x :: t ∧ k y x t = true := by
  obtain ⟨y, t, rfl, h1⟩ := zx_p1_s h
  obtain ⟨x, t, rfl, h2⟩ := zx_p1_s h1
  exact ⟨y, x, t, rfl, h2⟩
theorem zx_p3_s {st : List Nat} {k : Nat → Nat → Nat → List Nat → Bool} (h : zx_p3 st k = true) : ∃ z y x t, st = z :: y :: x :: t ∧ k z y x t = true := by
  obtain ⟨z, t, rfl, h1⟩ := zx_p1_s h
  obtain ⟨y, t, rfl, h2⟩ := zx_p1_s h1
  obtain ⟨x, t, rfl, h3⟩ := zx_p1_s h2
  exact ⟨z, y, x, t, rfl, h3⟩
/-! digits -/
theorem zx_dg_lt {o w B c j : Nat} (hB : B = 2 ^ w) : zx_dg o w B c j < B := Nat.mod_lt _ (by rw [hB]; exact Nat.pow_pos (by decide))
theorem zx_sd_same {o w B : Nat} (hB : B = 2 ^ w) (c j x : Nat) (hx : x < B) : zx_dg o w B (zx_sd o w B c j x) j = x := by
  subst hB
  show ((c ^^^ ((zx_dg o w (2 ^ w) c j ^^^ x) <<< (o + w * j))) >>> (o + w * j)) % 2 ^ w = x
  rw [Nat.shiftRight_xor_distrib, Nat.shiftLeft_shiftRight, Nat.xor_mod_two_pow]
  have h1 : (c >>> (o + w * j)) % 2 ^ w = zx_dg o w (2 ^ w) c j := rfl
  have h2 : (zx_dg o w (2 ^ w) c j ^^^ x) % 2 ^ w = zx_dg o w (2 ^ w) c j ^^^ x := Nat.mod_eq_of_lt (Nat.xor_lt_two_pow (zx_dg_lt rfl) hx)
  rw [h1, h2, ← Nat.xor_assoc, Nat.xor_self, Nat.zero_xor]
theorem zx_shz {d w k i : Nat} (hd : d < 2 ^ w) (h : i + w ≤ k ∨ k + w ≤ i) : (d <<< k) >>> i % 2 ^ w = 0 := by
  rw [Nat.shiftRight_eq_div_pow, Nat.shiftLeft_eq]
  rcases h with h | h
  · have e : k = i + (w + (k - i - w)) := by omega
    rw [e, Nat.pow_add, Nat.pow_add, Nat.mul_left_comm, Nat.mul_div_cancel_left _ (Nat.pow_pos (by decide)), ← Nat.mul_assoc, Nat.mul_comm d, Nat.mul_assoc, Nat.mul_mod_right]
  · have e : i = k + (w + (i - k - w)) := by omega
    have hlt : d * 2 ^ k / 2 ^ i = 0 := by
      apply Nat.div_eq_of_lt
      rw [e, Nat.pow_add, Nat.mul_comm]
      refine Nat.mul_lt_mul_of_pos_left ?_ (Nat.pow_pos (by decide))
      exact Nat.lt_of_lt_of_le hd (Nat.pow_le_pow_right (by decide) (by omega))
    rw [hlt, Nat.zero_mod]
theorem zx_sd_other {o w B : Nat} (hB : B = 2 ^ w) (c j x i : Nat) (hx : x < B) (hij : i ≠ j) : zx_dg o w B (zx_sd o w B c j x) i = zx_dg o w B c i := by
  subst hB
  show ((c ^^^ ((zx_dg o w (2 ^ w) c j ^^^ x) <<< (o + w * j))) >>> (o + w * i)) % 2 ^ w = (c >>> (o + w * i)) % 2 ^ w
  have hd : zx_dg o w (2 ^ w) c j ^^^ x < 2 ^ w := Nat.xor_lt_two_pow (zx_dg_lt rfl) hx
  rw [Nat.shiftRight_xor_distrib, Nat.xor_mod_two_pow, zx_shz hd, Nat.xor_zero]
  rcases Nat.lt_or_gt_of_ne hij with h | h
  · have := Nat.mul_le_mul_left w (show i + 1 ≤ j from h)
    rw [Nat.mul_add] at this
    omega
  · have := Nat.mul_le_mul_left w (show j + 1 ≤ i from h)
    rw [Nat.mul_add] at this
    omega
theorem zx_sd_low {o w B : Nat} (c j x : Nat) : zx_sd o w B c j x % 2 ^ o = c % 2 ^ o := by
  show (c ^^^ ((zx_dg o w B c j ^^^ x) <<< (o + w * j))) % 2 ^ o = c % 2 ^ o
  have h : (zx_dg o w B c j ^^^ x) <<< (o + w * j) % 2 ^ o = 0 := by
    rw [Nat.shiftLeft_eq, Nat.pow_add, Nat.mul_left_comm, Nat.mul_mod_right]
  rw [Nat.xor_mod_two_pow, h, Nat.xor_zero]
theorem zx_os_hd (c j x : Nat) : zx_hd (zx_os c j x) = zx_hd c := zx_sd_low (o := 20) c j x
theorem zx_is_hd (c j x : Nat) : zx_hd (zx_is c j x) = zx_hd c := zx_sd_low (o := 20) c j x
theorem zx_hd_tg {c c' : Nat} (h : zx_hd c = zx_hd c') : zx_tg c = zx_tg c' ∧ zx_cn c = zx_cn c' := by
  have h : c % 1048576 = c' % 1048576 := h
  refine ⟨?_, ?_⟩
  · show c % 16 = c' % 16
    omega
  · show c % 1048576 / 16 = c' % 1048576 / 16
    rw [h]
/-! ints -/
def zx_bz (x : Int32) : Nat := (x.toInt + 2147483648).toNat
theorem zx_rg (x : Int32) : -2147483648 ≤ x.toInt ∧ x.toInt < 2147483648 := ⟨Int32.le_toInt x, Int32.toInt_lt x⟩
theorem zx_bz_int (x : Int32) : (zx_bz x : Int) = x.toInt + 2147483648 := by
  have := zx_rg x
  unfold zx_bz
  omega
theorem zx_bz_lt (x : Int32) : zx_bz x < 4294967296 := by
  have h1 := zx_bz_int x
  have := zx_rg x
  omega
theorem zx_lt' (x y : Int32) : x < y ↔ zx_bz x < zx_bz y := by
  rw [Int32.lt_iff_toInt_lt]
  have h1 := zx_bz_int x
  have h2 := zx_bz_int y
  omega
theorem zx_eq' (x y : Int32) : x = y ↔ zx_bz x = zx_bz y := by
  rw [← Int32.toInt_inj]
  have h1 := zx_bz_int x
  have h2 := zx_bz_int y
  omega
theorem zx_le' (x y : Int32) : x ≤ y ↔ zx_bz x ≤ zx_bz y := by
  rw [Int32.le_iff_toInt_le]
  have h1 := zx_bz_int x
  have h2 := zx_bz_int y
  omega
theorem zx_nI_int (n : Nat) (h : n < 4294967296) : (nI n).toInt = if n < 2147483648 then (n : Int) else (n : Int) - 4294967296 := by
  have h1 : (nI n).toInt = (nI n).toBitVec.toInt := rfl
  rw [h1, BitVec.toInt_eq_toNat_cond, pk_tn (by omega)]
  split <;> split <;> omega
theorem zx_bi_eq (n : Nat) : zx_bi n = (n + 2147483648) % 4294967296 := rfl
theorem zx_bi_lt (n : Nat) : zx_bi n < 4294967296 := Nat.mod_lt _ (by decide)
theorem zx_bz_nI (n : Nat) (h : n < 4294967296) : zx_bz (nI n) = zx_bi n := by
  have h1 := zx_bz_int (nI n)
  rw [zx_nI_int n h] at h1
  rw [zx_bi_eq]
  split at h1 <;> omega
theorem zx_of_bz (x : Int32) : x = nI (zx_bi (zx_bz x)) := by
  have hl := zx_bz_lt x
  rw [zx_eq', zx_bz_nI _ (zx_bi_lt _), zx_bi_eq, zx_bi_eq]
  omega
theorem zx_md (n : Nat) : nI (n % 4294967296) = nI n := by
  have h : ∀ k : Nat, (nI k).toBitVec = BitVec.ofNat 32 k := fun k => rfl
  apply Int32.toBitVec_inj.mp
  rw [h, h]
  apply BitVec.eq_of_toNat_eq
  simp
theorem zx_and' (a b : Nat) : nI a &&& nI b = nI (a &&& b) := by
  apply Int32.toBitVec_inj.1
  show BitVec.ofNat 32 a &&& BitVec.ofNat 32 b = BitVec.ofNat 32 (a &&& b)
  apply BitVec.eq_of_getLsbD_eq
  intro i hi
  simp [hi]
theorem zx_or' (a b : Nat) : nI a ||| nI b = nI (a ||| b) := by
  apply Int32.toBitVec_inj.1
  show BitVec.ofNat 32 a ||| BitVec.ofNat 32 b = BitVec.ofNat 32 (a ||| b)
  apply BitVec.eq_of_getLsbD_eq
  intro i hi
  simp [hi]
theorem zx_xor' (a b : Nat) : nI a ^^^ nI b = nI (a ^^^ b) := by
  apply Int32.toBitVec_inj.1
  show BitVec.ofNat 32 a ^^^ BitVec.ofNat 32 b = BitVec.ofNat 32 (a ^^^ b)
  apply BitVec.eq_of_getLsbD_eq
  intro i hi
  simp [hi]
theorem zx_sl' : ∀ n, n < 32 → ((nI n &&& 31).toBitVec.smod 32).toNat = n := by decide +kernel
theorem zx_su' : ∀ n, n < 32 → (((nI n).toUInt32 &&& Int32.toUInt32 31).toBitVec % 32).toNat = n := by decide +kernel
theorem zx_sub' (x y : Nat) (hy : y < 4294967296) : nI x - nI y = nI (zx_f1 x y) := by
  show _ = nI ((x + (4294967296 - y)) % 4294967296)
  rw [zx_md]
  have h : nI x = nI (x + (4294967296 - y)) + nI y := by
    rw [nI_add, ← zx_md x, ← zx_md (x + (4294967296 - y) + y)]
    congr 1
    omega
  rw [h, Int32.add_sub_cancel]
theorem zx_shl' (x y : Nat) (hx : x < 4294967296) (hy : y < 32) : nI x <<< (nI y &&& 31) = nI (zx_g6 x y) := by
  apply Int32.toBitVec_inj.1
  apply BitVec.eq_of_toNat_eq
  rw [pk_shl (nI x) (nI y &&& 31) y (zx_sl' y hy), pk_tn (by omega)]
  show _ = (nI ((x * 2 ^ y) % 4294967296)).toBitVec.toNat
  rw [pk_tn (Nat.mod_lt _ (by decide))]
theorem zx_g7_lt (x y : Nat) (hx : x < 4294967296) : zx_g7 x y < 4294967296 := by
  have hd : x / 2 ^ y ≤ x := Nat.div_le_self _ _
  show (bif Nat.blt x 2147483648 then x / 2 ^ y else 4294967295 - (4294967295 - x) / 2 ^ y) < 4294967296
  cases Nat.blt x 2147483648
  · exact Nat.lt_of_le_of_lt (Nat.sub_le _ _) (by decide)
  · exact Nat.lt_of_le_of_lt hd hx
theorem zx_shr' (x y : Nat) (hx : x < 4294967296) (hy : y < 32) : nI x >>> (nI y &&& 31) = nI (zx_g7 x y) := by
  apply Int32.toInt_inj.1
  have hl := zx_g7_lt x y hx
  have hd : x / 2 ^ y ≤ x := Nat.div_le_self _ _
  rw [pk_shr (nI x) (nI y &&& 31) y (zx_sl' y hy), zx_nI_int _ hx, zx_nI_int _ hl, Int.shiftRight_eq_div_pow]
  show _ = if (bif Nat.blt x 2147483648 then x / 2 ^ y else 4294967295 - (4294967295 - x) / 2 ^ y) < 2147483648 then ((bif Nat.blt x 2147483648 then x / 2 ^ y else 4294967295 - (4294967295 - x) / 2 ^ y : Nat) : Int) else ((bif Nat.blt x 2147483648 then x / 2 ^ y else 4294967295 - (4294967295 - x) / 2 ^ y : Nat) : Int) - 4294967296
  by_cases h : x < 2147483648
  · rw [if_pos h, show Nat.blt x 2147483648 = true from Nat.ble_eq_true_of_le h, cond_true, if_pos (by omega)]
    simp
  · have hb : Nat.blt x 2147483648 = false := by
      cases hb : Nat.blt x 2147483648 with
      | false => rfl
      | true => exact absurd (Nat.le_of_ble_eq_true hb) h
    rw [if_neg h, hb, cond_false]
    have hm : (4294967295 - x) / 2 ^ y ≤ 4294967295 - x := Nat.div_le_self _ _
    rw [if_neg (by omega)]
    have e1 : (x : Int) - 4294967296 = Int.negSucc (4294967295 - x) := by omega
    have hp : (0 : Int) < ((2 ^ y : Nat) : Int) := by exact_mod_cast Nat.pow_pos (by decide : 0 < 2)
    rw [e1, Int.negSucc_ediv _ hp]
    have e2 : Int.ediv ((4294967295 - x : Nat) : Int) ((2 ^ y : Nat) : Int) = (((4294967295 - x) / 2 ^ y : Nat) : Int) := rfl
    rw [e2]
    omega
theorem zx_ushr' (x y : Nat) (hx : x < 4294967296) (hy : y < 32) : ((nI x).toUInt32 >>> ((nI y).toUInt32 &&& Int32.toUInt32 31)).toInt32 = nI (zx_g8 x y) := pk_ushrN (by omega) (nI y) y (zx_su' y hy)
theorem zx_g8_lt (x y : Nat) (hx : x < 4294967296) : zx_g8 x y < 4294967296 := Nat.lt_of_le_of_lt (Nat.div_le_self x (2 ^ y)) hx
theorem zx_n8_lt (x : Nat) : zx_n8 x < 4294967296 := by
  show (bif Nat.blt (x % 256) 128 then x % 256 else x % 256 + 4294967040) < 4294967296
  cases Nat.blt (x % 256) 128
  · show x % 256 + 4294967040 < 4294967296
    omega
  · show x % 256 < 4294967296
    omega
theorem zx_n8' (x : Nat) (hx : x < 4294967296) : (nI x).toInt8.toInt32 = nI (zx_n8 x) := by
  apply Int32.toInt_inj.1
  rw [zx_nI_int _ (zx_n8_lt x)]
  have h1 : ((nI x).toInt8.toInt32).toInt = (nI x).toInt8.toInt := Int8.toInt_toInt32 _
  have h2 : (nI x).toInt8.toInt = (nI x).toInt.bmod (2 ^ 8) := Int32.toInt_toInt8 _
  rw [h1, h2, zx_nI_int _ hx]
  show _ = if (bif Nat.blt (x % 256) 128 then x % 256 else x % 256 + 4294967040) < 2147483648 then (((bif Nat.blt (x % 256) 128 then x % 256 else x % 256 + 4294967040) : Nat) : Int) else (((bif Nat.blt (x % 256) 128 then x % 256 else x % 256 + 4294967040) : Nat) : Int) - 4294967296
  cases hb : Nat.blt (x % 256) 128 with
  | true =>
    have := zx_blt_t hb
    simp only [cond_true, Int.bmod_def]
    repeat' split
    all_goals omega
  | false =>
    have := zx_blt_f hb
    simp only [cond_false, Int.bmod_def]
    repeat' split
    all_goals omega
theorem zx_n16' (x : Nat) (hx : x < 4294967296) : ((nI x).toUInt32 % 65536).toInt32 = nI (zx_n16 x) := by
  rw [pk_char, pk_tn (by omega)]
  rfl
