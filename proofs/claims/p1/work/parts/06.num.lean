/-! the walker's arithmetic is the machine's -/
theorem zx_and (a b : Nat) : nI a &&& nI b = nI (a &&& b) := by
  apply Int32.toBitVec_inj.1
  show BitVec.ofNat 32 a &&& BitVec.ofNat 32 b = BitVec.ofNat 32 (a &&& b)
  apply BitVec.eq_of_getLsbD_eq
  intro i hi
  simp [hi]
theorem zx_or (a b : Nat) : nI a ||| nI b = nI (a ||| b) := by
  apply Int32.toBitVec_inj.1
  show BitVec.ofNat 32 a ||| BitVec.ofNat 32 b = BitVec.ofNat 32 (a ||| b)
  apply BitVec.eq_of_getLsbD_eq
  intro i hi
  simp [hi]
theorem zx_xor (a b : Nat) : nI a ^^^ nI b = nI (a ^^^ b) := by
  apply Int32.toBitVec_inj.1
  show BitVec.ofNat 32 a ^^^ BitVec.ofNat 32 b = BitVec.ofNat 32 (a ^^^ b)
  apply BitVec.eq_of_getLsbD_eq
  intro i hi
  simp [hi]
theorem zx_sl : ∀ n, n < 32 → ((nI n &&& 31).toBitVec.smod 32).toNat = n := by decide +kernel
theorem zx_su : ∀ n, n < 32 → (((nI n).toUInt32 &&& Int32.toUInt32 31).toBitVec % 32).toNat = n := by decide +kernel
theorem zx_sub (x y : Nat) (hy : y < 4294967296) : nI x - nI y = nI ((x + (4294967296 - y)) % 4294967296) := by
  rw [zx_md]
  have h : nI x = nI (x + (4294967296 - y)) + nI y := by
    rw [nI_add, ← zx_md x, ← zx_md (x + (4294967296 - y) + y)]
    congr 1
    omega
  rw [h, Int32.add_sub_cancel]
theorem zx_cb_lt (op x y : Nat) (hx : x < 4294967296) (hy : y < 4294967296) : zx_cb op x y < 4294967296 := by
  match op with
  | 0 => exact Nat.mod_lt _ (by decide)
  | 1 => exact Nat.mod_lt _ (by decide)
  | 2 => exact Nat.mod_lt _ (by decide)
  | 3 => exact Nat.and_lt_two_pow (n := 32) x hy
  | 4 => exact Nat.or_lt_two_pow (n := 32) hx hy
  | (k + 5) => exact Nat.xor_lt_two_pow (n := 32) hx hy
theorem zx_shl (x y : Nat) (hx : x < 4294967296) (hy : y < 32) : nI x <<< (nI y &&& 31) = nI (zx_cs 6 x y) := by
  apply Int32.toBitVec_inj.1
  apply BitVec.eq_of_toNat_eq
  rw [pk_shl (nI x) (nI y &&& 31) y (zx_sl y hy), pk_tn (by omega)]
  show _ = (nI ((x * 2 ^ y) % 4294967296)).toBitVec.toNat
  rw [pk_tn (Nat.mod_lt _ (by decide))]
theorem zx_cs_lt (op x y : Nat) (hx : x < 4294967296) : zx_cs op x y < 4294967296 := by
  have hd : x / 2 ^ y ≤ x := Nat.div_le_self _ _
  unfold zx_cs
  split
  · exact Nat.mod_lt _ (by decide)
  · cases Nat.blt x 2147483648
    · exact Nat.lt_of_le_of_lt (Nat.sub_le _ _) (by decide)
    · exact Nat.lt_of_le_of_lt hd hx
  · omega
theorem zx_shr (x y : Nat) (hx : x < 4294967296) (hy : y < 32) : nI x >>> (nI y &&& 31) = nI (zx_cs 7 x y) := by
  apply Int32.toInt_inj.1
  have hl := zx_cs_lt 7 x y hx
  have hd : x / 2 ^ y ≤ x := Nat.div_le_self _ _
  rw [pk_shr (nI x) (nI y &&& 31) y (zx_sl y hy), zx_nI_int _ hx, zx_nI_int _ hl, Int.shiftRight_eq_div_pow]
  show _ = if (bif Nat.blt x 2147483648 then x / 2 ^ y else 4294967295 - (4294967295 - x) / 2 ^ y) < 2147483648 then ((bif Nat.blt x 2147483648 then x / 2 ^ y else 4294967295 - (4294967295 - x) / 2 ^ y : Nat) : Int) else ((bif Nat.blt x 2147483648 then x / 2 ^ y else 4294967295 - (4294967295 - x) / 2 ^ y : Nat) : Int) - 4294967296
  by_cases h : x < 2147483648
  · rw [if_pos h, show Nat.blt x 2147483648 = true from decide_eq_true h |> fun _ => Nat.ble_eq_true_of_le h, cond_true, if_pos (by omega)]
    simp
  · have hb : Nat.blt x 2147483648 = false := by
      cases hb : Nat.blt x 2147483648 with
      | false => rfl
      | true => exact absurd (Nat.le_of_ble_eq_true hb) h
    rw [if_neg h, hb, cond_false]
    have hm : (4294967295 - x) / 2 ^ y ≤ 4294967295 - x := Nat.div_le_self _ _
    rw [if_neg (by omega)]
    have e1 : (x : Int) - 4294967296 = Int.negSucc (4294967295 - x) := by omega
    have hp : (0 : Int) < ((2 ^ y : Nat) : Int) := by exact_mod_cast Nat.pow_pos (by decide : 0 < 2)
    rw [e1, Int.negSucc_ediv _ hp]
    have e2 : Int.ediv ((4294967295 - x : Nat) : Int) ((2 ^ y : Nat) : Int) = (((4294967295 - x) / 2 ^ y : Nat) : Int) := rfl
    rw [e2]
    omega
theorem zx_ushr (x y : Nat) (hx : x < 4294967296) (hy : y < 32) : ((nI x).toUInt32 >>> ((nI y).toUInt32 &&& Int32.toUInt32 31)).toInt32 = nI (zx_cs 8 x y) := pk_ushrN (by omega) (nI y) y (zx_su y hy)
/-! array places as digits -/
theorem zx_dg_lt (c j : Nat) : zx_dg c j < 4294967296 := Nat.mod_lt _ (by decide)
theorem zx_sd_same (c j x : Nat) (hx : x < 4294967296) : zx_dg (zx_sd c j x) j = x := by
  show ((c ^^^ ((zx_dg c j ^^^ x) <<< (32 * j))) >>> (32 * j)) % 2 ^ 32 = x
  rw [Nat.shiftRight_xor_distrib, Nat.shiftLeft_shiftRight, Nat.xor_mod_two_pow]
  have h1 : (c >>> (32 * j)) % 2 ^ 32 = zx_dg c j := rfl
  have h2 : (zx_dg c j ^^^ x) % 2 ^ 32 = zx_dg c j ^^^ x := Nat.mod_eq_of_lt (Nat.xor_lt_two_pow (zx_dg_lt c j) hx)
  rw [h1, h2, ← Nat.xor_assoc, Nat.xor_self, Nat.zero_xor]
theorem zx_sd_other (c j x i : Nat) (hx : x < 4294967296) (hij : i ≠ j) : zx_dg (zx_sd c j x) i = zx_dg c i := by
  show ((c ^^^ ((zx_dg c j ^^^ x) <<< (32 * j))) >>> (32 * i)) % 2 ^ 32 = (c >>> (32 * i)) % 2 ^ 32
  have hd : zx_dg c j ^^^ x < 2 ^ 32 := Nat.xor_lt_two_pow (zx_dg_lt c j) hx
  rw [Nat.shiftRight_xor_distrib, Nat.xor_mod_two_pow]
  have hz : ((zx_dg c j ^^^ x) <<< (32 * j)) >>> (32 * i) % 2 ^ 32 = 0 := by
    generalize zx_dg c j ^^^ x = d at hd
    rw [Nat.shiftRight_eq_div_pow, Nat.shiftLeft_eq]
    rcases Nat.lt_or_gt_of_ne hij with h | h
    · have e : 32 * j = 32 * i + (32 + 32 * (j - i - 1)) := by omega
      rw [e, Nat.pow_add, Nat.pow_add, Nat.mul_left_comm, Nat.mul_div_cancel_left _ (Nat.pow_pos (by decide)), ← Nat.mul_assoc, Nat.mul_comm d, Nat.mul_assoc, Nat.mul_mod_right]
    · have e : 32 * i = 32 * j + (32 + 32 * (i - j - 1)) := by omega
      have hlt : d * 2 ^ (32 * j) / 2 ^ (32 * i) = 0 := by
        apply Nat.div_eq_of_lt
        rw [e, Nat.pow_add, Nat.mul_comm]
        refine Nat.mul_lt_mul_of_pos_left ?_ (Nat.pow_pos (by decide))
        exact Nat.lt_of_lt_of_le hd (Nat.pow_le_pow_right (by decide) (by omega))
      rw [hlt]
  rw [hz, Nat.xor_zero]
