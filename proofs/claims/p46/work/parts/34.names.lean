/-! names that are given on the way -/
def zy_le (A B : zy_V) : Prop := A.1 = B.1 ∧ (zy_fi A ≤ zy_fi B ∧ zy_fl A ≤ zy_fl B ∧ zy_fr A ≤ zy_fr B) ∧ (∀ k, k < zy_fi A → zy_nu B k = zy_nu A k) ∧ (∀ k, k < zy_fl A → zy_lu B k = zy_lu A k) ∧ ∀ k, k < zy_fr A → zy_ru B k = zy_ru A k
theorem zy_le_rf (A : zy_V) : zy_le A A := ⟨rfl, ⟨Nat.le_refl _, Nat.le_refl _, Nat.le_refl _⟩, fun _ _ => rfl, fun _ _ => rfl, fun _ _ => rfl⟩
theorem zy_le_tr {A B C : zy_V} (h1 : zy_le A B) (h2 : zy_le B C) : zy_le A C :=
  ⟨h1.1.trans h2.1, ⟨Nat.le_trans h1.2.1.1 h2.2.1.1, Nat.le_trans h1.2.1.2.1 h2.2.1.2.1, Nat.le_trans h1.2.1.2.2 h2.2.1.2.2⟩,
   fun k hk => (h2.2.2.1 k (Nat.lt_of_lt_of_le hk h1.2.1.1)).trans (h1.2.2.1 k hk), fun k hk => (h2.2.2.2.1 k (Nat.lt_of_lt_of_le hk h1.2.1.2.1)).trans (h1.2.2.2.1 k hk), fun k hk => (h2.2.2.2.2 k (Nat.lt_of_lt_of_le hk h1.2.1.2.2)).trans (h1.2.2.2.2 k hk)⟩
theorem zy_nb_le {A B : zy_V} (h : zy_le A B) {k : Nat} (hk : zy_nb A k) : zy_nb B k ∧ zy_nu B k = zy_nu A k := ⟨⟨hk.1, Nat.lt_of_lt_of_le hk.2 h.2.1.1⟩, h.2.2.1 k hk.2⟩
theorem zy_r_le {A B : zy_V} (h : zy_le A B) {v : Nat} {x : Value} (hr : zy_r A v x) : zy_r B v x := by
  have hads : zy_ads B = zy_ads A := by unfold zy_ads; rw [h.1]
  have hgl : zy_gl B = zy_gl A := by unfold zy_gl; rw [h.1]
  have hex : zy_ex B = zy_ex A := by unfold zy_ex; rw [h.1]
  rcases zy_r_kd hr with q | q | q | q | q | q | q | q | q | q | q | q | q
  · obtain ⟨g0, g1, g2, g3⟩ := (zy_r1 q).mp hr
    obtain ⟨h1, h2⟩ := zy_nb_le h g3
    exact (zy_r1 q).mpr ⟨g0, by rw [h2]; exact g1, g2, h1⟩
  · obtain ⟨g0, i, a, g1, g2, g3, g4⟩ := (zy_r2 q).mp hr
    refine (zy_r2 q).mpr ⟨g0, i, a, by rw [hads]; exact g1, by rw [hgl]; exact g2, g3, fun z => ?_⟩
    obtain ⟨g5, g6⟩ := g4 z
    exact ⟨by rw [h.2.2.2.2 _ g6]; exact g5, Nat.lt_of_lt_of_le g6 h.2.1.2.2⟩
  · exact (zy_r3 q).mpr ((zy_r3 q).mp hr)
  · exact (zy_r4 q).mpr ((zy_r4 q).mp hr)
  · obtain ⟨g0, y, g1, g2, g3⟩ := (zy_r5 q).mp hr
    refine (zy_r5 q).mpr ⟨g0, y, g1, fun z => ?_, g3⟩
    obtain ⟨g5, g6⟩ := g2 z
    exact ⟨by rw [h.2.2.2.1 _ g6]; exact g5, Nat.lt_of_lt_of_le g6 h.2.1.2.1⟩
  · obtain ⟨g0, g1⟩ := (zy_r6 q).mp hr
    exact (zy_r6 q).mpr ⟨g0, by rw [hex]; exact g1⟩
  · exact (zy_r7 q).mpr ((zy_r7 q).mp hr)
  · exact (zy_r8 q).mpr ((zy_r8 q).mp hr)
  · obtain ⟨g0, g1, g2, g3⟩ := (zy_r11 q).mp hr
    obtain ⟨h1, h2⟩ := zy_nb_le h g3
    exact (zy_r11 q).mpr ⟨g0, by rw [h2]; exact g1, g2, h1⟩
  · obtain ⟨g0, g1, g2, g3⟩ := (zy_r12 q).mp hr
    exact (zy_r12 q).mpr ⟨g0, by rw [h.2.2.2.1 _ g2]; exact g1, Nat.lt_of_lt_of_le g2 h.2.1.2.1, g3⟩
  · obtain ⟨g0, g1, g2, g3⟩ := (zy_r13 q).mp hr
    obtain ⟨h1, h2⟩ := zy_nb_le h g3
    exact (zy_r13 q).mpr ⟨g0, by rw [h2]; exact g1, g2, h1⟩
  · obtain ⟨g0, g1, g2, g3⟩ := (zy_r14 q).mp hr
    obtain ⟨h1, h2⟩ := zy_nb_le h g3
    exact (zy_r14 q).mpr ⟨g0, by rw [h2]; exact g1, g2, h1⟩
  · obtain ⟨g0, g1, g2, g3⟩ := (zy_r15 q).mp hr
    obtain ⟨h1, h2⟩ := zy_nb_le h g3
    exact (zy_r15 q).mpr ⟨g0, by rw [h2]; exact g1, g2, h1⟩
/-- one name more -/
def zy_xi (A : zy_V) (y : Int32) : zy_V := (A.1, (zy_ru A, fun k => if k = zy_fi A then y else zy_nu A k, zy_lu A), (zy_fi A + 1, zy_fl A, zy_fr A))
def zy_xl (A : zy_V) (y : Int64) : zy_V := (A.1, (zy_ru A, zy_nu A, fun k => if k = zy_fl A then y else zy_lu A k), (zy_fi A, zy_fl A + 1, zy_fr A))
def zy_xr1 (A : zy_V) (y : Nat) : zy_V := (A.1, (fun k => if k = zy_fr A then y else zy_ru A k, zy_nu A, zy_lu A), (zy_fi A, zy_fl A, zy_fr A + 1))
theorem zy_xi_le (A : zy_V) (y : Int32) : zy_le A (zy_xi A y) := ⟨rfl, ⟨Nat.le_succ _, Nat.le_refl _, Nat.le_refl _⟩, fun k hk => if_neg (by omega), fun _ _ => rfl, fun _ _ => rfl⟩
theorem zy_xl_le (A : zy_V) (y : Int64) : zy_le A (zy_xl A y) := ⟨rfl, ⟨Nat.le_refl _, Nat.le_succ _, Nat.le_refl _⟩, fun _ _ => rfl, fun k hk => if_neg (by omega), fun _ _ => rfl⟩
theorem zy_xr_le (A : zy_V) (y : Nat) : zy_le A (zy_xr1 A y) := ⟨rfl, ⟨Nat.le_refl _, Nat.le_refl _, Nat.le_succ _⟩, fun _ _ => rfl, fun _ _ => rfl, fun k hk => if_neg (by omega)⟩
theorem zy_eg_same (e i v : Nat) (h : v < 18446744073709551616) : zx_eg (zx_es e i v) i = v := zx_sd_same (by decide) e i v h
theorem zy_eg_other (e i v k : Nat) (h : v < 18446744073709551616) (hk : k ≠ i) : zx_eg (zx_es e i v) k = zx_eg e k := zx_sd_other (by decide) e i v k h hk
/-- what is known, with one name more -/
theorem zy_ev_xi {A : zy_V} {e l u : Nat} {y : Int32} (he : zy_ev A e) (h1 : l ≤ zx_bz y) (h2 : zx_bz y ≤ u) (hu : u < 4294967296) (hf : zy_fi A < 192) : zy_ev (zy_xi A y) (zx_es (zx_es e (zy_fi A) (zx_bd l u)) 0 (zx_eg e 0 + 1)) := by
  obtain ⟨g1, g2, g3, g4, g5, g6, g7, g8⟩ := he
  have hy := zx_bz_lt y
  have hb : zx_bd l u < 18446744073709551616 := by rw [zx_bd_eq]; omega
  have h0 : zx_eg e 0 + 1 < 18446744073709551616 := by omega
  refine ⟨fun k hk => ?_, fun k hk => ?_, ?_, ?_, ?_, g6, g7, g8⟩
  · obtain ⟨k1, k2⟩ := hk
    have k2 : k < zy_fi A + 1 := k2
    rw [zy_eg_other _ _ _ _ h0 (by omega)]
    by_cases q : k = zy_fi A
    · subst q
      rw [zy_eg_same _ _ _ hb, zx_bd_eq, show zy_nu (zy_xi A y) (zy_fi A) = y from if_pos rfl]
      right
      constructor <;> omega
    · rw [zy_eg_other _ _ _ _ hb q, show zy_nu (zy_xi A y) k = zy_nu A k from if_neg q]
      exact g1 k ⟨k1, by omega⟩
  · rw [zy_eg_other _ _ _ _ h0 (by omega), zy_eg_other _ _ _ _ hb (by omega)]
    exact g2 k hk
  · rw [zy_eg_same _ _ _ h0, g3]
    show zy_fi A + 65536 * zy_fl A + 4294967296 * zy_fr A + 1 = (zy_fi A + 1) + 65536 * zy_fl A + 4294967296 * zy_fr A
    omega
  · show 0 < zy_fi A + 1
    omega
  · show zy_fi A + 1 ≤ 192
    omega
theorem zy_ev_xl {A : zy_V} {e : Nat} {y : Int64} (he : zy_ev A e) (hf : zy_fl A < 64) : zy_ev (zy_xl A y) (zx_es (zx_es e (192 + zy_fl A) 0) 0 (zx_eg e 0 + 65536)) := by
  obtain ⟨g1, g2, g3, g4, g5, g6, g7, g8⟩ := he
  have hb : 0 < 18446744073709551616 := by decide
  have h0 : zx_eg e 0 + 65536 < 18446744073709551616 := by omega
  refine ⟨fun k hk => ?_, fun k hk => ?_, ?_, g4, g5, ?_, g7, g8⟩
  · obtain ⟨k1, k2⟩ := hk
    have k2 : k < zy_fi A := k2
    rw [zy_eg_other _ _ _ _ h0 (by omega), zy_eg_other _ _ _ _ hb (by omega)]
    exact g1 k ⟨k1, k2⟩
  · rw [zy_eg_other _ _ _ _ h0 (by omega)]
    by_cases q : k = zy_fl A
    · subst q
      rw [zy_eg_same _ _ _ hb]
      refine ⟨fun z => absurd rfl z, fun n _ hn => ?_⟩
      rw [Nat.zero_div, Nat.zero_testBit] at hn
      cases hn
    · rw [zy_eg_other _ _ _ _ hb (by omega), show zy_lu (zy_xl A y) k = zy_lu A k from if_neg q]
      exact g2 k hk
  · rw [zy_eg_same _ _ _ h0, g3]
    show zy_fi A + 65536 * zy_fl A + 4294967296 * zy_fr A + 65536 = zy_fi A + 65536 * (zy_fl A + 1) + 4294967296 * zy_fr A
    omega
  · show zy_fl A + 1 ≤ 64
    omega
theorem zy_ev_xr {A : zy_V} {e y : Nat} (he : zy_ev A e) (hf : zy_fr A < 256) : zy_ev (zy_xr1 A y) (zx_es e 0 (zx_eg e 0 + 4294967296)) := by
  obtain ⟨g1, g2, g3, g4, g5, g6, g7, g8⟩ := he
  have h0 : zx_eg e 0 + 4294967296 < 18446744073709551616 := by omega
  refine ⟨fun k hk => ?_, fun k hk => ?_, ?_, g4, g5, g6, ?_, ?_⟩
  · obtain ⟨k1, k2⟩ := hk
    rw [zy_eg_other _ _ _ _ h0 (by omega)]
    exact g1 k ⟨k1, k2⟩
  · rw [zy_eg_other _ _ _ _ h0 (by omega)]
    exact g2 k hk
  · rw [zy_eg_same _ _ _ h0, g3]
    show zy_fi A + 65536 * zy_fl A + 4294967296 * zy_fr A + 4294967296 = zy_fi A + 65536 * zy_fl A + 4294967296 * (zy_fr A + 1)
    omega
  · show 100 ≤ zy_fr A + 1
    omega
  · show zy_fr A + 1 ≤ 256
    omega
/-- an int between bounds gets a name; a known one needs none -/
noncomputable def zy_ni (e l h : Nat) (k : Nat → Nat → Bool) : Bool := bif Nat.beq l h then zx_fn (zx_c (zx_bi l)) (fun v => k v e) else
  zx_fn (zx_eg e 0) (fun F => zx_fn (Nat.mod F 65536) (fun f => bif Nat.blt f 190 then zx_fn (zx_es (zx_es e f (zx_bd l h)) 0 (Nat.succ F)) (fun e => zx_fn (zy_nm f 0) (fun v => k v e)) else false))
noncomputable def zy_nl (e : Nat) (k : Nat → Nat → Bool) : Bool :=
  zx_fn (zx_eg e 0) (fun F => zx_fn (Nat.mod (Nat.div F 65536) 65536) (fun f => bif Nat.blt f 60 then zx_fn (zx_es (zx_es e (Nat.add 192 f) 0) 0 (Nat.add F 65536)) (fun e => zx_fn (Nat.add (Nat.mul (Nat.succ (Nat.mul 2 f)) 16) 5) (fun v => k v e)) else false))
noncomputable def zy_nr (e g : Nat) (k : Nat → Nat → Bool) : Bool :=
  zx_fn (zx_eg e 0) (fun F => zx_fn (Nat.div F 4294967296) (fun f => bif Nat.blt f 250 && Nat.blt g 65536 then zx_fn (zx_es e 0 (Nat.add F 4294967296)) (fun e => zx_fn (Nat.add (Nat.mul (Nat.add f (Nat.mul 256 g)) 16) 2) (fun v => k v e)) else false))
section ZYN
variable {A : zy_V} {e : Nat}
theorem zy_ni_s (he : zy_ev A e) {l u : Nat} {y : Int32} (h1 : l ≤ zx_bz y) (h2 : zx_bz y ≤ u) (hu : u < 4294967296) {k : Nat → Nat → Bool} (hk : zy_ni e l u k = true) :
    ∃ (B : zy_V) (v e' : Nat), zy_le A B ∧ zy_ev B e' ∧ zy_r B v (.int y) ∧ (v % 16 = 1 ∨ v % 16 = 4) ∧ k v e' = true := by
  unfold zy_ni at hk
  rcases zx_bif hk with ⟨q, hk⟩ | ⟨-, hk⟩
  · have q := zx_beq_t q
    rw [zx_fn_eq] at hk
    exact ⟨A, _, e, zy_le_rf A, he, zy_const (by omega), Or.inr (zx_c_kd _), hk⟩
  · rw [zx_fn_eq, zx_fn_eq] at hk
    obtain ⟨q, hk⟩ := zx_bft hk
    rw [zx_fn_eq, zx_fn_eq] at hk
    have hF := he.2.2.1
    have hl := he.2.2.2.2.2.1
    have hi := he.2.2.2.2.1
    have e1 : Nat.mod (zx_eg e 0) 65536 = zy_fi A := by
      show zx_eg e 0 % 65536 = zy_fi A
      omega
    rw [e1] at q hk
    have q := zx_blt_t q
    have e2 : zy_fi A % 256 = zy_fi A := by omega
    have hr : zy_r (zy_xi A y) (zy_nm (zy_fi A % 256) 0) (.int y) := by
      refine zy_r_nm ?_ (by decide) ?_
      · rw [e2]
        exact ⟨he.2.2.2.1, Nat.lt_succ_self _⟩
      · rw [e2, show zy_nu (zy_xi A y) (zy_fi A) = y from if_pos rfl, nI_0, Int32.add_zero]
    rw [e2] at hr
    refine ⟨zy_xi A y, _, _, zy_xi_le A y, zy_ev_xi he h1 h2 hu (by omega), hr, Or.inl ?_, hk⟩
    show ((zy_fi A + 256 * 0) * 16 + 1) % 16 = 1
    omega
theorem zy_nl_s (he : zy_ev A e) (y : Int64) {k : Nat → Nat → Bool} (hk : zy_nl e k = true) :
    ∃ (B : zy_V) (v e' : Nat), zy_le A B ∧ zy_ev B e' ∧ zy_r B v (.long y) ∧ v % 16 = 5 ∧ k v e' = true := by
  unfold zy_nl at hk
  rw [zx_fn_eq, zx_fn_eq] at hk
  obtain ⟨q, hk⟩ := zx_bft hk
  rw [zx_fn_eq, zx_fn_eq] at hk
  have hF := he.2.2.1
  have hl := he.2.2.2.2.2.1
  have hi := he.2.2.2.2.1
  have e1 : Nat.mod (Nat.div (zx_eg e 0) 65536) 65536 = zy_fl A := by
    show zx_eg e 0 / 65536 % 65536 = zy_fl A
    omega
  rw [e1] at q hk
  have q := zx_blt_t q
  have em : ((2 * zy_fl A + 1) * 16 + 5) % 16 = 5 := by omega
  refine ⟨zy_xl A y, _, _, zy_xl_le A y, zy_ev_xl he (by omega), ?_, em, hk⟩
  show zy_r (zy_xl A y) ((2 * zy_fl A + 1) * 16 + 5) (.long y)
  have e3 : ((2 * zy_fl A + 1) * 16 + 5) / 16 = 2 * zy_fl A + 1 := by omega
  have e4 : (2 * zy_fl A + 1) / 2 = zy_fl A := by omega
  rw [zy_r5 em, e3, e4]
  refine ⟨by omega, y, rfl, fun _ => ⟨(if_pos rfl).symm, Nat.lt_succ_self _⟩, fun z => by omega⟩
theorem zy_nr_s (he : zy_ev A e) {g i q : Nat} (h1 : (zy_ads A)[i]? = some q) (h2 : (zy_gl A)[i]? = some g) {k : Nat → Nat → Bool} (hk : zy_nr e g k = true) :
    ∃ (B : zy_V) (v e' : Nat), zy_le A B ∧ zy_ev B e' ∧ zy_r B v (.ref q) ∧ v % 16 = 2 ∧ v / 16 / 256 = g ∧ k v e' = true := by
  unfold zy_nr at hk
  rw [zx_fn_eq, zx_fn_eq] at hk
  obtain ⟨q0, hk⟩ := zx_bft hk
  rw [zx_fn_eq, zx_fn_eq] at hk
  have hF := he.2.2.1
  have hl := he.2.2.2.2.2.1
  have hi := he.2.2.2.2.1
  have e1 : Nat.div (zx_eg e 0) 4294967296 = zy_fr A := by
    show zx_eg e 0 / 4294967296 = zy_fr A
    omega
  rw [e1] at q0 hk
  obtain ⟨q0, q1⟩ := zx_and_b q0
  have q0 := zx_blt_t q0
  have q1 := zx_blt_t q1
  have em : ((zy_fr A + 256 * g) * 16 + 2) % 16 = 2 := by omega
  have e3 : ((zy_fr A + 256 * g) * 16 + 2) / 16 = zy_fr A + 256 * g := by omega
  have e4 : (zy_fr A + 256 * g) % 256 = zy_fr A := by omega
  have e5 : (zy_fr A + 256 * g) / 256 = g := by omega
  refine ⟨zy_xr1 A i, _, _, zy_xr_le A i, zy_ev_xr he (by omega), ?_, em, (show ((zy_fr A + 256 * g) * 16 + 2) / 16 / 256 = g by rw [e3, e5]), hk⟩
  show zy_r (zy_xr1 A i) ((zy_fr A + 256 * g) * 16 + 2) (.ref q)
  rw [zy_r2 em, e3, e4, e5]
  exact ⟨by omega, i, q, h1, h2, rfl, fun _ => ⟨if_pos rfl, Nat.lt_succ_self _⟩⟩
end ZYN
