/-! what the checks of values, places and names say -/
def zy_rs (A : zy_V) (i l r : Nat) : zy_V := (A.1, A.2.1, (i, l, r))
/-- fixed names are right -/
def zy_FX (fg : List Nat) (A : zy_V) : Prop := ∀ r g : Nat, 0 < r → r < 100 → fg[r]? = some g → (zy_gl A)[zy_ru A r]? = some g ∧ ∃ ad, (zy_ads A)[zy_ru A r]? = some ad
/-- the value at a slot of the arguments -/
def zy_av : List Value → Nat → Option Value
  | [], _ => none
  | x :: _, 0 => some x
  | x :: l, j + 1 => if x.category = 2 then (match j with | 0 => none | i + 1 => zy_av l i) else zy_av l j
/-- the value at a slot -/
def zy_lo1 (ls : Array Slot) (j : Nat) : Option Value := match ls[j]? with
  | some (.val v) => some v
  | _ => none
/-- where a value comes from, in the world -/
def zy_so (loc : Nat → Option Value) (A : zy_V) (ws : va_W) (src : Nat) : Option Value := if src % 2 = 1 then loc (src / 2) else zy_rd ws (zy_ru A ((src / 2 - 1) % 256)) ((src / 2 - 1) / 256 % 128) ((src / 2 - 1) / 16777216)
section ZYX
variable {A A0 Z : zy_V} {e : Nat} {ws : va_W} {C : zy_C} {T fg : List Nat} {tys : List (ClassId × FieldType)}
theorem zy_rs_le (h : zy_le A0 A) : zy_le (zy_rs A (zy_fi A0) (zy_fl A0) (zy_fr A0)) A0 :=
  ⟨h.1.symm, ⟨Nat.le_refl _, Nat.le_refl _, Nat.le_refl _⟩, fun k hk => (h.2.2.1 k hk).symm, fun k hk => (h.2.2.2.1 k hk).symm, fun k hk => (h.2.2.2.2 k hk).symm⟩
theorem zy_FX_le (h : zy_le A0 A) (hf : 100 ≤ zy_fr A0) (hF : zy_FX fg A0) : zy_FX fg A := fun r g h1 h2 h3 => by
  have e1 := h.2.2.2.2 r (by omega)
  have e2 : zy_ads A = zy_ads A0 := by unfold zy_ads; rw [h.1]
  rw [e1, zy_gl_le h, e2]
  exact hF r g h1 h2 h3
theorem zy_mv_0 {ki kl kr v t : Nat} (h : zy_mv ki kl kr e v t = true) : v % 16 ≠ 0 := by
  unfold zy_mv at h
  obtain ⟨hw, hq⟩ := zx_and_b h
  have hi : ∀ v, zy_ii v = true → v % 16 ≠ 0 := fun v hv => by
    rcases zy_kci hv with q | q | q | q | q | q | q | q <;> omega
  unfold zy_fq at hq
  rcases zx_bif hq with ⟨q, hq⟩ | ⟨q4, hq⟩
  · exact hi _ (zy_iv_i (zx_and_b hq).2)
  rcases zx_bif hq with ⟨q, hq⟩ | ⟨q7, hq⟩
  · exact hi _ (zy_iv_i hq)
  rcases zx_bif hq with ⟨q, hq⟩ | ⟨q5, hq⟩
  · have hq : v % 16 = 5 := zx_beq_t hq
    omega
  rcases zx_bif hq with ⟨q, hq⟩ | ⟨q2, hq⟩
  · have hq : v % 16 = 2 := zx_beq_t (zx_and_b hq).1
    omega
  · rw [zx_beq_t hq]
    intro h0
    unfold zy_wf at hw
    obtain ⟨-, hw⟩ := zx_and_b hw
    rcases zx_bif hw with ⟨w, hw⟩ | ⟨-, hw⟩
    · have w : t % 16 = 1 := zx_beq_t w
      omega
    rcases zx_bif hw with ⟨w, hw⟩ | ⟨-, hw⟩
    · have w : t % 16 = 2 := zx_beq_t w
      omega
    rcases zx_bif hw with ⟨w, hw⟩ | ⟨-, hw⟩
    · have w : t % 16 = 5 := zx_beq_t w
      omega
    · unfold zx_kc at hw
      rw [show Nat.mod t 16 = 0 from h0] at hw
      cases hw
theorem zy_mv_s {ki kl kr v t : Nat} {x : Value} (he : zy_ev A e) (hr : zy_r A v x) (h : zy_mv ki kl kr e v t = true) : zy_r (zy_rs A ki kl kr) t x := by
  unfold zy_mv at h
  obtain ⟨hw, hq⟩ := zx_and_b h
  unfold zy_wf at hw
  obtain ⟨ht, hw⟩ := zx_and_b hw
  have ht : t < 4722366482869645213696 := zx_blt_t ht
  unfold zy_fq at hq
  rcases zx_bif hq with ⟨q, hq⟩ | ⟨q4, hq⟩
  · have q : t % 16 = 4 := zx_beq_t q
    obtain ⟨h32, hq⟩ := zx_and_b hq
    have h32 : t / 16 < 4294967296 := zx_blt_t h32
    obtain ⟨y, rfl⟩ := zy_r_i (zy_iv_i hq) hr
    obtain ⟨l, u, hk, a1, a2, a3⟩ := zy_iv_s he hr hq
    obtain ⟨k1, k2⟩ := zx_and_b hk
    have k1 : l = zx_bi (t / 16) := zx_beq_t k1
    have k2 : u = l := zx_beq_t k2
    rw [zx_bi_eq] at k1
    have h5 := zx_of_bz y
    rw [zx_bi_eq, show (zx_bz y + 2147483648) % 4294967296 = t / 16 by omega] at h5
    exact (zy_r4 q).mpr ⟨ht, by rw [h5], h32⟩
  rcases zx_bif hq with ⟨q, hq⟩ | ⟨q7, hq⟩
  · have q : t % 16 = 7 := zx_beq_t q
    obtain ⟨y, rfl⟩ := zy_r_i (zy_iv_i hq) hr
    obtain ⟨l, u, hk, a1, a2, a3⟩ := zy_iv_s he hr hq
    obtain ⟨k1, k2⟩ := zx_and_b hk
    have k1 : t / 16 / 4294967296 ≤ l := zx_ble_t k1
    have k2 : u ≤ t / 16 % 4294967296 := zx_ble_t k2
    exact (zy_r7 q).mpr ⟨ht, y, rfl, by omega, by omega⟩
  rcases zx_bif hq with ⟨q, hq⟩ | ⟨q5, hq⟩
  · rw [zx_beq_t q]
    obtain ⟨y, rfl⟩ := zy_r_j (zx_beq_t hq) hr
    exact zy_r_l y
  rcases zx_bif hq with ⟨q, hq⟩ | ⟨q2, hq⟩
  · obtain ⟨q1, q0⟩ := zx_and_b q
    have q1 : t % 16 = 2 := zx_beq_t q1
    have q0 : t / 16 % 256 = 0 := zx_beq_t q0
    obtain ⟨w1, w2⟩ := zx_and_b hq
    have w1 : v % 16 = 2 := zx_beq_t w1
    have w2 : v / 16 / 256 = t / 16 / 256 := zx_beq_t w2
    obtain ⟨-, i, ad, h1, h2, rfl, h4⟩ := (zy_r2 w1).mp hr
    exact (zy_r2 q1).mpr ⟨ht, i, ad, h1, by rw [← w2]; exact h2, rfl, fun z => absurd q0 z⟩
  · rw [zx_beq_t hq] at hr
    rcases zx_bif hw with ⟨w, hw⟩ | ⟨-, hw⟩
    · have w : t % 16 = 1 := zx_beq_t w
      obtain ⟨w1, w2⟩ := zx_and_b hw
      obtain ⟨w2, w3⟩ := zx_and_b w2
      obtain ⟨-, g1, g2, g3⟩ := (zy_r1 w).mp hr
      exact (zy_r1 w).mpr ⟨ht, g1, g2, ⟨zx_blt_t w2, zx_blt_t w1⟩⟩
    rcases zx_bif hw with ⟨w, hw⟩ | ⟨-, hw⟩
    · have w : t % 16 = 2 := zx_beq_t w
      obtain ⟨-, i, ad, h1, h2, h3, h4⟩ := (zy_r2 w).mp hr
      exact (zy_r2 w).mpr ⟨ht, i, ad, h1, h2, h3, fun z => ⟨(h4 z).1, zx_blt_t hw⟩⟩
    rcases zx_bif hw with ⟨w, hw⟩ | ⟨-, hw⟩
    · have w : t % 16 = 5 := zx_beq_t w
      obtain ⟨-, y, h1, h2, h3⟩ := (zy_r5 w).mp hr
      refine (zy_r5 w).mpr ⟨ht, y, h1, fun z => ⟨(h2 z).1, ?_⟩, h3⟩
      rcases (Bool.or_eq_true _ _).mp hw with u | u
      · have u : t / 16 = 0 := zx_beq_t u
        omega
      · rcases zx_bif u with ⟨-, u⟩ | ⟨u, -⟩
        · exact zx_blt_t u
        · exact absurd z (zx_beq_f u)
    · have kk : ∀ t, t < 16 → Nat.beq (Nat.mod (Nat.shiftRight 472 t) 2) 1 = true → t = 3 ∨ t = 4 ∨ t = 6 ∨ t = 7 ∨ t = 8 := by decide
      rcases kk (t % 16) (Nat.mod_lt _ (by decide)) hw with q | q | q | q | q
      · exact (zy_r3 q).mpr ((zy_r3 q).mp hr)
      · exact (zy_r4 q).mpr ((zy_r4 q).mp hr)
      · obtain ⟨r1, r2⟩ := (zy_r6 q).mp hr
        exact (zy_r6 q).mpr ⟨r1, r2⟩
      · exact (zy_r7 q).mpr ((zy_r7 q).mp hr)
      · exact (zy_r8 q).mpr ((zy_r8 q).mp hr)
theorem zy_nf_s {i n : Nat} {r : vw_C} (h1 : vwCl[i]? = some r) (h2 : zy_nfs[i]? = some n) : r.2.2 = n := by
  have hl := (List.getElem?_eq_some_iff.mp h1).1
  rw [zx_vwl] at hl
  have h3 := zx_beq_t (List.all_eq_true.mp zy_nfs_ok i (List.mem_range.mpr hl))
  rw [zx_ci_of h1, List.getD_eq_getElem?_getD, h2] at h3
  exact h3
theorem zy_tt_s (hF : zy_FX fg A) (hH : zy_HR A T tys ws) {key : Nat} {k : Nat → Bool} (h : zy_tt T fg key k = true) : ∃ (t : Nat) (x : Value), k t = true ∧ key % 256 < 100 ∧ (zy_gl A)[zy_ru A (key % 256)]? = some (key / 256 % 65536 / 128) ∧ zy_rd ws (zy_ru A (key % 256)) (key / 256 % 128) (key / 16777216) = some x ∧ zy_r (zy_fz A) t x := by
  unfold zy_tt at h
  obtain ⟨g, g1, h⟩ := zx_at_s _ _ h
  obtain ⟨q, h⟩ := zx_bft h
  obtain ⟨q1, q2⟩ := zx_and_b q
  obtain ⟨q2, q3⟩ := zx_and_b q2
  have q1 : g = key / 256 % 65536 / 128 := zx_beq_t q1
  have q2 : 0 < key % 256 := zx_blt_t q2
  have q3 : key % 256 < 100 := zx_blt_t q3
  obtain ⟨f1, ad, f2⟩ := hF _ _ q2 q3 g1
  obtain ⟨c, g2, h⟩ := zx_at_s _ _ h
  rw [← hH.1, List.getElem?_map] at f2
  have ekw : Nat.mod (zy_kw key) 128 = key / 256 % 128 := by
    show key / 256 % 65536 % 128 = _
    omega
  rw [ekw] at h
  cases h5 : ws[zy_ru A (key % 256)]? with
  | none => rw [h5] at f2; cases f2
  | some w =>
    have h6 := hH.2 _ _ w h5 f1
    rw [show zy_tm T g = c from by unfold zy_tm; rw [List.getD_eq_getElem?_getD, g2]; rfl] at h6
    have hrd : ∀ f a, zy_rd ws (zy_ru A (key % 256)) f a = zy_re w.2 f a := fun f a => by unfold zy_rd; rw [h5]; rfl
    rw [q1] at f1
    rcases zx_bif h with ⟨t7, h⟩ | ⟨-, h⟩
    · have t7 : c % 16 = 7 := zx_beq_t t7
      obtain ⟨n, g3, h⟩ := zx_at_s _ _ h
      obtain ⟨q4, h⟩ := zx_bft h
      rw [zx_fn_eq] at h
      have q4 : key / 256 % 128 < n := zx_blt_t q4
      obtain ⟨fs, r, h7, h8, h9, h10⟩ := (zy_c7 t7).mp h6
      have hlt : key / 256 % 128 < fs.length := by rw [h9, zy_nf_s h8 g3]; exact q4
      refine ⟨_, fs[key / 256 % 128]'hlt, h, q3, f1, ?_, h10 _ _ (List.getElem?_eq_getElem hlt)⟩
      rw [hrd, h7]
      exact List.getElem?_eq_getElem hlt
    · obtain ⟨q4, h⟩ := zx_bft h
      obtain ⟨q4, q5⟩ := zx_and_b q4
      obtain ⟨q5, q6⟩ := zx_and_b q5
      rw [zx_fn_eq] at h
      have q5 : key / 256 % 128 = 0 := zx_beq_t q5
      have q6 : key / 16777216 < zx_cn c := zx_blt_t q6
      have kk : ∀ t, t < 16 → Nat.beq (Nat.mod (Nat.shiftRight 568 t) 2) 1 = true → t = 3 ∨ t = 4 ∨ t = 5 ∨ t = 9 := by decide
      have e1 : Nat.mod (zx_tg c) 16 = c % 16 := by
        show c % 16 % 16 = c % 16
        omega
      unfold zx_kc at q4
      rw [e1] at q4
      have q4 := kk _ (Nat.mod_lt _ (by decide)) q4
      obtain ⟨cA, f, h7, h8, h9⟩ := zy_cr_int h6 (by omega)
      refine ⟨_, .int (f (key / 16777216)), h, q3, f1, ?_, h9 _ q6⟩
      rw [hrd, h8]
      exact if_pos ⟨q5, q6⟩
theorem zy_CR_add (hC : zy_CR A ws C) {key v : Nat} {x : Value} (h1 : key % 256 < zy_fr A) (h2 : (zy_gl A)[zy_ru A (key % 256)]? = some (key / 256 % 65536 / 128)) (h3 : zy_rd ws (zy_ru A (key % 256)) (key / 256 % 128) (key / 16777216) = some x) (hv : zy_r A v x) : zy_CR A ws ((key, v) :: C) := fun z hz => by
  rcases List.mem_cons.mp hz with rfl | hz
  · exact ⟨⟨h1, h2⟩, x, h3, hv⟩
  · exact hC z hz
/-- a type over given names gets a name -/
theorem zy_vt_s2 (he : zy_ev A e) {t : Nat} {x : Value} (hr : zy_r A t x) {k : Nat → Nat → Bool} (hk : zy_vt e t k = true) : ∃ (B : zy_V) (v' e' : Nat), zy_le A B ∧ zy_ev B e' ∧ zy_r B v' x ∧ k v' e' = true := by
  unfold zy_vt at hk
  rcases zx_bif hk with ⟨q, hk⟩ | ⟨-, hk⟩
  · have q : t % 16 = 7 := zx_beq_t q
    rw [zx_fn_eq, zx_fn_eq, zx_fn_eq] at hk
    obtain ⟨-, y, rfl, h2, h3⟩ := (zy_r7 q).mp hr
    obtain ⟨B, v', e', g1, g2, g3, -, g4⟩ := zy_ni_s he h2 h3 (Nat.mod_lt _ (by decide)) hk
    exact ⟨B, v', e', g1, g2, g3, g4⟩
  rcases zx_bif hk with ⟨q, hk⟩ | ⟨-, hk⟩
  · have q : t % 16 = 5 := zx_beq_t q
    obtain ⟨y, rfl⟩ := zy_r_j q hr
    obtain ⟨B, v', e', g1, g2, g3, -, g4⟩ := zy_nl_s he y hk
    exact ⟨B, v', e', g1, g2, g3, g4⟩
  rcases zx_bif hk with ⟨q, hk⟩ | ⟨-, hk⟩
  · obtain ⟨q, -⟩ := zx_and_b q
    have q : t % 16 = 2 := zx_beq_t q
    obtain ⟨-, i, a, h1, h2, rfl, -⟩ := (zy_r2 q).mp hr
    obtain ⟨B, v', e', g1, g2, g3, -, -, g4⟩ := zy_nr_s he h1 h2 hk
    exact ⟨B, v', e', g1, g2, g3, g4⟩
  · exact ⟨A, t, e, zy_le_rf A, he, hr, hk⟩
theorem zy_gk_s (he : zy_ev A e) (hCR : zy_CR A ws C) (hF : zy_FX fg A) (hH : zy_HR A T tys ws) {key : Nat} {k : Nat → zy_C → Nat → Bool} (h : zy_gk T fg C e key k = true) : ∃ (B : zy_V) (v : Nat) (C' : zy_C) (e' : Nat) (x : Value), zy_le A B ∧ zy_ev B e' ∧ zy_CR B ws C' ∧ zy_r B v x ∧ k v C' e' = true := by
  unfold zy_gk at h
  rcases zy_cg_s h with ⟨v, h1, h⟩ | h
  · obtain ⟨-, x, -, h3⟩ := hCR _ h1
    exact ⟨A, v, C, e, x, zy_le_rf A, he, hCR, h3, h⟩
  · obtain ⟨t, x, h, h1, h2, h3, h4⟩ := zy_tt_s hF hH h
    obtain ⟨B, v, e', g1, g2, g3, h⟩ := zy_vt_s he h4 h
    have hf := zy_f100 he
    have hru := g1.2.2.2.2 (key % 256) (by omega)
    exact ⟨B, v, _, e', x, g1, g2, zy_CR_add (zy_CR_le g1 hCR) (Nat.lt_of_lt_of_le (by omega) (zy_f100 g2)) (by rw [hru, zy_gl_le g1]; exact h2) (by rw [hru]; exact h3) g3, g3, h⟩
theorem zy_ss_s (he : zy_ev A e) {v : Nat} {x : Value} (hr : zy_r A v x) {k : Nat → Bool} (h : zy_ss e v k = true) : ∃ e', zy_ev A e' ∧ k e' = true := by
  unfold zy_ss at h
  obtain ⟨y, rfl⟩ := zy_r_i (zy_iv_i h) hr
  obtain ⟨l, u, h, a1, a2, a3⟩ := zy_iv_s he hr h
  rcases zx_bif h with ⟨-, h⟩ | ⟨-, h⟩
  · exact ⟨e, he, h⟩
  · obtain ⟨k1, k2⟩ := zx_and_b h
    obtain ⟨k2, k3⟩ := zx_and_b k2
    rcases (show zx_bz y < 2147483648 ∨ zx_bz y = 2147483648 ∨ 2147483648 < zx_bz y by omega) with z | z | z
    · rcases zx_bif k1 with ⟨-, k1⟩ | ⟨q, -⟩
      · exact zy_rf_s he hr a1 (by omega) k1
      · have q : 2147483648 ≤ l := by
          have := zx_ble_f q
          omega
        omega
    · rcases zx_bif k2 with ⟨-, k2⟩ | ⟨q, -⟩
      · exact zy_rf_s he hr (by omega) (by omega) k2
      · rcases (Bool.and_eq_false_iff).mp q with q | q
        · have := zx_ble_f q
          omega
        · have := zx_ble_f q
          omega
    · rcases zx_bif k3 with ⟨-, k3⟩ | ⟨q, -⟩
      · exact zy_rf_s he hr (by omega) a2 k3
      · have := zx_ble_f q
        omega
theorem zy_s2_s (he : zy_ev A e) {v : Nat} (hr : v % 16 ≠ 0 → ∃ x, zy_r A v x) {k : Nat → Bool} (h : zy_s2 e v k = true) : ∃ e', zy_ev A e' ∧ k e' = true := by
  unfold zy_s2 at h
  rcases zx_bif h with ⟨q, h⟩ | ⟨-, h⟩
  · have q : v % 16 = 1 := zx_beq_t q
    obtain ⟨x, hr⟩ := hr (by omega)
    obtain ⟨-, h1, -⟩ := (zy_r1 q).mp hr
    rw [h1] at hr
    exact zy_sp_s he hr h
  · exact ⟨e, he, h⟩
theorem zy_s1_s (he : zy_ev A e) (hCR : zy_CR A ws C) (hF : zy_FX fg A) (hH : zy_HR A T tys ws) {q : Nat × Nat} {row : Nat} (hrow : ∀ j, zx_lg row j % 16 ≠ 0 → ∃ x, zy_r A (zx_lg row j) x) {k : zy_C → Nat → Bool} (h : zy_s1 T fg q row C e k = true) : ∃ (B : zy_V) (C' : zy_C) (e' : Nat), zy_le A B ∧ zy_ev B e' ∧ zy_CR B ws C' ∧ k C' e' = true := by
  unfold zy_s1 at h
  rcases zx_bif h with ⟨-, h⟩ | ⟨-, h⟩
  · rw [zx_fn_eq] at h
    obtain ⟨e', h1, h⟩ := zy_s2_s he (hrow q.2) h
    exact ⟨A, C, e', zy_le_rf A, h1, hCR, h⟩
  rcases zx_bif h with ⟨-, h⟩ | ⟨-, h⟩
  · obtain ⟨B, v, C', e', x, g1, g2, g3, g4, h⟩ := zy_gk_s he hCR hF hH h
    obtain ⟨e2, h1, h⟩ := zy_ss_s g2 g4 h
    exact ⟨B, C', e2, g1, h1, g3, h⟩
  rcases zx_bif h with ⟨-, h⟩ | ⟨-, h⟩
  · obtain ⟨B, v, C', e', x, g1, g2, g3, g4, h⟩ := zy_gk_s he hCR hF hH h
    obtain ⟨e2, h1, h⟩ := zy_s2_s g2 (fun _ => ⟨x, g4⟩) h
    exact ⟨B, C', e2, g1, h1, g3, h⟩
  · obtain ⟨B, v, C', e', x, g1, g2, g3, g4, h⟩ := zy_gk_s he hCR hF hH h
    obtain ⟨v', g5, h⟩ := zy_n1_s g2 g4 h
    obtain ⟨-, h⟩ := zx_bft h
    obtain ⟨B2, v2, C2, e2, x2, f1, f2, f3, f4, h⟩ := zy_gk_s g2 g3 (zy_FX_le g1 (zy_f100 he) hF) (zy_HR_le g1 (zy_f100 he) hH) h
    obtain ⟨e3, h1, h⟩ := zy_s2_s f2 (fun _ => ⟨x2, f4⟩) h
    exact ⟨B2, C2, e3, zy_le_tr g1 f1, h1, f3, h⟩
theorem zy_sl_s {row : Nat} : ∀ (l : List (Nat × Nat)) {A : zy_V} {e : Nat} {C : zy_C} {k : zy_C → Nat → Bool}, zy_ev A e → zy_CR A ws C → zy_FX fg A → zy_HR A T tys ws → (∀ j, zx_lg row j % 16 ≠ 0 → ∃ x, zy_r A (zx_lg row j) x) → zy_sl T fg row l C e k = true → ∃ (B : zy_V) (C' : zy_C) (e' : Nat), zy_le A B ∧ zy_ev B e' ∧ zy_CR B ws C' ∧ k C' e' = true
  | [], A, e, C, k, he, hCR, _, _, _, h => ⟨A, C, e, zy_le_rf A, he, hCR, h⟩
  | q :: l, A, e, C, k, he, hCR, hF, hH, hrow, h => by
    have h : zy_s1 T fg q row C e (fun C e => zy_sl T fg row l C e k) = true := h
    obtain ⟨B, C', e', g1, g2, g3, h⟩ := zy_s1_s he hCR hF hH hrow h
    obtain ⟨B2, C2, e2, f1, f2, f3, h⟩ := zy_sl_s l g2 g3 (zy_FX_le g1 (zy_f100 he) hF) (zy_HR_le g1 (zy_f100 he) hH) (fun j hj => by
      obtain ⟨x, hx⟩ := hrow j hj
      exact ⟨x, zy_r_le g1 hx⟩) h
    exact ⟨B2, C2, e2, zy_le_tr g1 f1, f2, f3, h⟩
/-- arguments at slots -/
theorem zy_rw_s : ∀ {l : List Nat} {av : List Value} (b : Nat), zy_SR A l av → ∀ j, zx_lg (zx_rw l) j % 16 ≠ 0 → ∃ v, (b + j, v) ∈ lv_args b av ∧ zy_av av j = some v ∧ zy_r A (zx_lg (zx_rw l) j) v
  | [], [], b, _, j, hj => by
    exfalso
    apply hj
    show ((0 : Nat) >>> (0 + 72 * j)) % 4722366482869645213696 % 16 = 0
    rw [Nat.zero_shiftRight]
  | v :: l, x :: av, b, h, j, hj => by
    have hc := zy_r_cat h.1
    have hv := h.1.1
    unfold lv_args
    rw [zx_rw_cons] at hj ⊢
    cases hk : Nat.beq (zx_kd v) 5 with
    | false =>
      rw [hk] at hj
      rw [cond_false] at hj ⊢
      rw [hk, cond_false] at hc
      rw [hc, if_neg (by decide)]
      cases j with
      | zero =>
        rw [zx_lg_0 hv] at hj ⊢
        exact ⟨x, List.mem_cons_self, rfl, h.1⟩
      | succ j =>
        rw [zx_lg_S hv] at hj ⊢
        obtain ⟨w, h1, h2, h3⟩ := zy_rw_s (b + 1) h.2 j hj
        refine ⟨w, List.mem_cons_of_mem _ (by rw [show b + (j + 1) = b + 1 + j by omega]; exact h1), ?_, h3⟩
        show (if x.category = 2 then _ else zy_av av j) = some w
        rw [hc, if_neg (by decide)]
        exact h2
    | true =>
      rw [hk] at hj
      rw [cond_true, show (22300745198530623141535718272648361505980416 : Nat) = 4722366482869645213696 * 4722366482869645213696 from by decide, Nat.mul_assoc] at hj ⊢
      rw [hk, cond_true] at hc
      rw [hc, if_pos rfl]
      cases j with
      | zero =>
        rw [zx_lg_0 hv] at hj ⊢
        exact ⟨x, List.mem_cons_self, rfl, h.1⟩
      | succ j =>
        rw [zx_lg_S hv] at hj ⊢
        cases j with
        | zero =>
          exfalso
          apply hj
          rw [show 4722366482869645213696 * zx_rw l = 0 + 4722366482869645213696 * zx_rw l by omega, zx_lg_0 (by decide)]
        | succ j =>
          rw [show 4722366482869645213696 * zx_rw l = 0 + 4722366482869645213696 * zx_rw l by omega, zx_lg_S (by decide)] at hj ⊢
          obtain ⟨w, h1, h2, h3⟩ := zy_rw_s (b + 2) h.2 j hj
          refine ⟨w, List.mem_cons_of_mem _ (by rw [show b + (j + 1 + 1) = b + 2 + j by omega]; exact h1), ?_, h3⟩
          show (if x.category = 2 then zy_av av j else _) = some w
          rw [hc, if_pos rfl]
          exact h2
  | [], _ :: _, _, h, _, _ => h.elim
  | _ :: _, [], _, h, _, _ => h.elim
theorem zy_ma_s (he : zy_ev A e) : ∀ (ts as : List Nat) (av : List Value), zy_SR A as av → zy_ma e ts (zx_rw as) = true → zy_SR (zy_rs A 1 0 100) ts av
  | [], [], [], _, _ => trivial
  | [], [], _ :: _, h, _ => h.elim
  | [], v :: as, [], h, _ => h.elim
  | [], v :: as, x :: av, h, hk => by
    exfalso
    have hk : Nat.beq (zx_rw (v :: as)) 0 = true := hk
    have hk := zx_beq_t hk
    rw [zx_rw_cons] at hk
    have h0 : v = 0 := by omega
    have h1 := h.1
    rw [h0] at h1
    exact h1.2.elim
  | t :: ts, [], [], _, hk => by
    exfalso
    have hk : zx_fn (Nat.mod (zx_rw []) 4722366482869645213696) (fun v => zy_mv 1 0 100 e v t && zx_fn (bif Nat.beq (zx_kd v) 5 then Nat.div (zx_rw []) 22300745198530623141535718272648361505980416 else Nat.div (zx_rw []) 4722366482869645213696) (zy_ma e ts)) = true := hk
    rw [zx_fn_eq] at hk
    exact zy_mv_0 (zx_and_b hk).1 (by decide)
  | t :: ts, [], _ :: _, h, _ => h.elim
  | t :: ts, v :: as, [], h, _ => h.elim
  | t :: ts, v :: as, x :: av, h, hk => by
    have hv := h.1.1
    have hk : zx_fn (Nat.mod (zx_rw (v :: as)) 4722366482869645213696) (fun w => zy_mv 1 0 100 e w t && zx_fn (bif Nat.beq (zx_kd w) 5 then Nat.div (zx_rw (v :: as)) 22300745198530623141535718272648361505980416 else Nat.div (zx_rw (v :: as)) 4722366482869645213696) (zy_ma e ts)) = true := hk
    have e1 : Nat.mod (zx_rw (v :: as)) 4722366482869645213696 = v := by
      rw [zx_rw_cons]
      show (v + _) % 4722366482869645213696 = v
      cases Nat.beq (zx_kd v) 5
      · rw [cond_false, Nat.add_mul_mod_self_left, Nat.mod_eq_of_lt hv]
      · rw [cond_true, show (22300745198530623141535718272648361505980416 : Nat) = 4722366482869645213696 * 4722366482869645213696 from by decide, Nat.mul_assoc, Nat.add_mul_mod_self_left, Nat.mod_eq_of_lt hv]
    rw [e1, zx_fn_eq, zx_fn_eq] at hk
    obtain ⟨k1, k2⟩ := zx_and_b hk
    refine ⟨zy_mv_s he h.1 k1, zy_ma_s he ts as av h.2 ?_⟩
    have e2 : (bif Nat.beq (zx_kd v) 5 then Nat.div (zx_rw (v :: as)) 22300745198530623141535718272648361505980416 else Nat.div (zx_rw (v :: as)) 4722366482869645213696) = zx_rw as := by
      rw [zx_rw_cons]
      cases Nat.beq (zx_kd v) 5
      · rw [cond_false, cond_false]
        show (v + 4722366482869645213696 * zx_rw as) / 4722366482869645213696 = zx_rw as
        omega
      · rw [cond_true, cond_true]
        show (v + 22300745198530623141535718272648361505980416 * zx_rw as) / 22300745198530623141535718272648361505980416 = zx_rw as
        omega
    rw [e2] at k2
    exact k2
theorem zy_mC_s (he : zy_ev A e) (hCR : zy_CR A ws C) (hF : zy_FX fg A) (hH : zy_HR A T tys ws) {ki kl kr : Nat} : ∀ (l : zy_C), zy_mC T fg ki kl kr e C l = true → zy_CR (zy_rs A ki kl kr) ws l
  | [], _ => fun q hq => by cases hq
  | q :: l, h => by
    have h : ((Nat.blt (Nat.mod q.1 256) kr && zy_cg C q.1 (fun v => zy_mv ki kl kr e v q.2) (zy_tt T fg q.1 (fun t => zy_mv ki kl kr e t q.2))) && zy_mC T fg ki kl kr e C l) = true := h
    obtain ⟨h1, h2⟩ := zx_and_b h
    obtain ⟨h0, h1⟩ := zx_and_b h1
    have h0 : q.1 % 256 < kr := zx_blt_t h0
    intro z hz
    rcases List.mem_cons.mp hz with rfl | hz
    · rcases zy_cg_s h1 with ⟨v, g1, g2⟩ | g
      · obtain ⟨⟨-, g3⟩, x, g4, g5⟩ := hCR _ g1
        exact ⟨⟨h0, g3⟩, x, g4, zy_mv_s he g5 g2⟩
      · obtain ⟨t, x, g1, -, g3, g4, g5⟩ := zy_tt_s hF hH g
        exact ⟨⟨h0, g3⟩, x, g4, zy_mv_s he (zy_r_le (zy_fz_le (zy_f100 he)) g5) g1⟩
    · exact zy_mC_s he hCR hF hH l h2 z hz
theorem zy_mr_s (he : zy_ev A e) {row : Nat} {ls : Array Slot} (hL : zy_LR A row ls) {ki kl kr : Nat} : ∀ (l : List (Nat × Nat)), zy_mr ki kl kr e row l = true → ∀ q ∈ l, ∃ v, ls[q.1]? = some (.val v) ∧ zy_r (zy_rs A ki kl kr) q.2 v
  | [], _, q, hq => by cases hq
  | q :: l, h, z, hz => by
    have h : (zy_mv ki kl kr e (zx_lg row q.1) q.2 && zy_mr ki kl kr e row l) = true := h
    obtain ⟨h1, h2⟩ := zx_and_b h
    rcases List.mem_cons.mp hz with rfl | hz
    · obtain ⟨v, g1, g2⟩ := hL _ (zy_mv_0 h1)
      exact ⟨v, g1, zy_mv_s he g2 h1⟩
    · exact zy_mr_s he hL l h2 z hz
theorem zy_kb_n {e0 : Nat} : ∀ n, zy_kb e e0 n = true → ∀ k, k < n → 0 < k → zx_eg e0 k = 0 ∨ zy_ivn e k (fun l h => Nat.ble (Nat.div (zx_eg e0 k) 4294967296) l && Nat.ble h (Nat.mod (zx_eg e0 k) 4294967296)) = true
  | 0, _, k, hk, _ => by omega
  | n + 1, h, k, hk, h0 => by
    have h : ((bif Nat.beq n 0 || Nat.beq (zx_eg e0 n) 0 then true else zy_ivn e n (fun l h => Nat.ble (Nat.div (zx_eg e0 n) 4294967296) l && Nat.ble h (Nat.mod (zx_eg e0 n) 4294967296))) && zy_kb e e0 n) = true := h
    obtain ⟨h1, h2⟩ := zx_and_b h
    by_cases hkn : k = n
    · subst hkn
      rcases zx_bif h1 with ⟨q, -⟩ | ⟨-, h1⟩
      · rcases (Bool.or_eq_true _ _).mp q with q | q
        · have := zx_beq_t q
          omega
        · exact Or.inl (zx_beq_t q)
      · exact Or.inr h1
    · exact zy_kb_n n h2 k (by omega) h0
theorem zy_kb_s {e0 es : Nat} (he : zy_ev A e) (hs : zy_ev A0 es) (hle : zy_le A0 A) (h : zy_kb e e0 (zy_fi A0) = true) (h0 : zx_eg e0 0 = zx_eg es 0) (h1 : Nat.shiftRight e0 12288 = 0) : zy_ev A0 e0 := by
  obtain ⟨-, -, s3, s4, s5, s6, s7, s8⟩ := hs
  have hd : ∀ k, zx_eg e0 (192 + k) = 0 := fun k => by
    show (e0 >>> (0 + 64 * (192 + k))) % 18446744073709551616 = 0
    rw [show 0 + 64 * (192 + k) = 12288 + 64 * k by omega, Nat.shiftRight_add, show e0 >>> 12288 = 0 from h1, Nat.zero_shiftRight]
  refine ⟨fun k hk => ?_, fun k hk => ?_, h0.trans s3, s4, s5, s6, s7, s8⟩
  · rcases zy_kb_n _ h k hk.2 hk.1 with q | q
    · exact Or.inl q
    · obtain ⟨n1, n2⟩ := zy_nb_le hle hk
      obtain ⟨l, u, g1, g2, g3, -⟩ := zy_ivn_s he n1 q
      obtain ⟨k1, k2⟩ := zx_and_b g1
      have k1 : zx_eg e0 k / 4294967296 ≤ l := zx_ble_t k1
      have k2 : u ≤ zx_eg e0 k % 4294967296 := zx_ble_t k2
      rw [n2] at g2 g3
      exact Or.inr ⟨by omega, by omega⟩
  · rw [hd k]
    exact ⟨fun z => absurd rfl z, fun n _ hn => by rw [Nat.zero_div, Nat.zero_testBit] at hn; cases hn⟩
theorem zy_sv_s (hCR : zy_CR A ws C) (hZ : zy_le Z A) (hZr : zy_fr Z = 100) {row : Nat} {loc : Nat → Option Value} (hrow : ∀ j, zx_lg row j % 16 ≠ 0 → ∃ v, loc j = some v ∧ zy_r A (zx_lg row j) v) {src : Nat} {k : Nat → Bool} {d : Bool} (h : zy_sv row C src k d = true) : (∃ v, k v = true ∧ (v % 16 ≠ 0 → ∃ x, zy_so loc Z ws src = some x ∧ zy_r A v x)) ∨ d = true := by
  unfold zy_sv at h
  rcases zx_bif h with ⟨q, h⟩ | ⟨q, h⟩
  · rw [zx_fn_eq] at h
    have q : src % 2 = 1 := zx_beq_t q
    refine Or.inl ⟨_, h, fun z => ?_⟩
    obtain ⟨v, g1, g2⟩ := hrow _ z
    exact ⟨v, by unfold zy_so; rw [if_pos q]; exact g1, g2⟩
  · rw [zx_fn_eq] at h
    have q : src % 2 ≠ 1 := zx_beq_f q
    obtain ⟨q1, h⟩ := zx_bft h
    have q1 : (src / 2 - 1) % 256 < 100 := zx_blt_t q1
    rcases zy_cg_s h with ⟨v, g1, g2⟩ | g
    · obtain ⟨-, x, g3, g4⟩ := hCR _ g1
      refine Or.inl ⟨v, g2, fun _ => ⟨x, ?_, g4⟩⟩
      unfold zy_so
      rw [if_neg q, ← hZ.2.2.2.2 _ (by omega)]
      exact g3
    · exact Or.inr g
/-- types of a list get names -/
theorem zy_vl_s : ∀ (ts : List Nat) {A : zy_V} {e : Nat} {av : List Value} {k : List Nat → Nat → Bool}, zy_ev A e → zy_SR A ts av → zy_vl ts e k = true → ∃ (B : zy_V) (vs : List Nat) (e' : Nat), zy_le A B ∧ zy_ev B e' ∧ zy_SR B vs av ∧ k vs e' = true
  | [], A, e, av, k, he, hs, h => ⟨A, [], e, zy_le_rf A, he, hs, h⟩
  | t :: ts, A, e, av, k, he, hs, h => by
    obtain ⟨x, r, rfl, h1, h2⟩ := zy_SR1 hs
    have h : zy_vt e t (fun v e => zy_vl ts e (fun vs e => k (v :: vs) e)) = true := h
    obtain ⟨B, v, e', g1, g2, g3, h⟩ := zy_vt_s2 he h1 h
    obtain ⟨B2, vs, e2, f1, f2, f3, h⟩ := zy_vl_s ts g2 (zy_SR_le g1 _ _ h2) h
    exact ⟨B2, v :: vs, e2, zy_le_tr g1 f1, f2, ⟨zy_r_le f1 g3, f3⟩, h⟩
theorem zy_vc_s : ∀ (l : zy_C) {A : zy_V} {e : Nat} {C : zy_C} {k : zy_C → Nat → Bool}, zy_ev A e → zy_CR A ws l → zy_CR A ws C → zy_vc l C e k = true → ∃ (B : zy_V) (C' : zy_C) (e' : Nat), zy_le A B ∧ zy_ev B e' ∧ zy_CR B ws C' ∧ k C' e' = true
  | [], A, e, C, k, he, _, hC, h => ⟨A, C, e, zy_le_rf A, he, hC, h⟩
  | q :: l, A, e, C, k, he, hl, hC, h => by
    have h : zy_vt e q.2 (fun v e => zy_vc l ((q.1, v) :: C) e k) = true := h
    obtain ⟨⟨h1, h2⟩, x, h3, h4⟩ := hl q List.mem_cons_self
    obtain ⟨B, v, e', g1, g2, g3, h⟩ := zy_vt_s2 he h4 h
    have hru := g1.2.2.2.2 _ h1
    obtain ⟨B2, C2, e2, f1, f2, f3, h⟩ := zy_vc_s l g2 (fun z hz => zy_CR_le g1 (C := l) (fun z hz => hl z (List.mem_cons_of_mem _ hz)) z hz) (zy_CR_add (zy_CR_le g1 hC) (key := q.1) (Nat.lt_of_lt_of_le h1 g1.2.1.2.2) (by rw [hru, zy_gl_le g1]; exact h2) (by rw [hru]; exact h3) g3) h
    exact ⟨B2, C2, e2, zy_le_tr g1 f1, f2, f3, h⟩
theorem zy_vr_s {ls : Array Slot} : ∀ (l : List (Nat × Nat)) {A : zy_V} {e row : Nat} {k : Nat → Nat → Bool}, zy_ev A e → (∀ q ∈ l, ∃ v, ls[q.1]? = some (.val v) ∧ zy_r A q.2 v) → zy_LR A row ls → zy_vr l row e k = true → ∃ (B : zy_V) (row' e' : Nat), zy_le A B ∧ zy_ev B e' ∧ zy_LR B row' ls ∧ k row' e' = true
  | [], A, e, row, k, he, _, hL, h => ⟨A, row, e, zy_le_rf A, he, hL, h⟩
  | q :: l, A, e, row, k, he, hl, hL, h => by
    have h : zy_vt e q.2 (fun v e => zx_fn (zx_ls row q.1 v) (fun row => zy_vr l row e k)) = true := h
    obtain ⟨x, h3, h4⟩ := hl q List.mem_cons_self
    obtain ⟨B, v, e', g1, g2, g3, h⟩ := zy_vt_s2 he h4 h
    rw [zx_fn_eq] at h
    have hL' : zy_LR B (zx_ls row q.1 v) ls := fun j hj => by
      by_cases hji : j = q.1
      · rw [hji, show zx_lg (zx_ls row q.1 v) q.1 = v from zx_sd_same (by decide) row q.1 v g3.1]
        exact ⟨x, h3, g3⟩
      · rw [show zx_lg (zx_ls row q.1 v) j = zx_lg row j from zx_sd_other (by decide) row q.1 v j g3.1 hji] at hj ⊢
        obtain ⟨w, w1, w2⟩ := hL j hj
        exact ⟨w, w1, zy_r_le g1 w2⟩
    obtain ⟨B2, r2, e2, f1, f2, f3, h⟩ := zy_vr_s l g2 (fun z hz => by
      obtain ⟨w, w1, w2⟩ := hl z (List.mem_cons_of_mem _ hz)
      exact ⟨w, w1, zy_r_le g1 w2⟩) hL' h
    exact ⟨B2, r2, e2, zy_le_tr g1 f1, f2, f3, h⟩
end ZYX
