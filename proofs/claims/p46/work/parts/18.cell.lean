/-! one step: cells of arrays -/
section ZB
variable {p : Program} {l : Launch} {en : Env} {R : Room} {s : State} {m : MethodId} {args : Array Value} {below : List Frame} {meth : Method} {c : Code} {Q : State → Prop} {D : va_G} {N0 : Nat} {ex : Nat → Nat} {nu : Nat → Int32} {ad0 : List Nat} {M : zx_M} {d : Nat} {nx : zx_N} {cur cur0 : List zx_E} {pc row : Nat} {st : List Nat} {h : zx_H} {e hn ce sl : Nat} {ls : Array Slot} {vs : List Value} {H : Heap} {locs : List Loc}
theorem zx_cr_arr {ads : List Nat} {tys : List (ClassId × FieldType)} {k : Nat} {e : va_E} (hc : zx_cr ads ex nu tys k e) (h7 : k % 16 ≠ 7) : ∃ (cA : ClassId) (ty : FieldType) (f : (Nat → Int32) ⊕ (Nat → Int64) ⊕ (Nat → UInt32) ⊕ (Nat → UInt64) ⊕ (Nat → Option Nat)), (cA, ty) ∈ tys ∧ e = .inl (cA, zx_cn k, f) := by
  have hl := zx_cr_tg hc
  rcases (show k % 16 < 3 ∨ (3 ≤ k % 16 ∧ k % 16 < 6) ∨ k % 16 = 6 ∨ k % 16 = 8 by omega) with q | q | q | q
  · obtain ⟨cA, f, h1, h2, -⟩ := (zx_ck rfl q).mp hc
    exact ⟨cA, _, _, h1, h2⟩
  · have e1 : k % 16 = (k % 16 - 3) + 3 := by omega
    obtain ⟨cA, f, h1, h2⟩ := (zx_cu e1 (by omega)).mp hc
    exact ⟨cA, _, _, h1, h2⟩
  · obtain ⟨cA, f, h1, h2⟩ := (zx_c6 q).mp hc
    exact ⟨cA, _, _, h1, h2⟩
  · obtain ⟨cA, f, h1, h2, -⟩ := (zx_c8 q).mp hc
    exact ⟨cA, _, _, h1, h2⟩
theorem zx_cr_int {ads : List Nat} {tys : List (ClassId × FieldType)} {k : Nat} {e : va_E} (hc : zx_cr ads ex nu tys k e) (h6 : k % 16 < 6) : ∃ (cA : ClassId) (f : Nat → Int32), (cA, zx_ty (k % 16 % 3)) ∈ tys ∧ e = .inl (cA, zx_cn k, .inl f) ∧ (k % 16 < 3 → ∀ j, j < zx_cn k → f j = nI (zx_ig k j)) := by
  rcases (show k % 16 < 3 ∨ (3 ≤ k % 16 ∧ k % 16 < 6) by omega) with q | q
  · obtain ⟨cA, f, h1, h2, h3⟩ := (zx_ck rfl q).mp hc
    exact ⟨cA, f, by rw [Nat.mod_eq_of_lt q]; exact h1, h2, fun _ => h3⟩
  · have e1 : k % 16 = (k % 16 - 3) + 3 := by omega
    obtain ⟨cA, f, h1, h2⟩ := (zx_cu e1 (by omega)).mp hc
    exact ⟨cA, f, by rw [show k % 16 % 3 = k % 16 - 3 by omega]; exact h1, h2, fun z => by omega⟩
/-- a text's bytes -/
theorem zx_Tx_at (hX : zx_X ex nu N0 s s.heap) {r : Nat} (hr : (Nat.beq r 38 || Nat.beq r 70) = true) {ads : List Nat} {x : Value} (h : zx_r ads ex nu r x) : ∃ b, x = .ref b ∧ va_T .byte b (zx_xl (zx_pl r)) (fun j => .int (nI (zx_dg 0 8 256 (zx_xb (zx_pl r)) j))) (zx_A N0) s s.heap := by
  rcases (Bool.or_eq_true _ _).mp hr with z | z <;> have z := zx_beq_t z <;> subst z
  · exact ⟨ex 2, ((zx_r6 (by decide)).mp h).2, hX.2.2.1.2.2.2⟩
  · exact ⟨ex 4, ((zx_r6 (by decide)).mp h).2, hX.2.2.2.1.2.2.2⟩
theorem zs_len (hC : zx_Cx p R s m args meth c M d N0 ex nu) (hd : decode M.1.2.1 pc = .ok (.arraylength, 1)) (hN : zx_Nx p l en R s m args below meth c Q D N0 ex nu ad0 M nx) (hv : ∀ q ∈ cur, zx_ve M q) (hR : zx_Rl D N0 ex nu ad0 M s row st h e hn ls vs H locs) (hk : zh_len nx (pc + 1) cur row st h e hn ce sl = true) :
    W p l en R s m args below meth c H locs ce sl Q (F0 m pc ls vs) := by
  obtain ⟨hx0, hb, hml, hown, hts, -, hN0, hX, -⟩ := hC
  unfold zh_len at hk
  obtain ⟨r, st, rfl, hk⟩ := zx_p1_s hk
  obtain ⟨tys, ws, hW, hS, hl, hL, hT, hE⟩ := hR
  obtain ⟨x, rs, rfl, h1, h2⟩ := zx_SR1 hT
  rcases zx_bif hk with ⟨q1, hk⟩ | ⟨-, hk⟩
  · obtain ⟨k, g1, hk⟩ := zx_hg_s hk
    rcases zx_bif hk with ⟨-, hk⟩ | ⟨q2, hk⟩
    · cases hk
    rw [zx_fn_eq] at hk
    obtain ⟨q2, q3⟩ := (Bool.or_eq_false_iff).mp q2
    have q2 : k % 16 ≠ 7 := zx_beq_f q2
    have q3 : k % 16 < 9 := zx_ble_f q3
    obtain ⟨ad, h3, rfl⟩ := zx_ref2 h1 q1
    obtain ⟨hK, hP, hD, hn', hH, hp⟩ := hW
    obtain ⟨ee, h4, h5⟩ := zx_HR_get hH g1 h3 (by omega)
    obtain ⟨cA, ty, f, h6, rfl⟩ := zx_cr_arr h5 q2
    obtain ⟨t0, h7⟩ := zx_mem_at h6
    refine va_alen hx0 hb hK hP (r / 16) t0 h4 h7 rfl hd ?_
    exact hN _ _ _ _ _ _ _ _ _ hv hk _ _ _ _ ⟨tys, ws, ⟨hK, hP, hD, hn', hH, hp⟩, hS, hl, hL, ⟨zx_r_c (by have := zx_cn_lt k; omega), h2⟩, hE⟩
  rcases zx_bif hk with ⟨q1, hk2⟩ | ⟨-, hk⟩
  · obtain ⟨q1, q2⟩ := zx_and_b q1
    have q1 := zx_beq_t q1
    subst q1
    obtain ⟨hXs, hlt⟩ := hX.2.2.2.2.2.2.1 (zx_flag hE q2)
    obtain ⟨-, h3⟩ := (zx_r6 (by decide)).mp h1
    subst h3
    refine va_slen hx0 hb hXs (Nat.lt_of_lt_of_le hlt hN0) (by show ¬ N0 ≤ _; exact Nat.not_le.mpr hlt) hS hd ?_
    exact hN _ _ _ _ _ _ _ _ _ hv hk2 _ _ _ _ ⟨tys, ws, hW, hS, hl, hL, ⟨zx_r_c (n := 6) (by decide), h2⟩, hE⟩
  obtain ⟨q1, hk⟩ := zx_bft hk
  rw [zx_fn_eq] at hk
  obtain ⟨b, rfl, hTt⟩ := zx_Tx_at hX q1 h1
  refine va_tlen hx0 hb hTt hS rfl hd ?_
  refine hN _ _ _ _ _ _ _ _ _ hv hk _ _ _ _ ⟨tys, ws, hW, hS, hl, hL, ⟨zx_r_c ?_, h2⟩, hE⟩
  rcases (Bool.or_eq_true _ _).mp q1 with z | z <;> have z := zx_beq_t z <;> subst z <;> decide
/-- the machine reads a place -/
theorem zx_ldrow {ins : Instr} {t q0 a n : Nat} {tys : List (ClassId × FieldType)} {ws : va_W} {cA : ClassId} {f : Nat → Int32} {i : Int32} {rs : List Value} (hx0 : p.tables.exec = Jvm.exec) (hb : c.code = M.1.2.1) (hi : (t = 0 ∧ ins = .iaload) ∨ ((t = 1 ∨ t = 2) ∧ ins = .baload)) (hK : va_K D vwCl tys s) (hP : va_P D vwCl ws H) (ha : ws[q0]? = some (a, .inl (cA, n, .inl f))) (ht : (cA, zx_ty t) ∈ tys) (hin : vp_in i n) (hd : decode M.1.2.1 pc = .ok (ins, 1))
    (kk : W p l en R s m args below meth c H locs ce sl Q (F0 m (pc + 1) ls (.int (f i.toNatClampNeg) :: rs))) : W p l en R s m args below meth c H locs ce sl Q (F0 m pc ls (.int i :: .ref a :: rs)) := by
  obtain ⟨t0, h7⟩ := zx_mem_at ht
  rcases hi with ⟨rfl, rfl⟩ | ⟨rfl | rfl, rfl⟩
  · exact va_iald hx0 hb hK hP q0 t0 ha h7 hin hd kk
  · exact va_bald hx0 hb hK hP q0 t0 ha h7 hin hd kk
  · exact va_zald hx0 hb hK hP q0 t0 ha h7 hin hd kk
theorem zx_tags {a k : Nat} {iv ib : Instr} {ins : Instr} (ha : (a = 9 ∧ ins = iv) ∨ (a = 54 ∧ ins = ib)) (h : zx_kc a (zx_tg k) = true) : k % 16 < 6 ∧ ((k % 16 % 3 = 0 ∧ ins = iv) ∨ ((k % 16 % 3 = 1 ∨ k % 16 % 3 = 2) ∧ ins = ib)) := by
  have e1 : zx_tg k % 16 = k % 16 := by show k % 16 % 16 = k % 16; omega
  rcases ha with ⟨rfl, rfl⟩ | ⟨rfl, rfl⟩
  · rcases zx_kc9 h with q | q <;> rw [e1] at q <;> exact ⟨by omega, Or.inl ⟨by omega, rfl⟩⟩
  · rcases zx_kc54 h with q | q | q | q <;> rw [e1] at q <;> exact ⟨by omega, Or.inr ⟨by omega, rfl⟩⟩
theorem zs_ald {a : Nat} {ins : Instr} (ha : (a = 9 ∧ ins = .iaload) ∨ (a = 54 ∧ ins = .baload)) (hC : zx_Cx p R s m args meth c M d N0 ex nu) (hd : decode M.1.2.1 pc = .ok (ins, 1)) (hN : zx_Nx p l en R s m args below meth c Q D N0 ex nu ad0 M nx) (hv0 : ∀ q ∈ cur0, zx_ve M q) (hv : ∀ q ∈ cur, zx_ve M q) (hR : zx_Rl D N0 ex nu ad0 M s row st h e hn ls vs H locs) (hk : zh_ald nx a (pc + 1) cur0 cur pc row st h e hn ce sl = true) :
    W p l en R s m args below meth c H locs ce sl Q (F0 m pc ls vs) := by
  obtain ⟨hx0, hb, hml, hown, hts, -, hN0, hX, -⟩ := hC
  unfold zh_ald at hk
  obtain ⟨i0, r, st', rfl, hk⟩ := zx_p2_s hk
  obtain ⟨qi, hk⟩ := zx_bft hk
  obtain ⟨tys, ws, hW, hS, hl, hL, hT, hE⟩ := hR
  obtain ⟨xi, x, rs, rfl, h0, h1, h2⟩ := zx_SR2 hT
  obtain ⟨xi, rfl⟩ := zx_r_i qi h0
  obtain ⟨i, hi, hk⟩ := zx_no_s hE h0 hk
  rcases zx_bif hk with ⟨q1, hk⟩ | ⟨-, hk⟩
  · obtain ⟨k, g1, hk⟩ := zx_hg_s hk
    obtain ⟨q2, hk⟩ := zx_bft hk
    obtain ⟨t6, hins⟩ := zx_tags ha q2
    obtain ⟨ad, h3, rfl⟩ := zx_ref2 h1 q1
    obtain ⟨hK, hP, hD, hn', hH, hp⟩ := hW
    obtain ⟨ee, h4, h5⟩ := zx_HR_get hH g1 h3 (by omega)
    obtain ⟨cA, f, h6, rfl, h7⟩ := zx_cr_int h5 t6
    rcases zx_bif hk with ⟨q3, hk⟩ | ⟨-, hk⟩
    · obtain ⟨q3, q4⟩ := zx_and_b q3
      obtain ⟨q4, q5⟩ := zx_and_b q4
      have q4 : i / 16 < zx_cn k := zx_blt_t q4
      have q5 : k % 16 < 3 := zx_blt_t q5
      rw [zx_fn_eq] at hk
      obtain ⟨-, h8, h9⟩ := (zx_r4 (zx_beq_t q3)).mp hi
      cases h8
      have hcn := zx_cn_lt k
      refine zx_ldrow hx0 hb hins hK hP h4 h6 (vp_in_nI q4 (by omega)) hd ?_
      rw [nI_clamp (by omega), h7 q5 _ q4]
      exact hN _ _ _ _ _ _ _ _ _ hv hk _ _ _ _ ⟨tys, ws, ⟨hK, hP, hD, hn', hH, hp⟩, hS, hl, hL, ⟨zx_r_c (zx_dg_lt (by decide)), h2⟩, hE⟩
    rcases zx_bif hk with ⟨q3, hk⟩ | ⟨-, hk⟩
    · obtain ⟨e', hE', hk⟩ := zx_sp_s hE hi hk
      exact hN _ _ _ _ _ _ _ _ _ hv0 hk _ _ _ _ ⟨tys, ws, ⟨hK, hP, hD, hn', hH, hp⟩, hS, hl, hL, hT, hE'⟩
    · obtain ⟨q3, hk⟩ := zx_bft hk
      refine zx_ldrow hx0 hb hins hK hP h4 h6 (zx_in_s hE hi q3) hd ?_
      exact hN _ _ _ _ _ _ _ _ _ hv hk _ _ _ _ ⟨tys, ws, ⟨hK, hP, hD, hn', hH, hp⟩, hS, hl, hL, ⟨zx_r_un _, h2⟩, hE⟩
  rcases zx_bif hk with ⟨q1, hk⟩ | ⟨-, hk⟩
  · obtain ⟨q1, q2⟩ := zx_and_b q1
    have q1 := zx_beq_t q1
    obtain ⟨q3, hk2⟩ := zx_bft hk
    obtain ⟨q3, q4⟩ := zx_and_b q3
    obtain ⟨q4, q5⟩ := zx_and_b q4
    rw [zx_fn_eq] at hk2
    obtain ⟨hXs, hlt⟩ := hX.2.2.2.2.2.2.1 (zx_flag hE q2)
    rw [q1] at h1
    obtain ⟨-, h3⟩ := (zx_r6 (by decide)).mp h1
    have h3 : x = .ref (ex 0) := h3
    subst h3
    obtain ⟨-, h8, h9⟩ := (zx_r4 (zx_beq_t q4)).mp hi
    cases h8
    have q5 : i / 16 < 6 := zx_blt_t q5
    rcases ha with ⟨rfl, rfl⟩ | ⟨rfl, rfl⟩
    · refine va_sld hx0 hb hXs (Nat.lt_of_lt_of_le hlt hN0) (by show ¬ N0 ≤ _; exact Nat.not_le.mpr hlt) hS (vp_in_nI q5 (by decide)) hd ?_
      rw [nI_clamp (by omega)]
      refine hN _ _ _ _ _ _ _ _ _ hv hk2 _ _ _ _ ⟨tys, ws, hW, hS, hl, hL, ⟨?_, h2⟩, hE⟩
      have e1 : Nat.add (Nat.mul (zx_pl i) 16) 1 = i / 16 * 16 + 1 := rfl
      rw [e1, zx_r1 (by omega)]
      exact ⟨by omega, by rw [show (i / 16 * 16 + 1) / 16 = i / 16 by omega]⟩
    · cases q3
  obtain ⟨q1, hk⟩ := zx_bft hk
  obtain ⟨q3, hk2⟩ := zx_bft hk
  obtain ⟨q3, q4⟩ := zx_and_b q3
  obtain ⟨q4, q5⟩ := zx_and_b q4
  rw [zx_fn_eq] at hk2
  obtain ⟨b, rfl, hTt⟩ := zx_Tx_at hX q1 h1
  obtain ⟨-, h8, h9⟩ := (zx_r4 (zx_beq_t q4)).mp hi
  cases h8
  have q5 : i / 16 < zx_xl (zx_pl r) := zx_blt_t q5
  have hxl : zx_xl (zx_pl r) < 2147483648 := by
    rcases (Bool.or_eq_true _ _).mp q1 with z | z <;> have z := zx_beq_t z <;> rw [z] <;> decide
  rcases ha with ⟨rfl, rfl⟩ | ⟨rfl, rfl⟩
  · cases q3
  · refine va_tb hx0 hb hTt hS (vp_in_nI q5 (by omega)) rfl hd ?_
    rw [nI_clamp (by omega)]
    exact hN _ _ _ _ _ _ _ _ _ hv hk2 _ _ _ _ ⟨tys, ws, hW, hS, hl, hL, ⟨zx_r_c (Nat.lt_of_lt_of_le (zx_dg_lt (by decide)) (by decide)), h2⟩, hE⟩
/-- what a store leaves -/
theorem zx_nr_s {t v : Nat} (ht : t < 3) (hv : v < 4294967296) : vp_nar (zx_ty t) (nI v) = nI (zx_nr t v) ∧ zx_nr t v < 4294967296 := by
  match t, ht with
  | 0, _ => exact ⟨rfl, hv⟩
  | 1, _ => exact ⟨by show (nI v).toInt8.toInt32 = nI (zx_n8 v); exact zx_n8' v hv, zx_n8_lt v⟩
  | 2, _ => exact ⟨zx_nr_bool v, by show v % 2 < _; omega⟩
theorem zx_strow {ins : Instr} {t q0 a n : Nat} {tys : List (ClassId × FieldType)} {ws : va_W} {cA : ClassId} {f : Nat → Int32} {i x : Int32} {rs : List Value} (hx0 : p.tables.exec = Jvm.exec) (hb : c.code = M.1.2.1) (hi : (t = 0 ∧ ins = .iastore) ∨ ((t = 1 ∨ t = 2) ∧ ins = .bastore)) (hK : va_K D vwCl tys s) (hP : va_P D vwCl ws H) (hD : va_D (zx_A N0) ws) (hS : va_S (zx_A N0) s.heap H locs) (ha : ws[q0]? = some (a, .inl (cA, n, .inl f))) (ht : (cA, zx_ty t) ∈ tys) (hin : vp_in i n) (hd : decode M.1.2.1 pc = .ok (ins, 1))
    (kk : ∀ (H1 : Heap) (locs1 : List Loc), va_P D vwCl (ws.set q0 (a, .inl (cA, n, .inl (upd f i.toNatClampNeg (vp_nar (zx_ty t) x))))) H1 → va_D (zx_A N0) (ws.set q0 (a, .inl (cA, n, .inl (upd f i.toNatClampNeg (vp_nar (zx_ty t) x))))) → va_S (zx_A N0) s.heap H1 locs1 → W p l en R s m args below meth c H1 locs1 ce sl Q (F0 m (pc + 1) ls rs)) : W p l en R s m args below meth c H locs ce sl Q (F0 m pc ls (.int x :: .int i :: .ref a :: rs)) := by
  obtain ⟨t0, h7⟩ := zx_mem_at ht
  rcases hi with ⟨rfl, rfl⟩ | ⟨rfl | rfl, rfl⟩
  · exact va_iast hx0 hb hK hP hD hS q0 t0 ha h7 hin hd kk
  · exact va_bast hx0 hb hK hP hD hS q0 t0 ha h7 hin hd kk
  · exact va_zast hx0 hb hK hP hD hS q0 t0 ha h7 hin hd kk
theorem zx_uk_s {t n : Nat} (ht : t < 3) (hn : n < 65536) : zx_uk t n % 16 = t + 3 ∧ zx_cn (zx_uk t n) = n := by
  have e1 : zx_uk t n = 3 + t + (n * 16 + 4503599626321920) := rfl
  rw [e1]
  refine ⟨by omega, ?_⟩
  show (3 + t + (n * 16 + 4503599626321920)) % 1048576 / 16 = n
  omega
theorem zs_ast {a : Nat} {ins : Instr} (ha : (a = 9 ∧ ins = .iastore) ∨ (a = 54 ∧ ins = .bastore)) (hC : zx_Cx p R s m args meth c M d N0 ex nu) (hd : decode M.1.2.1 pc = .ok (ins, 1)) (hN : zx_Nx p l en R s m args below meth c Q D N0 ex nu ad0 M nx) (hv : ∀ q ∈ cur, zx_ve M q) (hR : zx_Rl D N0 ex nu ad0 M s row st h e hn ls vs H locs) (hk : zh_ast nx a (pc + 1) cur row st h e hn ce sl = true) :
    W p l en R s m args below meth c H locs ce sl Q (F0 m pc ls vs) := by
  obtain ⟨hx0, hb, hml, hown, hts, -, hN0, hX, -⟩ := hC
  unfold zh_ast at hk
  obtain ⟨v0, i0, r, st, rfl, hk⟩ := zx_p3_s hk
  obtain ⟨qq, hk⟩ := zx_bft hk
  obtain ⟨qv, qq⟩ := zx_and_b qq
  obtain ⟨qi, q1⟩ := zx_and_b qq
  obtain ⟨tys, ws, ⟨hK, hP, hD, hn', hH, hp⟩, hS, hl, hL, hT, hE⟩ := hR
  obtain ⟨xv, xi, x, rs, rfl, h00, h0, h1, h2⟩ := zx_SR3 hT
  obtain ⟨xv, rfl⟩ := zx_r_i qv h00
  obtain ⟨xi, rfl⟩ := zx_r_i qi h0
  obtain ⟨v, hv1, hk⟩ := zx_no_s hE h00 hk
  obtain ⟨i, hi, hk⟩ := zx_no_s hE h0 hk
  obtain ⟨k, g1, hk⟩ := zx_hg_s hk
  obtain ⟨q2, hk⟩ := zx_bft hk
  obtain ⟨t6, hins⟩ := zx_tags ha q2
  obtain ⟨ad, h3, rfl⟩ := zx_ref2 h1 q1
  obtain ⟨ee, h4, h5⟩ := zx_HR_get hH g1 h3 (by omega)
  obtain ⟨cA, f, h6, rfl, h7⟩ := zx_cr_int h5 t6
  have hcn := zx_cn_lt k
  rcases zx_bif hk with ⟨q3, hk⟩ | ⟨-, hk⟩
  · obtain ⟨q0, q3⟩ := zx_and_b q3
    obtain ⟨q3, q4⟩ := zx_and_b q3
    obtain ⟨q4, q5⟩ := zx_and_b q4
    have q4 : i / 16 < zx_cn k := zx_blt_t q4
    have q5 : k % 16 < 3 := zx_blt_t q5
    rw [zx_fn_eq] at hk
    obtain ⟨h', hk, g2, g3⟩ := zx_hs_s hk
    obtain ⟨-, h8, h9⟩ := (zx_r4 (zx_beq_t q3)).mp hi
    cases h8
    obtain ⟨-, h8, h10⟩ := (zx_r4 (zx_beq_t q0)).mp hv1
    cases h8
    obtain ⟨n1, n2⟩ := zx_nr_s (t := k % 16) q5 h10
    refine zx_strow hx0 hb hins hK hP hD hS h4 h6 (vp_in_nI q4 (by omega)) hd (fun H1 locs1 hP1 hD1 hS1 => ?_)
    rw [nI_clamp (by omega)] at hP1 hD1
    have hhd := zx_hd_tg (zx_is_hd k (i / 16) (zx_nr (k % 16) (v / 16)))
    have hcr : zx_cr (ws.map (fun w => w.1)) ex nu tys (zx_is k (i / 16) (zx_nr (k % 16) (v / 16))) (.inl (cA, zx_cn k, .inl (upd f (i / 16) (vp_nar (zx_ty (k % 16 % 3)) (nI (v / 16)))))) := by
      refine (zx_ck (t := k % 16) hhd.1 q5).mpr ⟨cA, _, by rw [Nat.mod_eq_of_lt q5] at h6; exact h6, by rw [hhd.2], fun j hj => ?_⟩
      rw [hhd.2] at hj
      by_cases hji : j = i / 16
      · subst hji
        rw [pk_us, show zx_ig (zx_is k (i / 16) (zx_nr (k % 16) (v / 16))) (i / 16) = zx_nr (k % 16) (v / 16) from zx_sd_same (by decide) _ _ _ n2, Nat.mod_eq_of_lt q5]
        exact n1
      · rw [pk_un hji, show zx_ig (zx_is k (i / 16) (zx_nr (k % 16) (v / 16))) j = zx_ig k j from zx_sd_other (by decide) _ _ _ _ n2 hji]
        exact h7 q5 j hj
    obtain ⟨hW1, haa⟩ := zx_Wd_set (i := r / 16) ⟨hK, hP, hD, hn', hH, hp⟩ h4 g2 g3 hcr hP1 hD1
    exact hN _ _ _ _ _ _ _ _ _ hv hk _ _ _ _ ⟨tys, _, hW1, hS1, hl, by rw [haa]; exact hL, by rw [haa]; exact h2, hE⟩
  · obtain ⟨q3, hk⟩ := zx_bft hk
    rw [zx_fn_eq] at hk
    obtain ⟨h', hk, g2, g3⟩ := zx_hs_s hk
    refine zx_strow hx0 hb hins hK hP hD hS h4 h6 (zx_in_s hE hi q3) hd (fun H1 locs1 hP1 hD1 hS1 => ?_)
    obtain ⟨u1, u2⟩ := zx_uk_s (t := k % 16 % 3) (Nat.mod_lt _ (by decide)) hcn
    obtain ⟨hW1, haa⟩ := zx_Wd_set (i := r / 16) ⟨hK, hP, hD, hn', hH, hp⟩ h4 g2 g3 ((zx_cu (t := k % 16 % 3) u1 (Nat.mod_lt _ (by decide))).mpr ⟨cA, _, h6, by rw [u2]⟩) hP1 hD1
    exact hN _ _ _ _ _ _ _ _ _ hv hk _ _ _ _ ⟨tys, _, hW1, hS1, hl, by rw [haa]; exact hL, by rw [haa]; exact h2, hE⟩
end ZB
