/-! who comes next: single steps -/
def zn_h (a k : Int32) : Prop := (a >>> (k &&& 31)) &&& nI 1 = nI 1
def zn_el (Z : zy_V) (ws : va_W) (r k : Nat) : Int32 := match zy_rd ws (zy_ru Z r) 0 k with
  | some (.int v) => v
  | _ => nI 0
def zn_c (Z : zy_V) (ws : va_W) (k : Nat) (o m : Int32) : Prop := zn_h m (nI k) ∧ ¬ zn_h o (nI k) ∧ zn_el Z ws 65 k &&& o = 0
def zn_x (Z : zy_V) (ws : va_W) (k : Nat) (st pt o m : Int32) : Prop := zn_h (st &&& (pt ^^^ nI 4294967295)) (nI k) ∧ (zn_el Z ws 68 k &&& st) &&& (pt ^^^ nI 4294967295) = 0 ∧ zn_c Z ws k (o ||| pt) m
theorem zn_el_of {Z : zy_V} {ws : va_W} {r k : Nat} {v : Int32} (h : zy_rd ws (zy_ru Z r) 0 k = some (.int v)) : zn_el Z ws r k = v := by
  unfold zn_el
  rw [h]
theorem zn_el_eq {Z : zy_V} {ws ws' : va_W} {r k : Nat} (h : zy_rd ws' (zy_ru Z r) 0 k = zy_rd ws (zy_ru Z r) 0 k) : zn_el Z ws' r k = zn_el Z ws r k := by
  unfold zn_el
  rw [h]
theorem zn_x_eq {Z : zy_V} {ws ws' : va_W} {k : Nat} {st pt o m : Int32} (h65 : zy_rd ws' (zy_ru Z 65) 0 k = zy_rd ws (zy_ru Z 65) 0 k) (h68 : zy_rd ws' (zy_ru Z 68) 0 k = zy_rd ws (zy_ru Z 68) 0 k) : zn_x Z ws' k st pt o m ↔ zn_x Z ws k st pt o m := by
  unfold zn_x zn_c
  rw [zn_el_eq h65, zn_el_eq h68]
theorem zn_inj {a b : Nat} (ha : a < 2147483648) (hb : b < 2147483648) (h : nI a = nI b) : a = b := by
  have h := congrArg zx_bz h
  rw [zy_bz_n ha, zy_bz_n hb] at h
  omega
theorem zn_h_t {a j : Nat} (ha : a < 2147483648) (hj : j < 31) : zn_h (nI a) (nI j) ↔ a.testBit j = true := by
  unfold zn_h
  have h2 : a / 2 ^ j ≤ a := Nat.div_le_self _ _
  rw [zy_shr_n ha (by omega), zx_and', Nat.and_one_is_mod, Nat.testBit_eq_decide_div_mod_eq]
  constructor
  · intro h
    have := zn_inj (by omega) (by decide) h
    simp [this]
  · intro h
    have h := of_decide_eq_true h
    rw [h]
theorem zn_two : ∀ j, j < 10 → nI 1 <<< (nI j &&& 31) = nI (2 ^ j) := by decide +kernel
theorem zn_or_lt {a j : Nat} (ha : a < 1024) (hj : j < 10) : a ||| 2 ^ j < 1024 := Nat.or_lt_two_pow (n := 10) ha (Nat.pow_lt_pow_right (by decide) hj)
/-- the one that comes next is of the set, and not yet there -/
theorem zn_bit {Z : zy_V} {ws : va_W} {k s t : Nat} {o m : Int32} (hs : s < 1024) (ht : t < 1024) (hk : k < 10) (h : zn_x Z ws k (nI s) (nI t) o m) : s.testBit k = true ∧ t.testBit k = false := by
  have h1 := h.1
  rw [zx_xor', zx_and'] at h1
  have hle : s &&& (t ^^^ 4294967295) ≤ s := Nat.and_le_left
  have h1 := (zn_h_t (by omega) (by omega)).mp h1
  rw [Nat.testBit_and, Nat.testBit_xor] at h1
  have h3 : Nat.testBit 4294967295 k = true := by
    have : ∀ k, k < 10 → Nat.testBit 4294967295 k = true := by decide
    exact this k hk
  rw [h3] at h1
  cases h4 : s.testBit k <;> cases h5 : t.testBit k <;> simp [h4, h5] at h1 ⊢
theorem zn_step {s t k : Nat} (hsub : t &&& s = t) (h1 : s.testBit k = true) (h2 : t.testBit k = false) : (t ||| 2 ^ k) &&& s = t ||| 2 ^ k ∧ t < t ||| 2 ^ k ∧ t ||| 2 ^ k ≤ s := by
  have e : (t ||| 2 ^ k) &&& s = t ||| 2 ^ k := by
    apply Nat.eq_of_testBit_eq
    intro i
    rw [Nat.testBit_and, Nat.testBit_or, Nat.testBit_two_pow]
    have h3 : (t &&& s).testBit i = t.testBit i := by rw [hsub]
    rw [Nat.testBit_and] at h3
    by_cases hik : k = i
    · subst hik
      simp [h1]
    · simp only [hik, decide_false, Bool.or_false]
      exact h3
  refine ⟨e, ?_, ?_⟩
  · have hle : t ≤ t ||| 2 ^ k := Nat.left_le_or
    have hne : t ≠ t ||| 2 ^ k := fun z => by
      have := congrArg (fun n => Nat.testBit n k) z
      simp [h2, Nat.testBit_or, Nat.testBit_two_pow] at this
    omega
  · rw [← e]
    exact Nat.and_le_right
section ZNX
variable {l : Launch} {D : va_G} {N0 : Nat} {Z : zy_V}
theorem zo_has (H : zy_H0 Z) (HU : zy_UQ zy_fg Z) {a k : Int32} : zy_OkP l D N0 zy_T Z 19 0 (fun av _ => av = [.int a, .int k]) (fun _ ws vs ws' => ws' = ws ∧ ∃ b : Bool, vs = [.int (if b then nI 1 else nI 0)] ∧ (b = true ↔ zn_h a k)) := by
  refine zy_handP (y := zm_19) H HU rfl (fun av ws h => by rw [h]; exact Nat.le_of_ble_eq_true rfl) ?_
  intro d hd av tys ws e p en R s m below meth c hB ls hl hx
  subst e
  obtain ⟨hx0, hb0, -⟩ := hB.2.2.1 Z (zy_le_rf Z)
  have l0 : ls[0]? = some (.val (.int a)) := hl (0, _) (List.mem_of_getElem? (i := 0) rfl)
  have l1 : ls[1]? = some (.val (.int k)) := hl (1, _) (List.mem_of_getElem? (i := 1) rfl)
  refine lv_iload_n hx0 hb0 rfl rfl l0 ?_
  refine lv_iload_n hx0 hb0 rfl rfl l1 ?_
  refine lv_ishr hx0 hb0 rfl ?_
  refine lv_iconst (v := nI 1) hx0 hb0 rfl (by decide) ?_
  refine lv_iand hx0 hb0 rfl ?_
  refine lv_iconst (v := nI 1) hx0 hb0 rfl (by decide) ?_
  refine lv_icmp_ne (tgt := 13) hx0 hb0 rfl (by decide) (fun h => ?_) (fun h => ?_)
  · skip
    refine lv_iconst (v := nI 0) hx0 hb0 rfl (by decide) ?_
    exact zv_ret hB hx rfl rfl rfl ⟨rfl, false, rfl, by simp [zn_h, h]⟩
  · skip
    refine lv_iconst (v := nI 1) hx0 hb0 rfl (by decide) ?_
    refine lv_goto (tgt := 14) hx0 hb0 rfl (by decide) ?_
    exact zv_ret hB hx rfl rfl rfl ⟨rfl, true, rfl, by simp [zn_h, h]⟩
set_option maxHeartbeats 1000000 in
theorem zo_can (H : zy_H0 Z) (HU : zy_UQ zy_fg Z) {k : Nat} {op mv : Int32} (hk : k < 10) : zy_OkP l D N0 zy_T Z 18 1 (fun av _ => av = [.ref (zy_fa1 Z 29), .int (nI k), .int op, .int mv]) (fun _ ws vs ws' => ws' = ws ∧ ∃ b : Bool, vs = [.int (if b then nI 1 else nI 0)] ∧ (b = true ↔ zn_c Z ws k op mv)) := by
  refine zy_handP (y := zm_18) H HU rfl (fun av ws h => by rw [h]; exact Nat.le_of_ble_eq_true rfl) ?_
  intro d hd av tys ws e p en R s m below meth c hB ls hl hx
  subst e
  obtain ⟨hx0, hb0, -⟩ := hB.2.2.1 Z (zy_le_rf Z)
  obtain ⟨d, rfl⟩ : ∃ d', d = d' + 1 := ⟨d - 1, by omega⟩
  have l0 : ls[0]? = some (.val (.ref (zy_fa1 Z 29))) := hl (0, _) (List.mem_of_getElem? (i := 0) rfl)
  have l1 : ls[1]? = some (.val (.int (nI k))) := hl (1, _) (List.mem_of_getElem? (i := 1) rfl)
  have l2 : ls[2]? = some (.val (.int op)) := hl (2, _) (List.mem_of_getElem? (i := 2) rfl)
  have l3 : ls[3]? = some (.val (.int mv)) := hl (3, _) (List.mem_of_getElem? (i := 3) rfl)
  obtain ⟨hdv, hhd, -⟩ := zv_el H hx.1.2.2.2 (r := 65) (g := 77) (by decide) (by decide) rfl (by decide) rfl (by decide) (i := k) (show k < 10 from hk)
  refine lv_iload_n hx0 hb0 rfl rfl l3 ?_
  refine lv_iload_n hx0 hb0 rfl rfl l1 ?_
  refine zy_isP (As := [.int mv, .int (nI k)]) (rest := []) (q := (12, 410, 19, 0, 8, 38)) (y := zm_19) (List.mem_of_getElem? (i := 116) rfl) rfl rfl rfl (by decide) rfl (by decide) rfl hB (zo_has H HU) (Nat.zero_le _) hx rfl rfl (Nat.le_of_ble_eq_true rfl) ?_
  intro vs1 tys1 ws1 H1 locs1 hn1 hq1 hx1
  obtain ⟨rfl, b1, rfl, hb1⟩ := hq1
  refine lv_if_eq (tgt := 31) hx0 hb0 rfl (by decide) (fun h => ?_) (fun h => ?_)
  · skip
    refine lv_iconst (v := nI 0) hx0 hb0 rfl (by decide) ?_
    refine zv_ret hB hx1 rfl rfl rfl ⟨rfl, false, rfl, ⟨fun z => (by cases z), fun z => ?_⟩⟩
    rw [hb1.mpr z.1] at h
    exact absurd h (by decide)
  · skip
    have hb1t : zn_h mv (nI k) := hb1.mp (by cases b1; exact absurd rfl h; rfl)
    refine lv_iload_n hx0 hb0 rfl rfl l2 ?_
    refine lv_iload_n hx0 hb0 rfl rfl l1 ?_
    refine zy_isP (As := [.int op, .int (nI k)]) (rest := []) (q := (12, 410, 19, 0, 8, 38)) (y := zm_19) (List.mem_of_getElem? (i := 116) rfl) rfl rfl rfl (by decide) rfl (by decide) rfl hB (zo_has H HU) (Nat.zero_le _) hx1 rfl rfl (Nat.le_of_ble_eq_true rfl) ?_
    intro vs2 tys2 ws2 H2 locs2 hn2 hq2 hx2
    obtain ⟨rfl, b2, rfl, hb2⟩ := hq2
    refine lv_if_ne (tgt := 31) hx0 hb0 rfl (by decide) (fun h => ?_) (fun h => ?_)
    · skip
      refine lv_iconst (v := nI 0) hx0 hb0 rfl (by decide) ?_
      refine zv_ret hB hx2 rfl rfl rfl ⟨rfl, false, rfl, ⟨fun z => (by cases z), fun z => ?_⟩⟩
      exact absurd (hb2.mp (by cases b2; exact absurd rfl h; rfl)) z.2.1
    · skip
      have hb2f : ¬ zn_h op (nI k) := fun z => by
        rw [hb2.mpr z] at h
        exact absurd h (by decide)
      refine lv_aload_n hx0 hb0 rfl rfl l0 ?_
      refine zv_getA hB hx2 (q := (12, 122, 12, 50, 6, 151)) (r := 65) (g := 77) (List.mem_of_getElem? (i := 48) rfl) rfl rfl rfl rfl rfl (by decide) (by decide) (by decide) (by decide) (by decide +kernel) ?_
      refine lv_iload_n hx0 hb0 rfl rfl l1 ?_
      refine zv_ald hB hx2 (r := 65) (g := 77) (by decide) (by decide) rfl (by decide) rfl (Or.inl (by decide)) (Or.inl ⟨by decide, rfl⟩) rfl (show k < 10 from hk) (by decide) hhd ?_
      refine lv_iload_n hx0 hb0 rfl rfl l2 ?_
      refine lv_iand hx0 hb0 rfl ?_
      refine lv_if_ne (tgt := 31) hx0 hb0 rfl (by decide) (fun h => ?_) (fun h => ?_)
      · skip
        refine lv_iconst (v := nI 0) hx0 hb0 rfl (by decide) ?_
        refine zv_ret hB hx2 rfl rfl rfl ⟨rfl, false, rfl, ⟨fun z => (by cases z), fun z => ?_⟩⟩
        have z3 := z.2.2
        rw [zn_el_of hhd] at z3
        exact absurd z3 h
      · skip
        refine lv_iconst (v := nI 1) hx0 hb0 rfl (by decide) ?_
        refine lv_goto (tgt := 32) hx0 hb0 rfl (by decide) ?_
        exact zv_ret hB hx2 rfl rfl rfl ⟨rfl, true, rfl, ⟨fun _ => ⟨hb1t, hb2f, by rw [zn_el_of hhd]; exact h⟩, fun _ => rfl⟩⟩
set_option maxHeartbeats 1000000 in
theorem zo_next (H : zy_H0 Z) (HU : zy_UQ zy_fg Z) {k : Nat} {st pt op mv : Int32} (hk : k < 10) : zy_OkP l D N0 zy_T Z 17 2 (fun av _ => av = [.ref (zy_fa1 Z 29), .int (nI k), .int st, .int pt, .int op, .int mv]) (fun _ ws vs ws' => ws' = ws ∧ ∃ b : Bool, vs = [.int (if b then nI 1 else nI 0)] ∧ (b = true ↔ zn_x Z ws k st pt op mv)) := by
  refine zy_handP (y := zm_17) H HU rfl (fun av ws h => by rw [h]; exact Nat.le_of_ble_eq_true rfl) ?_
  intro d hd av tys ws e p en R s m below meth c hB ls hl hx
  subst e
  obtain ⟨hx0, hb0, -⟩ := hB.2.2.1 Z (zy_le_rf Z)
  obtain ⟨d, rfl⟩ : ∃ d', d = d' + 1 := ⟨d - 1, by omega⟩
  have l0 : ls[0]? = some (.val (.ref (zy_fa1 Z 29))) := hl (0, _) (List.mem_of_getElem? (i := 0) rfl)
  have l1 : ls[1]? = some (.val (.int (nI k))) := hl (1, _) (List.mem_of_getElem? (i := 1) rfl)
  have l2 : ls[2]? = some (.val (.int st)) := hl (2, _) (List.mem_of_getElem? (i := 2) rfl)
  have l3 : ls[3]? = some (.val (.int pt)) := hl (3, _) (List.mem_of_getElem? (i := 3) rfl)
  have l4 : ls[4]? = some (.val (.int op)) := hl (4, _) (List.mem_of_getElem? (i := 4) rfl)
  have l5 : ls[5]? = some (.val (.int mv)) := hl (5, _) (List.mem_of_getElem? (i := 5) rfl)
  obtain ⟨hdv, hhd, -⟩ := zv_el H hx.1.2.2.2 (r := 68) (g := 80) (by decide) (by decide) rfl (by decide) rfl (by decide) (i := k) (show k < 10 from hk)
  refine lv_iload_n hx0 hb0 rfl rfl l2 ?_
  refine lv_iload_n hx0 hb0 rfl rfl l3 ?_
  refine lv_iconst (v := nI 4294967295) hx0 hb0 rfl (by decide) ?_
  refine lv_ixor hx0 hb0 rfl ?_
  refine lv_iand hx0 hb0 rfl ?_
  refine lv_iload_n hx0 hb0 rfl rfl l1 ?_
  refine zy_isP (As := [.int (st &&& (pt ^^^ nI 4294967295)), .int (nI k)]) (rest := []) (q := (12, 410, 19, 0, 8, 38)) (y := zm_19) (List.mem_of_getElem? (i := 116) rfl) rfl rfl rfl (by decide) rfl (by decide) rfl hB (zo_has H HU) (Nat.zero_le _) hx rfl rfl (Nat.le_of_ble_eq_true rfl) ?_
  intro vs1 tys1 ws1 H1 locs1 hn1 hq1 hx1
  obtain ⟨rfl, b1, rfl, hb1⟩ := hq1
  refine lv_if_eq (tgt := 45) hx0 hb0 rfl (by decide) (fun h => ?_) (fun h => ?_)
  · skip
    refine lv_iconst (v := nI 0) hx0 hb0 rfl (by decide) ?_
    refine zv_ret hB hx1 rfl rfl rfl ⟨rfl, false, rfl, ⟨fun z => (by cases z), fun z => ?_⟩⟩
    rw [hb1.mpr z.1] at h
    exact absurd h (by decide)
  · skip
    have hb1t := hb1.mp (by cases b1; exact absurd rfl h; rfl)
    refine lv_aload_n hx0 hb0 rfl rfl l0 ?_
    refine zv_getA hB hx1 (q := (12, 131, 12, 55, 6, 156)) (r := 68) (g := 80) (List.mem_of_getElem? (i := 46) rfl) rfl rfl rfl rfl rfl (by decide) (by decide) (by decide) (by decide) (by decide +kernel) ?_
    refine lv_iload_n hx0 hb0 rfl rfl l1 ?_
    refine zv_ald hB hx1 (r := 68) (g := 80) (by decide) (by decide) rfl (by decide) rfl (Or.inl (by decide)) (Or.inl ⟨by decide, rfl⟩) rfl (show k < 10 from hk) (by decide) hhd ?_
    refine lv_iload_n hx0 hb0 rfl rfl l2 ?_
    refine lv_iand hx0 hb0 rfl ?_
    refine lv_iload_n hx0 hb0 rfl rfl l3 ?_
    refine lv_iconst (v := nI 4294967295) hx0 hb0 rfl (by decide) ?_
    refine lv_ixor hx0 hb0 rfl ?_
    refine lv_iand hx0 hb0 rfl ?_
    refine lv_if_ne (tgt := 45) hx0 hb0 rfl (by decide) (fun h => ?_) (fun h => ?_)
    · skip
      refine lv_iconst (v := nI 0) hx0 hb0 rfl (by decide) ?_
      refine zv_ret hB hx1 rfl rfl rfl ⟨rfl, false, rfl, ⟨fun z => (by cases z), fun z => ?_⟩⟩
      have z3 := z.2.1
      rw [zn_el_of hhd] at z3
      exact absurd z3 h
    · skip
      have h2 : (zn_el Z ws1 68 k &&& st) &&& (pt ^^^ nI 4294967295) = 0 := by rw [zn_el_of hhd]; exact h
      refine lv_aload_n hx0 hb0 rfl rfl l0 ?_
      refine lv_iload_n hx0 hb0 rfl rfl l1 ?_
      refine lv_iload hx0 hb0 rfl l4 ?_
      refine lv_iload_n hx0 hb0 rfl rfl l3 ?_
      refine lv_ior hx0 hb0 rfl ?_
      refine lv_iload hx0 hb0 rfl l5 ?_
      refine zv_ivM (As := [.int (nI k), .int (op ||| pt), .int mv]) (rest := []) (q := (12, 454, 18, 0, 8, 72)) (y := zm_18) (zo_can (op := op ||| pt) (mv := mv) H HU hk) hB hx1 (List.mem_of_getElem? (i := 121) rfl) rfl rfl rfl (by decide) rfl (by decide) rfl rfl (by omega) rfl rfl (Nat.le_of_ble_eq_true rfl) ?_
      intro vs2 tys2 ws2 H2 locs2 hn2 hq2 hx2
      obtain ⟨rfl, b2, rfl, hb2⟩ := hq2
      refine lv_if_eq (tgt := 45) hx0 hb0 rfl (by decide) (fun h => ?_) (fun h => ?_)
      · skip
        refine lv_iconst (v := nI 0) hx0 hb0 rfl (by decide) ?_
        refine zv_ret hB hx2 rfl rfl rfl ⟨rfl, false, rfl, ⟨fun z => (by cases z), fun z => ?_⟩⟩
        rw [hb2.mpr z.2.2] at h
        exact absurd h (by decide)
      · skip
        refine lv_iconst (v := nI 1) hx0 hb0 rfl (by decide) ?_
        refine lv_goto (tgt := 46) hx0 hb0 rfl (by decide) ?_
        exact zv_ret hB hx2 rfl rfl rfl ⟨rfl, true, rfl, ⟨fun _ => ⟨hb1t, h2, hb2.mp (by cases b2; exact absurd rfl h; rfl)⟩, fun _ => rfl⟩⟩
def zn_mn (Z : zy_V) (ws : va_W) (n : Nat) : Prop := ∃ b, b ≤ 1 ∧ zy_rd ws (zy_ru Z 29) 43 0 = some (.int (nI b)) ∧ zy_rd ws (zy_ru Z 33) 0 b = some (.int (nI n))
theorem zn_mn_u {ws : va_W} {n n' : Nat} (hn : n ≤ 10) (hn' : n' ≤ 10) (h : zn_mn Z ws n) (h' : zn_mn Z ws n') : n = n' := by
  obtain ⟨b, hb, h1, h2⟩ := h
  obtain ⟨b', hb', h1', h2'⟩ := h'
  rw [h1] at h1'
  injection h1' with e
  injection e with e
  have := zn_inj (by omega) (by omega) e
  subst this
  rw [h2] at h2'
  injection h2' with e
  injection e with e
  exact zn_inj (by omega) (by omega) e
theorem zn_mn_eq {ws ws' : va_W} {n : Nat} (h43 : zy_rd ws' (zy_ru Z 29) 43 0 = zy_rd ws (zy_ru Z 29) 43 0) (h33 : ∀ a, zy_rd ws' (zy_ru Z 33) 0 a = zy_rd ws (zy_ru Z 33) 0 a) (h : zn_mn Z ws n) : zn_mn Z ws' n := by
  obtain ⟨b, hb, h1, h2⟩ := h
  exact ⟨b, hb, h43.trans h1, (h33 b).trans h2⟩
theorem zo_many (H : zy_H0 Z) (HU : zy_UQ zy_fg Z) : zy_OkP l D N0 zy_T Z 1 0 (fun av _ => av = [.ref (zy_fa1 Z 29)]) (fun _ ws vs ws' => ws' = ws ∧ ∃ n, n ≤ 10 ∧ vs = [.int (nI n)] ∧ zn_mn Z ws n) := by
  refine zy_handP (y := zm_1) H HU rfl (fun av ws h => by rw [h]; exact Nat.le_of_ble_eq_true rfl) ?_
  intro d hd av tys ws e p en R s m below meth c hB ls hl hx
  subst e
  obtain ⟨hx0, hb0, -⟩ := hB.2.2.1 Z (zy_le_rf Z)
  have l0 : ls[0]? = some (.val (.ref (zy_fa1 Z 29))) := hl (0, _) (List.mem_of_getElem? (i := 0) rfl)
  obtain ⟨bk, hbk, b1, b2⟩ := zv_int H hx.1.2.2.2 (key := 1354525) (lo := 2147483648) (hi := 2147483649) (by decide +kernel) (by decide) (by decide)
  obtain ⟨b, hb, rfl⟩ := zv_nn (n := 1) b1 b2
  have hbk : zy_rd ws (zy_ru Z 29) 43 0 = some (.int (nI b)) := hbk
  obtain ⟨dv, hdo, d1, d2⟩ := zv_el H hx.1.2.2.2 (r := 33) (g := 45) (by decide) (by decide) rfl (by decide) rfl (by decide) (i := b) (show b < 2 by omega)
  obtain ⟨n, hn, rfl⟩ := zv_nn (n := 10) d1 d2
  refine lv_aload_n hx0 hb0 rfl rfl l0 ?_
  refine zv_getA hB hx (q := (12, 24, 12, 12, 6, 113)) (r := 33) (g := 45) (List.mem_of_getElem? (i := 11) rfl) rfl rfl rfl rfl rfl (by decide) (by decide) (by decide) (by decide) (by decide +kernel) ?_
  refine lv_aload_n hx0 hb0 rfl rfl l0 ?_
  refine zv_get hB hx (q := (12, 300, 12, 43, 6, 144)) (List.mem_of_getElem? (i := 1) rfl) rfl rfl rfl rfl rfl hbk ?_
  refine zv_ald hB hx (r := 33) (g := 45) (by decide) (by decide) rfl (by decide) rfl (Or.inl (by decide)) (Or.inl ⟨by decide, rfl⟩) rfl (show b < 2 by omega) (by decide) hdo ?_
  exact zv_ret hB hx rfl rfl rfl ⟨rfl, n, hn, rfl, b, hb, hbk, hdo⟩
theorem zv_ald9 {p : Program} {en : Env} {R : Room} {s : State} {m : MethodId} {args : Array Value} {below : List Frame} {meth : Method} {c : Code} {Q : State → Prop} {M : zx_M} {dd : Nat} {ls : Array Slot} {H : Heap} {locs : List Loc} {tys : List (ClassId × FieldType)} {ws : va_W} (hB : zy_Fr p l R s m args meth c N0 Z M dd) (hx : zy_Mx D N0 zy_T Z s M ls H locs tys ws) {r g k i pc : Nat} {y : Int32} {rest : List Value} (h0 : 0 < r) (h1 : r < 100) (hfg : zy_fg[r]? = some g) (hg : g < 512) (hT : zy_T[g]? = some k) (ht : k % 16 = 9) (hd : decode M.1.2.1 pc = .ok (.iaload, 1)) (hn : i < zx_cn k) (hn2 : zx_cn k ≤ 2147483647) (hv : zy_rd ws (zy_ru Z r) 0 i = some (.int y)) (kk : W p l en R s m args below meth c H locs 0 0 Q (F0 m (pc + 1) ls (.int y :: rest))) :
    W p l en R s m args below meth c H locs 0 0 Q (F0 m pc ls (.int (nI i) :: .ref (zy_fa1 Z r) :: rest)) := zv_ald hB hx h0 h1 hfg hg hT (Or.inr ht) (Or.inl ⟨by omega, rfl⟩) hd hn hn2 hv kk
def zn_mv (Z : zy_V) (ws : va_W) (v : Int32) : Prop := ∃ (n b : Nat) (td of : Int32), n ≤ 10 ∧ b ≤ 1 ∧ zn_mn Z ws n ∧ zy_rd ws (zy_ru Z 29) 43 0 = some (.int (nI b)) ∧ zy_rd ws (zy_ru Z 53) 0 b = some (.int td) ∧ zy_rd ws (zy_ru Z 64) 0 1 = some (.int of) ∧ v = ((nI 1 <<< (nI n &&& 31)) - nI 1 &&& (td ^^^ nI 4294967295)) &&& (of ^^^ nI 4294967295)
theorem zn_mv_u {ws : va_W} {v v' : Int32} (h : zn_mv Z ws v) (h' : zn_mv Z ws v') : v = v' := by
  obtain ⟨n, b, td, of, hn, hb, h1, h2, h3, h4, rfl⟩ := h
  obtain ⟨n', b', td', of', hn', hb', h1', h2', h3', h4', rfl⟩ := h'
  have := zn_mn_u hn hn' h1 h1'
  subst this
  rw [h2] at h2'
  injection h2' with e
  injection e with e
  have := zn_inj (by omega) (by omega) e
  subst this
  rw [h3] at h3'
  injection h3' with e
  injection e with e
  subst e
  rw [h4] at h4'
  injection h4' with e
  injection e with e
  subst e
  rfl
theorem zn_mv_eq {ws ws' : va_W} {v : Int32} (h43 : zy_rd ws' (zy_ru Z 29) 43 0 = zy_rd ws (zy_ru Z 29) 43 0) (h33 : ∀ a, zy_rd ws' (zy_ru Z 33) 0 a = zy_rd ws (zy_ru Z 33) 0 a) (h53 : ∀ a, zy_rd ws' (zy_ru Z 53) 0 a = zy_rd ws (zy_ru Z 53) 0 a) (h64 : ∀ a, zy_rd ws' (zy_ru Z 64) 0 a = zy_rd ws (zy_ru Z 64) 0 a) (h : zn_mv Z ws v) : zn_mv Z ws' v := by
  obtain ⟨n, b, td, of, hn, hb, h1, h2, h3, h4, h5⟩ := h
  exact ⟨n, b, td, of, hn, hb, zn_mn_eq h43 h33 h1, h43.trans h2, (h53 b).trans h3, (h64 1).trans h4, h5⟩
set_option maxHeartbeats 1000000 in
theorem zo_mv (H : zy_H0 Z) (HU : zy_UQ zy_fg Z) : zy_OkP l D N0 zy_T Z 20 1 (fun av _ => av = [.ref (zy_fa1 Z 29)]) (fun _ ws vs ws' => ws' = ws ∧ ∃ v, vs = [.int v] ∧ zn_mv Z ws v) := by
  refine zy_handP (y := zm_20) H HU rfl (fun av ws h => by rw [h]; exact Nat.le_of_ble_eq_true rfl) ?_
  intro d hd av tys ws e p en R s m below meth c hB ls hl hx
  subst e
  obtain ⟨hx0, hb0, -⟩ := hB.2.2.1 Z (zy_le_rf Z)
  obtain ⟨d, rfl⟩ : ∃ d', d = d' + 1 := ⟨d - 1, by omega⟩
  have l0 : ls[0]? = some (.val (.ref (zy_fa1 Z 29))) := hl (0, _) (List.mem_of_getElem? (i := 0) rfl)
  obtain ⟨bk, hbk, b1, b2⟩ := zv_int H hx.1.2.2.2 (key := 1354525) (lo := 2147483648) (hi := 2147483649) (by decide +kernel) (by decide) (by decide)
  obtain ⟨b, hb, rfl⟩ := zv_nn (n := 1) b1 b2
  have hbk : zy_rd ws (zy_ru Z 29) 43 0 = some (.int (nI b)) := hbk
  obtain ⟨td, htd, -⟩ := zv_el H hx.1.2.2.2 (r := 53) (g := 65) (by decide) (by decide) rfl (by decide) rfl (by decide) (i := b) (show b < 2 by omega)
  obtain ⟨of, hof, -⟩ := zv_int H hx.1.2.2.2 (key := 19267648) (lo := 0) (hi := 4294967295) (by decide +kernel) (by decide) (by decide)
  have hof : zy_rd ws (zy_ru Z 64) 0 1 = some (.int of) := hof
  refine lv_iconst (v := nI 1) hx0 hb0 rfl (by decide) ?_
  refine lv_aload_n hx0 hb0 rfl rfl l0 ?_
  refine zv_ivM (As := []) (rest := [.int (nI 1)]) (q := (12, 397, 1, 0, 8, 15)) (y := zm_1) (zo_many H HU) hB hx (List.mem_of_getElem? (i := 104) rfl) rfl rfl rfl (by decide) rfl (by decide) rfl rfl (Nat.zero_le _) rfl rfl (Nat.le_of_ble_eq_true rfl) ?_
  intro vs1 tys1 ws1 H1 locs1 hn1 hq1 hx1
  obtain ⟨rfl, n, hn, rfl, hmn⟩ := hq1
  refine lv_ishl hx0 hb0 rfl ?_
  refine lv_iconst (v := nI 1) hx0 hb0 rfl (by decide) ?_
  refine lv_isub hx0 hb0 rfl ?_
  refine lv_aload_n hx0 hb0 rfl rfl l0 ?_
  refine zv_getA hB hx1 (q := (12, 84, 12, 32, 6, 133)) (r := 53) (g := 65) (List.mem_of_getElem? (i := 49) rfl) rfl rfl rfl rfl rfl (by decide) (by decide) (by decide) (by decide) (by decide +kernel) ?_
  refine lv_aload_n hx0 hb0 rfl rfl l0 ?_
  refine zv_get hB hx1 (q := (12, 300, 12, 43, 6, 144)) (List.mem_of_getElem? (i := 1) rfl) rfl rfl rfl rfl rfl hbk ?_
  refine zv_ald hB hx1 (r := 53) (g := 65) (by decide) (by decide) rfl (by decide) rfl (Or.inl (by decide)) (Or.inl ⟨by decide, rfl⟩) rfl (show b < 2 by omega) (by decide) htd ?_
  refine lv_iconst (v := nI 4294967295) hx0 hb0 rfl (by decide) ?_
  refine lv_ixor hx0 hb0 rfl ?_
  refine lv_iand hx0 hb0 rfl ?_
  refine lv_aload_n hx0 hb0 rfl rfl l0 ?_
  refine zv_getA hB hx1 (q := (12, 119, 12, 49, 6, 150)) (r := 64) (g := 76) (List.mem_of_getElem? (i := 3) rfl) rfl rfl rfl rfl rfl (by decide) (by decide) (by decide) (by decide) (by decide +kernel) ?_
  refine lv_iconst (v := nI 1) hx0 hb0 rfl (by decide) ?_
  refine zv_ald9 hB hx1 (r := 64) (g := 76) (i := 1) (by decide) (by decide) rfl (by decide) rfl (by decide) rfl (show 1 < 16 by decide) (by decide) hof ?_
  refine lv_iconst (v := nI 4294967295) hx0 hb0 rfl (by decide) ?_
  refine lv_ixor hx0 hb0 rfl ?_
  refine lv_iand hx0 hb0 rfl ?_
  exact zv_ret hB hx1 rfl rfl rfl ⟨rfl, _, rfl, n, b, td, of, hn, hb, hmn, hbk, htd, hof, rfl⟩
end ZNX
