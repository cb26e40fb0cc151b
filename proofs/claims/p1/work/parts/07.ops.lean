/-! what the walker's choices cover -/
section ZO
variable {ads : List Nat} {ex : Nat → Nat} {nu : Nat → Int32} {e : zx_L}
theorem zx_and_b {a b : Bool} (h : (a && b) = true) : a = true ∧ b = true := by cases a <;> cases b <;> simp_all
/-- a number that the walker knows of two that it knows; what the machine makes of them is f -/
theorem zx_b2_s {op : Nat} {f : Int32 → Int32 → Int32} (hf : ∀ x y : Nat, x < 4294967296 → y < 4294967296 → f (nI x) (nI y) = nI (zx_cb op x y)) {a b : zx_V} {x y : Int32} (ha : zx_r ads ex nu a (.int x)) (hb : zx_r ads ex nu b (.int y)) {k : zx_V → Bool} (hk : zx_b2 op a b k = true) :
    ∃ c : zx_V, zx_r ads ex nu c (.int (f x y)) ∧ k c = true := by
  unfold zx_b2 at hk
  split at hk
  · rw [zx_fn_eq] at hk
    obtain ⟨h1, h2⟩ := ha
    obtain ⟨h3, h4⟩ := hb
    cases h1
    cases h3
    refine ⟨_, ?_, hk⟩
    rw [hf _ _ h2 h4]
    exact zx_r_c 0 (zx_cb_lt _ _ _ h2 h4)
  · cases hc : zx_ii a && zx_ii b with
    | false => rw [hc] at hk; cases hk
    | true => rw [hc] at hk; exact ⟨_, zx_r_un _, hk⟩
theorem zx_sh_s {op : Nat} {f : Int32 → Int32 → Int32} (hf : ∀ x y : Nat, x < 4294967296 → y < 32 → f (nI x) (nI y) = nI (zx_cs op x y)) {a b : zx_V} {x y : Int32} (ha : zx_r ads ex nu a (.int x)) (hb : zx_r ads ex nu b (.int y)) {k : zx_V → Bool} (hk : zx_sh op a b k = true) :
    ∃ c : zx_V, zx_r ads ex nu c (.int (f x y)) ∧ k c = true := by
  unfold zx_sh at hk
  split at hk
  · rename_i x' z1 y' z2
    cases hc : Nat.blt y' 32 with
    | false => rw [hc] at hk; cases hk
    | true =>
      rw [hc, cond_true, zx_fn_eq] at hk
      obtain ⟨h1, h2⟩ := ha
      obtain ⟨h3, h4⟩ := hb
      cases h1
      cases h3
      refine ⟨_, ?_, hk⟩
      rw [hf _ _ h2 (Nat.le_of_ble_eq_true hc)]
      exact zx_r_c 0 (zx_cs_lt _ _ _ h2)
  · cases hc : zx_ii a && zx_ii b with
    | false => rw [hc] at hk; cases hk
    | true => rw [hc] at hk; exact ⟨_, zx_r_un _, hk⟩
theorem zx_ad_s {a b : zx_V} {x y : Int32} (ha : zx_r ads ex nu a (.int x)) (hb : zx_r ads ex nu b (.int y)) {k : zx_V → Bool} (hk : zx_ad a b k = true) : ∃ c : zx_V, zx_r ads ex nu c (.int (x + y)) ∧ k c = true := by
  unfold zx_ad at hk
  split at hk
  · obtain ⟨h1, -⟩ := ha
    cases h1
    refine ⟨_, ?_, hk⟩
    rw [show (nI 0) = 0 from nI_0, Int32.zero_add]
    exact hb
  · obtain ⟨h1, -⟩ := hb
    cases h1
    refine ⟨_, ?_, hk⟩
    rw [show (nI 0) = 0 from nI_0, Int32.add_zero]
    exact ha
  · exact zx_b2_s (op := 0) (f := fun x y => x + y) (fun x y _ _ => by show nI x + nI y = nI ((x + y) % 4294967296); rw [nI_add, zx_md]) ha hb hk
theorem zx_an_s (h7 : nu 7 = nu 0 &&& 63) {a b : zx_V} {x y : Int32} (ha : zx_r ads ex nu a (.int x)) (hb : zx_r ads ex nu b (.int y)) {k : zx_V → Bool} (hk : zx_an a b k = true) : ∃ c : zx_V, zx_r ads ex nu c (.int (x &&& y)) ∧ k c = true := by
  unfold zx_an at hk
  split at hk
  · obtain ⟨h1, -⟩ := hb
    have ha : Value.int x = .int (nu 0) := ha
    cases h1
    cases ha
    refine ⟨(1, 7, 0), ?_, hk⟩
    show Value.int _ = .int (nu 7)
    rw [h7]
    rfl
  · obtain ⟨h1, -⟩ := hb
    cases h1
    refine ⟨_, ?_, hk⟩
    rw [show (nI 4294967295) = -1 from by decide +kernel, Int32.and_neg_one]
    exact ha
  · exact zx_b2_s (op := 3) (f := fun x y => x &&& y) (fun x y _ _ => zx_and x y) ha hb hk
theorem zx_sr_s {a b : zx_V} {x y : Int32} (ha : zx_r ads ex nu a (.int x)) (hb : zx_r ads ex nu b (.int y)) {k : zx_V → Bool} (hk : zx_sr a b k = true) : ∃ c : zx_V, zx_r ads ex nu c (.int (x >>> (y &&& 31))) ∧ k c = true := by
  unfold zx_sr at hk
  split at hk
  · obtain ⟨h1, -⟩ := ha
    cases h1
    refine ⟨_, ?_, hk⟩
    rw [show (nI 0) = 0 from nI_0, Int32.zero_shiftRight]
    exact ⟨by rw [show (nI 0) = 0 from nI_0], (show (0 : Nat) < 4294967296 by decide)⟩
  · exact zx_sh_s (op := 7) (f := fun x y => x >>> (y &&& 31)) (fun x y hx hy => zx_shr x y hx hy) ha hb hk
theorem zx_dv_s {op : Nat} {a b : zx_V} {x y : Int32} (ha : zx_r ads ex nu a (.int x)) (hb : zx_r ads ex nu b (.int y)) {k : zx_V → Bool} (hk : zx_dv op a b k = true) : ¬ y = 0 ∧ ∃ c : zx_V, zx_r ads ex nu c (.int (bif Nat.beq op 0 then x / y else x - x / y * y)) ∧ k c = true := by
  unfold zx_dv at hk
  split at hk
  · rename_i x' z1 y' z2
    cases hc : Nat.blt x' 2147483648 && (Nat.blt 0 y' && Nat.blt y' 2147483648) with
    | false => rw [hc] at hk; cases hk
    | true =>
      rw [hc, cond_true, zx_fn_eq] at hk
      obtain ⟨q1, q2⟩ := zx_and_b hc
      obtain ⟨q2, q3⟩ := zx_and_b q2
      have q1 : x' < 2147483648 := Nat.le_of_ble_eq_true q1
      have q2 : 0 < y' := Nat.le_of_ble_eq_true q2
      have q3 : y' < 2147483648 := Nat.le_of_ble_eq_true q3
      obtain ⟨h1, h2⟩ := ha
      obtain ⟨h3, h4⟩ := hb
      cases h1
      cases h3
      refine ⟨nI_ne0 q2 q3, _, ?_, hk⟩
      cases Nat.beq op 0
      · rw [cond_false, cond_false, pk_rem q1 q2 q3]
        exact zx_r_c 0 (Nat.lt_of_le_of_lt (Nat.mod_le _ _) h2)
      · rw [cond_true, cond_true, pk_div q1 q2 q3]
        exact zx_r_c 0 (Nat.lt_of_le_of_lt (Nat.div_le_self _ _) h2)
  · cases hk
theorem zx_ev_set {i l h : Nat} (he : zx_ev nu e) (h1 : l ≤ zx_bz (nu i)) (h2 : zx_bz (nu i) ≤ h) : zx_ev nu (e.set i (l, h)) := by
  intro k q hq
  by_cases hk : i = k
  · subst hk
    rw [List.getElem?_set] at hq
    split at hq
    · split at hq
      · cases hq; exact ⟨h1, h2⟩
      · cases hq
    · exact he _ _ hq
  · rw [List.getElem?_set_ne hk] at hq
    exact he _ _ hq
theorem zx_blt_f {a b : Nat} (h : Nat.blt a b = false) : b ≤ a := by
  rcases Nat.lt_or_ge a b with q | q
  · have : Nat.blt a b = true := Nat.ble_eq_true_of_le q
    rw [this] at h; cases h
  · exact q
theorem zx_blt_t {a b : Nat} (h : Nat.blt a b = true) : a < b := Nat.le_of_ble_eq_true h
theorem zx_ble_f {a b : Nat} (h : Nat.ble a b = false) : b < a := by
  rcases Nat.lt_or_ge b a with q | q
  · exact q
  · have : Nat.ble a b = true := Nat.ble_eq_true_of_le q
    rw [this] at h; cases h
theorem zx_beq_t {a b : Nat} (h : Nat.beq a b = true) : a = b := Nat.eq_of_beq_eq_true h
theorem zx_lts_s (he : zx_ev nu e) {a b : zx_V} {x y : Int32} {l1 h1 l2 h2 : Nat} (a1 : l1 ≤ zx_bz x) (a2 : zx_bz x ≤ h1) (a3 : a.1 = 1 → x = nu a.2.1) (b1 : l2 ≤ zx_bz y) (b2 : zx_bz y ≤ h2) (b3 : b.1 = 1 → y = nu b.2.1) :
    ∃ q ∈ zx_lts e a b l1 h1 l2 h2, q.1 = decide (zx_bz x < zx_bz y) ∧ zx_ev nu q.2 := by
  unfold zx_lts
  cases c1 : Nat.blt h1 l2 with
  | true =>
    have := zx_blt_t c1
    exact ⟨_, List.mem_singleton.mpr rfl, (decide_eq_true (by omega)).symm, he⟩
  | false =>
    have := zx_blt_f c1
    rw [cond_false]
    cases c2 : Nat.ble h2 l1 with
    | true =>
      have : h2 ≤ l1 := Nat.le_of_ble_eq_true c2
      exact ⟨_, List.mem_singleton.mpr rfl, (decide_eq_false (by omega)).symm, he⟩
    | false =>
      rw [cond_false]
      cases c3 : Nat.beq a.1 1 && Nat.beq l2 h2 with
      | true =>
        rw [cond_true]
        obtain ⟨d1, d2⟩ := zx_and_b c3
        have d1 := zx_beq_t d1
        have d2 := zx_beq_t d2
        have ex := a3 d1
        by_cases hlt : zx_bz x < zx_bz y
        · exact ⟨_, List.mem_cons_self, (decide_eq_true hlt).symm, zx_ev_set he (by rw [← ex]; exact a1) (by rw [← ex]; omega)⟩
        · exact ⟨_, List.mem_cons_of_mem _ List.mem_cons_self, (decide_eq_false hlt).symm, zx_ev_set he (by rw [← ex]; omega) (by rw [← ex]; exact a2)⟩
      | false =>
        rw [cond_false]
        cases c4 : Nat.beq b.1 1 && Nat.beq l1 h1 with
        | true =>
          rw [cond_true]
          obtain ⟨d1, d2⟩ := zx_and_b c4
          have d1 := zx_beq_t d1
          have d2 := zx_beq_t d2
          have ex := b3 d1
          by_cases hlt : zx_bz x < zx_bz y
          · exact ⟨_, List.mem_cons_self, (decide_eq_true hlt).symm, zx_ev_set he (by rw [← ex]; omega) (by rw [← ex]; exact b2)⟩
          · exact ⟨_, List.mem_cons_of_mem _ List.mem_cons_self, (decide_eq_false hlt).symm, zx_ev_set he (by rw [← ex]; exact b1) (by rw [← ex]; omega)⟩
        | false =>
          rw [cond_false]
          by_cases hlt : zx_bz x < zx_bz y
          · exact ⟨_, List.mem_cons_self, (decide_eq_true hlt).symm, he⟩
          · exact ⟨_, List.mem_cons_of_mem _ List.mem_cons_self, (decide_eq_false hlt).symm, he⟩
theorem zx_eqs_s (he : zx_ev nu e) {a b : zx_V} {x y : Int32} {l1 h1 l2 h2 : Nat} (a1 : l1 ≤ zx_bz x) (a2 : zx_bz x ≤ h1) (a3 : a.1 = 1 → x = nu a.2.1) (b1 : l2 ≤ zx_bz y) (b2 : zx_bz y ≤ h2) (b3 : b.1 = 1 → y = nu b.2.1) :
    ∃ q ∈ zx_eqs e a b l1 h1 l2 h2, q.1 = decide (zx_bz x = zx_bz y) ∧ zx_ev nu q.2 := by
  unfold zx_eqs
  cases c1 : Nat.blt h1 l2 || Nat.blt h2 l1 with
  | true =>
    rw [cond_true]
    have hn : ¬ zx_bz x = zx_bz y := by
      cases d : Nat.blt h1 l2 with
      | true => have := zx_blt_t d; omega
      | false => rw [d, Bool.false_or] at c1; have := zx_blt_t c1; omega
    exact ⟨_, List.mem_singleton.mpr rfl, (decide_eq_false hn).symm, he⟩
  | false =>
    rw [cond_false]
    obtain ⟨e1, e2⟩ : Nat.blt h1 l2 = false ∧ Nat.blt h2 l1 = false := by cases d1 : Nat.blt h1 l2 <;> cases d2 : Nat.blt h2 l1 <;> simp_all
    have e1 := zx_blt_f e1
    have e2 := zx_blt_f e2
    cases c2 : Nat.beq l1 h1 && Nat.beq l2 h2 with
    | true =>
      obtain ⟨d1, d2⟩ := zx_and_b c2
      have d1 := zx_beq_t d1
      have d2 := zx_beq_t d2
      exact ⟨_, List.mem_singleton.mpr rfl, (decide_eq_true (by omega)).symm, he⟩
    | false =>
      rw [cond_false]
      cases c0 : Nat.beq a.1 1 && (Nat.beq b.1 1 && Nat.beq a.2.1 b.2.1) with
      | true =>
        obtain ⟨d1, d2⟩ := zx_and_b c0
        obtain ⟨d2, d3⟩ := zx_and_b d2
        refine ⟨_, List.mem_singleton.mpr rfl, (decide_eq_true ?_).symm, he⟩
        rw [a3 (zx_beq_t d1), b3 (zx_beq_t d2), zx_beq_t d3]
      | false =>
      rw [cond_false]
      cases c3 : Nat.beq a.1 1 && Nat.beq l2 h2 with
      | true =>
        rw [cond_true]
        obtain ⟨d1, d2⟩ := zx_and_b c3
        have d2 := zx_beq_t d2
        have ex := a3 (zx_beq_t d1)
        by_cases heq : zx_bz x = zx_bz y
        · exact ⟨_, List.mem_cons_self, (decide_eq_true heq).symm, zx_ev_set he (by rw [← ex]; omega) (by rw [← ex]; omega)⟩
        · rcases Nat.lt_or_gt_of_ne heq with hl | hl
          · refine ⟨(false, e.set a.2.1 (l1, l2 - 1)), List.mem_cons_of_mem _ (List.mem_append_left _ ?_), (decide_eq_false heq).symm, zx_ev_set he (by rw [← ex]; exact a1) (by rw [← ex]; omega)⟩
            rw [show Nat.blt l1 l2 = true from Nat.ble_eq_true_of_le (by omega : l1 + 1 ≤ l2)]
            exact List.mem_singleton.mpr rfl
          · refine ⟨(false, e.set a.2.1 (l2 + 1, h1)), List.mem_cons_of_mem _ (List.mem_append_right _ ?_), (decide_eq_false heq).symm, zx_ev_set he (by rw [← ex]; omega) (by rw [← ex]; exact a2)⟩
            rw [show Nat.blt l2 h1 = true from Nat.ble_eq_true_of_le (by omega : l2 + 1 ≤ h1)]
            exact List.mem_singleton.mpr rfl
      | false =>
        rw [cond_false]
        cases c4 : Nat.beq b.1 1 && Nat.beq l1 h1 with
        | true =>
          rw [cond_true]
          obtain ⟨d1, d2⟩ := zx_and_b c4
          have d2 := zx_beq_t d2
          have ex := b3 (zx_beq_t d1)
          by_cases heq : zx_bz x = zx_bz y
          · exact ⟨_, List.mem_cons_self, (decide_eq_true heq).symm, zx_ev_set he (by rw [← ex]; omega) (by rw [← ex]; omega)⟩
          · rcases Nat.lt_or_gt_of_ne heq with hl | hl
            · refine ⟨(false, e.set b.2.1 (l1 + 1, h2)), List.mem_cons_of_mem _ (List.mem_append_right _ ?_), (decide_eq_false heq).symm, zx_ev_set he (by rw [← ex]; omega) (by rw [← ex]; exact b2)⟩
              rw [show Nat.blt l1 h2 = true from Nat.ble_eq_true_of_le (by omega : l1 + 1 ≤ h2)]
              exact List.mem_singleton.mpr rfl
            · refine ⟨(false, e.set b.2.1 (l2, l1 - 1)), List.mem_cons_of_mem _ (List.mem_append_left _ ?_), (decide_eq_false heq).symm, zx_ev_set he (by rw [← ex]; exact b1) (by rw [← ex]; omega)⟩
              rw [show Nat.blt l2 l1 = true from Nat.ble_eq_true_of_le (by omega : l2 + 1 ≤ l1)]
              exact List.mem_singleton.mpr rfl
        | false =>
          rw [cond_false]
          by_cases heq : zx_bz x = zx_bz y
          · exact ⟨_, List.mem_cons_self, (decide_eq_true heq).symm, he⟩
          · exact ⟨_, List.mem_cons_of_mem _ List.mem_cons_self, (decide_eq_false heq).symm, he⟩
/-- what a comparison says of two ints -/
def zx_cv (c : ClassFile.Cond) (x y : Int32) : Prop := match c with
  | .lt => x < y
  | .ge => y ≤ x
  | .gt => y < x
  | .le => x ≤ y
  | .eq => x = y
  | .ne => ¬ x = y
theorem zx_cmp_s {c : ClassFile.Cond} (he : zx_ev nu e) {a b : zx_V} {x y : Int32} (ha : zx_r ads ex nu a (.int x)) (hb : zx_r ads ex nu b (.int y)) {l : List (Bool × zx_L)} (hl : zx_cmp c e a b = some l) :
    ∃ q ∈ l, (q.1 = true ↔ zx_cv c x y) ∧ zx_ev nu q.2 := by
  unfold zx_cmp at hl
  cases ha1 : zx_iv e a with
  | none => rw [ha1] at hl; cases hl
  | some q1 =>
    cases hb1 : zx_iv e b with
    | none => rw [ha1, hb1] at hl; cases hl
    | some q2 =>
      rw [ha1, hb1] at hl
      obtain ⟨x', ex1, a1, a2, a3⟩ := zx_r_iv he ha1 ha
      cases ex1
      obtain ⟨y', ey1, b1, b2, b3⟩ := zx_r_iv he hb1 hb
      cases ey1
      obtain ⟨l1, h1⟩ := q1
      obtain ⟨l2, h2⟩ := q2
      have hl := Option.some.inj hl
      subst hl
      have hlt := zx_lts_s he a1 a2 a3 b1 b2 b3
      have hgt := zx_lts_s he b1 b2 b3 a1 a2 a3
      have heq := zx_eqs_s he a1 a2 a3 b1 b2 b3
      cases c with
      | lt => obtain ⟨q, m, t, v⟩ := hlt; exact ⟨q, m, by rw [t, decide_eq_true_iff]; exact (zx_lt x y).symm, v⟩
      | gt => obtain ⟨q, m, t, v⟩ := hgt; exact ⟨q, m, by rw [t, decide_eq_true_iff]; exact (zx_lt y x).symm, v⟩
      | eq => obtain ⟨q, m, t, v⟩ := heq; exact ⟨q, m, by rw [t, decide_eq_true_iff]; exact (zx_eq x y).symm, v⟩
      | ge => obtain ⟨q, m, t, v⟩ := hlt; exact ⟨(!q.1, q.2), List.mem_map.mpr ⟨q, m, rfl⟩, by rw [t, zx_cv, zx_le]; simp, v⟩
      | le => obtain ⟨q, m, t, v⟩ := hgt; exact ⟨(!q.1, q.2), List.mem_map.mpr ⟨q, m, rfl⟩, by rw [t, zx_cv, zx_le]; simp, v⟩
      | ne => obtain ⟨q, m, t, v⟩ := heq; exact ⟨(!q.1, q.2), List.mem_map.mpr ⟨q, m, rfl⟩, by rw [t, zx_cv, zx_eq]; simp, v⟩
theorem zx_jmp_s {c : ClassFile.Cond} (he : zx_ev nu e) {a b : zx_V} {x y : Int32} (ha : zx_r ads ex nu a (.int x)) (hb : zx_r ads ex nu b (.int y)) {pc np : Nat} {off : Int} {k : Nat → zx_L → Bool} (hk : zx_jmp pc np off (zx_cmp c e a b) k = true) :
    ∃ t : Nat, (pc : Int) + off = (t : Int) ∧ ∃ e' : zx_L, zx_ev nu e' ∧ (zx_cv c x y → k t e' = true) ∧ (¬ zx_cv c x y → k np e' = true) := by
  unfold zx_jmp at hk
  cases hl : zx_cmp c e a b with
  | none => rw [hl] at hk; cases hk
  | some l =>
    rw [hl] at hk
    dsimp only at hk
    cases hd : decide (0 ≤ (pc : Int) + off) with
    | false => rw [hd] at hk; cases hk
    | true =>
      rw [hd, cond_true, zx_fn_eq] at hk
      have hd := of_decide_eq_true hd
      obtain ⟨q, m, t, v⟩ := zx_cmp_s he ha hb hl
      have h1 := List.all_eq_true.mp hk q m
      rw [zx_fl_eq] at h1
      refine ⟨_, (Int.toNat_of_nonneg hd).symm, q.2, v, fun hc => ?_, fun hc => ?_⟩
      · rw [t.mpr hc] at h1; exact h1
      · have : q.1 = false := by cases hq : q.1 with
          | false => rfl
          | true => exact absurd (t.mp hq) hc
        rw [this] at h1; exact h1
theorem zx_in_s (he : zx_ev nu e) {i : zx_V} {x : Int32} {n : Nat} (hi : zx_r ads ex nu i (.int x)) (hn : zx_in e i n = true) : vp_in x n := by
  unfold zx_in at hn
  cases h : zx_iv e i with
  | none => rw [h] at hn; cases hn
  | some q =>
    rw [h] at hn
    obtain ⟨x', ex1, a1, a2, -⟩ := zx_r_iv he h hi
    cases ex1
    obtain ⟨q1, q2⟩ := zx_and_b hn
    have q1 := Nat.le_of_ble_eq_true q1
    have q2 := zx_blt_t q2
    have hz := zx_bz_int x
    rw [vp_in_iff]
    omega
end ZO
