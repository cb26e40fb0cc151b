/-! the rule as it is read: what stands on the pile, and how high the code's own pile is -/
def zr_sg (x : Nat) (sg : Int32) : Prop := (1 ≤ x ∧ x ≤ 7) ∧ (x = 3 → sg = nI 126) ∧ (x ≠ 3 → x ≠ 7 → sg ≠ 126 ∧ ¬ (97 ≤ sg ∧ sg ≤ 122))
def zr_St (Z : zy_V) (ws : va_W) : List Nat → Prop
  | [] => zy_rd ws (zy_ru Z 61) 0 0 = some (.int (nI 8))
  | x :: S => zy_rd ws (zy_ru Z 61) 0 (S.length + 1) = some (.int (nI x)) ∧ (∃ sg, zy_rd ws (zy_ru Z 62) 0 (S.length + 1) = some (.int sg) ∧ zr_sg x sg) ∧ zr_St Z ws S
def zr_bin (x : Nat) : Bool := x != 3 && x != 7
def zr_h (wants : Bool) (S : List Nat) : Nat := S.countP zr_bin + (if wants then 0 else 1)
def zr_Pu (wants : Bool) (S : List Nat) (w U n : Nat) : Prop := w = S.count 3 + S.count 7 ∧ w ≤ 7 ∧ U ≤ 30 ∧ zr_h wants S ≤ U ∧ n + zr_h wants S + S.count 3 ≤ 9 * U + (if wants then w else 0)
def zr_fs : List Nat := [4, 5, 6, 7, 8, 9, 10, 45, 46, 47, 48]
def zr_E (Z : zy_V) (b j f a : Nat) : Prop := (j = zy_ru Z 29 ∧ f ∈ zr_fs) ∨ (j = zy_ru Z 35 ∧ f = 0) ∨ (j = zy_ru Z 59 ∧ f = 0 ∧ 560 * b ≤ a ∧ a < 560 * b + 560) ∨ (j = zy_ru Z 60 ∧ f = 0) ∨ (j = zy_ru Z 61 ∧ f = 0) ∨ (j = zy_ru Z 62 ∧ f = 0) ∨ (j = zy_ru Z 56 ∧ f = 0 ∧ a = b) ∨ (j = zy_ru Z 47 ∧ f = 0 ∧ a = b) ∨ (j = zy_ru Z 48 ∧ f = 0 ∧ a = b)
/-- what holds in any case -/
def zr_W (Z : zy_V) (b : Nat) (ws0 ws : va_W) : Prop := zv_Fm Z ws0 ws (zr_E Z b) ∧ zy_rd ws (zy_ru Z 56) 0 b = some (.int (nI 1)) ∧ zy_rd ws (zy_ru Z 47) 0 b = some (.int (nI (560 * b)))
def zr_en (Z : zy_V) (ws : va_W) : Prop := ∃ k, k ≤ 1600 ∧ zy_rd ws (zy_ru Z 29) 7 0 = some (.int (nI k))
def zr_Fl (Z : zy_V) (ws : va_W) (pl w U c : Nat) : Prop := zy_rd ws (zy_ru Z 29) 4 0 = some (.int (nI 0)) ∧ zr_en Z ws ∧ zy_rd ws (zy_ru Z 29) 47 0 = some (.int (nI pl)) ∧ zy_rd ws (zy_ru Z 29) 46 0 = some (.int (nI w)) ∧ zy_rd ws (zy_ru Z 29) 48 0 = some (.int (nI U)) ∧ zy_rd ws (zy_ru Z 29) 45 0 = some (.int (nI c))
def zr_cd (Z : zy_V) (ws : va_W) : Nat → Option Value := fun a => zy_rd ws (zy_ru Z 59) 0 a
/-- the state of the reader -/
def zr_J (Z : zy_V) (b : Nat) (ws0 ws : va_W) (wants : Bool) (S : List Nat) (w U n : Nat) : Prop := zr_W Z b ws0 ws ∧ zr_Fl Z ws (S.length + 1) w U (560 * b + n) ∧ zr_St Z ws S ∧ zr_Pu wants S w U n ∧ zy_po (zr_cd Z ws) n (560 * b) 0 = some (zr_h wants S)
/-- a fault -/
def zr_X (Z : zy_V) (b : Nat) (ws0 ws : va_W) : Prop := zr_W Z b ws0 ws ∧ (∃ fk : Int32, zy_rd ws (zy_ru Z 29) 4 0 = some (.int fk) ∧ fk ≠ 0) ∧ zr_en Z ws
/-- the end -/
def zr_D (Z : zy_V) (b : Nat) (ws0 ws : va_W) : Prop := zr_W Z b ws0 ws ∧ zy_rd ws (zy_ru Z 29) 4 0 = some (.int (nI 0)) ∧ zr_en Z ws ∧ zy_rd ws (zy_ru Z 29) 47 0 = some (.int (nI 0)) ∧ ∃ n, n ≤ 277 ∧ zy_rd ws (zy_ru Z 29) 45 0 = some (.int (nI (560 * b + n))) ∧ (zy_po (zr_cd Z ws) n (560 * b) 0).isSome = true
def zr_m (wants : Bool) (S : List Nat) (w U : Nat) : Nat := (30 - U) * 200 + (if wants then 7 - w else 100 + S.length)
theorem zr_St_fr {Z : zy_V} {ws ws' : va_W} : ∀ {S : List Nat}, (∀ a, a ≤ S.length → zy_rd ws' (zy_ru Z 61) 0 a = zy_rd ws (zy_ru Z 61) 0 a) → (∀ a, a ≤ S.length → zy_rd ws' (zy_ru Z 62) 0 a = zy_rd ws (zy_ru Z 62) 0 a) → zr_St Z ws S → zr_St Z ws' S
  | [], h1, _, h => (h1 0 (Nat.le_refl _)).trans h
  | x :: S, h1, h2, h => by
    obtain ⟨a1, ⟨sg, a2, a3⟩, a4⟩ := h
    exact ⟨(h1 _ (Nat.le_refl _)).trans a1, ⟨sg, (h2 _ (Nat.le_refl _)).trans a2, a3⟩, zr_St_fr (fun a ha => h1 a (Nat.le_succ_of_le ha)) (fun a ha => h2 a (Nat.le_succ_of_le ha)) a4⟩
theorem zr_St_top {Z : zy_V} {ws : va_W} {S : List Nat} (h : zr_St Z ws S) : (S = [] ∧ zy_rd ws (zy_ru Z 61) 0 S.length = some (.int (nI 8))) ∨ ∃ x S', S = x :: S' ∧ (1 ≤ x ∧ x ≤ 7) ∧ zy_rd ws (zy_ru Z 61) 0 S.length = some (.int (nI x)) := by
  cases S with
  | nil => exact Or.inl ⟨rfl, h⟩
  | cons x S => exact Or.inr ⟨x, S, rfl, h.2.1.choose_spec.2.1, h.1⟩
theorem zr_len : ∀ {S : List Nat}, S.length = S.count 3 + S.count 7 + S.countP zr_bin
  | [] => rfl
  | x :: S => by
    have ih := zr_len (S := S)
    rw [List.length_cons, List.count_cons, List.count_cons, List.countP_cons]
    unfold zr_bin
    by_cases h3 : x = 3
    · subst h3
      simp
      unfold zr_bin at ih
      omega
    · by_cases h7 : x = 7
      · subst h7
        simp
        unfold zr_bin at ih
        omega
      · simp [h3, h7]
        unfold zr_bin at ih
        omega
/-- lengths -/
theorem zr_Pu_len {wants : Bool} {S : List Nat} {w U n : Nat} (h : zr_Pu wants S w U n) : S.length ≤ 37 ∧ n ≤ 277 := by
  obtain ⟨h1, h2, h3, h4, h5⟩ := h
  have h6 := zr_len (S := S)
  unfold zr_h at h4 h5
  cases wants <;> simp at h4 h5 <;> omega
theorem zr_Pu_push {S : List Nat} {w U U' n x : Nat} (h : zr_Pu true S w U n) (hw : w ≤ 6) (hx : (x = 3 ∧ U' = U) ∨ (x = 7 ∧ U' = U + 1 ∧ U' ≤ 30)) : zr_Pu true (x :: S) (w + 1) U' n := by
  obtain ⟨h1, h2, h3, h4, h5⟩ := h
  unfold zr_h at h4 h5
  unfold zr_Pu zr_h
  rw [List.count_cons, List.count_cons, List.countP_cons]
  rcases hx with ⟨rfl, rfl⟩ | ⟨rfl, rfl, hU⟩
  · simp [zr_bin] at h4 h5 ⊢
    omega
  · simp [zr_bin] at h4 h5 ⊢
    omega
theorem zr_Pu_let {S : List Nat} {w U n : Nat} (h : zr_Pu true S w U n) (hU : U + 1 ≤ 30) : zr_Pu false S w (U + 1) (n + 1) := by
  obtain ⟨h1, h2, h3, h4, h5⟩ := h
  unfold zr_h at h4 h5
  unfold zr_Pu zr_h
  simp at h4 h5 ⊢
  omega
theorem zr_Pu_pop {S : List Nat} {w U n x : Nat} (h : zr_Pu false (x :: S) w U n) (hx : x ≠ 7) : zr_Pu false S (if x = 3 then w - 1 else w) U (n + 1) ∧ (x = 3 → 1 ≤ w) ∧ (x = 3 → zr_h false (x :: S) = zr_h false S) ∧ (x ≠ 3 → zr_h false (x :: S) = zr_h false S + 1) := by
  obtain ⟨h1, h2, h3, h4, h5⟩ := h
  unfold zr_h at h4 h5
  unfold zr_Pu zr_h
  rw [List.count_cons, List.count_cons] at h1
  rw [List.countP_cons] at h4 h5
  rw [List.count_cons] at h5
  rw [List.countP_cons]
  by_cases h3' : x = 3
  · subst h3'
    simp [zr_bin] at h1 h4 h5 ⊢
    omega
  · simp [zr_bin, h3', hx] at h1 h4 h5 ⊢
    omega
theorem zr_Pu_bin {S : List Nat} {w U n x : Nat} (h : zr_Pu false S w U n) (hx : x ≠ 3 ∧ x ≠ 7) : zr_Pu true (x :: S) w U n ∧ zr_h true (x :: S) = zr_h false S := by
  obtain ⟨h1, h2, h3, h4, h5⟩ := h
  unfold zr_h at h4 h5
  unfold zr_Pu zr_h
  rw [List.count_cons, List.count_cons, List.countP_cons]
  simp [zr_bin, hx.1, hx.2] at h4 h5 ⊢
  omega
theorem zr_Pu_br {S : List Nat} {w U n : Nat} (h : zr_Pu false (7 :: S) w U n) : zr_Pu false S (w - 1) U n ∧ 1 ≤ w ∧ zr_h false (7 :: S) = zr_h false S := by
  obtain ⟨h1, h2, h3, h4, h5⟩ := h
  unfold zr_h at h4 h5
  unfold zr_Pu zr_h
  rw [List.count_cons, List.count_cons] at h1
  rw [List.countP_cons] at h4 h5
  rw [List.count_cons] at h5
  rw [List.countP_cons]
  simp [zr_bin] at h1 h4 h5 ⊢
  omega
/-- one sign more -/
theorem zr_po_snoc {cd : Nat → Option Value} {c : Int32} {h' : Nat} : ∀ (n a h0 : Nat) {h : Nat}, zy_po cd n a h0 = some h → cd (a + n) = some (.int c) → zy_hs h c = some h' → zy_po cd (n + 1) a h0 = some h'
  | 0, a, h0, h, h1, h2, h3 => by
    have h1 : h0 = h := Option.some.inj h1
    subst h1
    unfold zy_po
    rw [show a = a + 0 from rfl, h2]
    show (match zy_hs h0 c with | some m => zy_po cd 0 (a + 0 + 1) m | none => none) = some h'
    rw [h3]
    rfl
  | n + 1, a, h0, h, h1, h2, h3 => by
    unfold zy_po at h1 ⊢
    cases hc : cd a with
    | none => rw [hc] at h1; cases h1
    | some v =>
      rw [hc] at h1
      cases v with
      | int y =>
        show (match zy_hs h0 y with | some m => zy_po cd (n + 1) (a + 1) m | none => none) = some h'
        have h1 : (match zy_hs h0 y with | some m => zy_po cd n (a + 1) m | none => none) = some h := h1
        cases hy : zy_hs h0 y with
        | none => rw [hy] at h1; cases h1
        | some m =>
          rw [hy] at h1
          exact zr_po_snoc n (a + 1) m h1 (by rw [show a + 1 + n = a + (n + 1) by omega]; exact h2) h3
      | _ => cases h1
theorem zr_po_fr {cd cd' : Nat → Option Value} : ∀ (n a h0 : Nat), (∀ k, a ≤ k → k < a + n → cd' k = cd k) → zy_po cd' n a h0 = zy_po cd n a h0
  | 0, _, _, _ => rfl
  | n + 1, a, h0, h => by
    unfold zy_po
    rw [h a (Nat.le_refl _) (by omega)]
    cases cd a with
    | none => rfl
    | some v =>
      cases v with
      | int y =>
        show (match zy_hs h0 y with | some m => zy_po cd' n (a + 1) m | none => none) = (match zy_hs h0 y with | some m => zy_po cd n (a + 1) m | none => none)
        cases zy_hs h0 y with
        | none => rfl
        | some m => exact zr_po_fr n (a + 1) m (fun k h1 h2 => h k (by omega) (by omega))
      | _ => rfl
/-- the places of a mask -/
theorem zv_bits {Wm n : Nat} {L : List Nat} (h : ((List.range 12800).all (fun n => !(Nat.testBit Wm n) || L.contains n) && Nat.beq (Nat.shiftRight Wm 12800) 0) = true) (hn : Wm.testBit n = true) : n ∈ L := by
  obtain ⟨h1, h2⟩ := zx_and_b h
  have h2 : Wm >>> 12800 = 0 := zx_beq_t h2
  by_cases hl : n < 12800
  · have h3 := List.all_eq_true.mp h1 n (List.mem_range.mpr hl)
    rw [hn] at h3
    simpa using h3
  · exfalso
    have : (Wm >>> 12800).testBit (n - 12800) = true := by
      rw [Nat.testBit_shiftRight, show 12800 + (n - 12800) = n by omega]
      exact hn
    rw [h2, Nat.zero_testBit] at this
    cases this
