/-! the machine at a place of a method, and the typed walker there -/
def zy_n0 : Nat → Int32 := fun _ => 0
def zy_Wd (D : va_G) (N0 : Nat) (T : List Nat) (A : zy_V) (U : State) (H : Heap) (tys : List (ClassId × FieldType)) (ws : va_W) : Prop := va_K D vwCl tys U ∧ va_P D vwCl ws H ∧ va_D (zx_A N0) ws ∧ zy_HR A T tys ws
def zy_Rl (D : va_G) (N0 : Nat) (T : List Nat) (Wm : Nat) (ws0 : va_W) (A : zy_V) (M : zx_M) (s : State) (row : Nat) (st : List Nat) (C : zy_C) (e : Nat) (ls : Array Slot) (vs : List Value) (H : Heap) (locs : List Loc) : Prop :=
  ∃ (tys : List (ClassId × FieldType)) (ws : va_W), zy_Wd D N0 T A s H tys ws ∧ va_S (zx_A N0) s.heap H locs ∧ lv_has ls M.1.2.2.1 [] ∧ zy_LR A row ls ∧ zy_SR A st vs ∧ zy_CR A ws C ∧ zy_ev A e ∧ zy_UN (zy_gl A) Wm ws0 ws
/-- where the walker goes on, the machine comes to Q -/
def zy_Nx (p : Program) (l : Launch) (en : Env) (R : Room) (s : State) (m : MethodId) (args : Array Value) (below : List Frame) (meth : Method) (c : Code) (Q : State → Prop) (D : va_G) (N0 : Nat) (T : List Nat) (Wm : Nat) (ws0 : va_W) (A0 : zy_V) (M : zx_M) (nx : zy_N) : Prop :=
  ∀ (A : zy_V) (cur : List zx_E) (pc row : Nat) (st : List Nat) (C : zy_C) (e : Nat), zy_le A0 A → (∀ q ∈ cur, zx_ve M q) → nx cur pc row st C e = true → ∀ (ls : Array Slot) (vs : List Value) (H : Heap) (locs : List Loc), zy_Rl D N0 T Wm ws0 A M s row st C e ls vs H locs → W p l en R s m args below meth c H locs 0 0 Q (F0 m pc ls vs)
def zy_Rt (p : Program) (l : Launch) (en : Env) (R : Room) (s : State) (m : MethodId) (args : Array Value) (below : List Frame) (meth : Method) (c : Code) (Q : State → Prop) (D : va_G) (N0 : Nat) (T : List Nat) (Wm : Nat) (ws0 : va_W) (A0 : zy_V) (M : zx_M) (K : zy_K) : Prop :=
  ∀ (A : zy_V) (pc row : Nat) (r : List Nat) (C : zy_C) (e : Nat) (ls : Array Slot) (vs : List Value) (H : Heap) (locs : List Loc) (ins : Instr), zy_le A0 A → decode M.1.2.1 pc = .ok (ins, 1) → zx_ri M.1.2.2.2 ins vs → K r C e = true → zy_Rl D N0 T Wm ws0 A M s row r C e ls vs H locs → W p l en R s m args below meth c H locs 0 0 Q (F0 m pc ls vs)
def zy_Qc (D : va_G) (N0 : Nat) (T : List Nat) (Wm : Nat) (ws0 : va_W) (A0 : zy_V) (K : zy_K) : Array Value → State → Outcome → State → Prop := fun _ st o t =>
  (∃ (A : zy_V) (r : List Nat) (vs : List Value) (C : zy_C) (e : Nat) (tys : List (ClassId × FieldType)) (ws : va_W), zy_le A0 A ∧ o = .returned vs.head? ∧ vs.length ≤ 1 ∧ zy_SR A r vs ∧ zy_Wd D N0 T A t t.heap tys ws ∧ zy_CR A ws C ∧ zy_ev A e ∧ zy_UN (zy_gl A) Wm ws0 ws ∧ K r C e = true) ∧ va_F (zx_A N0) st t
/-- a call is as the walker's -/
def zy_Ca (l : Launch) (D : va_G) (N0 : Nat) (T : List Nat) (Wm : Nat) (d : Nat) (call : Nat → zx_M → zy_K → zy_N) (A0 : zy_V) (ws0 : va_W) : Prop :=
  ∀ (a : Nat) (y : zx_M) (K : zy_K) (A : zy_V) (as : List Nat) (C : zy_C) (e : Nat) (av : List Value) (tys : List (ClassId × FieldType)) (ws : va_W), zy_le A0 A → zy_UN (zy_gl A) Wm ws0 ws → zx_me a = some y → y.2.1.2.2.2.1 = 0 → y.2.1.2.2.2.2.1 = 0 → call a y K [] 0 (zx_rw as) [] C e = true → zy_SR A as av → zx_wd as ≤ y.1.2.2.1 → va_D (zx_A N0) ws → zy_HR A T tys ws → zy_CR A ws C → zy_ev A e →
    ∃ d', d = d' + 1 ∧ Met l y.1.1 (zx_mc y :: zx_G) (zx_rm d' y) (zx_Pc D N0 (zy_ex A) zy_n0 av tys ws) (zy_Qc D N0 T Wm ws A K) 0 0 (zx_A N0)
theorem zy_SR1 {A : zy_V} {a : Nat} {t : List Nat} {vs : List Value} (h : zy_SR A (a :: t) vs) : ∃ x r, vs = x :: r ∧ zy_r A a x ∧ zy_SR A t r := by
  cases vs with
  | nil => exact h.elim
  | cons x r => exact ⟨x, r, rfl, h.1, h.2⟩
theorem zy_SR2 {A : zy_V} {a b : Nat} {t : List Nat} {vs : List Value} (h : zy_SR A (a :: b :: t) vs) : ∃ x y r, vs = x :: y :: r ∧ zy_r A a x ∧ zy_r A b y ∧ zy_SR A t r := by
  obtain ⟨x, r, rfl, h1, h2⟩ := zy_SR1 h
  obtain ⟨y, r, rfl, h3, h4⟩ := zy_SR1 h2
  exact ⟨x, y, r, rfl, h1, h3, h4⟩
theorem zy_SR3 {A : zy_V} {a b k : Nat} {t : List Nat} {vs : List Value} (h : zy_SR A (a :: b :: k :: t) vs) : ∃ x y z r, vs = x :: y :: z :: r ∧ zy_r A a x ∧ zy_r A b y ∧ zy_r A k z ∧ zy_SR A t r := by
  obtain ⟨x, y, r, rfl, h1, h2, h3⟩ := zy_SR2 h
  obtain ⟨z, r, rfl, h4, h5⟩ := zy_SR1 h3
  exact ⟨x, y, z, r, rfl, h1, h2, h4, h5⟩
/-- more names: all stays -/
theorem zy_up_all {D : va_G} {N0 : Nat} {T : List Nat} {A B : zy_V} {U : State} {H : Heap} {tys : List (ClassId × FieldType)} {ws : va_W} (h : zy_le A B) (hf : 100 ≤ zy_fr A) (hW : zy_Wd D N0 T A U H tys ws) : zy_Wd D N0 T B U H tys ws := ⟨hW.1, hW.2.1, hW.2.2.1, zy_HR_le h hf hW.2.2.2⟩
theorem zy_gl_le {A B : zy_V} (h : zy_le A B) : zy_gl B = zy_gl A := by unfold zy_gl; rw [h.1]
theorem zy_cat_ne {A : zy_V} {d : Nat} {w : Value} (h : zy_r A d w) (hk : Nat.beq (zx_kd d) 5 = false) : (w.category == 2) = false := by
  rw [zy_r_cat h, hk]; rfl
theorem zy_LR_st1 {A : zy_V} {row i v n : Nat} {x : Value} {ls ls' : Array Slot} (hL : zy_LR A row ls) (h5 : Nat.beq (zx_kd (zx_lg row (Nat.pred i))) 5 = false) (hv : zy_r A v x) (h' : lv_has ls' n ((i, x) :: (zx_lv ls).filter (fun q => !(q.1 == i) && !(q.1 + 1 == i && q.2.category == 2)))) : zy_LR A (zx_ls row i v) ls' := by
  intro j hj
  by_cases hji : j = i
  · subst hji
    rw [show zx_lg (zx_ls row j v) j = v from zx_sd_same (by decide) row j v hv.1] at hj ⊢
    exact ⟨x, h'.2.2 (j, x) List.mem_cons_self, hv⟩
  · rw [show zx_lg (zx_ls row i v) j = zx_lg row j from zx_sd_other (by decide) row i v j hv.1 hji] at hj ⊢
    obtain ⟨w, h1, h2⟩ := hL j hj
    refine ⟨w, h'.2.2 (j, w) (List.mem_cons_of_mem _ (List.mem_filter.mpr ⟨zx_lv_mem.mpr h1, ?_⟩)), h2⟩
    show (!(j == i) && !(j + 1 == i && w.category == 2)) = true
    rw [show (j == i) = false from by simpa using hji]
    by_cases hp : j + 1 = i
    · subst hp
      rw [zy_cat_ne h2 h5]
      simp
    · rw [show (j + 1 == i) = false from by simpa using hp]
      rfl
theorem zy_LR_st2 {A : zy_V} {row i v n : Nat} {x : Value} {ls ls' : Array Slot} (hL : zy_LR A row ls) (h5 : Nat.beq (zx_kd (zx_lg row (Nat.pred i))) 5 = false) (hv : zy_r A v x) (h' : lv_has ls' n ((i, x) :: (zx_lv ls).filter (fun q => !(q.1 == i) && (!(q.1 == i + 1) && !(q.1 + 1 == i && q.2.category == 2))))) : zy_LR A (zx_ls (zx_ls row i v) (i + 1) 0) ls' := by
  intro j hj
  by_cases hj1 : j = i + 1
  · subst hj1
    rw [show zx_lg (zx_ls (zx_ls row i v) (i + 1) 0) (i + 1) = 0 from zx_sd_same (by decide) _ _ 0 (by decide)] at hj
    exact absurd rfl hj
  rw [show zx_lg (zx_ls (zx_ls row i v) (i + 1) 0) j = zx_lg (zx_ls row i v) j from zx_sd_other (by decide) _ _ 0 j (by decide) hj1] at hj ⊢
  by_cases hji : j = i
  · subst hji
    rw [show zx_lg (zx_ls row j v) j = v from zx_sd_same (by decide) row j v hv.1] at hj ⊢
    exact ⟨x, h'.2.2 (j, x) List.mem_cons_self, hv⟩
  · rw [show zx_lg (zx_ls row i v) j = zx_lg row j from zx_sd_other (by decide) row i v j hv.1 hji] at hj ⊢
    obtain ⟨w, h1, h2⟩ := hL j hj
    refine ⟨w, h'.2.2 (j, w) (List.mem_cons_of_mem _ (List.mem_filter.mpr ⟨zx_lv_mem.mpr h1, ?_⟩)), h2⟩
    show (!(j == i) && (!(j == i + 1) && !(j + 1 == i && w.category == 2))) = true
    rw [show (j == i) = false from by simpa using hji, show (j == i + 1) = false from by simpa using hj1]
    by_cases hp : j + 1 = i
    · subst hp
      rw [zy_cat_ne h2 h5]
      simp
    · rw [show (j + 1 == i) = false from by simpa using hp]
      rfl
/-! calls -/
