/-! stacks, locals and worlds of the walker's values -/
def zx_SR (ads : List Nat) (ex : Nat → Nat) (nu : Nat → Int32) : List Nat → List Value → Prop
  | [], [] => True
  | a :: l, b :: m => zx_r ads ex nu a b ∧ zx_SR ads ex nu l m
  | [], _ :: _ => False
  | _ :: _, [] => False
def zx_ty (t : Nat) : FieldType := match t with
  | 0 => .int
  | 1 => .byte
  | _ => .boolean
def zx_cr (ads : List Nat) (ex : Nat → Nat) (nu : Nat → Int32) (tys : List (ClassId × FieldType)) (c : Nat) (e : va_E) : Prop := match c % 16 with
  | 0 => ∃ (cA : ClassId) (f : Nat → Int32), (cA, zx_ty 0) ∈ tys ∧ e = .inl (cA, zx_cn c, .inl f) ∧ ∀ j, j < zx_cn c → f j = nI (zx_ig c j)
  | 1 => ∃ (cA : ClassId) (f : Nat → Int32), (cA, zx_ty 1) ∈ tys ∧ e = .inl (cA, zx_cn c, .inl f) ∧ ∀ j, j < zx_cn c → f j = nI (zx_ig c j)
  | 2 => ∃ (cA : ClassId) (f : Nat → Int32), (cA, zx_ty 2) ∈ tys ∧ e = .inl (cA, zx_cn c, .inl f) ∧ ∀ j, j < zx_cn c → f j = nI (zx_ig c j)
  | 3 => ∃ (cA : ClassId) (f : Nat → Int32), (cA, zx_ty 0) ∈ tys ∧ e = .inl (cA, zx_cn c, .inl f)
  | 4 => ∃ (cA : ClassId) (f : Nat → Int32), (cA, zx_ty 1) ∈ tys ∧ e = .inl (cA, zx_cn c, .inl f)
  | 5 => ∃ (cA : ClassId) (f : Nat → Int32), (cA, zx_ty 2) ∈ tys ∧ e = .inl (cA, zx_cn c, .inl f)
  | 6 => ∃ (cA : ClassId) (f : Nat → Int64), (cA, FieldType.long) ∈ tys ∧ e = .inl (cA, zx_cn c, .inr (.inl f))
  | 7 => ∃ (fs : List Value) (r : vw_C), e = .inr (zx_cn c, fs) ∧ vwCl[zx_cn c]? = some r ∧ fs.length = r.2.2 ∧ ∀ (k : Nat) (v : Value), fs[k]? = some v → zx_r ads ex nu (zx_og c k) v
  | 8 => ∃ (cA : ClassId) (f : Nat → Option Nat), (cA, FieldType.object RX8) ∈ tys ∧ e = .inl (cA, zx_cn c, .inr (.inr (.inr (.inr f)))) ∧ ∀ j, j < zx_cn c → (zx_og c j = 0 ∧ f j = none) ∨ zx_r ads ex nu (zx_og c j) (va_rf (f j))
  | _ => False
def zx_hG (h : zx_H) (i : Nat) : Option Nat := (h[i / 16]?).bind (fun l => l[i % 16]?)
def zx_HR (ads : List Nat) (ex : Nat → Nat) (nu : Nat → Int32) (tys : List (ClassId × FieldType)) (h : zx_H) (ws : va_W) : Prop := ∀ (i c : Nat), zx_hG h i = some c → c % 16 ≠ 15 → ∃ w, ws[i]? = some w ∧ zx_cr ads ex nu tys c w.2
def zx_LR (ads : List Nat) (ex : Nat → Nat) (nu : Nat → Int32) (row : Nat) (ls : Array Slot) : Prop := ∀ i : Nat, zx_lg row i % 16 ≠ 0 → ∃ v, ls[i]? = some (.val v) ∧ zx_r ads ex nu (zx_lg row i) v
theorem zx_hg_s {h : zx_H} {i : Nat} {k : Nat → Bool} (hk : zx_hg h i k = true) : ∃ c, zx_hG h i = some c ∧ k c = true := by
  obtain ⟨l, h1, h2⟩ := zx_at_s _ _ hk
  obtain ⟨c, h3, h4⟩ := zx_at_s _ _ h2
  refine ⟨c, ?_, h4⟩
  show (h[i / 16]?).bind (fun l => l[i % 16]?) = some c
  rw [show h[i / 16]? = some l from h1]
  exact h3
theorem zx_hs_s {h : zx_H} {i x : Nat} {k : zx_H → Bool} (hk : zx_hs h i x k = true) : ∃ h', k h' = true ∧ zx_hG h' i = some x ∧ ∀ j, j ≠ i → zx_hG h' j = zx_hG h j := by
  obtain ⟨l, h1, h2⟩ := zx_at_s _ _ hk
  obtain ⟨h3, h4⟩ := zx_up_s _ _ _ h2
  obtain ⟨h5, h6⟩ := zx_up_s _ _ _ h4
  have h1 : h[i / 16]? = some l := h1
  have h3 : i % 16 < l.length := h3
  have h5 : i / 16 < h.length := h5
  refine ⟨_, h6, ?_, fun j hj => ?_⟩
  · show ((h.set (i / 16) (l.set (i % 16) x))[i / 16]?).bind (fun l => l[i % 16]?) = some x
    rw [List.getElem?_set_self h5]
    exact List.getElem?_set_self h3
  · show ((h.set (i / 16) (l.set (i % 16) x))[j / 16]?).bind (fun l => l[j % 16]?) = (h[j / 16]?).bind (fun l => l[j % 16]?)
    by_cases e1 : i / 16 = j / 16
    · rw [← e1, List.getElem?_set_self h5, h1]
      have e2 : i % 16 ≠ j % 16 := by omega
      exact List.getElem?_set_ne e2
    · rw [List.getElem?_set_ne e1]
section ZC
variable {ads ads' : List Nat} {ex : Nat → Nat} {nu : Nat → Int32} {tys tys' : List (ClassId × FieldType)}
theorem zx_SR_mono (hp : ∀ (i q : Nat), ads[i]? = some q → ads'[i]? = some q) : ∀ {lo : List Nat} {lv : List Value}, zx_SR ads ex nu lo lv → zx_SR ads' ex nu lo lv
  | [], [], _ => trivial
  | _ :: _, _ :: _, h => ⟨zx_r_mono hp h.1, zx_SR_mono hp h.2⟩
  | [], _ :: _, h => h.elim
  | _ :: _, [], h => h.elim
theorem zx_LR_mono (hp : ∀ (i q : Nat), ads[i]? = some q → ads'[i]? = some q) {row : Nat} {ls : Array Slot} (h : zx_LR ads ex nu row ls) : zx_LR ads' ex nu row ls := fun i hi => by
  obtain ⟨v, h1, h2⟩ := h i hi
  exact ⟨v, h1, zx_r_mono hp h2⟩
theorem zx_c7 {c : Nat} {e : va_E} (h : c % 16 = 7) : zx_cr ads ex nu tys c e ↔ ∃ (fs : List Value) (r : vw_C), e = .inr (zx_cn c, fs) ∧ vwCl[zx_cn c]? = some r ∧ fs.length = r.2.2 ∧ ∀ (k : Nat) (v : Value), fs[k]? = some v → zx_r ads ex nu (zx_og c k) v := by unfold zx_cr; rw [h]; exact Iff.rfl
theorem zx_c8 {c : Nat} {e : va_E} (h : c % 16 = 8) : zx_cr ads ex nu tys c e ↔ ∃ (cA : ClassId) (f : Nat → Option Nat), (cA, FieldType.object RX8) ∈ tys ∧ e = .inl (cA, zx_cn c, .inr (.inr (.inr (.inr f)))) ∧ ∀ j, j < zx_cn c → (zx_og c j = 0 ∧ f j = none) ∨ zx_r ads ex nu (zx_og c j) (va_rf (f j)) := by unfold zx_cr; rw [h]; exact Iff.rfl
theorem zx_c6 {c : Nat} {e : va_E} (h : c % 16 = 6) : zx_cr ads ex nu tys c e ↔ ∃ (cA : ClassId) (f : Nat → Int64), (cA, FieldType.long) ∈ tys ∧ e = .inl (cA, zx_cn c, .inr (.inl f)) := by unfold zx_cr; rw [h]; exact Iff.rfl
theorem zx_ck {c t : Nat} {e : va_E} (h : c % 16 = t) (ht : t < 3) : zx_cr ads ex nu tys c e ↔ ∃ (cA : ClassId) (f : Nat → Int32), (cA, zx_ty t) ∈ tys ∧ e = .inl (cA, zx_cn c, .inl f) ∧ ∀ j, j < zx_cn c → f j = nI (zx_ig c j) := by
  unfold zx_cr
  rw [h]
  match t, ht with
  | 0, _ => exact Iff.rfl
  | 1, _ => exact Iff.rfl
  | 2, _ => exact Iff.rfl
theorem zx_cu {c t : Nat} {e : va_E} (h : c % 16 = t + 3) (ht : t < 3) : zx_cr ads ex nu tys c e ↔ ∃ (cA : ClassId) (f : Nat → Int32), (cA, zx_ty t) ∈ tys ∧ e = .inl (cA, zx_cn c, .inl f) := by
  unfold zx_cr
  rw [h]
  match t, ht with
  | 0, _ => exact Iff.rfl
  | 1, _ => exact Iff.rfl
  | 2, _ => exact Iff.rfl
theorem zx_cr_tg {c : Nat} {e : va_E} (h : zx_cr ads ex nu tys c e) : c % 16 < 9 := by
  unfold zx_cr at h
  have hl : c % 16 < 16 := Nat.mod_lt _ (by decide)
  generalize c % 16 = t at h hl
  match t, h with
  | 0, _ => omega
  | 1, _ => omega
  | 2, _ => omega
  | 3, _ => omega
  | 4, _ => omega
  | 5, _ => omega
  | 6, _ => omega
  | 7, _ => omega
  | 8, _ => omega
  | (k + 9), h => exact h.elim
theorem zx_cr_mono (hp : ∀ (i q : Nat), ads[i]? = some q → ads'[i]? = some q) (ht : ∀ x ∈ tys, x ∈ tys') {c : Nat} {e : va_E} (h : zx_cr ads ex nu tys c e) : zx_cr ads' ex nu tys' c e := by
  have hl := zx_cr_tg h
  rcases (show c % 16 < 3 ∨ (3 ≤ c % 16 ∧ c % 16 < 6) ∨ c % 16 = 6 ∨ c % 16 = 7 ∨ c % 16 = 8 by omega) with q | q | q | q | q
  · obtain ⟨cA, f, h1, h2, h3⟩ := (zx_ck rfl q).mp h
    exact (zx_ck rfl q).mpr ⟨cA, f, ht _ h1, h2, h3⟩
  · have e1 : c % 16 = (c % 16 - 3) + 3 := by omega
    obtain ⟨cA, f, h1, h2⟩ := (zx_cu e1 (by omega)).mp h
    exact (zx_cu e1 (by omega)).mpr ⟨cA, f, ht _ h1, h2⟩
  · obtain ⟨cA, f, h1, h2⟩ := (zx_c6 q).mp h
    exact (zx_c6 q).mpr ⟨cA, f, ht _ h1, h2⟩
  · obtain ⟨fs, r, h1, h2, h3, h4⟩ := (zx_c7 q).mp h
    exact (zx_c7 q).mpr ⟨fs, r, h1, h2, h3, fun k v hk => zx_r_mono hp (h4 k v hk)⟩
  · obtain ⟨cA, f, h1, h2, h3⟩ := (zx_c8 q).mp h
    exact (zx_c8 q).mpr ⟨cA, f, ht _ h1, h2, fun j hj => (h3 j hj).imp id (zx_r_mono hp)⟩
theorem zx_ads_set {ws : va_W} {i a : Nat} {e e' : va_E} (h : ws[i]? = some (a, e)) : (ws.set i (a, e')).map (fun w => w.1) = ws.map (fun w => w.1) := by
  rw [List.map_set]
  apply List.ext_getElem?
  intro j
  rw [List.getElem?_set]
  split
  · rename_i hij
    subst hij
    rw [List.getElem?_map, h]
    split
    · rfl
    · rename_i hl
      rw [List.length_map] at hl
      rw [List.getElem?_eq_none (by omega)] at h
      cases h
  · rfl
theorem zx_ads_at {ws : va_W} {i q : Nat} (h : (ws.map (fun w => w.1))[i]? = some q) : ∃ e, ws[i]? = some (q, e) := by
  rw [List.getElem?_map] at h
  cases hw : ws[i]? with
  | none => rw [hw] at h; cases h
  | some w => rw [hw] at h; cases h; exact ⟨w.2, rfl⟩
theorem zx_ads_app (ws : va_W) (w : Nat × va_E) : ∀ (i q : Nat), (ws.map (fun w => w.1))[i]? = some q → ((ws ++ [w]).map (fun w => w.1))[i]? = some q := fun i q h => by
  rw [List.map_append, List.getElem?_append_left (List.getElem?_eq_some_iff.mp h).1]
  exact h
theorem zx_HR_get {h : zx_H} {ws : va_W} {i c q : Nat} (hr : zx_HR (ws.map (fun w => w.1)) ex nu tys h ws) (hc : zx_hG h i = some c) (hq : (ws.map (fun w => w.1))[i]? = some q) (h15 : c % 16 ≠ 15) : ∃ e, ws[i]? = some (q, e) ∧ zx_cr (ws.map (fun w => w.1)) ex nu tys c e := by
  obtain ⟨w, h1, h2⟩ := hr i c hc h15
  obtain ⟨e, h3⟩ := zx_ads_at hq
  rw [h3] at h1
  cases h1
  exact ⟨e, h3, h2⟩
theorem zx_HR_set {h h' : zx_H} {ws : va_W} {i c a : Nat} {e0 e1 : va_E} (hr : zx_HR (ws.map (fun w => w.1)) ex nu tys h ws) (hw : ws[i]? = some (a, e0)) (h1 : zx_hG h' i = some c) (h2 : ∀ j, j ≠ i → zx_hG h' j = zx_hG h j) (hc : zx_cr (ws.map (fun w => w.1)) ex nu tys c e1) : zx_HR ((ws.set i (a, e1)).map (fun w => w.1)) ex nu tys h' (ws.set i (a, e1)) := by
  rw [zx_ads_set hw]
  intro j c' hj h15
  by_cases hji : j = i
  · subst hji
    rw [h1] at hj
    cases hj
    exact ⟨_, List.getElem?_set_self (List.getElem?_eq_some_iff.mp hw).1, hc⟩
  · rw [h2 j hji] at hj
    obtain ⟨w, q1, q2⟩ := hr j c' hj h15
    exact ⟨w, by rw [List.getElem?_set_ne (Ne.symm hji)]; exact q1, q2⟩
theorem zx_HR_push {h h' : zx_H} {ws : va_W} {n c : Nat} {w : Nat × va_E} (hr : zx_HR (ws.map (fun w => w.1)) ex nu tys h ws) (hn : ws.length = n) (h1 : zx_hG h' n = some c) (h2 : ∀ j, j ≠ n → zx_hG h' j = zx_hG h j) (ht : ∀ x ∈ tys, x ∈ tys') (hc : zx_cr ((ws ++ [w]).map (fun w => w.1)) ex nu tys' c w.2) : zx_HR ((ws ++ [w]).map (fun w => w.1)) ex nu tys' h' (ws ++ [w]) := by
  intro j c' hj h15
  by_cases hji : j = n
  · subst hji
    rw [h1] at hj
    cases hj
    exact ⟨w, by rw [List.getElem?_append_right (by omega), hn, Nat.sub_self]; rfl, hc⟩
  · rw [h2 j hji] at hj
    obtain ⟨w', q1, q2⟩ := hr j c' hj h15
    exact ⟨w', by rw [List.getElem?_append_left (List.getElem?_eq_some_iff.mp q1).1]; exact q1, zx_cr_mono (zx_ads_app ws w) ht q2⟩
/-! locals -/
def zx_lv (ls : Array Slot) : List (Nat × Value) := (List.range ls.size).filterMap (fun i => match (ls[i]? : Option Slot) with
  | some (Slot.val v) => some (i, v)
  | _ => none)
theorem zx_lv_mem {ls : Array Slot} {i : Nat} {v : Value} : (i, v) ∈ zx_lv ls ↔ ls[i]? = some (.val v) := by
  unfold zx_lv
  rw [List.mem_filterMap]
  constructor
  · rintro ⟨j, -, h⟩
    split at h
    · rename_i w hw
      cases h
      exact hw
    · cases h
  · intro h
    refine ⟨i, List.mem_range.mpr (Array.getElem?_eq_some_iff.mp h).1, ?_⟩
    rw [h]
theorem zx_lv_has {ls : Array Slot} {n : Nat} (h : lv_has ls n []) : lv_has ls n (zx_lv ls) := ⟨h.1, h.2.1, fun q hq => zx_lv_mem.mp (by exact hq)⟩
theorem zx_lv_none {ls : Array Slot} {n : Nat} {l : List (Nat × Value)} (h : lv_has ls n l) : lv_has ls n [] := ⟨h.1, h.2.1, fun q hq => by cases hq⟩
theorem zx_cat_ne {d : Nat} {w : Value} (h : zx_r ads ex nu d w) (hk : Nat.beq (zx_kd d) 5 = false) : (w.category == 2) = false := by
  rw [zx_r_cat h, hk]; rfl
theorem zx_LR_st1 {row i v n : Nat} {x : Value} {ls ls' : Array Slot} (hL : zx_LR ads ex nu row ls) (h5 : Nat.beq (zx_kd (zx_lg row (Nat.pred i))) 5 = false) (hv : zx_r ads ex nu v x) (h' : lv_has ls' n ((i, x) :: (zx_lv ls).filter (fun q => !(q.1 == i) && !(q.1 + 1 == i && q.2.category == 2)))) : zx_LR ads ex nu (zx_ls row i v) ls' := by
  intro j hj
  by_cases hji : j = i
  · subst hji
    rw [show zx_lg (zx_ls row j v) j = v from zx_sd_same (by decide) row j v hv.1] at hj ⊢
    exact ⟨x, h'.2.2 (j, x) List.mem_cons_self, hv⟩
  · rw [show zx_lg (zx_ls row i v) j = zx_lg row j from zx_sd_other (by decide) row i v j hv.1 hji] at hj ⊢
    obtain ⟨w, h1, h2⟩ := hL j hj
    refine ⟨w, h'.2.2 (j, w) (List.mem_cons_of_mem _ (List.mem_filter.mpr ⟨zx_lv_mem.mpr h1, ?_⟩)), h2⟩
    show (!(j == i) && !(j + 1 == i && w.category == 2)) = true
    rw [show (j == i) = false from by simpa using hji]
    by_cases hp : j + 1 = i
    · subst hp
      rw [zx_cat_ne h2 h5]
      simp
    · rw [show (j + 1 == i) = false from by simpa using hp]
      rfl
theorem zx_LR_st2 {row i v n : Nat} {x : Value} {ls ls' : Array Slot} (hL : zx_LR ads ex nu row ls) (h5 : Nat.beq (zx_kd (zx_lg row (Nat.pred i))) 5 = false) (hv : zx_r ads ex nu v x) (h' : lv_has ls' n ((i, x) :: (zx_lv ls).filter (fun q => !(q.1 == i) && (!(q.1 == i + 1) && !(q.1 + 1 == i && q.2.category == 2))))) : zx_LR ads ex nu (zx_ls (zx_ls row i v) (i + 1) 0) ls' := by
  intro j hj
  by_cases hj1 : j = i + 1
  · subst hj1
    rw [show zx_lg (zx_ls (zx_ls row i v) (i + 1) 0) (i + 1) = 0 from zx_sd_same (by decide) _ _ 0 (by decide)] at hj
    exact absurd rfl hj
  rw [show zx_lg (zx_ls (zx_ls row i v) (i + 1) 0) j = zx_lg (zx_ls row i v) j from zx_sd_other (by decide) _ _ 0 j (by decide) hj1] at hj ⊢
  by_cases hji : j = i
  · subst hji
    rw [show zx_lg (zx_ls row j v) j = v from zx_sd_same (by decide) row j v hv.1] at hj ⊢
    exact ⟨x, h'.2.2 (j, x) List.mem_cons_self, hv⟩
  · rw [show zx_lg (zx_ls row i v) j = zx_lg row j from zx_sd_other (by decide) row i v j hv.1 hji] at hj ⊢
    obtain ⟨w, h1, h2⟩ := hL j hj
    refine ⟨w, h'.2.2 (j, w) (List.mem_cons_of_mem _ (List.mem_filter.mpr ⟨zx_lv_mem.mpr h1, ?_⟩)), h2⟩
    show (!(j == i) && (!(j == i + 1) && !(j + 1 == i && w.category == 2))) = true
    rw [show (j == i) = false from by simpa using hji, show (j == i + 1) = false from by simpa using hj1]
    by_cases hp : j + 1 = i
    · subst hp
      rw [zx_cat_ne h2 h5]
      simp
    · rw [show (j + 1 == i) = false from by simpa using hp]
      rfl
/-! calls -/
theorem zx_lg_0 {v r : Nat} (hv : v < 4722366482869645213696) : zx_lg (v + 4722366482869645213696 * r) 0 = v := by
  show ((v + 4722366482869645213696 * r) >>> (0 + 72 * 0)) % 4722366482869645213696 = v
  rw [Nat.shiftRight_zero]
  omega
theorem zx_lg_S {v r j : Nat} (hv : v < 4722366482869645213696) : zx_lg (v + 4722366482869645213696 * r) (j + 1) = zx_lg r j := by
  show ((v + 4722366482869645213696 * r) >>> (0 + 72 * (j + 1))) % 4722366482869645213696 = (r >>> (0 + 72 * j)) % 4722366482869645213696
  rw [show 0 + 72 * (j + 1) = 72 + (0 + 72 * j) by omega, Nat.shiftRight_add]
  congr 2
  rw [Nat.shiftRight_eq_div_pow]
  show (v + 4722366482869645213696 * r) / 4722366482869645213696 = r
  omega
theorem zx_rw_cons (v : Nat) (l : List Nat) : zx_rw (v :: l) = v + (bif Nat.beq (zx_kd v) 5 then 22300745198530623141535718272648361505980416 else 4722366482869645213696) * zx_rw l := rfl
theorem zx_rw_s : ∀ {l : List Nat} {av : List Value} (b : Nat), zx_SR ads ex nu l av → ∀ j, zx_lg (zx_rw l) j % 16 ≠ 0 → ∃ v, (b + j, v) ∈ lv_args b av ∧ zx_r ads ex nu (zx_lg (zx_rw l) j) v
  | [], [], b, _, j, hj => by
    exfalso
    apply hj
    show ((0 : Nat) >>> (0 + 72 * j)) % 4722366482869645213696 % 16 = 0
    rw [Nat.zero_shiftRight]
  | v :: l, x :: av, b, h, j, hj => by
    have hc := zx_r_cat h.1
    have hv := h.1.1
    unfold lv_args
    rw [zx_rw_cons] at hj ⊢
    cases hk : Nat.beq (zx_kd v) 5 with
    | false =>
      rw [hk] at hj
      rw [cond_false] at hj ⊢
      rw [hk, cond_false] at hc
      rw [hc, if_neg (by decide)]
      cases j with
      | zero =>
        rw [zx_lg_0 hv] at hj ⊢
        exact ⟨x, List.mem_cons_self, h.1⟩
      | succ j =>
        rw [zx_lg_S hv] at hj ⊢
        obtain ⟨w, h1, h2⟩ := zx_rw_s (b + 1) h.2 j hj
        exact ⟨w, List.mem_cons_of_mem _ (by rw [show b + (j + 1) = b + 1 + j by omega]; exact h1), h2⟩
    | true =>
      rw [hk] at hj
      rw [cond_true, show (22300745198530623141535718272648361505980416 : Nat) = 4722366482869645213696 * 4722366482869645213696 from by decide, Nat.mul_assoc] at hj ⊢
      rw [hk, cond_true] at hc
      rw [hc, if_pos rfl]
      cases j with
      | zero =>
        rw [zx_lg_0 hv] at hj ⊢
        exact ⟨x, List.mem_cons_self, h.1⟩
      | succ j =>
        rw [zx_lg_S hv] at hj ⊢
        cases j with
        | zero =>
          exfalso
          apply hj
          rw [show 4722366482869645213696 * zx_rw l = 0 + 4722366482869645213696 * zx_rw l by omega, zx_lg_0 (by decide)]
        | succ j =>
          rw [show 4722366482869645213696 * zx_rw l = 0 + 4722366482869645213696 * zx_rw l by omega, zx_lg_S (by decide)] at hj ⊢
          obtain ⟨w, h1, h2⟩ := zx_rw_s (b + 2) h.2 j hj
          exact ⟨w, List.mem_cons_of_mem _ (by rw [show b + (j + 1 + 1) = b + 2 + j by omega]; exact h1), h2⟩
  | [], _ :: _, _, h, _, _ => h.elim
  | _ :: _, [], _, h, _, _ => h.elim
theorem zx_wd_cons (v : Nat) (l : List Nat) : zx_wd (v :: l) = (bif Nat.beq (zx_kd v) 5 then 2 else 1) + zx_wd l := rfl
theorem zx_wd_s : ∀ {f : List Nat} {v : List Value}, zx_SR ads ex nu f v → (lg_sl v).length = zx_wd f ∧ (v.map fun w => w.category).sum = zx_wd f
  | [], [], _ => ⟨rfl, rfl⟩
  | a :: l, b :: m, h => by
    have hc := zx_r_cat h.1
    obtain ⟨i1, i2⟩ := zx_wd_s h.2
    refine ⟨?_, ?_⟩
    · unfold lg_sl at i1 ⊢
      rw [List.flatMap_cons, List.length_append, i1, zx_wd_cons, ← hc]
      rcases lv_cat b with q | q <;> rw [q] <;> simp
    · rw [List.map_cons, List.sum_cons, i2, zx_wd_cons, hc]
  | [], _ :: _, h => h.elim
  | _ :: _, [], h => h.elim
/-- arguments off the stack -/
theorem zx_tk_s {e : Nat} (he : zx_ev nu e) : ∀ (n : Nat) {acc st : List Nat} {va vs : List Value} {k : List Nat → List Nat → Bool}, zx_SR ads ex nu acc va → zx_SR ads ex nu st vs → zx_tk n e acc st k = true → ∃ (as st' : List Nat) (av vs' : List Value), k as st' = true ∧ zx_SR ads ex nu as (av.reverse ++ va) ∧ zx_SR ads ex nu st' vs' ∧ vs = av ++ vs' ∧ av.length = n
  | 0, acc, st, va, vs, k, ha, hs, hk => ⟨acc, st, [], vs, hk, ha, hs, rfl, rfl⟩
  | n + 1, acc, st, va, vs, k, ha, hs, hk => by
    obtain ⟨v, t, rfl, hk⟩ := zx_p1_s (show zx_p1 st (fun v st => zx_no e v (fun v => zx_tk n e (v :: acc) st k)) = true from hk)
    cases vs with
    | nil => exact hs.elim
    | cons x vs =>
      obtain ⟨v', h1, hk⟩ := zx_no_s he hs.1 hk
      obtain ⟨as, st', av, vs', k1, k2, k3, k4, k5⟩ := zx_tk_s he n (acc := v' :: acc) (va := x :: va) ⟨h1, ha⟩ hs.2 hk
      refine ⟨as, st', x :: av, vs', k1, ?_, k3, by rw [k4]; rfl, by rw [List.length_cons, k5]⟩
      rw [List.reverse_cons, List.append_assoc]
      exact k2
end ZC
