/-! groups of cells, their templates, and the world that keeps them -/
def zy_SR (A : zy_V) : List Nat → List Value → Prop
  | [], [] => True
  | a :: l, b :: m => zy_r A a b ∧ zy_SR A l m
  | [], _ :: _ => False
  | _ :: _, [] => False
def zy_LR (A : zy_V) (row : Nat) (ls : Array Slot) : Prop := ∀ i : Nat, zx_lg row i % 16 ≠ 0 → ∃ v, ls[i]? = some (.val v) ∧ zy_r A (zx_lg row i) v
def zy_lo (c : Nat) : Nat := Nat.div (Nat.mod (Nat.shiftRight c 20) 18446744073709551616) 4294967296
def zy_hi (c : Nat) : Nat := Nat.mod (Nat.mod (Nat.shiftRight c 20) 18446744073709551616) 4294967296
def zy_cr (A : zy_V) (tys : List (ClassId × FieldType)) (c : Nat) (e : va_E) : Prop := match c % 16 with
  | 3 => ∃ (cA : ClassId) (f : Nat → Int32), (cA, zx_ty 0) ∈ tys ∧ e = .inl (cA, zx_cn c, .inl f) ∧ ∀ j, j < zx_cn c → zy_lo c ≤ zx_bz (f j) ∧ zx_bz (f j) ≤ zy_hi c
  | 4 => ∃ (cA : ClassId) (f : Nat → Int32), (cA, zx_ty 1) ∈ tys ∧ e = .inl (cA, zx_cn c, .inl f) ∧ ∀ j, j < zx_cn c → zy_lo c ≤ zx_bz (f j) ∧ zx_bz (f j) ≤ zy_hi c
  | 5 => ∃ (cA : ClassId) (f : Nat → Int32), (cA, zx_ty 2) ∈ tys ∧ e = .inl (cA, zx_cn c, .inl f) ∧ ∀ j, j < zx_cn c → zy_lo c ≤ zx_bz (f j) ∧ zx_bz (f j) ≤ zy_hi c
  | 6 => ∃ (cA : ClassId) (f : Nat → Int64), (cA, FieldType.long) ∈ tys ∧ e = .inl (cA, zx_cn c, .inr (.inl f))
  | 7 => ∃ (fs : List Value) (r : vw_C), e = .inr (zx_cn c, fs) ∧ vwCl[zx_cn c]? = some r ∧ fs.length = r.2.2 ∧ ∀ (k : Nat) (v : Value), fs[k]? = some v → zy_r A (zx_og c k) v
  | 8 => ∃ (cA : ClassId) (f : Nat → Option Nat), (cA, FieldType.object RX8) ∈ tys ∧ e = .inl (cA, zx_cn c, .inr (.inr (.inr (.inr f)))) ∧ ∀ j, j < zx_cn c → zy_r A (zx_og c 0) (va_rf (f j))
  | 9 => ∃ (cA : ClassId) (f : Nat → Int32), (cA, zx_ty 0) ∈ tys ∧ e = .inl (cA, zx_cn c, .inl f) ∧ ∀ j, j < zx_cn c → zy_r A (zx_og c (j % 16)) (.int (f j))
  | _ => False
section ZYC
variable {A : zy_V} {tys : List (ClassId × FieldType)}
theorem zy_c7 {c : Nat} {e : va_E} (h : c % 16 = 7) : zy_cr A tys c e ↔ ∃ (fs : List Value) (r : vw_C), e = .inr (zx_cn c, fs) ∧ vwCl[zx_cn c]? = some r ∧ fs.length = r.2.2 ∧ ∀ (k : Nat) (v : Value), fs[k]? = some v → zy_r A (zx_og c k) v := by unfold zy_cr; rw [h]; exact Iff.rfl
theorem zy_c8 {c : Nat} {e : va_E} (h : c % 16 = 8) : zy_cr A tys c e ↔ ∃ (cA : ClassId) (f : Nat → Option Nat), (cA, FieldType.object RX8) ∈ tys ∧ e = .inl (cA, zx_cn c, .inr (.inr (.inr (.inr f)))) ∧ ∀ j, j < zx_cn c → zy_r A (zx_og c 0) (va_rf (f j)) := by unfold zy_cr; rw [h]; exact Iff.rfl
theorem zy_c6 {c : Nat} {e : va_E} (h : c % 16 = 6) : zy_cr A tys c e ↔ ∃ (cA : ClassId) (f : Nat → Int64), (cA, FieldType.long) ∈ tys ∧ e = .inl (cA, zx_cn c, .inr (.inl f)) := by unfold zy_cr; rw [h]; exact Iff.rfl
theorem zy_c9 {c : Nat} {e : va_E} (h : c % 16 = 9) : zy_cr A tys c e ↔ ∃ (cA : ClassId) (f : Nat → Int32), (cA, zx_ty 0) ∈ tys ∧ e = .inl (cA, zx_cn c, .inl f) ∧ ∀ j, j < zx_cn c → zy_r A (zx_og c (j % 16)) (.int (f j)) := by unfold zy_cr; rw [h]; exact Iff.rfl
theorem zy_cu {c t : Nat} {e : va_E} (h : c % 16 = t + 3) (ht : t < 3) : zy_cr A tys c e ↔ ∃ (cA : ClassId) (f : Nat → Int32), (cA, zx_ty t) ∈ tys ∧ e = .inl (cA, zx_cn c, .inl f) ∧ ∀ j, j < zx_cn c → zy_lo c ≤ zx_bz (f j) ∧ zx_bz (f j) ≤ zy_hi c := by
  unfold zy_cr
  rw [h]
  match t, ht with
  | 0, _ => exact Iff.rfl
  | 1, _ => exact Iff.rfl
  | 2, _ => exact Iff.rfl
theorem zy_cr_tg {c : Nat} {e : va_E} (h : zy_cr A tys c e) : 3 ≤ c % 16 ∧ c % 16 < 10 := by
  unfold zy_cr at h
  have hl : c % 16 < 16 := Nat.mod_lt _ (by decide)
  generalize c % 16 = t at h hl
  match t, h with
  | 0, h => exact h.elim
  | 1, h => exact h.elim
  | 2, h => exact h.elim
  | 3, _ => omega
  | 4, _ => omega
  | 5, _ => omega
  | 6, _ => omega
  | 7, _ => omega
  | 8, _ => omega
  | 9, _ => omega
  | (k + 10), h => exact h.elim
/-- a type that names nothing but fixed cells -/
def zy_pn (v : Nat) : Bool := bif Nat.beq (zx_kd v) 2 then Nat.blt (zy_k1 v) 100 else bif Nat.beq (zx_kd v) 5 then Nat.beq v 5 else zx_kc 472 v
theorem zy_kc472 {v : Nat} (h : zx_kc 472 v = true) : v % 16 = 3 ∨ v % 16 = 4 ∨ v % 16 = 6 ∨ v % 16 = 7 ∨ v % 16 = 8 := by
  have q : ∀ t, t < 16 → Nat.beq (Nat.mod (Nat.shiftRight 472 t) 2) 1 = true → t = 3 ∨ t = 4 ∨ t = 6 ∨ t = 7 ∨ t = 8 := by decide
  exact q _ (Nat.mod_lt _ (by decide)) h
/-- the same fixed things -/
def zy_fx (A B : zy_V) : Prop := A.1 = B.1 ∧ ∀ k, k < 100 → zy_ru A k = zy_ru B k
theorem zy_fx_s {A B : zy_V} (h : zy_fx A B) : zy_fx B A := ⟨h.1.symm, fun k hk => (h.2 k hk).symm⟩
theorem zy_pn_s {B : zy_V} (hf : zy_fx A B) {v : Nat} (hv : zy_pn v = true) {x : Value} (h : zy_r A v x) : zy_r B v x := by
  obtain ⟨⟨ads, gl, ex⟩, ru, nu, lu⟩ := A
  obtain ⟨⟨ads', gl', ex'⟩, ru', nu', lu'⟩ := B
  obtain ⟨h1, h2⟩ := hf
  have h1 : (ads, gl, ex) = (ads', gl', ex') := h1
  injection h1 with h1 h3
  injection h3 with h3 h4
  subst h1
  subst h3
  subst h4
  unfold zy_pn at hv
  rcases zx_bif hv with ⟨q, hv⟩ | ⟨-, hv⟩
  · have q : v % 16 = 2 := zx_beq_t q
    have hv : v / 16 % 256 < 100 := zx_blt_t hv
    obtain ⟨g0, i, a, g1, g2, g3, g4⟩ := (zy_r2 q).mp h
    exact (zy_r2 q).mpr ⟨g0, i, a, g1, g2, g3, fun z => (h2 _ hv).symm.trans (g4 z)⟩
  rcases zx_bif hv with ⟨q, hv⟩ | ⟨-, hv⟩
  · have hv := zx_beq_t hv
    subst hv
    obtain ⟨y, rfl⟩ := zy_r_j (by decide) h
    exact zy_r_l y
  · rcases zy_kc472 hv with q | q | q | q | q
    · exact (zy_r3 q).mpr ((zy_r3 q).mp h)
    · exact (zy_r4 q).mpr ((zy_r4 q).mp h)
    · obtain ⟨g0, g1⟩ := (zy_r6 q).mp h
      exact (zy_r6 q).mpr ⟨g0, g1⟩
    · exact (zy_r7 q).mpr ((zy_r7 q).mp h)
    · exact (zy_r8 q).mpr ((zy_r8 q).mp h)
/-- a template of plain types -/
def zy_pt (c : Nat) : Bool := bif Nat.beq (zx_tg c) 7 then (List.range (zx_ci (zx_cn c)).2.2).all (fun k => zy_pn (zx_og c k)) else bif Nat.beq (zx_tg c) 8 then zy_pn (zx_og c 0) else bif Nat.beq (zx_tg c) 9 then (List.range 16).all (fun k => zy_pn (zx_og c k)) else true
theorem zy_cr_fx {B : zy_V} (hf : zy_fx A B) {c : Nat} (hc : zy_pt c = true) {e : va_E} (h : zy_cr A tys c e) : zy_cr B tys c e := by
  obtain ⟨hl, hu⟩ := zy_cr_tg h
  unfold zy_pt at hc
  have et : zx_tg c = c % 16 := rfl
  rcases (show c % 16 < 6 ∨ c % 16 = 6 ∨ c % 16 = 7 ∨ c % 16 = 8 ∨ c % 16 = 9 by omega) with q | q | q | q | q
  · have e1 : c % 16 = (c % 16 - 3) + 3 := by omega
    exact (zy_cu e1 (by omega)).mpr ((zy_cu e1 (by omega)).mp h)
  · exact (zy_c6 q).mpr ((zy_c6 q).mp h)
  · rw [et, q] at hc
    have hc : (List.range (zx_ci (zx_cn c)).2.2).all (fun k => zy_pn (zx_og c k)) = true := hc
    obtain ⟨fs, r, h1, h2, h3, h4⟩ := (zy_c7 q).mp h
    refine (zy_c7 q).mpr ⟨fs, r, h1, h2, h3, fun k v hk => zy_pn_s hf (List.all_eq_true.mp hc k (List.mem_range.mpr ?_)) (h4 k v hk)⟩
    rw [zx_ci_of h2, ← h3]
    exact (List.getElem?_eq_some_iff.mp hk).1
  · rw [et, q] at hc
    have hc : zy_pn (zx_og c 0) = true := hc
    obtain ⟨cA, f, h1, h2, h3⟩ := (zy_c8 q).mp h
    exact (zy_c8 q).mpr ⟨cA, f, h1, h2, fun j hj => zy_pn_s hf hc (h3 j hj)⟩
  · rw [et, q] at hc
    have hc : (List.range 16).all (fun k => zy_pn (zx_og c k)) = true := hc
    obtain ⟨cA, f, h1, h2, h3⟩ := (zy_c9 q).mp h
    exact (zy_c9 q).mpr ⟨cA, f, h1, h2, fun j hj => zy_pn_s hf (List.all_eq_true.mp hc _ (List.mem_range.mpr (Nat.mod_lt _ (by decide)))) (h3 j hj)⟩
/-- what a place of a cell holds: field f of an object, element a of an array -/
def zy_re (e : va_E) (f a : Nat) : Option Value := match e with
  | .inr (_, fs) => fs[f]?
  | .inl (_, n, .inl g) => if a < n then some (.int (g a)) else none
  | .inl (_, n, .inr (.inl g)) => if a < n then some (.long (g a)) else none
  | .inl (_, n, .inr (.inr (.inr (.inr g)))) => if a < n then some (va_rf (g a)) else none
  | .inl (_, _, .inr (.inr (.inl _))) => none
  | .inl (_, _, .inr (.inr (.inr (.inl _)))) => none
def zy_rd (ws : va_W) (i f a : Nat) : Option Value := (ws[i]?).bind (fun w => zy_re w.2 f a)
/-- templates, by group -/
def zy_tm (T : List Nat) (g : Nat) : Nat := T.getD g 0
/-- every cell keeps its group's template -/
def zy_HR (A : zy_V) (T : List Nat) (tys : List (ClassId × FieldType)) (ws : va_W) : Prop := ws.map (fun w => w.1) = zy_ads A ∧ ∀ (i g : Nat) (w : Nat × va_E), ws[i]? = some w → (zy_gl A)[i]? = some g → zy_cr A tys (zy_tm T g) w.2
/-- what is remembered of places: rho + 256 * (128 * group + field) + 2^24 * element -/
abbrev zy_C : Type := List (Nat × Nat)
def zy_CR (A : zy_V) (ws : va_W) (C : zy_C) : Prop := ∀ q ∈ C, (zy_gl A)[zy_ru A (q.1 % 256)]? = some (q.1 / 256 % 65536 / 128) ∧ ∃ x, zy_rd ws (zy_ru A (q.1 % 256)) (q.1 / 256 % 128) (q.1 / 16777216) = some x ∧ zy_r A q.2 x
/-- what is outside a mask of places is as it was -/
def zy_UN (A : zy_V) (K : Nat) (ws0 ws : va_W) : Prop := ws.map (fun w => w.1) = ws0.map (fun w => w.1) ∧ ∀ (i g f a : Nat), (zy_gl A)[i]? = some g → f < 128 → K.testBit (128 * g + f) = false → zy_rd ws i f a = zy_rd ws0 i f a
theorem zy_UN_rf {K : Nat} {ws : va_W} : zy_UN A K ws ws := ⟨rfl, fun _ _ _ _ _ _ _ => rfl⟩
theorem zy_UN_tr {K : Nat} {ws0 ws1 ws2 : va_W} (h1 : zy_UN A K ws0 ws1) (h2 : zy_UN A K ws1 ws2) : zy_UN A K ws0 ws2 := ⟨h2.1.trans h1.1, fun i g f a hg hf hK => (h2.2 i g f a hg hf hK).trans (h1.2 i g f a hg hf hK)⟩
end ZYC
