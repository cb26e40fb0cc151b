/-! the reader's state: what each kind of step makes of it -/
section ZJS
variable {Z : zy_V} {b : Nat} {ws0 ws ws' : va_W} {S : List Nat} {w U n : Nat}
theorem zr_two {k : Nat} {x y : Int32} (H : zy_H0 Z) {f0 r1 g1 r2 g2 : Nat} (h1 : 0 < r1 ∧ r1 < 100 ∧ zy_fg[r1]? = some g1 ∧ g1 ≠ 41) (h2 : 0 < r2 ∧ r2 < 100 ∧ zy_fg[r2]? = some g2 ∧ g2 ≠ 41) (hf : zv_Fm Z ws ws' (fun j f a => (j = zy_ru Z 29 ∧ f = f0) ∨ (j = zy_ru Z r1 ∧ f = 0 ∧ a = k) ∨ (j = zy_ru Z r2 ∧ f = 0 ∧ a = k))) : (∀ f, f < 128 → f ≠ f0 → zy_rd ws' (zy_ru Z 29) f 0 = zy_rd ws (zy_ru Z 29) f 0) ∧ (∀ r g a, 0 < r → r < 100 → zy_fg[r]? = some g → g ≠ 41 → (g ≠ g1 ∨ a ≠ k) → (g ≠ g2 ∨ a ≠ k) → zy_rd ws' (zy_ru Z r) 0 a = zy_rd ws (zy_ru Z r) 0 a) := by
  refine ⟨fun f hlt hne => zr_M_fr H hf hlt (fun z => ?_), fun r g a q1 q2 q3 q4 q5 q6 => zv_Fm_r H hf q1 q2 q3 (by decide) (fun z => ?_)⟩
  · rcases z with z | z | z
    · exact hne z.2
    · exact zv_ne H (r := 29) (g := 41) (by decide) (by decide) rfl h1.1 h1.2.1 h1.2.2.1 (Ne.symm h1.2.2.2) z.1
    · exact zv_ne H (r := 29) (g := 41) (by decide) (by decide) rfl h2.1 h2.2.1 h2.2.2.1 (Ne.symm h2.2.2.2) z.1
  · rcases z with z | z | z
    · exact zv_ne H q1 q2 q3 (r' := 29) (g' := 41) (by decide) (by decide) rfl q4 z.1
    · rcases q5 with q5 | q5
      · exact zv_ne H q1 q2 q3 h1.1 h1.2.1 h1.2.2.1 q5 z.1
      · exact q5 z.2.2
    · rcases q6 with q6 | q6
      · exact zv_ne H q1 q2 q3 h2.1 h2.2.1 h2.2.2.1 q6 z.1
      · exact q6 z.2.2
theorem zr_push_fr (H : zy_H0 Z) {k : Nat} {x y : Int32} (h : zr_push Z k x y ws ws') : (∀ f, f < 128 → f ≠ 47 → zy_rd ws' (zy_ru Z 29) f 0 = zy_rd ws (zy_ru Z 29) f 0) ∧ (∀ a, zy_rd ws' (zy_ru Z 59) 0 a = zy_rd ws (zy_ru Z 59) 0 a) ∧ (∀ a, a ≠ k → zy_rd ws' (zy_ru Z 61) 0 a = zy_rd ws (zy_ru Z 61) 0 a) ∧ (∀ a, a ≠ k → zy_rd ws' (zy_ru Z 62) 0 a = zy_rd ws (zy_ru Z 62) 0 a) ∧ (zr_W Z b ws0 ws → zr_W Z b ws0 ws') := by
  obtain ⟨q1, q2⟩ := zr_two (x := x) (y := y) H (r1 := 61) (g1 := 73) (r2 := 62) (g2 := 74) ⟨by decide, by decide, rfl, by decide⟩ ⟨by decide, by decide, rfl, by decide⟩ h.1
  refine ⟨q1, fun a => q2 59 71 a (by decide) (by decide) rfl (by decide) (Or.inl (by decide)) (Or.inl (by decide)), fun a ha => q2 61 73 a (by decide) (by decide) rfl (by decide) (Or.inr ha) (Or.inr ha), fun a ha => q2 62 74 a (by decide) (by decide) rfl (by decide) (Or.inr ha) (Or.inr ha), fun hW => zr_W_tr H hW h.1 (fun j f a z => ?_)⟩
  rcases z with z | z | z
  · refine Or.inl ⟨z.1, ?_⟩
    rw [z.2]
    decide
  · exact Or.inr (Or.inr (Or.inr (Or.inr (Or.inl ⟨z.1, z.2.1⟩))))
  · exact Or.inr (Or.inr (Or.inr (Or.inr (Or.inr ⟨z.1, z.2.1⟩))))
theorem zr_emit_fr (H : zy_H0 Z) {k : Nat} {x y : Int32} (h : zr_emit Z k x y ws ws') : (∀ f, f < 128 → f ≠ 45 → zy_rd ws' (zy_ru Z 29) f 0 = zy_rd ws (zy_ru Z 29) f 0) ∧ (∀ a, a ≠ k → zy_rd ws' (zy_ru Z 59) 0 a = zy_rd ws (zy_ru Z 59) 0 a) ∧ (∀ a, zy_rd ws' (zy_ru Z 61) 0 a = zy_rd ws (zy_ru Z 61) 0 a) ∧ (∀ a, zy_rd ws' (zy_ru Z 62) 0 a = zy_rd ws (zy_ru Z 62) 0 a) ∧ (560 * b ≤ k → k < 560 * b + 560 → zr_W Z b ws0 ws → zr_W Z b ws0 ws') := by
  obtain ⟨q1, q2⟩ := zr_two (x := x) (y := y) H (r1 := 59) (g1 := 71) (r2 := 60) (g2 := 72) ⟨by decide, by decide, rfl, by decide⟩ ⟨by decide, by decide, rfl, by decide⟩ h.1
  refine ⟨q1, fun a ha => q2 59 71 a (by decide) (by decide) rfl (by decide) (Or.inr ha) (Or.inr ha), fun a => q2 61 73 a (by decide) (by decide) rfl (by decide) (Or.inl (by decide)) (Or.inl (by decide)), fun a => q2 62 74 a (by decide) (by decide) rfl (by decide) (Or.inl (by decide)) (Or.inl (by decide)), fun k1 k2 hW => zr_W_tr H hW h.1 (fun j f a z => ?_)⟩
  rcases z with z | z | z
  · refine Or.inl ⟨z.1, ?_⟩
    rw [z.2]
    decide
  · exact Or.inr (Or.inr (Or.inl ⟨z.1, z.2.1, by omega, by omega⟩))
  · exact Or.inr (Or.inr (Or.inr (Or.inl ⟨z.1, z.2.1⟩)))
/-- a field of the reader's is written -/
theorem zr_put_fr (H : zy_H0 Z) {f0 : Nat} (h0 : f0 ∈ zr_fs) (hm : ws'.map (fun w => w.1) = ws.map (fun w => w.1)) (hf : ∀ j f2 a, ¬ (j = zy_ru Z 29 ∧ f2 = f0) → zy_rd ws' j f2 a = zy_rd ws j f2 a) : (∀ f, f ≠ f0 → zy_rd ws' (zy_ru Z 29) f 0 = zy_rd ws (zy_ru Z 29) f 0) ∧ (∀ r g a, 0 < r → r < 100 → zy_fg[r]? = some g → g ≠ 41 → zy_rd ws' (zy_ru Z r) 0 a = zy_rd ws (zy_ru Z r) 0 a) ∧ (zr_W Z b ws0 ws → zr_W Z b ws0 ws') := by
  refine ⟨fun f hne => hf _ _ _ (fun z => hne z.2), fun r g a q1 q2 q3 q4 => hf _ _ _ (fun z => zv_ne H q1 q2 q3 (r' := 29) (g' := 41) (by decide) (by decide) rfl q4 z.1), fun hW => zr_W_tr H hW (E := fun j f _ => j = zy_ru Z 29 ∧ f = f0) ⟨hm, fun j g f a _ _ hE => hf j f a hE⟩ (fun j f a z => Or.inl ⟨z.1, by rw [z.2]; exact h0⟩)⟩
theorem zr_J_push (hJ : zr_J Z b ws0 ws true S w U n) {x U' : Nat} (hw : w ≤ 6) (hx : (x = 3 ∧ U' = U) ∨ (x = 7 ∧ U' = U + 1 ∧ U' ≤ 30)) (hW' : zr_W Z b ws0 ws') (hFl : zr_Fl Z ws' (S.length + 2) (w + 1) U' (560 * b + n)) (h61 : ∀ a, a ≠ S.length + 1 → zy_rd ws' (zy_ru Z 61) 0 a = zy_rd ws (zy_ru Z 61) 0 a) (h62 : ∀ a, a ≠ S.length + 1 → zy_rd ws' (zy_ru Z 62) 0 a = zy_rd ws (zy_ru Z 62) 0 a) (e61 : zy_rd ws' (zy_ru Z 61) 0 (S.length + 1) = some (.int (nI x))) (e62 : zy_rd ws' (zy_ru Z 62) 0 (S.length + 1) = some (.int (nI 126))) (h59 : ∀ a, zy_rd ws' (zy_ru Z 59) 0 a = zy_rd ws (zy_ru Z 59) 0 a) : zr_J Z b ws0 ws' true (x :: S) (w + 1) U' n ∧ zr_m true (x :: S) (w + 1) U' < zr_m true S w U := by
  obtain ⟨a1, a2, a3, a4, a5⟩ := hJ
  refine ⟨⟨hW', hFl, ⟨e61, ⟨nI 126, e62, ⟨by omega, by omega⟩, fun _ => rfl, fun q1 q2 => by omega⟩, zr_St_fr (fun a ha => h61 a (by omega)) (fun a ha => h62 a (by omega)) a3⟩, zr_Pu_push a4 hw hx, ?_⟩, ?_⟩
  · rw [zr_po_fr (cd := zr_cd Z ws) (cd' := zr_cd Z ws') _ _ _ (fun k _ _ => h59 k), a5]
    unfold zr_h
    rcases hx with ⟨rfl, -⟩ | ⟨rfl, -, -⟩ <;> simp [zr_bin]
  · have := a4.2.2.1
    unfold zr_m
    simp
    omega
theorem zr_J_let (hJ : zr_J Z b ws0 ws true S w U n) {ch : Int32} (hU : U + 1 ≤ 30) (hc : ch ≠ 126 ∧ 97 ≤ ch ∧ ch ≤ 122) (hW' : zr_W Z b ws0 ws') (hFl : zr_Fl Z ws' (S.length + 1) w (U + 1) (560 * b + (n + 1))) (h61 : ∀ a, zy_rd ws' (zy_ru Z 61) 0 a = zy_rd ws (zy_ru Z 61) 0 a) (h62 : ∀ a, zy_rd ws' (zy_ru Z 62) 0 a = zy_rd ws (zy_ru Z 62) 0 a) (h59 : ∀ a, a ≠ 560 * b + n → zy_rd ws' (zy_ru Z 59) 0 a = zy_rd ws (zy_ru Z 59) 0 a) (e59 : zy_rd ws' (zy_ru Z 59) 0 (560 * b + n) = some (.int ch)) : zr_J Z b ws0 ws' false S w (U + 1) (n + 1) ∧ zr_m false S w (U + 1) < zr_m true S w U := by
  obtain ⟨a1, a2, a3, a4, a5⟩ := hJ
  have hl := zr_Pu_len a4
  have hh : zr_h true S ≤ U := a4.2.2.2.1
  refine ⟨⟨hW', hFl, zr_St_fr (fun a _ => h61 a) (fun a _ => h62 a) a3, zr_Pu_let a4 hU, ?_⟩, ?_⟩
  · refine zr_po_snoc (cd := zr_cd Z ws') n (560 * b) 0 (h := zr_h true S) ?_ e59 ?_
    · rw [zr_po_fr (cd := zr_cd Z ws) (cd' := zr_cd Z ws') _ _ _ (fun k _ q => h59 k (by omega)), a5]
    · unfold zy_hs
      rw [if_neg hc.1, if_pos hc.2, if_pos (by omega)]
      unfold zr_h
      simp
  · have := a4.2.2.1
    unfold zr_m
    simp
    omega
theorem zr_J_pop {x : Nat} (hJ : zr_J Z b ws0 ws false (x :: S) w U n) {sg : Int32} (hx : x ≠ 7) (hsg : zy_rd ws (zy_ru Z 62) 0 (S.length + 1) = some (.int sg)) (hW' : zr_W Z b ws0 ws') (hFl : zr_Fl Z ws' (S.length + 1) (if x = 3 then w - 1 else w) U (560 * b + (n + 1))) (h61 : ∀ a, zy_rd ws' (zy_ru Z 61) 0 a = zy_rd ws (zy_ru Z 61) 0 a) (h62 : ∀ a, zy_rd ws' (zy_ru Z 62) 0 a = zy_rd ws (zy_ru Z 62) 0 a) (h59 : ∀ a, a ≠ 560 * b + n → zy_rd ws' (zy_ru Z 59) 0 a = zy_rd ws (zy_ru Z 59) 0 a) (e59 : zy_rd ws' (zy_ru Z 59) 0 (560 * b + n) = some (.int sg)) : zr_J Z b ws0 ws' false S (if x = 3 then w - 1 else w) U (n + 1) := by
  obtain ⟨a1, a2, ⟨c1, ⟨sg', c2, c3⟩, c4⟩, a4, a5⟩ := hJ
  have es : sg' = sg := by
    rw [c2] at hsg
    injection hsg with hsg
    injection hsg
  subst es
  obtain ⟨p1, p2, p3, p4⟩ := zr_Pu_pop a4 hx
  refine ⟨hW', hFl, zr_St_fr (fun a _ => h61 a) (fun a _ => h62 a) c4, p1, ?_⟩
  refine zr_po_snoc (cd := zr_cd Z ws') n (560 * b) 0 (h := zr_h false (x :: S)) ?_ e59 ?_
  · rw [zr_po_fr (cd := zr_cd Z ws) (cd' := zr_cd Z ws') _ _ _ (fun k _ q => h59 k (by omega)), a5]
  · by_cases h3 : x = 3
    · rw [c3.2.1 h3, p3 h3]
      unfold zy_hs
      rw [if_pos (by decide), if_pos (by unfold zr_h; simp)]
    · obtain ⟨k1, k2⟩ := c3.2.2 h3 hx
      rw [p4 h3]
      unfold zy_hs
      rw [if_neg k1, if_neg k2, if_pos (by unfold zr_h; simp)]
      rfl
theorem zr_J_bin {x : Nat} (hJ : zr_J Z b ws0 ws false S w U n) {sg : Int32} (hx : 1 ≤ x ∧ x ≤ 6 ∧ x ≠ 3) (hok : zr_ok sg) (hW' : zr_W Z b ws0 ws') (hFl : zr_Fl Z ws' (S.length + 2) w U (560 * b + n)) (h61 : ∀ a, a ≠ S.length + 1 → zy_rd ws' (zy_ru Z 61) 0 a = zy_rd ws (zy_ru Z 61) 0 a) (h62 : ∀ a, a ≠ S.length + 1 → zy_rd ws' (zy_ru Z 62) 0 a = zy_rd ws (zy_ru Z 62) 0 a) (e61 : zy_rd ws' (zy_ru Z 61) 0 (S.length + 1) = some (.int (nI x))) (e62 : zy_rd ws' (zy_ru Z 62) 0 (S.length + 1) = some (.int sg)) (h59 : ∀ a, zy_rd ws' (zy_ru Z 59) 0 a = zy_rd ws (zy_ru Z 59) 0 a) : zr_J Z b ws0 ws' true (x :: S) w U n := by
  obtain ⟨a1, a2, a3, a4, a5⟩ := hJ
  obtain ⟨p1, p2⟩ := zr_Pu_bin (x := x) a4 ⟨by omega, by omega⟩
  refine ⟨hW', hFl, ⟨e61, ⟨sg, e62, ⟨by omega, by omega⟩, fun z => by omega, fun _ _ => hok⟩, zr_St_fr (fun a ha => h61 a (by omega)) (fun a ha => h62 a (by omega)) a3⟩, p1, ?_⟩
  rw [zr_po_fr (cd := zr_cd Z ws) (cd' := zr_cd Z ws') _ _ _ (fun k _ _ => h59 k), a5, p2]
theorem zr_J_br (hJ : zr_J Z b ws0 ws false (7 :: S) w U n) (hW' : zr_W Z b ws0 ws') (hFl : zr_Fl Z ws' (S.length + 1) (w - 1) U (560 * b + n)) (h61 : ∀ a, zy_rd ws' (zy_ru Z 61) 0 a = zy_rd ws (zy_ru Z 61) 0 a) (h62 : ∀ a, zy_rd ws' (zy_ru Z 62) 0 a = zy_rd ws (zy_ru Z 62) 0 a) (h59 : ∀ a, zy_rd ws' (zy_ru Z 59) 0 a = zy_rd ws (zy_ru Z 59) 0 a) : zr_J Z b ws0 ws' false S (w - 1) U n := by
  obtain ⟨a1, a2, ⟨c1, c2, c4⟩, a4, a5⟩ := hJ
  obtain ⟨p1, p2, p3⟩ := zr_Pu_br a4
  refine ⟨hW', hFl, zr_St_fr (fun a _ => h61 a) (fun a _ => h62 a) c4, p1, ?_⟩
  rw [zr_po_fr (cd := zr_cd Z ws) (cd' := zr_cd Z ws') _ _ _ (fun k _ _ => h59 k), a5, p3]
/-- how a step may end -/
def zr_Po (Z : zy_V) (b : Nat) (ws0 : va_W) (mm : Nat) (vs : List Value) (ws' : va_W) : Prop := ∃ v : Nat, v ≤ 1 ∧ vs = [.int (nI v)] ∧ (zr_X Z b ws0 ws' ∨ zr_D Z b ws0 ws' ∨ ∃ (S : List Nat) (w U n : Nat), zr_J Z b ws0 ws' (v == 1) S w U n ∧ zr_m (v == 1) S w U < mm)
end ZJS
