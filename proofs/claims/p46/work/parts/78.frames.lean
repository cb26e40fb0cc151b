/-! the reader's state over its steps -/
def zr_e (Z : zy_V) (b j f a : Nat) : Prop := (j = zy_ru Z 29 ∧ f ∈ zr_fs) ∨ (j = zy_ru Z 35 ∧ f = 0) ∨ (j = zy_ru Z 59 ∧ f = 0 ∧ 560 * b ≤ a ∧ a < 560 * b + 560) ∨ (j = zy_ru Z 60 ∧ f = 0) ∨ (j = zy_ru Z 61 ∧ f = 0) ∨ (j = zy_ru Z 62 ∧ f = 0)
def zr_lx (Z : zy_V) (j f _ : Nat) : Prop := j = zy_ru Z 29 ∧ f ∈ [4, 5, 6, 7, 8, 9, 10]
section ZFR
variable {Z : zy_V} {b : Nat} {ws0 ws ws' : va_W}
theorem zr_W_tr (H : zy_H0 Z) (h : zr_W Z b ws0 ws) {E : Nat → Nat → Nat → Prop} (hf : zv_Fm Z ws ws' E) (hE : ∀ j f a, E j f a → zr_e Z b j f a) : zr_W Z b ws0 ws' := by
  have n56 : ¬ E (zy_ru Z 56) 0 b := fun z => by
    rcases hE _ _ _ z with h | h | h | h | h | h
    · exact zv_ne H (r := 56) (g := 68) (r' := 29) (g' := 41) (by decide) (by decide) rfl (by decide) (by decide) rfl (by decide) h.1
    · exact zv_ne H (r := 56) (g := 68) (r' := 35) (g' := 47) (by decide) (by decide) rfl (by decide) (by decide) rfl (by decide) h.1
    · exact zv_ne H (r := 56) (g := 68) (r' := 59) (g' := 71) (by decide) (by decide) rfl (by decide) (by decide) rfl (by decide) h.1
    · exact zv_ne H (r := 56) (g := 68) (r' := 60) (g' := 72) (by decide) (by decide) rfl (by decide) (by decide) rfl (by decide) h.1
    · exact zv_ne H (r := 56) (g := 68) (r' := 61) (g' := 73) (by decide) (by decide) rfl (by decide) (by decide) rfl (by decide) h.1
    · exact zv_ne H (r := 56) (g := 68) (r' := 62) (g' := 74) (by decide) (by decide) rfl (by decide) (by decide) rfl (by decide) h.1
  have n47 : ¬ E (zy_ru Z 47) 0 b := fun z => by
    rcases hE _ _ _ z with h | h | h | h | h | h
    · exact zv_ne H (r := 47) (g := 59) (r' := 29) (g' := 41) (by decide) (by decide) rfl (by decide) (by decide) rfl (by decide) h.1
    · exact zv_ne H (r := 47) (g := 59) (r' := 35) (g' := 47) (by decide) (by decide) rfl (by decide) (by decide) rfl (by decide) h.1
    · exact zv_ne H (r := 47) (g := 59) (r' := 59) (g' := 71) (by decide) (by decide) rfl (by decide) (by decide) rfl (by decide) h.1
    · exact zv_ne H (r := 47) (g := 59) (r' := 60) (g' := 72) (by decide) (by decide) rfl (by decide) (by decide) rfl (by decide) h.1
    · exact zv_ne H (r := 47) (g := 59) (r' := 61) (g' := 73) (by decide) (by decide) rfl (by decide) (by decide) rfl (by decide) h.1
    · exact zv_ne H (r := 47) (g := 59) (r' := 62) (g' := 74) (by decide) (by decide) rfl (by decide) (by decide) rfl (by decide) h.1
  refine ⟨zv_Fm_tr h.1 hf (fun _ _ _ z => z) (fun j f a z => ?_), (zv_Fm_r H hf (r := 56) (g := 68) (by decide) (by decide) rfl (by decide) n56).trans h.2.1, (zv_Fm_r H hf (r := 47) (g := 59) (by decide) (by decide) rfl (by decide) n47).trans h.2.2⟩
  rcases hE _ _ _ z with h | h | h | h | h | h
  · exact Or.inl h
  · exact Or.inr (Or.inl h)
  · exact Or.inr (Or.inr (Or.inl h))
  · exact Or.inr (Or.inr (Or.inr (Or.inl h)))
  · exact Or.inr (Or.inr (Or.inr (Or.inr (Or.inl h))))
  · exact Or.inr (Or.inr (Or.inr (Or.inr (Or.inr (Or.inl h)))))
theorem zr_lx_e {j f a : Nat} (h : zr_lx Z j f a) : zr_e Z b j f a := by
  refine Or.inl ⟨h.1, ?_⟩
  have h := h.2
  unfold zr_fs
  simp at h ⊢
  omega
/-- what a step leaves -/
theorem zr_M_fr (H : zy_H0 Z) {E : Nat → Nat → Nat → Prop} (hf : zv_Fm Z ws ws' E) {f : Nat} (hlt : f < 128) (hE : ¬ E (zy_ru Z 29) f 0) : zy_rd ws' (zy_ru Z 29) f 0 = zy_rd ws (zy_ru Z 29) f 0 := zv_Fm_r H hf (r := 29) (g := 41) (by decide) (by decide) rfl hlt hE
theorem zr_J_lx (H : zy_H0 Z) {wants : Bool} {S : List Nat} {w U n : Nat} (hJ : zr_J Z b ws0 ws wants S w U n) (hf : zv_Fm Z ws ws' (zr_lx Z)) (h4 : zy_rd ws' (zy_ru Z 29) 4 0 = some (.int (nI 0))) (he : zr_en Z ws') : zr_J Z b ws0 ws' wants S w U n := by
  obtain ⟨a1, ⟨-, -, c3, c4, c5, c6⟩, a3, a4, a5⟩ := hJ
  have ne : ∀ r g, 0 < r → r < 100 → zy_fg[r]? = some g → g ≠ 41 → ∀ f a, ¬ zr_lx Z (zy_ru Z r) f a := fun r g h0 h1 h2 h3 f a z => zv_ne H h0 h1 h2 (r' := 29) (g' := 41) (by decide) (by decide) rfl h3 z.1
  have nf : ∀ f, f ∉ [4, 5, 6, 7, 8, 9, 10] → ¬ zr_lx Z (zy_ru Z 29) f 0 := fun f h z => h z.2
  refine ⟨zr_W_tr H a1 hf (fun j f a z => zr_lx_e z), ⟨h4, he, (zr_M_fr H hf (by decide) (nf 47 (by decide))).trans c3, (zr_M_fr H hf (by decide) (nf 46 (by decide))).trans c4, (zr_M_fr H hf (by decide) (nf 48 (by decide))).trans c5, (zr_M_fr H hf (by decide) (nf 45 (by decide))).trans c6⟩, ?_, a4, ?_⟩
  · exact zr_St_fr (fun a _ => zv_Fm_r H hf (r := 61) (g := 73) (by decide) (by decide) rfl (by decide) (ne 61 73 (by decide) (by decide) rfl (by decide) _ _)) (fun a _ => zv_Fm_r H hf (r := 62) (g := 74) (by decide) (by decide) rfl (by decide) (ne 62 74 (by decide) (by decide) rfl (by decide) _ _)) a3
  · rw [← a5]
    exact zr_po_fr _ _ _ (fun k _ _ => zv_Fm_r H hf (r := 59) (g := 71) (by decide) (by decide) rfl (by decide) (ne 59 71 (by decide) (by decide) rfl (by decide) _ _))
theorem zr_X_lx (H : zy_H0 Z) (hW : zr_W Z b ws0 ws) (hf : zv_Fm Z ws ws' (zr_lx Z)) (h4 : ∃ fk : Int32, zy_rd ws' (zy_ru Z 29) 4 0 = some (.int fk) ∧ fk ≠ 0) (he : zr_en Z ws') : zr_X Z b ws0 ws' := ⟨zr_W_tr H hW hf (fun j f a z => zr_lx_e z), h4, he⟩
/-- a typed step of the reader's lexer -/
theorem zr_UN_lx (HU : zy_UQ zy_fg Z) {Wm : Nat} (hU : zy_UN (zy_gl Z) Wm ws ws') (hb : ((List.range 12800).all (fun n => !(Nat.testBit Wm n) || [5252, 5253, 5254, 5255, 5256, 5257, 5258].contains n) && Nat.beq (Nat.shiftRight Wm 12800) 0) = true) : zv_Fm Z ws ws' (zr_lx Z) := by
  refine ⟨hU.1, fun j g f a hg hf hE => hU.2.1 j g f a hg hf ?_⟩
  cases hc : Wm.testBit (128 * g + f)
  · rfl
  · exfalso
    have := zv_bits hb hc
    simp at this
    have hg1 : g = 41 := by omega
    subst hg1
    refine hE ⟨HU 29 41 j (by decide) (by decide) rfl hg, ?_⟩
    simp
    omega
/-- an int of a type at a stop -/
theorem zv_dc_7 (H : zy_H0 Z) {ys : List Int32} {C : zy_C} (h : zy_CR (ys.foldl zy_xi Z) ws C) {i key lo hi : Nat} (hi1 : C[i]? = some (key, zy_c7v lo hi)) (h1 : key % 256 < 100) (hl : lo < 4294967296) (hh : hi < 4294967296) : ∃ y : Int32, zv_ro Z ws key = some (.int y) ∧ lo ≤ zx_bz y ∧ zx_bz y ≤ hi := by
  obtain ⟨-, x, g1, g2⟩ := h _ (List.mem_of_getElem? hi1)
  have hle := zy_mk_le ys Z
  rw [hle.2.2.2.2 _ (by rw [H.2.2.1]; exact h1)] at g1
  have e0 : zy_c7v lo hi = (lo * 4294967296 + hi) * 16 + 7 := rfl
  have g3 := g2
  rw [e0] at g3
  obtain ⟨-, y, rfl, -⟩ := (zy_r7 (by omega)).mp g3
  obtain ⟨a1, a2⟩ := zy_7_r hl hh g2
  exact ⟨y, g1, a1, a2⟩
/-- bounds at a stop -/
theorem zv_bd (H : zy_H0 Z) {ys : List Int32} {E i lo hi : Nat} {y : Int32} (hev : zy_ev (ys.foldl zy_xi Z) E) (hy : ys[i]? = some y) (he : Nat.beq (zx_eg E (i + 1)) (lo * 4294967296 + hi) = true) (hlo : 0 < lo) (hhi : hi < 4294967296) : lo ≤ zx_bz y ∧ zx_bz y ≤ hi := by
  have h := zy_mk_b H.1 hy hev
  rw [zx_beq_t he] at h
  omega
end ZFR
section ZFR2
variable {l : Launch} {D : va_G} {N0 : Nat} {Z : zy_V} {Wm : Nat} {p : Program} {en : Env} {R : Room} {s : State} {m : MethodId} {args : Array Value} {below : List Frame} {meth : Method} {c : Code} {Q : State → Prop} {M : zx_M} {dd : Nat} {ls : Array Slot} {H : Heap} {locs : List Loc} {tys : List (ClassId × FieldType)} {ws : va_W}
/-- ends by types -/
theorem zv_rtK {P : List Value → va_W → Prop} {ws3 : va_W} {posts : List zy_Po} (hB : zy_Fr p l R s m args meth c N0 Z M dd) (h : ∀ (vs : List Value) (ws' : va_W) (po : zy_Po), po ∈ posts → zy_SR Z po.1 vs → (∀ f ∈ po.2, zy_CR Z ws' [(f.1, f.2.2.2)]) → zy_UN (zy_gl Z) Wm ws3 ws' → P vs ws') : ∀ As, zy_le Z As → zy_Rt p l en R s m args below meth c (MQ below (zy_QP D N0 zy_T Z P) args s 0 0 (zx_A N0)) D N0 zy_T Wm ws3 As M (zy_Ke zy_T zy_fg Wm 0 [] posts) := fun As hAs => by
  have hH := hB.1
  obtain ⟨hZ1, hZ2, hZr, hF⟩ := hH
  obtain ⟨-, hUQ, hC, hrk, hret, hlk⟩ := hB
  have hC0 := hC Z (zy_le_rf Z)
  refine zy_ends hC0.1 hC0.2.1 hret hlk ?_
  intro A r C e vs tys' ws' t hA hK hlen hsr hW' hCR' hE' hU' hFt
  have hZA := zy_le_tr hAs hA
  obtain ⟨po, o1, o2, o3⟩ := zy_Ke_s (loc := fun _ => none) (ws0 := ws3) hZ1 hZ2 hZr hF hZA hE' (fun z hz => by cases hz) hCR' hU' hW'.2.2.2 (fun j hj => by
    exfalso
    apply hj
    show ((0 : Nat) >>> (0 + 72 * j)) % 4722366482869645213696 % 16 = 0
    rw [Nat.zero_shiftRight]) hsr _ hK
  rw [zy_gl_le hZA] at hU'
  exact ⟨⟨vs, tys', ws', rfl, hlen, h vs ws' po o1 o2 (fun f hf => (o3 f hf).1) hU', ⟨hW'.1, hW'.2.1, hW'.2.2.1, zy_HR_ge hZA (by rw [hZr]; decide) hW'.2.2.2⟩⟩, hFt⟩
/-- a local is counted on -/
theorem zv_inc {i pc : Nat} {n : Int} {x v : Int32} {rest : List Value} (hB : zy_Fr p l R s m args meth c N0 Z M dd) (hx : zy_Mx D N0 zy_T Z s M ls H locs tys ws) (hlt : i < M.1.2.2.1) (hd : decode M.1.2.1 pc = .ok (.iinc i n, 3)) (hi : ls[i]? = some (.val (.int x))) (hv : x + Int32.ofInt n = v) (hj : ∀ (j : Nat) (v : Value), ls[j]? = some (.val v) → j + 1 = i → v.category ≠ 2)
    (kk : ∀ ls' : Array Slot, zy_Mx D N0 zy_T Z s M ls' H locs tys ws → ls'[i]? = some (.val (.int v)) → (∀ (j : Nat) (v : Value), j ≠ i → ls[j]? = some (.val v) → ls'[j]? = some (.val v)) → W p l en R s m args below meth c H locs 0 0 Q (F0 m (pc + 3) ls' rest)) :
    W p l en R s m args below meth c H locs 0 0 Q (F0 m pc ls rest) := by
  obtain ⟨hH, -, hCf, -⟩ := hB
  have hC0 := hCf Z (zy_le_rf Z)
  obtain ⟨hW, hS, hl⟩ := hx
  have hlv : lv_has ls M.1.2.2.1 ((i, .int x) :: zx_lv ls) := ⟨hl.1, hl.2.1, fun q hq => by
    rcases List.mem_cons.mp hq with rfl | hq
    · exact hi
    · exact zx_lv_mem.mp hq⟩
  refine lv_iinc hC0.1 hC0.2.1 hd hlv (k := 0) rfl hv hlt rfl (fun ls' h' => ?_)
  refine kk ls' ⟨hW, hS, ⟨h'.1, h'.2.1, fun _ h => by cases h⟩⟩ (h'.2.2 _ List.mem_cons_self) (fun j v hji hv => ?_)
  refine h'.2.2 (j, v) (List.mem_cons_of_mem _ (List.mem_filter.mpr ⟨List.mem_cons_of_mem _ (zx_lv_mem.mpr hv), ?_⟩))
  show (!(j == i) && !(j + 1 == i && v.category == 2)) = true
  rw [show (j == i) = false from by simpa using hji]
  by_cases hp : j + 1 = i
  · rw [show (v.category == 2) = false from by simpa using hj j v hv hp]
    simp
  · rw [show (j + 1 == i) = false from by simpa using hp]
    rfl
/-- the slot below is a reference or an int -/
theorem zv_cat {i : Nat} {w : Value} (h : ls[i]? = some (.val w)) (hw : w.category ≠ 2) : ∀ (j : Nat) (v : Value), ls[j]? = some (.val v) → j + 1 = i + 1 → v.category ≠ 2 := fun j v hv hj => by
  have : j = i := by omega
  subst this
  rw [h] at hv
  injection hv with hv
  injection hv with hv
  rw [← hv]
  exact hw
end ZFR2
