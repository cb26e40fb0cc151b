/-! single steps, seen as they are: fields, ends -/
section ZR
variable {l : Launch} {D : va_G} {N0 : Nat} {Z : zy_V} {p : Program} {en : Env} {R : Room} {s : State} {m : MethodId} {args : Array Value} {below : List Frame} {meth : Method} {c : Code} {Q : State → Prop} {M : zx_M} {dd : Nat} {ls : Array Slot} {H : Heap} {locs : List Loc} {tys : List (ClassId × FieldType)} {ws ws' : va_W}
/-- the reference's own cell -/
theorem zv_cM (hH : zy_H0 Z) (hR : zy_HR Z zy_T tys ws) : ∃ (fs : List Value) (rc : vw_C), ws[zy_ru Z 29]? = some (zy_fa1 Z 29, .inr (12, fs)) ∧ vwCl[12]? = some rc ∧ fs.length = rc.2.2 ∧ ∀ (n : Nat) (v : Value), fs[n]? = some v → zy_r (zy_fz Z) (zx_og (zy_tm zy_T 41) n) v := by
  have hr := zv_rr hH (r := 29) (g := 41) (by decide) (by decide) rfl (by decide)
  obtain ⟨j, ad, ee, e1, h4, hgj, h5, hru⟩ := zy_HR_get hR hr (by decide) (c := zy_tm zy_T 41) rfl
  obtain ⟨t7, tcn⟩ := zx_hd7 (c := zy_tm zy_T 41) (x := 12) (by decide +kernel) (by decide)
  obtain ⟨fs, rc, rfl, h6, h7, h8⟩ := (zy_c7 t7).mp h5
  rw [tcn] at h4 h6
  injection e1 with e1
  have hj : zy_ru Z 29 = j := (hru (by decide)).1
  rw [← e1, ← hj] at h4
  exact ⟨fs, rc, h4, h6, h7, h8⟩
/-- a field of the reference is read -/
theorem zv_get {q : zx_Q} {i f pc : Nat} {v : Value} {rest : List Value} (hB : zy_Fr p l R s m args meth c N0 Z M dd) (hx : zy_Mx D N0 zy_T Z s M ls H locs tys ws) (hq : q ∈ zx_FL) (ho : q.1 = M.2.1.1) (hi : q.2.1 = i) (h12 : q.2.2.1 = 12) (hf : q.2.2.2.1 = f) (hd : decode M.1.2.1 pc = .ok (.getfield i, 3)) (hv : zy_rd ws (zy_ru Z 29) f 0 = some v) (kk : W p l en R s m args below meth c H locs 0 0 Q (F0 m (pc + 3) ls (v :: rest))) : W p l en R s m args below meth c H locs 0 0 Q (F0 m pc ls (.ref (zy_fa1 Z 29) :: rest)) := by
  obtain ⟨hH, -, hCf, -⟩ := hB
  obtain ⟨hx0, hb, hml, hown, hts, -⟩ := hCf Z (zy_le_rf Z)
  obtain ⟨⟨hK, hP, hD, hR⟩, hS, hl⟩ := hx
  obtain ⟨fs, rc, h4, h6, h7, h8⟩ := zv_cM hH hR
  have hci := zx_ci_of h6
  have hrm := List.mem_of_getElem? h6
  rw [zy_rd_obj h4] at hv
  have hlt := (List.getElem?_eq_some_iff.mp hv).1
  refine va_get (own := zx_on1 M.2.1.1) (ref := (rc.2.1 f).1) hx0 hb hts (zx_cl_ws hrm) hown hK hP _ h4 h6 f (by rw [← h7]; exact hlt) ?_ (fun _ z => z) hv hd kk
  have := hts _ (zx_inF hq)
  rw [zx_fw_of (by rw [h12]; decide) (show zx_ci q.2.2.1 = rc by rw [h12]; exact hci), ho, hi, hf] at this
  exact this
/-- and an int written -/
theorem zv_put {q : zx_Q} {i f pc lo hi2 : Nat} {y : Int32} {rest : List Value} (hB : zy_Fr p l R s m args meth c N0 Z M dd) (hx : zy_Mx D N0 zy_T Z s M ls H locs tys ws) (hq : q ∈ zx_FL) (ho : q.1 = M.2.1.1) (hi : q.2.1 = i) (h12 : q.2.2.1 = 12) (hf : q.2.2.2.1 = f) (hd : decode M.1.2.1 pc = .ok (.putfield i, 3)) (hfin : ((zx_ci 12).2.1 f).2.2.2 = false) (hfl : f < (zx_ci 12).2.2) (hkp : zx_kp (zx_fm ((zx_ci 12).2.1 f).2.2.1) (.int y)) (het : zx_og (zy_tm zy_T 41) f = zy_c7v lo hi2) (hlo : lo ≤ zx_bz y) (hhi : zx_bz y ≤ hi2) (hh : hi2 < 4294967296)
    (kk : ∀ (H1 : Heap) (locs1 : List Loc) (ws1 : va_W), zy_Mx D N0 zy_T Z s M ls H1 locs1 tys ws1 → ws1.map (fun w => w.1) = ws.map (fun w => w.1) → zy_rd ws1 (zy_ru Z 29) f 0 = some (.int y) → (∀ j f2 a, ¬ (j = zy_ru Z 29 ∧ f2 = f) → zy_rd ws1 j f2 a = zy_rd ws j f2 a) → W p l en R s m args below meth c H1 locs1 0 0 Q (F0 m (pc + 3) ls rest)) :
    W p l en R s m args below meth c H locs 0 0 Q (F0 m pc ls (.int y :: .ref (zy_fa1 Z 29) :: rest)) := by
  obtain ⟨hH, -, hCf, -⟩ := hB
  have hC0 := hCf Z (zy_le_rf Z)
  obtain ⟨hW, hS, hl⟩ := hx
  obtain ⟨fs, rc, h4, h6, h7, h8⟩ := zv_cM hH hW.2.2.2
  have hci := zx_ci_of h6
  have hgj := (hH.2.2.2 29 41 (by decide) (by decide) rfl).1
  have hlt : f < fs.length := by rw [h7, ← hci]; exact hfl
  have hjl := (List.getElem?_eq_some_iff.mp h4).1
  refine zy_mpt (T := zy_T) (k := zy_tm zy_T 41) (g := 41) (q := q) hC0 hq ho hi (by rw [h12]; decide) (by rw [h12, hf]; exact hfin) hd hW hS (by rw [h12]; exact h4) hgj rfl (by rw [h12]; decide +kernel) (by rw [h12, hf]; exact hfl) (by rw [h12, hf]; exact hkp) (by rw [hf, het]; exact zy_r_7 hlo hhi hh) (fun H1 locs1 hW1 hS1 => ?_)
  rw [h12, hf] at hW1
  refine kk H1 locs1 _ ⟨hW1, hS1, hl⟩ ?_ ?_ ?_
  · rw [List.map_set]
    refine List.ext_getElem? fun n => ?_
    by_cases hnj : n = zy_ru Z 29
    · subst hnj
      rw [List.getElem?_set_self (by rw [List.length_map]; exact hjl), List.getElem?_map, h4]
      rfl
    · rw [List.getElem?_set_ne (Ne.symm hnj)]
  · rw [zy_rd_set h4]
    exact List.getElem?_set_self hlt
  · intro j f2 a hne
    by_cases hjj : j = zy_ru Z 29
    · subst hjj
      rw [zy_rd_set h4, zy_rd_at h4]
      exact List.getElem?_set_ne (fun z => hne ⟨rfl, z.symm⟩)
    · rw [zy_rd_ne hjj]
/-- the end -/
theorem zv_ret {P : List Value → va_W → Prop} {pc : Nat} {v : Int32} {ty : FieldType} (hB : zy_Fr p l R s m args meth c N0 Z M dd) (hx : zy_Mx D N0 zy_T Z s M ls H locs tys ws) (hd : decode M.1.2.1 pc = .ok (.ireturn, 1)) (hr : M.1.2.2.2 = some ty) (hn : narrow ty (.int v) = .int v) (h : P [.int v] ws) : W p l en R s m args below meth c H locs 0 0 (MQ below (zy_QP D N0 zy_T Z P) args s 0 0 (zx_A N0)) (F0 m pc ls [.int v]) := by
  obtain ⟨hH, -, hCf, -, hret, hlk⟩ := hB
  have hC0 := hCf Z (zy_le_rf Z)
  obtain ⟨⟨k1, k2, k3⟩, hS, hl⟩ := hx
  refine W.zret hC0.1 hC0.2.1 (hret.trans hr) hn (fun t ht hWm => ⟨⟨[.int v], tys, ws, rfl, Nat.le_refl 1, h, ⟨va_K.moved hWm.alike k1, by rw [ht]; exact k2, k3⟩⟩, hS.F ht⟩) hS.2.2 hd
theorem zv_retv {P : List Value → va_W → Prop} {pc : Nat} (hB : zy_Fr p l R s m args meth c N0 Z M dd) (hx : zy_Mx D N0 zy_T Z s M ls H locs tys ws) (hd : decode M.1.2.1 pc = .ok (.return_, 1)) (hr : M.1.2.2.2 = none) (h : P [] ws) : W p l en R s m args below meth c H locs 0 0 (MQ below (zy_QP D N0 zy_T Z P) args s 0 0 (zx_A N0)) (F0 m pc ls []) := by
  obtain ⟨hH, -, hCf, -, hret, hlk⟩ := hB
  have hC0 := hCf Z (zy_le_rf Z)
  obtain ⟨⟨k1, k2, k3⟩, hS, hl⟩ := hx
  refine W.vret hC0.1 hC0.2.1 (hret.trans hr) (fun t ht hWm => ⟨⟨[], tys, ws, rfl, by decide, h, ⟨va_K.moved hWm.alike k1, by rw [ht]; exact k2, k3⟩⟩, hS.F ht⟩) hS.2.2 hd
/-- a local is written -/
theorem zv_sto {i pc k : Nat} {x : Int32} {ins : Instr} {rest : List Value} (hB : zy_Fr p l R s m args meth c N0 Z M dd) (hx : zy_Mx D N0 zy_T Z s M ls H locs tys ws) (hlt : i < M.1.2.2.1) (hins : (∃ k4 : Fin 4, (k4 : Nat) = i ∧ ins = .istore_n k4 ∧ k = 1) ∨ (ins = .istore i ∧ k = 2)) (hd : decode M.1.2.1 pc = .ok (ins, k)) (hj : ∀ (j : Nat) (v : Value), ls[j]? = some (.val v) → j + 1 = i → v.category ≠ 2)
    (kk : ∀ ls' : Array Slot, zy_Mx D N0 zy_T Z s M ls' H locs tys ws → ls'[i]? = some (.val (.int x)) → (∀ (j : Nat) (v : Value), j ≠ i → ls[j]? = some (.val v) → ls'[j]? = some (.val v)) → W p l en R s m args below meth c H locs 0 0 Q (F0 m (pc + k) ls' rest)) :
    W p l en R s m args below meth c H locs 0 0 Q (F0 m pc ls (.int x :: rest)) := by
  obtain ⟨hH, -, hCf, -⟩ := hB
  have hC0 := hCf Z (zy_le_rf Z)
  obtain ⟨hW, hS, hl⟩ := hx
  have hlv : lv_has ls M.1.2.2.1 (zx_lv ls) := ⟨hl.1, hl.2.1, fun q hq => zx_lv_mem.mp hq⟩
  have go : ∀ ls' : Array Slot, lv_has ls' M.1.2.2.1 ((i, Value.int x) :: (zx_lv ls).filter (fun q => !(q.1 == i) && !(q.1 + 1 == i && q.2.category == 2))) → W p l en R s m args below meth c H locs 0 0 Q (F0 m (pc + k) ls' rest) := fun ls' h' => by
    refine kk ls' ⟨hW, hS, ⟨h'.1, h'.2.1, fun _ h => by cases h⟩⟩ (h'.2.2 _ List.mem_cons_self) (fun j v hji hv => ?_)
    refine h'.2.2 (j, v) (List.mem_cons_of_mem _ (List.mem_filter.mpr ⟨zx_lv_mem.mpr hv, ?_⟩))
    show (!(j == i) && !(j + 1 == i && v.category == 2)) = true
    rw [show (j == i) = false from by simpa using hji]
    by_cases hp : j + 1 = i
    · rw [show (v.category == 2) = false from by simpa using hj j v hv hp]
      simp
    · rw [show (j + 1 == i) = false from by simpa using hp]
      rfl
  rcases hins with ⟨k4, h1, h2, h3⟩ | ⟨h2, h3⟩ <;> subst h2 <;> subst h3
  · exact lv_istore_n hC0.1 hC0.2.1 hd h1 hlv hlt rfl go
  · exact lv_istore hC0.1 hC0.2.1 hd hlv hlt rfl go
end ZR
section ZR2
variable {l : Launch} {D : va_G} {N0 : Nat} {Z : zy_V} {p : Program} {en : Env} {R : Room} {s : State} {m : MethodId} {args : Array Value} {below : List Frame} {meth : Method} {c : Code} {Q : State → Prop} {M : zx_M} {dd : Nat} {ls : Array Slot} {H : Heap} {locs : List Loc} {tys : List (ClassId × FieldType)} {ws ws' ws2 : va_W}
/-- a field that holds a fixed array -/
theorem zv_getA {q : zx_Q} {i f r g pc : Nat} {rest : List Value} (hB : zy_Fr p l R s m args meth c N0 Z M dd) (hx : zy_Mx D N0 zy_T Z s M ls H locs tys ws) (hq : q ∈ zx_FL) (ho : q.1 = M.2.1.1) (hi : q.2.1 = i) (h12 : q.2.2.1 = 12) (hf : q.2.2.2.1 = f) (hd : decode M.1.2.1 pc = .ok (.getfield i, 3)) (h0 : 0 < r) (h1 : r < 100) (hf1 : f < 128) (hg : g < 512) (htt : zy_tt zy_T zy_fg (29 + 256 * (128 * 41 + f)) (fun t => Nat.beq t ((r + 256 * g) * 16 + 2)) = true) (kk : W p l en R s m args below meth c H locs 0 0 Q (F0 m (pc + 3) ls (.ref (zy_fa1 Z r) :: rest))) : W p l en R s m args below meth c H locs 0 0 Q (F0 m pc ls (.ref (zy_fa1 Z 29) :: rest)) := by
  obtain ⟨t, x, e1, -, -, e4, e5⟩ := zy_tt_s hB.1.2.2.2 hx.1.2.2.2 htt
  rw [zx_beq_t e1] at e5
  rw [show (29 + 256 * (128 * 41 + f)) % 256 = 29 by omega, show (29 + 256 * (128 * 41 + f)) / 256 % 128 = f by omega, show (29 + 256 * (128 * 41 + f)) / 16777216 = 0 by omega] at e4
  obtain ⟨-, j, ad, g1, g2, g3, g4⟩ := (zy_r2 (by omega)).mp e5
  rw [show ((r + 256 * g) * 16 + 2) / 16 % 256 = r by omega] at g4
  have g5 := (g4 (by omega)).1
  have ex : x = .ref (zy_fa1 Z r) := by
    rw [g3]
    unfold zy_fa1
    have e6 : zy_ru (zy_fz Z) r = zy_ru Z r := if_pos h1
    rw [← e6, g5]
    have g1 : (zy_ads Z)[j]? = some ad := g1
    rw [g1]
    rfl
  rw [ex] at e4
  exact zv_get hB hx hq ho hi h12 hf hd e4 kk
/-- frames -/
def zv_Fm (Z : zy_V) (ws ws' : va_W) (E : Nat → Nat → Nat → Prop) : Prop := ws'.map (fun w => w.1) = ws.map (fun w => w.1) ∧ ∀ (j g f a : Nat), (zy_gl Z)[j]? = some g → f < 128 → ¬ E j f a → zy_rd ws' j f a = zy_rd ws j f a
theorem zv_Fm_rf {E : Nat → Nat → Nat → Prop} : zv_Fm Z ws ws E := ⟨rfl, fun _ _ _ _ _ _ _ => rfl⟩
theorem zv_Fm_tr {E1 E2 E3 : Nat → Nat → Nat → Prop} (h1 : zv_Fm Z ws ws' E1) (h2 : zv_Fm Z ws' ws2 E2) (hE1 : ∀ j f a, E1 j f a → E3 j f a) (hE2 : ∀ j f a, E2 j f a → E3 j f a) : zv_Fm Z ws ws2 E3 := ⟨h2.1.trans h1.1, fun j g f a hg hf hE => (h2.2 j g f a hg hf (fun z => hE (hE2 j f a z))).trans (h1.2 j g f a hg hf (fun z => hE (hE1 j f a z)))⟩
theorem zv_Fm_r {E : Nat → Nat → Nat → Prop} (hH : zy_H0 Z) (h : zv_Fm Z ws ws' E) {r g f a : Nat} (h0 : 0 < r) (h1 : r < 100) (hfg : zy_fg[r]? = some g) (hf : f < 128) (hE : ¬ E (zy_ru Z r) f a) : zy_rd ws' (zy_ru Z r) f a = zy_rd ws (zy_ru Z r) f a := h.2 _ g f a (hH.2.2.2 r g h0 h1 hfg).1 hf hE
theorem zv_Fm_un {Wm : Nat} (hU : zy_UN (zy_gl Z) Wm ws ws') : zv_Fm Z ws ws' (fun j f _ => ∃ g, (zy_gl Z)[j]? = some g ∧ Wm.testBit (128 * g + f) = true) := ⟨hU.1, fun j g f a hg hf hE => hU.2.1 j g f a hg hf (by
  cases h : Wm.testBit (128 * g + f)
  · rfl
  · exact absurd ⟨g, hg, h⟩ hE)⟩
theorem zv_ne (hH : zy_H0 Z) {r r' g g' : Nat} (h0 : 0 < r) (h1 : r < 100) (hfg : zy_fg[r]? = some g) (h0' : 0 < r') (h1' : r' < 100) (hfg' : zy_fg[r']? = some g') (hne : g ≠ g') : zy_ru Z r ≠ zy_ru Z r' := fun z => by
  have e1 := (hH.2.2.2 r g h0 h1 hfg).1
  have e2 := (hH.2.2.2 r' g' h0' h1' hfg').1
  rw [z, e2] at e1
  exact hne (Option.some.inj e1).symm
theorem zv_sub {a b : Nat} (h : b ≤ a) : nI a - nI b = nI (a - b) := by
  have e : nI (a - b) + nI b = nI a := by rw [nI_add, Nat.sub_add_cancel h]
  rw [← e, Int32.add_sub_cancel]
end ZR2
