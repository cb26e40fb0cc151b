/-! what is fixed, seen as it is: places, arrays, calls -/
theorem zy_Fr_fin {p : Program} {l : Launch} {R : Room} {s : State} {m : MethodId} {args : Array Value} {meth : Method} {c : Code} {N0 : Nat} {Z : zy_V} {y : zx_M} {dd : Nat} {bl : List (Nat × List zx_E)} (h : zy_fic y bl = true) (hB : zy_Fr p l R s m args meth c N0 Z y dd) : zy_Fr p l R s m args meth c N0 Z (zy_fin y bl) dd := ⟨hB.1, hB.2.1, fun As hAs => zy_Cx_fin h (hB.2.2.1 As hAs), hB.2.2.2⟩
theorem zv_hb {n : Nat} {ys : List Int32} {lo hi : Nat} {bs : List (Nat × Nat)} (h1 : lo ≤ n + 2147483648) (h2 : n + 2147483648 ≤ hi) (h3 : hi < 4294967296) (ih : ∀ (i : Nat) (y : Int32) (b : Nat × Nat), ys[i]? = some y → bs[i]? = some b → b.1 ≤ zx_bz y ∧ zx_bz y ≤ b.2 ∧ b.2 < 4294967296) : ∀ (i : Nat) (y' : Int32) (b' : Nat × Nat), (nI n :: ys)[i]? = some y' → ((lo, hi) :: bs)[i]? = some b' → b'.1 ≤ zx_bz y' ∧ zx_bz y' ≤ b'.2 ∧ b'.2 < 4294967296 := by
  have e := zy_bz_n (n := n) (by omega)
  exact zy_hb1 (b := (lo, hi)) (by rw [e]; exact h1) (by rw [e]; exact h2) h3 ih
theorem zv_hi {y : Int32} {ys : List Int32} {lo hi : Nat} {bs : List (Nat × Nat)} (h1 : lo ≤ zx_bz y) (h2 : zx_bz y ≤ hi) (h3 : hi < 4294967296) (ih : ∀ (i : Nat) (y : Int32) (b : Nat × Nat), ys[i]? = some y → bs[i]? = some b → b.1 ≤ zx_bz y ∧ zx_bz y ≤ b.2 ∧ b.2 < 4294967296) : ∀ (i : Nat) (y' : Int32) (b' : Nat × Nat), (y :: ys)[i]? = some y' → ((lo, hi) :: bs)[i]? = some b' → b'.1 ≤ zx_bz y' ∧ zx_bz y' ≤ b'.2 ∧ b'.2 < 4294967296 := zy_hb1 (b := (lo, hi)) h1 h2 h3 ih
theorem zv_fa1 (Z : zy_V) {α : Type} {P : α → Prop} {a : α} {l : List α} (h1 : P a) (h2 : ∀ x ∈ l, P x) : ∀ x ∈ a :: l, P x := zy_fa h1 h2
section ZX
variable {l : Launch} {D : va_G} {N0 : Nat} {Z : zy_V} {p : Program} {en : Env} {R : Room} {s : State} {m : MethodId} {args : Array Value} {below : List Frame} {meth : Method} {c : Code} {Q : State → Prop} {M : zx_M} {dd : Nat} {ls : Array Slot} {H : Heap} {locs : List Loc} {tys : List (ClassId × FieldType)} {ws ws' : va_W}
theorem zv_rr (hH : zy_H0 Z) {r g : Nat} (h0 : 0 < r) (h1 : r < 100) (hfg : zy_fg[r]? = some g) (hg : g < 512) : zy_r Z ((r + 256 * g) * 16 + 2) (.ref (zy_fa1 Z r)) := by
  obtain ⟨f1, ad, f2⟩ := hH.2.2.2 r g h0 h1 hfg
  have e : zy_fa1 Z r = ad := by unfold zy_fa1; rw [f2]; rfl
  rw [e]
  refine (zy_r2 (by omega)).mpr ⟨by omega, zy_ru Z r, ad, f2, ?_, rfl, fun _ => ?_⟩
  · rw [show ((r + 256 * g) * 16 + 2) / 16 / 256 = g by omega]
    exact f1
  · rw [show ((r + 256 * g) * 16 + 2) / 16 % 256 = r by omega, hH.2.2.1]
    exact ⟨rfl, h1⟩
/-- an int at a place, by its template -/
theorem zv_int (hH : zy_H0 Z) (hR : zy_HR Z zy_T tys ws) {key lo hi : Nat} (h : zy_tt zy_T zy_fg key (fun t => Nat.beq t (zy_c7v lo hi)) = true) (hl : lo < 4294967296) (hh : hi < 4294967296) : ∃ y : Int32, zv_ro Z ws key = some (.int y) ∧ lo ≤ zx_bz y ∧ zx_bz y ≤ hi := by
  obtain ⟨t, x, h1, -, -, h4, h5⟩ := zy_tt_s hH.2.2.2 hR h
  rw [zx_beq_t h1] at h5
  have e0 : zy_c7v lo hi = (lo * 4294967296 + hi) * 16 + 7 := rfl
  have h6 := h5
  rw [e0] at h6
  obtain ⟨-, y, rfl, -⟩ := (zy_r7 (by omega)).mp h6
  obtain ⟨a1, a2⟩ := zy_7_r hl hh h5
  exact ⟨y, h4, a1, a2⟩
/-- outside a mask all is as it was -/
theorem zv_un (hH : zy_H0 Z) {Wm : Nat} (hU : zy_UN (zy_gl Z) Wm ws ws') {r g f : Nat} (h0 : 0 < r) (h1 : r < 100) (hfg : zy_fg[r]? = some g) (hf : f < 128) (hb : Wm.testBit (128 * g + f) = false) (a : Nat) : zy_rd ws' (zy_ru Z r) f a = zy_rd ws (zy_ru Z r) f a := hU.2.1 _ g f a (hH.2.2.2 r g h0 h1 hfg).1 hf hb
/-- an element of a fixed array of ints is read -/
theorem zv_ald (hB : zy_Fr p l R s m args meth c N0 Z M dd) (hx : zy_Mx D N0 zy_T Z s M ls H locs tys ws) {r g k i pc : Nat} {ins : Instr} {y : Int32} {rest : List Value} (h0 : 0 < r) (h1 : r < 100) (hfg : zy_fg[r]? = some g) (hg : g < 512) (hT : zy_T[g]? = some k) (ht : k % 16 < 6 ∨ k % 16 = 9) (hi : (k % 16 % 3 = 0 ∧ ins = .iaload) ∨ ((k % 16 % 3 = 1 ∨ k % 16 % 3 = 2) ∧ ins = .baload)) (hd : decode M.1.2.1 pc = .ok (ins, 1)) (hn : i < zx_cn k) (hn2 : zx_cn k ≤ 2147483647) (hv : zy_rd ws (zy_ru Z r) 0 i = some (.int y)) (kk : W p l en R s m args below meth c H locs 0 0 Q (F0 m (pc + 1) ls (.int y :: rest))) :
    W p l en R s m args below meth c H locs 0 0 Q (F0 m pc ls (.int (nI i) :: .ref (zy_fa1 Z r) :: rest)) := by
  obtain ⟨hH, -, hC, -⟩ := hB
  obtain ⟨hW, hS, hl⟩ := hx
  have hr := zv_rr hH h0 h1 hfg hg
  obtain ⟨j, ad, cA, f, e1, h4, hgj, hru, h6, h7⟩ := zy_acell hW.2.2.2 hr (by omega) (k := k) (by rw [show ((r + 256 * g) * 16 + 2) / 16 / 256 = g by omega]; exact hT) ht
  injection e1 with e1
  rw [e1]
  have hj : zy_ru Z r = j := by
    have := hru (by omega)
    rw [show ((r + 256 * g) * 16 + 2) / 16 % 256 = r by omega] at this
    exact this
  rw [hj, zy_rd_arr h4 hn] at hv
  injection hv with hv
  injection hv with hv
  have ec : (nI i).toNatClampNeg = i := nI_clamp (by omega)
  refine zy_mld (hC Z (zy_le_rf Z)) (k := k) hd hi hW h4 h6 (nI_in hn (by omega)) ?_
  rw [ec, hv]
  exact kk
/-- and written -/
theorem zv_ast (hB : zy_Fr p l R s m args meth c N0 Z M dd) (hx : zy_Mx D N0 zy_T Z s M ls H locs tys ws) {r g k i pc : Nat} {y : Int32} {rest : List Value} (h0 : 0 < r) (h1 : r < 100) (hfg : zy_fg[r]? = some g) (hg : g < 512) (hT : zy_T[g]? = some k) (ht : k % 16 = 3) (hd : decode M.1.2.1 pc = .ok (.iastore, 1)) (hn : i < zx_cn k) (hn2 : zx_cn k ≤ 2147483647) (hlo : zy_lo k ≤ zx_bz y) (hhi : zx_bz y ≤ zy_hi k)
    (kk : ∀ (H1 : Heap) (locs1 : List Loc) (ws1 : va_W), zy_Mx D N0 zy_T Z s M ls H1 locs1 tys ws1 → ws1.map (fun w => w.1) = ws.map (fun w => w.1) → zy_rd ws1 (zy_ru Z r) 0 i = some (.int y) → (∀ j f a, ¬ (j = zy_ru Z r ∧ f = 0 ∧ a = i) → zy_rd ws1 j f a = zy_rd ws j f a) → W p l en R s m args below meth c H1 locs1 0 0 Q (F0 m (pc + 1) ls rest)) :
    W p l en R s m args below meth c H locs 0 0 Q (F0 m pc ls (.int y :: .int (nI i) :: .ref (zy_fa1 Z r) :: rest)) := by
  obtain ⟨hH, -, hC, -⟩ := hB
  obtain ⟨hW, hS, hl⟩ := hx
  have hr := zv_rr hH h0 h1 hfg hg
  obtain ⟨j, ad, cA, f, e1, h4, hgj, hru, h6, h7⟩ := zy_acell hW.2.2.2 hr (by omega) (k := k) (by rw [show ((r + 256 * g) * 16 + 2) / 16 / 256 = g by omega]; exact hT) (Or.inl (by omega))
  rw [show ((r + 256 * g) * 16 + 2) / 16 / 256 = g by omega] at hgj
  injection e1 with e1
  rw [e1]
  have hj : zy_ru Z r = j := by
    have := hru (by omega)
    rw [show ((r + 256 * g) * 16 + 2) / 16 % 256 = r by omega] at this
    exact this
  rw [hj] at kk
  have ec : (nI i).toNatClampNeg = i := nI_clamp (by omega)
  have en : vp_nar (zx_ty (k % 16 % 3)) y = y := by rw [ht]; rfl
  have eet : ∀ n, zy_et k n = zy_c7v (zy_lo k) (zy_hi k) := fun n => by
    unfold zy_et
    rw [show Nat.beq (zx_tg k) 9 = false from by
      cases q : Nat.beq (zx_tg k) 9
      · rfl
      · have : k % 16 = 9 := zx_beq_t q
        omega]
    rfl
  refine zy_mst (hC Z (zy_le_rf Z)) (k := k) (g := g) hd (Or.inl ⟨by omega, rfl⟩) (Or.inl ⟨by omega, by omega⟩) hW hS h4 hgj hT h6 h7 (nI_in hn (by omega)) ?_ (fun H1 locs1 hW1 hS1 => ?_)
  · rw [en, ec, eet]
    exact zy_r_7 hlo hhi (zy_hi_lt k)
  · rw [en, ec] at hW1
    have hjl := (List.getElem?_eq_some_iff.mp h4).1
    refine kk H1 locs1 _ ⟨hW1, hS1, hl⟩ ?_ ?_ ?_
    · rw [List.map_set]
      refine List.ext_getElem? fun n => ?_
      by_cases hnj : n = j
      · subst hnj
        rw [List.getElem?_set_self (by rw [List.length_map]; exact hjl), List.getElem?_map, h4]
        rfl
      · rw [List.getElem?_set_ne (Ne.symm hnj)]
    · rw [zy_rd_set h4]
      show (if 0 = 0 ∧ i < zx_cn k then some (Value.int (upd f i y i)) else none) = _
      rw [if_pos ⟨rfl, hn⟩]
      unfold upd
      rw [if_pos rfl]
    · intro j2 f2 a2 hne
      by_cases hjj : j2 = j
      · subst hjj
        rw [zy_rd_set h4, zy_rd_at h4]
        show (if f2 = 0 ∧ a2 < zx_cn k then some (Value.int (upd f i y a2)) else none) = (if f2 = 0 ∧ a2 < zx_cn k then some (Value.int (f a2)) else none)
        by_cases hc : f2 = 0 ∧ a2 < zx_cn k
        · rw [if_pos hc, if_pos hc]
          unfold upd
          rw [if_neg (fun z => hne ⟨rfl, hc.1, z⟩)]
        · rw [if_neg hc, if_neg hc]
      · rw [zy_rd_ne hjj]
/-- a method of the reference is called by hand -/
theorem zv_ivM {q : zx_Q} {i a dm d' pc : Nat} {y : zx_M} {As rest : List Value} {Pre : List Value → va_W → Prop} {Post : List Value → va_W → List Value → va_W → Prop} (hOk : zy_OkP l D N0 zy_T Z a dm Pre Post) (hB : zy_Fr p l R s m args meth c N0 Z M (d' + 1)) (hx : zy_Mx D N0 zy_T Z s M ls H locs tys ws) (hq : q ∈ zx_ML) (ho : q.1 = M.2.1.1) (hi : q.2.1 = i) (ha : q.2.2.1 = a) (ha2 : a < 9000) (hya : zx_me a = some y) (hk0 : y.2.1.2.1 = 0 ∧ y.2.1.2.2.2.1 = 0 ∧ y.2.1.2.2.2.2.1 = 0) (hc12 : y.2.1.1 = 12) (hd : decode M.1.2.1 pc = .ok (.invokevirtual i, 3)) (hdm : dm ≤ d') (hpre : Pre (.ref (zy_fa1 Z 29) :: As) ws) (hlen : As.length + 1 = y.2.1.2.2.1) (hrm : (rest.map fun v => v.category).sum ≤ 8)
    (kk : ∀ (vs : List Value) (tys : List (ClassId × FieldType)) (ws1 : va_W) (H1 : Heap) (locs1 : List Loc), vs.length ≤ 1 → Post (.ref (zy_fa1 Z 29) :: As) ws vs ws1 → zy_Mx D N0 zy_T Z s M ls H1 locs1 tys ws1 → W p l en R s m args below meth c H1 locs1 0 0 Q (F0 m (pc + 3) ls (vs ++ rest))) :
    W p l en R s m args below meth c H locs 0 0 Q (F0 m pc ls (As.reverse ++ .ref (zy_fa1 Z 29) :: rest)) := by
  have hr := zv_rr hB.1 (r := 29) (g := 41) (by decide) (by decide) rfl (by decide)
  obtain ⟨j, ad, ee, e1, h4, hgj, h5, hru⟩ := zy_HR_get hx.1.2.2.2 hr (by decide) (c := zy_tm zy_T 41) rfl
  obtain ⟨t7, tcn⟩ := zx_hd7 (c := zy_tm zy_T 41) (x := 12) (by decide +kernel) (by decide)
  obtain ⟨fs, rc, rfl, -⟩ := (zy_c7 t7).mp h5
  rw [tcn] at h4
  injection e1 with e1
  rw [← e1] at h4
  exact zy_ivP hq ho hi ha ha2 hya hk0 hd hB hOk hdm hx hpre hlen hrm h4 hc12.symm (by decide) kk
end ZX
