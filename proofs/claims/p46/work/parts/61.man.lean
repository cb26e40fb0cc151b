/-! steps by hand: arrays of ints, fields -/
section ZYJ
variable {l : Launch} {D : va_G} {N0 : Nat} {T : List Nat} {A : zy_V} {p : Program} {en : Env} {R : Room} {s : State} {m : MethodId} {args : Array Value} {below : List Frame} {meth : Method} {c : Code} {Q : State → Prop} {M : zx_M} {dd : Nat} {ex : Nat → Nat} {pc : Nat} {ls : Array Slot} {H : Heap} {locs : List Loc} {tys : List (ClassId × FieldType)} {ws : va_W}
/-- a reference to an array of ints, its cell -/
theorem zy_acell (hH : zy_HR A T tys ws) {r k : Nat} {x : Value} (hr : zy_r A r x) (hk : r % 16 = 2) (hT : T[r / 16 / 256]? = some k) (ht : k % 16 < 6 ∨ k % 16 = 9) : ∃ (j ad : Nat) (cA : ClassId) (f : Nat → Int32), x = .ref ad ∧ ws[j]? = some (ad, .inl (cA, zx_cn k, .inl f)) ∧ (zy_gl A)[j]? = some (r / 16 / 256) ∧ (r / 16 % 256 ≠ 0 → zy_ru A (r / 16 % 256) = j) ∧ (cA, zx_ty (k % 16 % 3)) ∈ tys ∧ ∀ n, n < zx_cn k → zy_r (zy_fz A) (zy_et k n) (.int (f n)) := by
  obtain ⟨j, ad, ee, rfl, h4, hg, h5, h9⟩ := zy_HR_get hH hr hk hT
  obtain ⟨cA, f, h6, rfl, h7⟩ := zy_cr_int h5 ht
  exact ⟨j, ad, cA, f, rfl, h4, hg, fun z => (h9 z).1, h6, h7⟩
/-- an int is read -/
theorem zy_mld (hC : zx_Cx p R s m args meth c M dd N0 ex zy_n0) {ins : Instr} {j ad k : Nat} {cA : ClassId} {f : Nat → Int32} (hd : decode M.1.2.1 pc = .ok (ins, 1)) (hi : (k % 16 % 3 = 0 ∧ ins = .iaload) ∨ ((k % 16 % 3 = 1 ∨ k % 16 % 3 = 2) ∧ ins = .baload)) (hW : zy_Wd D N0 T A s H tys ws) (h4 : ws[j]? = some (ad, .inl (cA, zx_cn k, .inl f))) (h6 : (cA, zx_ty (k % 16 % 3)) ∈ tys) {xi : Int32} {rs : List Value} (hin : vp_in xi (zx_cn k)) (kk : W p l en R s m args below meth c H locs 0 0 Q (F0 m (pc + 1) ls (.int (f xi.toNatClampNeg) :: rs))) :
    W p l en R s m args below meth c H locs 0 0 Q (F0 m pc ls (.int xi :: .ref ad :: rs)) := zx_ldrow hC.1 hC.2.1 hi hW.1 hW.2.1 h4 h6 hin hd kk
/-- an int is written -/
theorem zy_mst (hC : zx_Cx p R s m args meth c M dd N0 ex zy_n0) {ins : Instr} {j ad k g : Nat} {cA : ClassId} {f : Nat → Int32} (hd : decode M.1.2.1 pc = .ok (ins, 1)) (hi : (k % 16 % 3 = 0 ∧ ins = .iastore) ∨ ((k % 16 % 3 = 1 ∨ k % 16 % 3 = 2) ∧ ins = .bastore)) (ht : (3 ≤ k % 16 ∧ k % 16 < 6) ∨ k % 16 = 9) (hW : zy_Wd D N0 T A s H tys ws) (hS : va_S (zx_A N0) s.heap H locs) (h4 : ws[j]? = some (ad, .inl (cA, zx_cn k, .inl f))) (hg : (zy_gl A)[j]? = some g) (hT : T[g]? = some k) (h6 : (cA, zx_ty (k % 16 % 3)) ∈ tys) (h7 : ∀ n, n < zx_cn k → zy_r (zy_fz A) (zy_et k n) (.int (f n))) {xv xi : Int32} {rs : List Value} (hin : vp_in xi (zx_cn k)) (hv : zy_r (zy_fz A) (zy_et k xi.toNatClampNeg) (.int (vp_nar (zx_ty (k % 16 % 3)) xv)))
    (kk : ∀ (H1 : Heap) (locs1 : List Loc), zy_Wd D N0 T A s H1 tys (ws.set j (ad, .inl (cA, zx_cn k, .inl (upd f xi.toNatClampNeg (vp_nar (zx_ty (k % 16 % 3)) xv))))) → va_S (zx_A N0) s.heap H1 locs1 → W p l en R s m args below meth c H1 locs1 0 0 Q (F0 m (pc + 1) ls rs)) :
    W p l en R s m args below meth c H locs 0 0 Q (F0 m pc ls (.int xv :: .int xi :: .ref ad :: rs)) := by
  obtain ⟨hK, hP, hD, hH⟩ := hW
  exact zx_strow hC.1 hC.2.1 hi hK hP hD hS h4 h6 hin hd (fun H1 locs1 hP1 hD1 hS1 => kk H1 locs1 ⟨hK, hP1, hD1, zy_ast_all hH h4 hg hT ht h6 h7 hv⟩ hS1)
/-- a field is written -/
theorem zy_mpt (hC : zx_Cx p R s m args meth c M dd N0 ex zy_n0) {q : zx_Q} {i : Nat} (hq : q ∈ zx_FL) (ho : q.1 = M.2.1.1) (hi : q.2.1 = i) (hx : q.2.2.1 < 100) (hfin : ((zx_ci q.2.2.1).2.1 q.2.2.2.1).2.2.2 = false) (hd : decode M.1.2.1 pc = .ok (.putfield i, 3)) (hW : zy_Wd D N0 T A s H tys ws) (hS : va_S (zx_A N0) s.heap H locs) {j ad g k : Nat} {fs : List Value} (h4 : ws[j]? = some (ad, .inr (q.2.2.1, fs))) (hg : (zy_gl A)[j]? = some g) (hT : T[g]? = some k) (hhd : zx_hd k = 7 + 16 * q.2.2.1) {xv : Value} {rs : List Value} (hy : q.2.2.2.1 < (zx_ci q.2.2.1).2.2) (hkp : zx_kp (zx_fm ((zx_ci q.2.2.1).2.1 q.2.2.2.1).2.2.1) xv) (hv : zy_r (zy_fz A) (zx_og k q.2.2.2.1) xv)
    (kk : ∀ (H1 : Heap) (locs1 : List Loc), zy_Wd D N0 T A s H1 tys (ws.set j (ad, .inr (q.2.2.1, fs.set q.2.2.2.1 xv))) → va_S (zx_A N0) s.heap H1 locs1 → W p l en R s m args below meth c H1 locs1 0 0 Q (F0 m (pc + 3) ls rs)) :
    W p l en R s m args below meth c H locs 0 0 Q (F0 m pc ls (xv :: .ref ad :: rs)) := by
  obtain ⟨hx0, hb, hml, hown, hts, hini, -⟩ := hC
  obtain ⟨hK, hP, hD, hH⟩ := hW
  obtain ⟨t7, tcn⟩ := zx_hd7 hhd hx
  have h5 := hH.2 j g _ h4 hg
  rw [show zy_tm T g = k from by unfold zy_tm; rw [List.getD_eq_getElem?_getD, hT]; rfl] at h5
  obtain ⟨fs', rc, e1, h6, h7, h8⟩ := (zy_c7 t7).mp h5
  have e1 : fs = fs' := by
    injection e1 with e1
    injection e1 with _ e1
  subst e1
  rw [tcn] at h6
  have hci := zx_ci_of h6
  have hrm := List.mem_of_getElem? h6
  rw [hci] at hy hfin hkp
  have hlt : q.2.2.2.1 < fs.length := by rw [h7]; exact hy
  obtain ⟨ty1, ty2, ty3⟩ := zx_cl_ty hrm
  obtain ⟨hnr, hft⟩ := zx_put_ty (ty2 _ hy) hkp
  have hlink : (Cond.fieldLink (zx_on1 M.2.1.1) i (rc.2.1 q.2.2.2.1).1 (rc.2.1 q.2.2.2.1).2.1 (rc.2.1 q.2.2.2.1).2.2.1).before args s = true := by
    have := hts _ (zx_inF hq)
    rw [zx_fw_of hx hci, ho, hi] at this
    exact this
  refine va_put (own := zx_on1 M.2.1.1) (ref := (rc.2.1 q.2.2.2.1).1) hx0 hb hts (zx_cl_ws hrm) (zx_fty rc) ty1 ty3 hown hK hP hD hS j h4 h6 q.2.2.2.1 hy hlink (fun _ z => z) hfin (ty1 _ hy) hnr hft hlt hd (fun H1 locs1 hP1 hD1 hS1 => kk H1 locs1 ⟨hK, hP1, hD1, ?_⟩ hS1)
  refine zy_HR_set hH h4 hg hT ((zy_c7 t7).mpr ⟨fs.set q.2.2.2.1 xv, rc, by rw [tcn], by rw [tcn]; exact h6, by rw [List.length_set]; exact h7, fun n w hw => ?_⟩)
  by_cases hj : n = q.2.2.2.1
  · subst hj
    rw [List.getElem?_set_self hlt] at hw
    cases hw
    exact hv
  · rw [List.getElem?_set_ne (Ne.symm hj)] at hw
    exact h8 n w hw
/-- an object's cell -/
theorem zy_ocell (hH : zy_HR A T tys ws) {r k ci : Nat} {x : Value} (hr : zy_r A r x) (hk : r % 16 = 2) (hT : T[r / 16 / 256]? = some k) (hhd : zx_hd k = 7 + 16 * ci) (hx : ci < 100) : ∃ (j ad : Nat) (fs : List Value), x = .ref ad ∧ ws[j]? = some (ad, .inr (ci, fs)) ∧ (zy_gl A)[j]? = some (r / 16 / 256) ∧ (r / 16 % 256 ≠ 0 → zy_ru A (r / 16 % 256) = j) ∧ fs.length = (zx_ci ci).2.2 ∧ ∀ (n : Nat) (v : Value), fs[n]? = some v → zy_r (zy_fz A) (zx_og k n) v := by
  obtain ⟨j, ad, ee, rfl, h4, hg, h5, h9⟩ := zy_HR_get hH hr hk hT
  obtain ⟨t7, tcn⟩ := zx_hd7 hhd hx
  obtain ⟨fs, rc, rfl, h6, h7, h8⟩ := (zy_c7 t7).mp h5
  rw [tcn] at h4 h6
  exact ⟨j, ad, fs, rfl, h4, hg, fun z => (h9 z).1, by rw [zx_ci_of h6]; exact h7, h8⟩
end ZYJ
/-! names for given ints -/
theorem zy_mk_s : ∀ (ys : List Int32) (bs : List (Nat × Nat)) {A : zy_V} {e : Nat}, zy_ev A e → ys.length = bs.length → (∀ (i : Nat) (y : Int32) (b : Nat × Nat), ys[i]? = some y → bs[i]? = some b → b.1 ≤ zx_bz y ∧ zx_bz y ≤ b.2 ∧ b.2 < 4294967296) → zy_fi A + ys.length ≤ 190 → zy_ev (ys.foldl zy_xi A) (bs.foldl zy_pe e) ∧ zy_le A (ys.foldl zy_xi A)
  | [], [], A, e, he, _, _, _ => ⟨he, zy_le_rf A⟩
  | [], _ :: _, _, _, _, h, _, _ => by cases h
  | _ :: _, [], _, _, _, h, _, _ => by cases h
  | y :: ys, b :: bs, A, e, he, hl, hb, hn => by
    obtain ⟨b1, b2, b3⟩ := hb 0 y b rfl rfl
    have hn' : zy_fi A + (ys.length + 1) ≤ 190 := hn
    have h1 := zy_ev_xi he b1 b2 b3 (by omega)
    have e1 : zy_pe e b = zx_es (zx_es e (zy_fi A) (zx_bd b.1 b.2)) 0 (zx_eg e 0 + 1) := by
      have hF := he.2.2.1
      have hl := he.2.2.2.2.2.1
      have hi := he.2.2.2.2.1
      unfold zy_pe
      rw [show Nat.mod (zx_eg e 0) 65536 = zy_fi A from by
        show zx_eg e 0 % 65536 = zy_fi A
        omega]
    obtain ⟨g1, g2⟩ := zy_mk_s ys bs (A := zy_xi A y) (e := zy_pe e b) (by rw [e1]; exact h1) (by simpa using hl) (fun i y' b' h1 h2 => hb (i + 1) y' b' h1 h2) (by show zy_fi A + 1 + ys.length ≤ 190; omega)
    exact ⟨g1, zy_le_tr (zy_xi_le A y) g2⟩
theorem zy_mk_nu : ∀ (ys : List Int32) {A : zy_V} (i : Nat) (y : Int32), ys[i]? = some y → zy_nu (ys.foldl zy_xi A) (zy_fi A + i) = y ∧ zy_fi A + i < zy_fi (ys.foldl zy_xi A)
  | [], _, _, _, h => by simp at h
  | z :: ys, A, 0, y, h => by
    have h : z = y := Option.some.inj h
    subst h
    have hle : ∀ (ys : List Int32) (B : zy_V), zy_fi B ≤ zy_fi (ys.foldl zy_xi B) ∧ ∀ k, k < zy_fi B → zy_nu (ys.foldl zy_xi B) k = zy_nu B k := by
      intro ys
      induction ys with
      | nil => exact fun B => ⟨Nat.le_refl _, fun _ _ => rfl⟩
      | cons w ys ih =>
        intro B
        obtain ⟨i1, i2⟩ := ih (zy_xi B w)
        have hx := zy_xi_le B w
        exact ⟨Nat.le_trans hx.2.1.1 i1, fun k hk => (i2 k (Nat.lt_of_lt_of_le hk hx.2.1.1)).trans (hx.2.2.1 k hk)⟩
    obtain ⟨h1, h2⟩ := hle ys (zy_xi A z)
    have hlt : zy_fi A < zy_fi (zy_xi A z) := Nat.lt_succ_self _
    refine ⟨(h2 _ hlt).trans (if_pos rfl), Nat.lt_of_lt_of_le hlt h1⟩
  | z :: ys, A, i + 1, y, h => by
    obtain ⟨h1, h2⟩ := zy_mk_nu ys (A := zy_xi A z) i y h
    rw [show zy_fi A + (i + 1) = zy_fi (zy_xi A z) + i from by show _ = zy_fi A + 1 + i; omega]
    exact ⟨h1, h2⟩
/-- a name of the list, and what it stands for -/
theorem zy_mk_r {Z : zy_V} (hZ1 : zy_fi Z = 1) {ys : List Int32} {i : Nat} {y : Int32} (h : ys[i]? = some y) (hi : i < 200) : zy_r (ys.foldl zy_xi Z) (zy_nm (i + 1) 0) (.int y) := by
  obtain ⟨h1, h2⟩ := zy_mk_nu ys (A := Z) i y h
  rw [hZ1, Nat.add_comm] at h1 h2
  have e2 : (i + 1) % 256 = i + 1 := by omega
  have hr : zy_r (ys.foldl zy_xi Z) (zy_nm ((i + 1) % 256) 0) (.int y) := by
    refine zy_r_nm ?_ (by decide) ?_
    · rw [e2]
      exact ⟨by omega, h2⟩
    · rw [e2, h1, nI_0, Int32.add_zero]
  rw [e2] at hr
  exact hr
theorem zy_mk_i {Z : zy_V} (hZ1 : zy_fi Z = 1) {ys : List Int32} {i o : Nat} {y : Int32} (h : ys[i]? = some y) (hi : i < 200) {x : Value} (hr : zy_r (ys.foldl zy_xi Z) (zy_nm (i + 1) o) x) : x = .int (y + nI o) := by
  obtain ⟨h1, h2⟩ := zy_mk_nu ys (A := Z) i y h
  rw [hZ1, Nat.add_comm] at h1 h2
  have e0 : zy_nm (i + 1) o = (i + 1 + 256 * o) * 16 + 1 := rfl
  rw [e0] at hr
  obtain ⟨-, g1, -⟩ := (zy_r1 (by omega)).mp hr
  rw [show ((i + 1 + 256 * o) * 16 + 1) / 16 % 256 = i + 1 by omega, show ((i + 1 + 256 * o) * 16 + 1) / 16 / 256 = o by omega, h1] at g1
  exact g1
/-- bounds of a name of the list -/
theorem zy_mk_b {Z : zy_V} (hZ1 : zy_fi Z = 1) {ys : List Int32} {i e : Nat} {y : Int32} (h : ys[i]? = some y) (he : zy_ev (ys.foldl zy_xi Z) e) : zx_eg e (i + 1) = 0 ∨ (zx_eg e (i + 1) / 4294967296 ≤ zx_bz y ∧ zx_bz y ≤ zx_eg e (i + 1) % 4294967296) := by
  obtain ⟨h1, h2⟩ := zy_mk_nu ys (A := Z) i y h
  rw [hZ1, Nat.add_comm] at h1 h2
  have := he.1 (i + 1) ⟨by omega, h2⟩
  rw [h1] at this
  exact this
/-! counting -/
theorem zy_cnt {p p' : Nat → Bool} {k0 : Nat} (h : ∀ k, k ≠ k0 → p' k = p k) (h0 : p k0 = false) (h1 : p' k0 = true) : ∀ n, (List.range n).countP p' = (List.range n).countP p + (if k0 < n then 1 else 0)
  | 0 => by simp
  | n + 1 => by
    rw [List.range_succ, List.countP_append, List.countP_append, zy_cnt h h0 h1 n]
    by_cases hk : n = k0
    · subst hk
      rw [if_neg (Nat.lt_irrefl _), if_pos (Nat.lt_succ_self _)]
      simp [List.countP_cons, h0, h1]
    · rw [List.countP_cons, List.countP_cons, h n hk]
      simp only [List.countP_nil]
      by_cases h2 : k0 < n
      · rw [if_pos h2, if_pos (show k0 < n + 1 by omega)]
        omega
      · rw [if_neg h2, if_neg (show ¬ k0 < n + 1 by omega)]
        omega
theorem zy_cnt_lt {p : Nat → Bool} {k0 n : Nat} (hk : k0 < n) (h0 : p k0 = false) : (List.range n).countP p < n := by
  have h := zy_cnt (p := p) (p' := fun k => if k = k0 then true else p k) (k0 := k0) (fun k hk => if_neg hk) h0 (if_pos rfl) n
  rw [if_pos hk] at h
  have h2 := List.countP_le_length (p := fun k => if k = k0 then true else p k) (l := List.range n)
  rw [List.length_range] at h2
  omega
