/-! one step: fields, new objects, arrays -/
def zx_isr (t : FieldType) : Bool := match t with
  | .object _ => true
  | .array _ => true
  | _ => false
def zx_fty (r : vw_C) (k : Nat) : FieldType := (parseFieldDescriptor (r.2.1 k).2.2.1).getD .int
def zx_df (d : String) : Nat := if d = "I" then 4 else if d = "J" then 5 else 3
def zx_tyk (d : String) (t : FieldType) : Bool := if d = "I" then decide (t = .int) else if d = "J" then decide (t = .long) else zx_isr t
def zx_clk (r : vw_C) : Bool := (List.range r.2.2).all (fun k => decide (parseFieldDescriptor (r.2.1 k).2.2.1 = some (zx_fty r k)) && zx_tyk (r.2.1 k).2.2.1 (zx_fty r k)) && (List.range r.2.2).all (fun a => (List.range r.2.2).all (fun b => Nat.beq a b || decide ((r.2.1 a).2.1 ≠ (r.2.1 b).2.1)))
theorem zx_clk_ok : (vwCl.all zx_clk) = true := by decide +kernel
def zx_nck (ci : Nat) : Bool := Nat.beq (zx_hd (zx_nc.getD ci 0)) (7 + 16 * ci) && (List.range (zx_ci ci).2.2).all (fun k => Nat.beq (zx_og (zx_nc.getD ci 0) k) (zx_df ((zx_ci ci).2.1 k).2.2.1))
theorem zx_nc_ok : ((List.range 13).all zx_nck) = true := by decide +kernel
theorem zx_vwl : vwCl.length = 13 := by decide +kernel
theorem zx_ci_of {ci : Nat} {r : vw_C} (h : vwCl[ci]? = some r) : zx_ci ci = r := by
  unfold zx_ci
  rw [List.getD_eq_getElem?_getD, h]
  rfl
theorem zx_ci_in {ci : Nat} (h : ci < 13) : vwCl[ci]? = some (zx_ci ci) := by
  have hl : ci < vwCl.length := by rw [zx_vwl]; exact h
  rw [List.getElem?_eq_getElem hl]
  exact congrArg some (zx_ci_of (List.getElem?_eq_getElem hl)).symm
theorem zx_cl_ty {r : vw_C} (h : r ∈ vwCl) : (∀ k, k < r.2.2 → parseFieldDescriptor (r.2.1 k).2.2.1 = some (zx_fty r k)) ∧ (∀ k, k < r.2.2 → zx_tyk (r.2.1 k).2.2.1 (zx_fty r k) = true) ∧ ∀ a, a < r.2.2 → ∀ b, b < r.2.2 → a ≠ b → (r.2.1 a).2.1 ≠ (r.2.1 b).2.1 := by
  obtain ⟨h1, h2⟩ := zx_and_b (List.all_eq_true.mp zx_clk_ok r h)
  refine ⟨fun k hk => of_decide_eq_true (zx_and_b (List.all_eq_true.mp h1 k (List.mem_range.mpr hk))).1, fun k hk => (zx_and_b (List.all_eq_true.mp h1 k (List.mem_range.mpr hk))).2, fun a ha b hb hab => ?_⟩
  have h3 := List.all_eq_true.mp (List.all_eq_true.mp h2 a (List.mem_range.mpr ha)) b (List.mem_range.mpr hb)
  rcases (Bool.or_eq_true _ _).mp h3 with q | q
  · exact absurd (zx_beq_t q) hab
  · exact of_decide_eq_true q
theorem zx_cl_ws {r : vw_C} (h : r ∈ vwCl) : ∀ w ∈ u_ws r.1 r.2.1 r.2.2, w ∈ zx_G := fun w hw => zx_inL h (List.mem_cons_of_mem _ (List.mem_cons_of_mem _ hw))
theorem zx_hd7 {c x : Nat} (h : zx_hd c = 7 + 16 * x) (hx : x < 100) : c % 16 = 7 ∧ zx_cn c = x := by
  have h : c % 1048576 = 7 + 16 * x := h
  refine ⟨by omega, ?_⟩
  show c % 1048576 / 16 = x
  omega
theorem zx_fw_of {q : zx_Q} (hx : q.2.2.1 < 100) {r : vw_C} (hr : zx_ci q.2.2.1 = r) : zx_fw q = .fieldLink (zx_on1 q.1) q.2.1 (r.2.1 q.2.2.2.1).1 (r.2.1 q.2.2.2.1).2.1 (r.2.1 q.2.2.2.1).2.2.1 := by
  subst hr
  unfold zx_fw zx_fd
  rw [show Nat.blt q.2.2.1 100 = true from Nat.ble_eq_true_of_le hx]
  rfl
section ZM
variable {p : Program} {l : Launch} {en : Env} {R : Room} {s : State} {m : MethodId} {args : Array Value} {below : List Frame} {meth : Method} {c : Code} {Q : State → Prop} {D : va_G} {N0 : Nat} {ex : Nat → Nat} {nu : Nat → Int32} {ad0 : List Nat} {M : zx_M} {d : Nat} {nx : zx_N} {cur cur0 : List zx_E} {pc row : Nat} {st : List Nat} {h : zx_H} {e hn ce sl : Nat} {ls : Array Slot} {vs : List Value} {H : Heap} {locs : List Loc}
theorem zx_ref2 {ads : List Nat} {r : Nat} {x : Value} (h : zx_r ads ex nu r x) (hk : Nat.beq (zx_kd r) 2 = true) : ∃ q, ads[r / 16]? = some q ∧ x = .ref q := ((zx_r2 (zx_beq_t hk)).mp h).2
theorem zx_Wd_set {U : State} {h h' : zx_H} {H1 : Heap} {tys : List (ClassId × FieldType)} {ws : va_W} {i a k : Nat} {e0 e1 : va_E} (hW : zx_Wd D N0 ex nu ad0 U H h hn tys ws) (h4 : ws[i]? = some (a, e0)) (g2 : zx_hG h' i = some k) (g3 : ∀ j, j ≠ i → zx_hG h' j = zx_hG h j) (hc : zx_cr (ws.map (fun w => w.1)) ex nu tys k e1) (hP1 : va_P D vwCl (ws.set i (a, e1)) H1) (hD1 : va_D (zx_A N0) (ws.set i (a, e1))) : zx_Wd D N0 ex nu ad0 U H1 h' hn tys (ws.set i (a, e1)) ∧ (ws.set i (a, e1)).map (fun w => w.1) = ws.map (fun w => w.1) := by
  obtain ⟨hK, hP, hD, hn', hH, hp⟩ := hW
  have ha := zx_ads_set (e' := e1) h4
  exact ⟨⟨hK, hP1, hD1, by rw [List.length_set]; exact hn', zx_HR_set hH h4 g2 g3 hc, by rw [ha]; exact hp⟩, ha⟩
theorem zs_get {q : zx_Q} {i : Nat} (hC : zx_Cx p R s m args meth c M d N0 ex nu) (hq : q ∈ zx_FL) (ho : q.1 = M.2.1.1) (hi : q.2.1 = i) (hx : q.2.2.1 < 100) (hy : q.2.2.2.1 < (zx_ci q.2.2.1).2.2) (hd : decode M.1.2.1 pc = .ok (.getfield i, 3)) (hN : zx_Nx p l en R s m args below meth c Q D N0 ex nu ad0 M nx) (hv : ∀ q ∈ cur, zx_ve M q) (hR : zx_Rl D N0 ex nu ad0 M s row st h e hn ls vs H locs) (hk : zh_get nx (7 + 16 * q.2.2.1) q.2.2.2.1 (pc + 3) cur row st h e hn ce sl = true) :
    W p l en R s m args below meth c H locs ce sl Q (F0 m pc ls vs) := by
  obtain ⟨hx0, hb, hml, hown, hts, -⟩ := hC
  unfold zh_get at hk
  obtain ⟨r, st, rfl, hk⟩ := zx_p1_s hk
  obtain ⟨q1, hk⟩ := zx_bft hk
  obtain ⟨k, g1, hk⟩ := zx_hg_s hk
  obtain ⟨q2, hk⟩ := zx_bft hk
  rw [zx_fn_eq] at hk
  obtain ⟨tys, ws, ⟨hK, hP, hD, hn', hH, hp⟩, hS, hl, hL, hT, hE⟩ := hR
  obtain ⟨x, rs, rfl, h1, h2⟩ := zx_SR1 hT
  obtain ⟨ad, h3, rfl⟩ := zx_ref2 h1 q1
  obtain ⟨t7, tcn⟩ := zx_hd7 (zx_beq_t q2) hx
  obtain ⟨ee, h4, h5⟩ := zx_HR_get hH g1 h3 (by omega)
  obtain ⟨fs, rc, rfl, h6, h7, h8⟩ := (zx_c7 t7).mp h5
  rw [tcn] at h4 h6
  have hci := zx_ci_of h6
  have hrm := List.mem_of_getElem? h6
  rw [hci] at hy
  have hlt : q.2.2.2.1 < fs.length := by rw [h7]; exact hy
  refine va_get (own := zx_on1 M.2.1.1) (ref := (rc.2.1 q.2.2.2.1).1) hx0 hb hts (zx_cl_ws hrm) hown hK hP (r / 16) h4 h6 q.2.2.2.1 hy ?_ (fun _ z => z) (List.getElem?_eq_getElem hlt) hd ?_
  · have := hts _ (zx_inF hq)
    rw [zx_fw_of hx hci, ho, hi] at this
    exact this
  · exact hN _ _ _ _ _ _ _ _ _ hv hk _ _ _ _ ⟨tys, ws, ⟨hK, hP, hD, hn', hH, hp⟩, hS, hl, hL, ⟨h8 _ _ (List.getElem?_eq_getElem hlt), h2⟩, hE⟩
theorem zx_put_ty {d : String} {t : FieldType} {x : Value} (ht : zx_tyk d t = true) (hx : zx_kp (zx_fm d) x) : narrow t x = x ∧ fits t x = true := by
  unfold zx_tyk at ht
  unfold zx_fm at hx
  split at ht
  · rename_i hd
    rw [if_pos hd] at hx
    have := of_decide_eq_true ht
    subst this
    obtain ⟨y, rfl⟩ := hx.1 rfl
    exact ⟨rfl, rfl⟩
  · rename_i hd
    rw [if_neg hd] at hx
    split at ht
    · rename_i hd
      rw [if_pos hd] at hx
      have := of_decide_eq_true ht
      subst this
      obtain ⟨y, rfl⟩ := hx.2.2 rfl
      exact ⟨rfl, rfl⟩
    · rename_i hd
      rw [if_neg hd] at hx
      cases t with
      | object n => rcases hx.2.1 rfl with rfl | ⟨q, rfl⟩ <;> exact ⟨rfl, rfl⟩
      | array n => rcases hx.2.1 rfl with rfl | ⟨q, rfl⟩ <;> exact ⟨rfl, rfl⟩
      | _ => cases ht
theorem zs_put {q : zx_Q} {i : Nat} (hC : zx_Cx p R s m args meth c M d N0 ex nu) (hq : q ∈ zx_FL) (ho : q.1 = M.2.1.1) (hi : q.2.1 = i) (hx : q.2.2.1 < 100) (hy : q.2.2.2.1 < (zx_ci q.2.2.1).2.2) (hfin : ((zx_ci q.2.2.1).2.1 q.2.2.2.1).2.2.2 = false ∨ (M.2.1.2.1 = 2 ∧ ((zx_ci q.2.2.1).2.1 q.2.2.2.1).1 = zx_on1 M.2.1.1)) (hd : decode M.1.2.1 pc = .ok (.putfield i, 3)) (hN : zx_Nx p l en R s m args below meth c Q D N0 ex nu ad0 M nx) (hv : ∀ q ∈ cur, zx_ve M q) (hR : zx_Rl D N0 ex nu ad0 M s row st h e hn ls vs H locs) (hk : zh_put nx (7 + 16 * q.2.2.1 + 1048576 * zx_fm ((zx_ci q.2.2.1).2.1 q.2.2.2.1).2.2.1) q.2.2.2.1 (pc + 3) cur row st h e hn ce sl = true) :
    W p l en R s m args below meth c H locs ce sl Q (F0 m pc ls vs) := by
  obtain ⟨hx0, hb, hml, hown, hts, hini, -⟩ := hC
  unfold zh_put at hk
  obtain ⟨v, r, st, rfl, hk⟩ := zx_p2_s hk
  obtain ⟨q1, hk⟩ := zx_bft hk
  obtain ⟨q1, q3⟩ := zx_and_b q1
  obtain ⟨tys, ws, ⟨hK, hP, hD, hn', hH, hp⟩, hS, hl, hL, hT, hE⟩ := hR
  obtain ⟨xv, x, rs, rfl, h0, h1, h2⟩ := zx_SR2 hT
  obtain ⟨v', h0', hk⟩ := zx_no_s hE h0 hk
  obtain ⟨k, g1, hk⟩ := zx_hg_s hk
  obtain ⟨q2, hk⟩ := zx_bft hk
  rw [zx_fn_eq] at hk
  obtain ⟨h', hk, g2, g3⟩ := zx_hs_s hk
  obtain ⟨ad, h3, rfl⟩ := zx_ref2 h1 q1
  generalize hmk : zx_fm ((zx_ci q.2.2.1).2.1 q.2.2.2.1).2.2.1 = mk at q2 q3
  have e1 : zx_hd (7 + 16 * q.2.2.1 + 1048576 * mk) = 7 + 16 * q.2.2.1 := by
    show (7 + 16 * q.2.2.1 + 1048576 * mk) % 1048576 = _
    omega
  have e2 : Nat.shiftRight (7 + 16 * q.2.2.1 + 1048576 * mk) 20 = mk := by
    show (7 + 16 * q.2.2.1 + 1048576 * mk) >>> 20 = mk
    rw [Nat.shiftRight_eq_div_pow]
    show (7 + 16 * q.2.2.1 + 1048576 * mk) / 1048576 = mk
    omega
  rw [e2] at q3
  obtain ⟨t7, tcn⟩ := zx_hd7 ((zx_beq_t q2).trans e1) hx
  obtain ⟨ee, h4, h5⟩ := zx_HR_get hH g1 h3 (by omega)
  obtain ⟨fs, rc, rfl, h6, h7, h8⟩ := (zx_c7 t7).mp h5
  rw [tcn] at h6
  rw [tcn] at h4
  have hci := zx_ci_of h6
  have hrm := List.mem_of_getElem? h6
  rw [hci] at hy hfin hmk
  have hlt : q.2.2.2.1 < fs.length := by rw [h7]; exact hy
  obtain ⟨ty1, ty2, ty3⟩ := zx_cl_ty hrm
  obtain ⟨hnr, hft⟩ := zx_put_ty (ty2 _ hy) (by rw [hmk]; exact zx_kp_of q3 h0)
  have hlink : (Cond.fieldLink (zx_on1 M.2.1.1) i (rc.2.1 q.2.2.2.1).1 (rc.2.1 q.2.2.2.1).2.1 (rc.2.1 q.2.2.2.1).2.2.1).before args s = true := by
    have := hts _ (zx_inF hq)
    rw [zx_fw_of hx hci, ho, hi] at this
    exact this
  have hhd := zx_hd_tg (zx_os_hd k q.2.2.2.1 v')
  have key : ∀ (H1 : Heap) (locs1 : List Loc), va_P D vwCl (ws.set (r / 16) (ad, .inr (q.2.2.1, fs.set q.2.2.2.1 xv))) H1 → va_D (zx_A N0) (ws.set (r / 16) (ad, .inr (q.2.2.1, fs.set q.2.2.2.1 xv))) → va_S (zx_A N0) s.heap H1 locs1 → W p l en R s m args below meth c H1 locs1 ce sl Q (F0 m (pc + 3) ls rs) := by
    intro H1 locs1 hP1 hD1 hS1
    have hcr : zx_cr (ws.map (fun w => w.1)) ex nu tys (zx_os k q.2.2.2.1 v') (.inr (q.2.2.1, fs.set q.2.2.2.1 xv)) := by
      refine (zx_c7 (by rw [show zx_os k q.2.2.2.1 v' % 16 = k % 16 from hhd.1]; exact t7)).mpr ⟨fs.set q.2.2.2.1 xv, rc, by rw [hhd.2, tcn], by rw [hhd.2, tcn]; exact h6, by rw [List.length_set]; exact h7, fun j w hw => ?_⟩
      by_cases hj : j = q.2.2.2.1
      · subst hj
        rw [List.getElem?_set_self hlt] at hw
        cases hw
        rw [show zx_og (zx_os k q.2.2.2.1 v') q.2.2.2.1 = v' from zx_sd_same (by decide) _ _ _ h0'.1]
        exact h0'
      · rw [List.getElem?_set_ne (Ne.symm hj)] at hw
        rw [show zx_og (zx_os k q.2.2.2.1 v') j = zx_og k j from zx_sd_other (by decide) _ _ _ _ h0'.1 hj]
        exact h8 j w hw
    obtain ⟨hW1, ha⟩ := zx_Wd_set (i := r / 16) ⟨hK, hP, hD, hn', hH, hp⟩ h4 g2 g3 hcr hP1 hD1
    exact hN _ _ _ _ _ _ _ _ _ hv hk _ _ _ _ ⟨tys, _, hW1, hS1, hl, by rw [ha]; exact hL, by rw [ha]; exact h2, hE⟩
  by_cases hf : (rc.2.1 q.2.2.2.1).2.2.2 = false
  · exact va_put (own := zx_on1 M.2.1.1) (ref := (rc.2.1 q.2.2.2.1).1) hx0 hb hts (zx_cl_ws hrm) (zx_fty rc) ty1 ty3 hown hK hP hD hS (r / 16) h4 h6 q.2.2.2.1 hy hlink (fun _ z => z) hf (ty1 _ hy) hnr hft hlt hd key
  · rcases hfin with z | ⟨z1, z2⟩
    · exact absurd z hf
    · exact va_putF (own := zx_on1 M.2.1.1) (ref := (rc.2.1 q.2.2.2.1).1) hx0 hb hts (zx_cl_ws hrm) (zx_fty rc) ty1 ty3 hown hK hP hD hS (r / 16) h4 h6 q.2.2.2.1 hy hlink (fun _ z => z) (by simpa using hf) (hini z1) z2 (ty1 _ hy) hnr hft hlt hd key
theorem zs_str {q : zx_Q} {i a : Nat} (hC : zx_Cx p R s m args meth c M d N0 ex nu) (hq : q ∈ zx_FL) (ho : q.1 = M.2.1.1) (hi : q.2.1 = i) (hx : q.2.2.1 = 100 + a) (ha : a < 2) (hd : decode M.1.2.1 pc = .ok (.getfield i, 3)) (hN : zx_Nx p l en R s m args below meth c Q D N0 ex nu ad0 M nx) (hv : ∀ q ∈ cur, zx_ve M q) (hR : zx_Rl D N0 ex nu ad0 M s row st h e hn ls vs H locs) (hk : zh_str nx a (pc + 3) cur row st h e hn ce sl = true) :
    W p l en R s m args below meth c H locs ce sl Q (F0 m pc ls vs) := by
  obtain ⟨hx0, hb, hml, hown, hts, hini, hN0, hX, -⟩ := hC
  unfold zh_str at hk
  obtain ⟨r, st, rfl, hk⟩ := zx_p1_s hk
  obtain ⟨q1, hk⟩ := zx_bft hk
  obtain ⟨tys, ws, hW, hS, hl, hL, hT, hE⟩ := hR
  obtain ⟨x, rs, rfl, h1, h2⟩ := zx_SR1 hT
  have hlink := hts _ (zx_inF hq)
  unfold zx_fw at hlink
  rw [hx, ho, hi] at hlink
  obtain ⟨b, n, w, hbx, hTx, rfl⟩ : ∃ b n w, (∀ ads : List Nat, zx_r ads ex nu (r + 16) (.ref b)) ∧ zx_Tx N0 (ex (r / 16)) b n w s s.heap ∧ x = .ref (ex (r / 16)) := by
    rcases (Bool.or_eq_true _ _).mp q1 with z | z <;> have z := zx_beq_t z <;> subst z
    · exact ⟨ex 2, 125, zx_words, fun ads => (zx_r6 (by decide)).mpr ⟨by decide, rfl⟩, hX.2.2.1, ((zx_r6 (by decide)).mp h1).2⟩
    · exact ⟨ex 4, 11, zx_signs, fun ads => (zx_r6 (by decide)).mpr ⟨by decide, rfl⟩, hX.2.2.2.1, ((zx_r6 (by decide)).mp h1).2⟩
  match a, ha with
  | 0, _ =>
    refine vk_getf (own := zx_on1 M.2.1.1) (ref := "java/lang/String") hx0 hb hTx.2.2.1 hS hown hlink (fun _ z => z) hd ?_
    exact hN _ _ _ _ _ _ _ _ _ hv hk _ _ _ _ ⟨tys, ws, hW, hS, hl, hL, ⟨hbx _, h2⟩, hE⟩
  | 1, _ =>
    refine vk_getf (own := zx_on1 M.2.1.1) (ref := "java/lang/String") hx0 hb hTx.2.1 hS hown hlink (fun _ z => z) hd ?_
    exact hN _ _ _ _ _ _ _ _ _ hv hk _ _ _ _ ⟨tys, ws, hW, hS, hl, hL, ⟨zx_r_0, h2⟩, hE⟩
end ZM
