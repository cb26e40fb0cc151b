/-! the world behind the constructors, as the typed walker sees it -/
def zw_gl : List Nat := [0, 1, 2, 3, 4, 5, 6, 7, 8, 9, 10, 11, 12, 13, 14, 15, 16, 17, 18, 19, 20, 21, 22, 21, 22, 21, 22, 21, 22, 21, 22, 21, 22, 21, 22, 21, 22, 21, 22, 21, 22, 21, 22, 21, 22, 21, 22, 21, 22, 21, 22, 21, 22, 21, 22, 21, 22, 21, 22, 21, 22, 21, 22, 21, 22, 21, 22, 21, 22, 21, 22, 21, 22, 21, 22, 21, 22, 21, 22, 21, 22, 21, 22, 21, 22, 21, 22, 21, 22, 21, 22, 21, 22, 21, 22, 21, 22, 21, 22, 21, 22, 21, 22, 23, 24, 25, 26, 27, 28, 29, 30, 31, 32, 33, 34, 35, 36, 37, 38, 39, 40, 6, 7, 8, 9, 10, 11, 12, 13, 14, 15, 16, 21, 22, 21, 22, 21, 22, 21, 22, 41, 42, 43, 44, 45, 46, 47, 48, 49, 50, 51, 52, 53, 54, 55, 56, 57, 58, 59, 60, 61, 62, 63, 64, 65, 66, 67, 68, 69, 70, 71, 72, 73, 74, 75, 76, 77, 78, 79, 80, 81, 82, 83, 84, 85, 86, 87, 88, 89, 90, 91, 92]
def zw_rl : List Nat := [0, 0, 1, 2, 3, 4, 5, 17, 18, 19, 20, 103, 104, 105, 106, 107, 108, 109, 110, 111, 112, 113, 114, 115, 116, 117, 118, 119, 120, 140, 141, 142, 143, 144, 145, 146, 147, 148, 149, 150, 151, 152, 153, 154, 155, 156, 157, 158, 159, 160, 161, 162, 163, 164, 165, 166, 167, 168, 169, 170, 171, 172, 173, 174, 175, 176, 177, 178, 179, 180, 181, 182, 183, 184, 185, 186, 187, 188, 189, 190, 191]
def zw_Z (ads : List Nat) (ex : Nat → Nat) : zy_V := ((ads, zw_gl, ex), (fun r => zw_rl.getD r 0, fun _ => 0, fun _ => 0), (1, 0, 100))
def zw_cv (v t : Nat) : Bool := Nat.blt t 4722366482869645213696 && (
  bif Nat.beq (v % 16) 2 then Nat.beq (t % 16) 2 && (decide (zw_gl[v / 16]? = some (t / 16 / 256)) && (Nat.beq (t / 16 % 256) 0 || (Nat.blt (t / 16 % 256) 100 && Nat.beq (zw_rl.getD (t / 16 % 256) 0) (v / 16))))
  else bif Nat.beq (v % 16) 3 then Nat.beq (t % 16) 3 || Nat.beq (t % 16) 8
  else bif Nat.beq (v % 16) 4 then Nat.beq t v || (Nat.beq (t % 16) 7 && (Nat.ble (t / 16 / 4294967296) (zx_bi (v / 16)) && Nat.ble (zx_bi (v / 16)) (t / 16 % 4294967296)))
  else bif Nat.beq (v % 16) 5 then Nat.beq t 5
  else Nat.beq (v % 16) 6 && Nat.beq t v)
def zw_nf (ci : Nat) : Nat := match vwCl[ci]? with
  | some r => r.2.2
  | none => 0
def zw_cc (c t : Nat) : Bool := Nat.beq (zx_cn t) (zx_cn c) && (
  bif Nat.beq (c % 16) 7 then Nat.beq (t % 16) 7 && (List.range (zw_nf (zx_cn c))).all (fun k => zw_cv (zx_og c k) (zx_og t k))
  else bif Nat.blt (c % 16) 3 then (bif Nat.beq (t % 16) 9 then Nat.beq (c % 16) 0 && (List.range (zx_cn c)).all (fun j => zw_cv (zx_c (zx_ig c j)) (zx_og t (j % 16))) else Nat.beq (t % 16) (c % 16 + 3) && (List.range (zx_cn c)).all (fun j => Nat.ble (zy_lo t) (zx_bi (zx_ig c j)) && Nat.ble (zx_bi (zx_ig c j)) (zy_hi t)))
  else bif Nat.beq (c % 16) 6 then Nat.beq (t % 16) 6
  else Nat.beq (c % 16) 8 && (Nat.beq (t % 16) 8 && (List.range (zx_cn c)).all (fun j => (Nat.beq (zx_og c j) 0 && Nat.beq (zx_og t 0 % 16) 8) || zw_cv (zx_og c j) (zx_og t 0))))
def zw_ok (i : Nat) : Bool := match zx_hG zx_h1 i, zw_gl[i]? with
  | some c, some g => (!Nat.beq (c % 16) 15) && zw_cc c (zy_tm zy_T g)
  | _, _ => false
theorem zw_all0 : ((List.range 16).all (fun j => zw_ok (0 + j))) = true := by decide +kernel
theorem zw_all1 : ((List.range 16).all (fun j => zw_ok (16 + j))) = true := by decide +kernel
theorem zw_all2 : ((List.range 16).all (fun j => zw_ok (32 + j))) = true := by decide +kernel
theorem zw_all3 : ((List.range 16).all (fun j => zw_ok (48 + j))) = true := by decide +kernel
theorem zw_all4 : ((List.range 16).all (fun j => zw_ok (64 + j))) = true := by decide +kernel
theorem zw_all5 : ((List.range 16).all (fun j => zw_ok (80 + j))) = true := by decide +kernel
theorem zw_all6 : ((List.range 16).all (fun j => zw_ok (96 + j))) = true := by decide +kernel
theorem zw_all7 : ((List.range 16).all (fun j => zw_ok (112 + j))) = true := by decide +kernel
theorem zw_all8 : ((List.range 16).all (fun j => zw_ok (128 + j))) = true := by decide +kernel
theorem zw_all9 : ((List.range 16).all (fun j => zw_ok (144 + j))) = true := by decide +kernel
theorem zw_all10 : ((List.range 16).all (fun j => zw_ok (160 + j))) = true := by decide +kernel
theorem zw_all11 : ((List.range 16).all (fun j => zw_ok (176 + j))) = true := by decide +kernel
theorem zw_all (i : Nat) (h : i < 192) : zw_ok i = true := by
  have e : i = 16 * (i / 16) + i % 16 := by omega
  have hm : i % 16 ∈ List.range 16 := List.mem_range.mpr (Nat.mod_lt _ (by decide))
  have hk : i / 16 < 12 := by omega
  rw [e]
  generalize i / 16 = k at hk
  match k, hk with
  | 0, _ => exact List.all_eq_true.mp zw_all0 _ hm
  | 1, _ => exact List.all_eq_true.mp zw_all1 _ hm
  | 2, _ => exact List.all_eq_true.mp zw_all2 _ hm
  | 3, _ => exact List.all_eq_true.mp zw_all3 _ hm
  | 4, _ => exact List.all_eq_true.mp zw_all4 _ hm
  | 5, _ => exact List.all_eq_true.mp zw_all5 _ hm
  | 6, _ => exact List.all_eq_true.mp zw_all6 _ hm
  | 7, _ => exact List.all_eq_true.mp zw_all7 _ hm
  | 8, _ => exact List.all_eq_true.mp zw_all8 _ hm
  | 9, _ => exact List.all_eq_true.mp zw_all9 _ hm
  | 10, _ => exact List.all_eq_true.mp zw_all10 _ hm
  | 11, _ => exact List.all_eq_true.mp zw_all11 _ hm
  | (k + 12), h => omega
section ZWR
variable {ads : List Nat} {ex : Nat → Nat} {nu : Nat → Int32} {tys : List (ClassId × FieldType)}
theorem zw_cv_s {v t : Nat} {x : Value} (h : zx_r ads ex nu v x) (hc : zw_cv v t = true) : zy_r (zy_fz (zw_Z ads ex)) t x := by
  unfold zw_cv at hc
  obtain ⟨ht, hc⟩ := zx_and_b hc
  have ht := zx_blt_t ht
  rcases zx_bif hc with ⟨q, hc⟩ | ⟨-, hc⟩
  · have q := zx_beq_t q
    obtain ⟨-, a, h1, h2⟩ := (zx_r2 q).mp h
    obtain ⟨c1, hc⟩ := zx_and_b hc
    obtain ⟨c2, c3⟩ := zx_and_b hc
    have c2 := of_decide_eq_true c2
    refine (zy_r2 (zx_beq_t c1)).mpr ⟨ht, v / 16, a, h1, c2, h2, fun hne => ?_⟩
    rcases (Bool.or_eq_true _ _).mp c3 with c3 | c3
    · exact absurd (zx_beq_t c3) hne
    · obtain ⟨c4, c5⟩ := zx_and_b c3
      have c4 := zx_blt_t c4
      have c5 := zx_beq_t c5
      exact ⟨(if_pos c4).trans c5, c4⟩
  rcases zx_bif hc with ⟨q, hc⟩ | ⟨-, hc⟩
  · obtain ⟨-, h1⟩ := (zx_r3 (zx_beq_t q)).mp h
    rcases (Bool.or_eq_true _ _).mp hc with c | c
    · exact (zy_r3 (zx_beq_t c)).mpr ⟨ht, h1⟩
    · exact (zy_r8 (zx_beq_t c)).mpr ⟨ht, Or.inl h1⟩
  rcases zx_bif hc with ⟨q, hc⟩ | ⟨-, hc⟩
  · have q := zx_beq_t q
    obtain ⟨-, h1, h2⟩ := (zx_r4 q).mp h
    rcases (Bool.or_eq_true _ _).mp hc with c | c
    · rw [zx_beq_t c]
      rw [zx_beq_t c] at ht
      exact (zy_r4 q).mpr ⟨ht, h1, h2⟩
    · obtain ⟨c1, c⟩ := zx_and_b c
      obtain ⟨c2, c3⟩ := zx_and_b c
      refine (zy_r7 (zx_beq_t c1)).mpr ⟨ht, _, h1, ?_, ?_⟩
      · rw [zx_bz_nI _ h2]; exact zx_ble_t c2
      · rw [zx_bz_nI _ h2]; exact zx_ble_t c3
  rcases zx_bif hc with ⟨q, hc⟩ | ⟨-, hc⟩
  · obtain ⟨-, y, h1⟩ := (zx_r5 (zx_beq_t q)).mp h
    rw [zx_beq_t hc, h1]
    exact zy_r_l y
  · obtain ⟨q, c⟩ := zx_and_b hc
    have q := zx_beq_t q
    obtain ⟨-, h1⟩ := (zx_r6 q).mp h
    rw [zx_beq_t c]
    rw [zx_beq_t c] at ht
    exact (zy_r6 q).mpr ⟨ht, h1⟩
theorem zw_cc_s {c t : Nat} {e : va_E} (h : zx_cr ads ex nu tys c e) (hc : zw_cc c t = true) : zy_cr (zy_fz (zw_Z ads ex)) tys t e := by
  unfold zw_cc at hc
  obtain ⟨e1, hc⟩ := zx_and_b hc
  have e1 := zx_beq_t e1
  rcases zx_bif hc with ⟨q, hc⟩ | ⟨-, hc⟩
  · obtain ⟨fs, r, h1, h2, h3, h4⟩ := (zx_c7 (zx_beq_t q)).mp h
    obtain ⟨c1, c2⟩ := zx_and_b hc
    have c2 := List.all_eq_true.mp c2
    refine (zy_c7 (zx_beq_t c1)).mpr ⟨fs, r, by rw [e1]; exact h1, by rw [e1]; exact h2, h3, fun k v hk => zw_cv_s (h4 k v hk) (c2 k (List.mem_range.mpr ?_))⟩
    have hl := (List.getElem?_eq_some_iff.mp hk).1
    unfold zw_nf
    rw [h2]
    show k < r.2.2
    omega
  rcases zx_bif hc with ⟨q, hc⟩ | ⟨-, hc⟩
  · have q := zx_blt_t q
    have hig : ∀ j, zx_ig c j < 4294967296 := fun j => Nat.mod_lt _ (by decide)
    rcases zx_bif hc with ⟨c1, hc⟩ | ⟨-, hc⟩
    · obtain ⟨c2, c3⟩ := zx_and_b hc
      have c3 := List.all_eq_true.mp c3
      obtain ⟨cA, f, h1, h2, h3⟩ := (zx_ck (t := 0) (zx_beq_t c2) (by decide)).mp h
      refine (zy_c9 (zx_beq_t c1)).mpr ⟨cA, f, h1, by rw [e1]; exact h2, fun j hj => ?_⟩
      rw [e1] at hj
      rw [h3 j hj]
      exact zw_cv_s (zx_r_c (ads := ads) (ex := ex) (nu := nu) (hig j)) (c3 j (List.mem_range.mpr hj))
    · obtain ⟨c2, c3⟩ := zx_and_b hc
      have c3 := List.all_eq_true.mp c3
      obtain ⟨cA, f, h1, h2, h3⟩ := (zx_ck (t := c % 16) rfl q).mp h
      refine (zy_cu (zx_beq_t c2) q).mpr ⟨cA, f, h1, by rw [e1]; exact h2, fun j hj => ?_⟩
      rw [e1] at hj
      obtain ⟨c4, c5⟩ := zx_and_b (c3 j (List.mem_range.mpr hj))
      rw [h3 j hj, zx_bz_nI _ (hig j)]
      exact ⟨zx_ble_t c4, zx_ble_t c5⟩
  rcases zx_bif hc with ⟨q, hc⟩ | ⟨-, hc⟩
  · obtain ⟨cA, f, h1, h2⟩ := (zx_c6 (zx_beq_t q)).mp h
    exact (zy_c6 (zx_beq_t hc)).mpr ⟨cA, f, h1, by rw [e1]; exact h2⟩
  · obtain ⟨q, hc⟩ := zx_and_b hc
    obtain ⟨c1, c2⟩ := zx_and_b hc
    have c2 := List.all_eq_true.mp c2
    obtain ⟨cA, f, h1, h2, h3⟩ := (zx_c8 (zx_beq_t q)).mp h
    refine (zy_c8 (zx_beq_t c1)).mpr ⟨cA, f, h1, by rw [e1]; exact h2, fun j hj => ?_⟩
    rw [e1] at hj
    have c3 := c2 j (List.mem_range.mpr hj)
    rcases h3 j hj with ⟨z1, z2⟩ | z
    · rcases (Bool.or_eq_true _ _).mp c3 with c3 | c3
      · obtain ⟨-, c4⟩ := zx_and_b c3
        rw [z2]
        exact (zy_r8 (zx_beq_t c4)).mpr ⟨Nat.mod_lt _ (by decide), Or.inl rfl⟩
      · rw [z1] at c3
        unfold zw_cv at c3
        obtain ⟨-, c3⟩ := zx_and_b c3
        cases c3
    · rcases (Bool.or_eq_true _ _).mp c3 with c3 | c3
      · obtain ⟨c4, -⟩ := zx_and_b c3
        rw [zx_beq_t c4] at z
        exact z.2.elim
      · exact zw_cv_s z c3
variable {ws : va_W}
theorem zw_HR (hl : ws.length = 192) (h : zx_HR (ws.map fun w => w.1) ex nu tys zx_h1 ws) : zy_HR (zw_Z (ws.map fun w => w.1) ex) zy_T tys ws := by
  refine ⟨rfl, fun i g w hw hg => ?_⟩
  have hi : i < 192 := by rw [← hl]; exact (List.getElem?_eq_some_iff.mp hw).1
  have q := zw_all i hi
  unfold zw_ok at q
  have hg : zw_gl[i]? = some g := hg
  rw [hg] at q
  split at q
  · rename_i c g' hc hg'
    obtain ⟨q1, q2⟩ := zx_and_b q
    injection hg' with hg'
    obtain ⟨w', a1, a2⟩ := h i c hc (fun z => by
      rw [z] at q1
      cases q1)
    rw [hw] at a1
    injection a1 with a1
    rw [a1, hg']
    exact zw_cc_s a2 q2
  · cases q
theorem zw_fx : ((List.range 81).all (fun r => Nat.beq r 0 || (decide (zw_gl[zw_rl.getD r 0]? = zy_fg[r]?) && Nat.blt (zw_rl.getD r 0) 192))) = true := by decide +kernel
theorem zw_fl : zy_fg.length = 81 := by decide +kernel
theorem zw_H0 (hl : ads.length = 192) : zy_H0 (zw_Z ads ex) := by
  refine ⟨rfl, rfl, rfl, fun r g h0 h1 hr => ?_⟩
  have hr1 : r < 81 := by rw [← zw_fl]; exact (List.getElem?_eq_some_iff.mp hr).1
  rcases (Bool.or_eq_true _ _).mp (List.all_eq_true.mp zw_fx r (List.mem_range.mpr hr1)) with q | q
  · have := zx_beq_t q
    omega
  · obtain ⟨q1, q2⟩ := zx_and_b q
    have q1 := of_decide_eq_true q1
    have q2 := zx_blt_t q2
    exact ⟨q1.trans hr, _, List.getElem?_eq_getElem (show zw_rl.getD r 0 < ads.length by rw [hl]; exact q2)⟩
theorem zw_uq : (zw_gl.zipIdx.all (fun a => (zy_fg.zip zw_rl).all (fun b => (!Nat.beq a.1 b.1) || Nat.beq a.2 b.2))) = true := by decide +kernel
theorem zw_rll : zw_rl.length = 81 := by decide +kernel
theorem zw_UQ : zy_UQ zy_fg (zw_Z ads ex) := by
  intro r g i h0 h1 hr hg
  have hr1 : r < 81 := by rw [← zw_fl]; exact (List.getElem?_eq_some_iff.mp hr).1
  have hg : zw_gl[i]? = some g := hg
  have m1 : (g, i) ∈ zw_gl.zipIdx := List.mem_of_getElem? (i := i) (by rw [List.getElem?_zipIdx, hg]; simp)
  have e2 : zw_rl[r]? = some (zw_rl.getD r 0) := by
    rw [List.getD_eq_getElem?_getD, List.getElem?_eq_getElem (by rw [zw_rll]; exact hr1)]
    rfl
  have m2 : (g, zw_rl.getD r 0) ∈ zy_fg.zip zw_rl := List.mem_of_getElem? (i := r) (List.getElem?_zip_eq_some.mpr ⟨hr, e2⟩)
  have q := List.all_eq_true.mp (List.all_eq_true.mp zw_uq _ m1) _ m2
  rcases (Bool.or_eq_true _ _).mp q with q | q
  · have q : (!Nat.beq g g) = true := q
    rw [Nat.beq_refl] at q
    cases q
  · exact zx_beq_t q
/-- an int of an object, as it was made -/
def zw_fi (i f : Nat) : Option Nat := match zx_hG zx_h1 i with
  | some c => if c % 16 = 7 ∧ f < zw_nf (zx_cn c) ∧ zx_og c f % 16 = 4 then some (zx_og c f / 16) else none
  | none => none
theorem zw_int (h : zx_HR (ws.map fun w => w.1) ex nu tys zx_h1 ws) {i f n : Nat} (hk : zw_fi i f = some n) : zy_rd ws i f 0 = some (.int (nI n)) := by
  unfold zw_fi at hk
  split at hk
  · rename_i c hc
    split at hk
    · rename_i q
      obtain ⟨q1, q2, q3⟩ := q
      injection hk with hk
      obtain ⟨w, a1, a2⟩ := h i c hc (by omega)
      obtain ⟨fs, r, h1, h2, h3, h4⟩ := (zx_c7 q1).mp a2
      unfold zw_nf at q2
      rw [h2] at q2
      have q2 : f < r.2.2 := q2
      have hf : f < fs.length := by omega
      have hv := h4 f _ (List.getElem?_eq_getElem hf)
      obtain ⟨-, e, -⟩ := (zx_r4 q3).mp hv
      obtain ⟨w1, w2⟩ := w
      have h1 : w2 = .inr (zx_cn c, fs) := h1
      rw [h1] at a1
      rw [zy_rd_obj a1, List.getElem?_eq_getElem hf, e, hk]
    · cases hk
  · cases hk
theorem zw_i1 : zw_fi 140 52 = some 0 ∧ zw_fi 140 53 = some 0 ∧ zw_fi 140 69 = some 0 ∧ zw_fi 104 5 = some 0 := by decide +kernel
theorem zw_i2 : zx_hG zx_h1 167 = some 34 := by decide +kernel
theorem zw_oil (h : zx_HR (ws.map fun w => w.1) ex nu tys zx_h1 ws) {b : Nat} {y : Int32} (hy : zy_rd ws 167 0 b = some (.int y)) : y = 0 := by
  obtain ⟨w, a1, a2⟩ := h 167 34 zw_i2 (by decide)
  obtain ⟨cA, f, h1, h2, h3⟩ := (zx_ck (c := 34) (t := 2) rfl (by decide)).mp a2
  obtain ⟨w1, w2⟩ := w
  have h2 : w2 = .inl (cA, zx_cn 34, .inl f) := h2
  rw [h2] at a1
  rw [zy_rd_at a1] at hy
  have hy : (if 0 = 0 ∧ b < 2 then some (Value.int (f b)) else none) = some (.int y) := hy
  split at hy
  · rename_i q
    injection hy with hy
    injection hy with hy
    rw [← hy, h3 b q.2]
    match b, q.2 with
    | 0, _ => decide +kernel
    | 1, _ => decide +kernel
    | (b + 2), z => omega
  · cases hy
theorem zw_I (hl : ws.length = 192) (h : zx_HR (ws.map fun w => w.1) ex nu tys zx_h1 ws) : zL_I (zw_Z (ws.map fun w => w.1) ex) ws := by
  obtain ⟨i1, i2, i3, i4⟩ := zw_i1
  refine ⟨?_, ⟨0, 0, by decide, zw_int h i1, zw_int h i2⟩, nI 0, zw_int h i3, zw_int h i4⟩
  intro i x _ _ iH iF iT iC y f t g1 _ _ _ r1 _ _ hne
  exfalso
  apply hne
  have e : iH = 167 := zw_UQ (ads := ws.map fun w => w.1) (ex := ex) 56 68 iH (by decide) (by decide) rfl g1
  rw [e] at r1
  exact zw_oil h r1
end ZWR
