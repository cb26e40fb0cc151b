/-! from the entry -/
set_option maxHeartbeats 1000000 in
theorem zx_ext {s : State} {b L : Nat} {xs : Nat → Int32} (hts : ∀ w ∈ lw_tbl, w.before #[Value.ref b] s = true) (hX0 : va_X b L xs s s.heap) (hbl : b < s.heap.size) (hgv : (Jvm.Cond.and given_1 narrow_1).before #[Value.ref b] s = true) : ∃ ex : Nat → Nat, zx_X ex zy_n0 s.heap.size s s.heap ∧ ex 0 = b := by
  have hs := flat_of_before _ hgv
  have hA : ∀ a : Nat, a < s.heap.size → ¬ zx_A s.heap.size a := fun a h => Nat.not_le.mpr h
  obtain ⟨w1, w2, w3, w4, w5⟩ := zx_tw1
  obtain ⟨f1, f2⟩ := zx_fl1
  obtain ⟨f3, f4, f5, f6⟩ := zx_fl2
  obtain ⟨f7, f8, f9, f10⟩ := zx_fl3
  have hm : ∀ {i : Nat} {w : Cond}, (flatC (Jvm.Cond.and given_1 narrow_1))[i]? = some w → w.before #[Value.ref b] s = true := fun h => hs _ (List.mem_of_getElem? h)
  have ht : ∀ {k i : Nat} {w : Cond}, (zx_tb k)[i]? = some w → w.before #[Value.ref b] s = true := fun h => hts _ (zx_tb_in _ _ (List.mem_of_getElem? h))
  obtain ⟨a1, b1, e1, T1⟩ := zx_str_of (k := 34) (n := 125) (w := zx_words) (by decide) hA (hm f3) (hm f4) (hm f5) (hm f6) (fun j hj => hs _ (va_run zx_el1 j hj))
  obtain ⟨a2, b2, e2, T2⟩ := zx_str_of (k := 74) (n := 11) (w := zx_signs) (by decide) hA (hm f7) (hm f8) (hm f9) (hm f10) (fun j hj => hs _ (va_run zx_el2 j hj))
  refine ⟨fun i => if i = 0 then b else if i = 1 then a1 else if i = 2 then b1 else if i = 3 then a2 else b2, ⟨vk_R.of (ht w1) e1, vk_R.of (ht w2) e2, T1, T2, va_Zof (ht w3) (hts _ zx_tw2.1) (va_eqi (hm f1)) hA, va_Zqof (ht w4) (hts _ zx_tw2.2) (hm f2) hA, fun z => absurd z (by decide), va_AO.of (ht w5), fun q hq => ?_⟩, rfl⟩
  exact va_Nw.of rfl (hts _ (zx_tb_in _ _ (List.mem_of_getElem? (of_decide_eq_true (List.all_eq_true.mp zx_NL_ok q hq)))))
theorem zx_known {s : State} {args : Array Value} (hG : ∀ w ∈ zx_G, w.before args s = true) : ∃ D : va_G, ∀ (k : Nat) (q : vw_C), vwCl[k]? = some q → u_Kn s q.1 q.2.1 q.2.2 (D.1 k) (D.2 k) := by
  have h0 : ∀ k : Nat, ∃ r : ClassId × (Nat → Nat), ∀ q : vw_C, vwCl[k]? = some q → u_Kn s q.1 q.2.1 q.2.2 r.1 r.2 := by
    intro k
    cases hk : vwCl[k]? with
    | none => exact ⟨((0 : Nat), fun _ => 0), fun q hq => by cases hq⟩
    | some q0 =>
      have hrm := List.mem_of_getElem? hk
      obtain ⟨cC, iS, hKn⟩ := u_known hG (zx_cl_ws hrm) (hG _ (zx_inL hrm List.mem_cons_self))
      exact ⟨(cC, iS), fun q hq => by cases hq; exact hKn⟩
  obtain ⟨f, hf⟩ := Classical.axiomOfChoice h0
  exact ⟨(fun k => (f k).1, fun k => (f k).2), fun k q hq => hf k q hq⟩
set_option maxHeartbeats 1000000 in
theorem whole_start {p : Program} {e : Env} {s : State} {m : MethodId} {below : List Frame} {meth : Method} {c : Code} (l : Launch) {b L : Nat} {xs : Nat → Int32} (hL : L ≤ 3072) (C0 : lw_At p s m meth c b L xs) : W p l e room_1 s m #[Value.ref b] below meth c s.heap [] 0 0 (lw_Z below #[Value.ref b] s) (entryFrame m ([Value.ref b] : List Value).toArray 4) := by
  have C1 := C0
  obtain ⟨hx, hb, hr, hml, hown, hts, hX0, hbl, hlocks, hgv⟩ := C0
  obtain ⟨ex, hXX, hex⟩ := zx_ext hts hX0 hbl hgv
  have hG : ∀ w ∈ zx_G, w.before #[Value.ref b] s = true := fun w hw => hts w (zx_G_ok hw).1
  obtain ⟨D, hKn⟩ := zx_known hG
  have hCd : ∀ d, (d + 1 ≤ room_1.frames ∧ 80 * (d + 1) ≤ room_1.locals ∧ 600000 ≤ room_1.cells ∧ 7302250 ≤ room_1.slots) → zx_Cx p room_1 s m #[Value.ref b] meth c zm_law d s.heap.size ex zy_n0 := fun d hd => ⟨hx, hb, hml, by show s.vm.findClass (zx_on1 13) = _; rw [zx_on13]; exact hown, hG, fun z => absurd z (by decide), Nat.le_refl _, hXX, hd, zx_tw_law⟩
  have hC := hCd 41 zx_room1
  have hRt := zl_ends (below := below) (e := e) (l := l) (m := m) (b := b) (s := s) (D := D) (ex := ex) (nu := zy_n0) hx hb hr hlocks
  have hz1 : zx_Nx p l e room_1 s m #[Value.ref b] below meth c (lw_Z below #[Value.ref b] s) D s.heap.size ex zy_n0 [] zm_law zx_z1 := by
    intro cur pc row st h e' hn ce sl _ hk ls vs H locs hR
    obtain ⟨q1, hk⟩ := zx_and_b (show (Nat.beq pc 18 && (Nat.beq row zx_w1 && (zx_leq st [] && (zx_heq h zx_h1 && (Nat.beq e' zx_e0 && (Nat.beq hn 192 && (Nat.beq ce 192 && Nat.beq sl 15906))))))) = true from hk)
    obtain ⟨q2, hk⟩ := zx_and_b hk
    obtain ⟨q3, hk⟩ := zx_and_b hk
    obtain ⟨q4, hk⟩ := zx_and_b hk
    obtain ⟨q5, hk⟩ := zx_and_b hk
    obtain ⟨q6, hk⟩ := zx_and_b hk
    obtain ⟨q7, q8⟩ := zx_and_b hk
    rw [zx_beq_t q2, zx_leq_s _ _ q3, zx_heq_s _ _ q4, zx_beq_t q5, zx_beq_t q6] at hR
    rw [zx_beq_t q1, zx_beq_t q7, zx_beq_t q8]
    cases vs with
    | cons _ _ =>
      obtain ⟨_, _, _, _, _, _, hT, _⟩ := hR
      exact hT.elim
    | nil => exact zl_18 hL C1 hex (hCd 101 (by decide)) hR
  have hsr : zx_SR [] ex zy_n0 [6] [Value.ref b] := ⟨(zx_r6 (by decide)).mpr ⟨by decide, by rw [← hex]⟩, trivial⟩
  have hl := lv_entry ([.ref b]) (n := 4) (Nat.le_of_ble_eq_true rfl)
  rw [lg_entry_eq]
  refine zx_T_s (f := 20000) (d := 40) hC hRt rfl hz1 11 [] 0 6 [] zx_h0 zx_e0 0 0 0 (fun q hq => by cases hq) zk_init _ _ _ _ ⟨[], [], ⟨⟨hKn, fun k q h => by simp at h⟩, fun k q h => by simp at h, ⟨fun i j p q h => by simp at h, fun k q h => by simp at h⟩, rfl, fun i k hi h15 => ?_, fun i q h => by simp at h⟩, va_S.rf, zx_lv_none hl, fun j hj => ?_, trivial, zx_ev0 zy_n0⟩
  · rw [zx_h0_at hi] at h15
    exact absurd rfl h15
  · obtain ⟨v, g1, g2⟩ := zx_rw_s 0 hsr j hj
    rw [Nat.zero_add] at g1
    exact ⟨v, hl.2.2 (j, v) g1, g2⟩
