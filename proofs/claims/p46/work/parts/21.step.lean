/-! one step of the walker is one of the machine -/
section ZZ
variable {p : Program} {l : Launch} {en : Env} {R : Room} {s : State} {m : MethodId} {args : Array Value} {below : List Frame} {meth : Method} {c : Code} {Q : State → Prop} {D : va_G} {N0 : Nat} {ex : Nat → Nat} {nu : Nat → Int32} {ad0 : List Nat} {M : zx_M} {d : Nat} {K : zx_K} {nx : zx_N} {call : zx_M → zx_K → zx_N} {cur cur0 : List zx_E} {pc row : Nat} {st : List Nat} {h : zx_H} {e hn ce sl : Nat} {ls : Array Slot} {vs : List Value} {H : Heap} {locs : List Loc}
theorem zx_nb {v : Int32} (h1 : 2147483648 ≤ zx_bz v) (h2 : zx_bz v ≤ 2147483649) : narrow .boolean (.int v) = .int v := by
  have h3 : v = nI (zx_bi (zx_bz v)) := zx_of_bz v
  rcases (show zx_bz v = 2147483648 ∨ zx_bz v = 2147483649 by omega) with q | q <;> rw [q] at h3 <;> rw [h3] <;> decide
theorem zx_nc' {v : Int32} (h1 : 2147483648 ≤ zx_bz v) (h2 : zx_bz v ≤ 2147549183) : narrow .char (.int v) = .int v := by
  have h3 : v = nI (zx_bi (zx_bz v)) := zx_of_bz v
  rw [h3]
  refine (pk_charN ?_).1
  rw [zx_bi_eq]
  omega
theorem zx_ny {v : Int32} (h1 : 2147483520 ≤ zx_bz v) (h2 : zx_bz v ≤ 2147483775) : narrow .byte (.int v) = .int v := by
  show Value.int v.toInt8.toInt32 = .int v
  congr 1
  apply Int32.toInt_inj.1
  have h3 := zx_bz_int v
  rw [Int8.toInt_toInt32, Int32.toInt_toInt8]
  show v.toInt.bmod 256 = v.toInt
  simp only [Int.bmod_def]
  split <;> omega
theorem zx_rt_s {ads : List Nat} {v : Nat} {x : Value} {ins : Instr} (hE : zx_ev nu e) (hx : zx_r ads ex nu v x) (hrk : zx_rk M.1.2.2.2 = M.2.1.2.2.2.2.2) (hk : zx_rt M.2.1.2.2.2.2.2 e v = true) (hi : (ins = .ireturn ∧ 1 ≤ M.2.1.2.2.2.2.2 ∧ M.2.1.2.2.2.2.2 ≤ 4) ∨ (ins = .lreturn ∧ M.2.1.2.2.2.2.2 = 5) ∨ (ins = .areturn ∧ M.2.1.2.2.2.2.2 = 6)) : zx_ri M.1.2.2.2 ins [x] := by
  generalize hr : M.1.2.2.2 = ret at hrk ⊢
  generalize M.2.1.2.2.2.2.2 = rk at hrk hk hi
  unfold zx_rt at hk
  rcases hi with ⟨rfl, h1, h4⟩ | ⟨rfl, rfl⟩ | ⟨rfl, rfl⟩
  · have hint : zx_ii v = true ∧ ∀ y : Int32, x = .int y → ∃ ty, ret = some ty ∧ narrow ty (.int y) = .int y := by
      rcases zx_bif hk with ⟨q, hk2⟩ | ⟨q, hk⟩
      · have q := zx_beq_t q
        subst q
        refine ⟨hk2, fun y hy => ⟨.int, ?_, rfl⟩⟩
        unfold zx_rk at hrk
        split at hrk <;> first | rfl | cases hrk
      rcases zx_bif hk with ⟨q, hk2⟩ | ⟨q, hk⟩
      · have q := zx_beq_t q
        subst q
        refine ⟨zx_iv_i hk2, fun y hy => ⟨.boolean, ?_, ?_⟩⟩
        · unfold zx_rk at hrk
          split at hrk <;> first | rfl | cases hrk
        · subst hy
          obtain ⟨lo, up, hk3, a1, a2, -, -⟩ := zx_iv_s hE hx hk2
          obtain ⟨b1, b2⟩ := zx_and_b hk3
          have b1 := zx_ble_t b1
          have b2 := zx_ble_t b2
          exact zx_nb (by omega) (by omega)
      rcases zx_bif hk with ⟨q, hk2⟩ | ⟨q, hk⟩
      · have q := zx_beq_t q
        subst q
        refine ⟨zx_iv_i hk2, fun y hy => ⟨.char, ?_, ?_⟩⟩
        · unfold zx_rk at hrk
          split at hrk <;> first | rfl | cases hrk
        · subst hy
          obtain ⟨lo, up, hk3, a1, a2, -, -⟩ := zx_iv_s hE hx hk2
          obtain ⟨b1, b2⟩ := zx_and_b hk3
          have b1 := zx_ble_t b1
          have b2 := zx_ble_t b2
          exact zx_nc' (by omega) (by omega)
      rcases zx_bif hk with ⟨q, hk2⟩ | ⟨q, hk⟩
      · have q := zx_beq_t q
        subst q
        refine ⟨zx_iv_i hk2, fun y hy => ⟨.byte, ?_, ?_⟩⟩
        · unfold zx_rk at hrk
          split at hrk <;> first | rfl | cases hrk
        · subst hy
          obtain ⟨lo, up, hk3, a1, a2, -, -⟩ := zx_iv_s hE hx hk2
          obtain ⟨b1, b2⟩ := zx_and_b hk3
          have b1 := zx_ble_t b1
          have b2 := zx_ble_t b2
          exact zx_ny (by omega) (by omega)
      rcases zx_bif hk with ⟨q, hk⟩ | ⟨q, hk⟩
      · have q := zx_beq_t q
        omega
      · obtain ⟨q, hk⟩ := zx_bft hk
        have q := zx_beq_t q
        omega
    obtain ⟨y, rfl⟩ := zx_r_i hint.1 hx
    obtain ⟨ty, t1, t2⟩ := hint.2 y rfl
    exact Or.inr (Or.inl ⟨ty, y, t1, rfl, rfl, t2⟩)
  · have hk : Nat.beq v 5 = true := hk
    obtain ⟨y, rfl⟩ := zx_r_j (by rw [zx_beq_t hk]) hx
    refine Or.inr (Or.inr (Or.inl ⟨y, ?_, rfl, rfl⟩))
    unfold zx_rk at hrk
    split at hrk <;> first | rfl | cases hrk
  · have hk : zx_kc 332 v = true := hk
    refine Or.inr (Or.inr (Or.inr ?_))
    unfold zx_rk at hrk
    split at hrk
    all_goals first | cases hrk | skip
    · exact ⟨_, x, rfl, Or.inl ⟨_, rfl⟩, rfl, rfl, zx_r_r hk hx⟩
    · exact ⟨_, x, rfl, Or.inr ⟨_, rfl⟩, rfl, rfl, zx_r_r hk hx⟩
theorem zs_ret {ins : Instr} (hRt : zx_Rt p l en R s m args below meth c Q D N0 ex nu ad0 M K) (hrk : zx_rk M.1.2.2.2 = M.2.1.2.2.2.2.2) (hi : (ins = .ireturn ∧ 1 ≤ M.2.1.2.2.2.2.2 ∧ M.2.1.2.2.2.2.2 ≤ 4) ∨ (ins = .lreturn ∧ M.2.1.2.2.2.2.2 = 5) ∨ (ins = .areturn ∧ M.2.1.2.2.2.2.2 = 6)) (hd : decode M.1.2.1 pc = .ok (ins, 1)) (hR : zx_Rl D N0 ex nu ad0 M s row st h e hn ls vs H locs) (hk : zh_ret M K st h e hn ce sl = true) :
    W p l en R s m args below meth c H locs ce sl Q (F0 m pc ls vs) := by
  unfold zh_ret at hk
  obtain ⟨v, t, rfl, hk⟩ := zx_p1_s hk
  cases t with
  | cons a b => cases hk
  | nil =>
    have hk : zx_no e v (fun v => bif zx_rt M.2.1.2.2.2.2.2 e v && (Nat.ble ce M.2.1.2.2.2.1 && Nat.ble sl M.2.1.2.2.2.2.1) then K [v] h e hn else false) = true := hk
    obtain ⟨tys, ws, hW, hS, hl, hL, hT, hE⟩ := hR
    obtain ⟨x, rs, rfl, h1, h2⟩ := zx_SR1 hT
    cases rs with
    | cons _ _ => exact h2.elim
    | nil =>
      obtain ⟨v', h3, hk⟩ := zx_no_s hE h1 hk
      obtain ⟨q, hk⟩ := zx_bft hk
      obtain ⟨q1, q2⟩ := zx_and_b q
      obtain ⟨q2, q3⟩ := zx_and_b q2
      exact hRt _ _ _ _ _ _ _ _ _ _ _ _ _ hd (zx_rt_s hE h3 hrk q1 hi) hk (zx_ble_t q2) (zx_ble_t q3) ⟨tys, ws, hW, hS, hl, hL, ⟨h3, trivial⟩, hE⟩
theorem zs_rtv (hRt : zx_Rt p l en R s m args below meth c Q D N0 ex nu ad0 M K) (hrk : zx_rk M.1.2.2.2 = M.2.1.2.2.2.2.2) (hd : decode M.1.2.1 pc = .ok (.return_, 1)) (hR : zx_Rl D N0 ex nu ad0 M s row st h e hn ls vs H locs) (hk : zh_rtv M K st h e hn ce sl = true) :
    W p l en R s m args below meth c H locs ce sl Q (F0 m pc ls vs) := by
  cases st with
  | cons a b => cases hk
  | nil =>
    have hk : (bif Nat.beq M.2.1.2.2.2.2.2 0 && (Nat.ble ce M.2.1.2.2.2.1 && Nat.ble sl M.2.1.2.2.2.2.1) then K [] h e hn else false) = true := hk
    obtain ⟨q, hk⟩ := zx_bft hk
    obtain ⟨q1, q2⟩ := zx_and_b q
    obtain ⟨q2, q3⟩ := zx_and_b q2
    obtain ⟨tys, ws, hW, hS, hl, hL, hT, hE⟩ := hR
    cases vs with
    | cons _ _ => exact hT.elim
    | nil =>
      refine hRt _ _ _ _ _ _ _ _ _ _ _ _ _ hd (Or.inl ⟨?_, rfl, rfl⟩) hk (zx_ble_t q2) (zx_ble_t q3) ⟨tys, ws, hW, hS, hl, hL, trivial, hE⟩
      rw [zx_beq_t q1] at hrk
      generalize M.1.2.2.2 = ret at hrk ⊢
      unfold zx_rk at hrk
      split at hrk <;> first | rfl | cases hrk
theorem zx_tps_off (d : Int) : ∀ (offs : List Int) (lo x : Int), (∀ (j : Nat), offs.length ≤ j → x ≠ lo + (j : Int) ∨ True) → ((x < lo ∨ lo + (offs.length : Int) ≤ x) → Op.lookupswitch.offset (zx_tps lo offs) d x = d) ∧ (lo ≤ x → x < lo + (offs.length : Int) → offs[(x - lo).toNat]? = some (Op.lookupswitch.offset (zx_tps lo offs) d x)) := by
  have key : ∀ (offs : List Int) (lo : Int), zx_tps lo offs = match offs with
      | [] => []
      | o :: r => (lo, o) :: zx_tps (lo + 1) r := by
    intro offs lo
    cases offs with
    | nil => rfl
    | cons o r =>
      unfold zx_tps
      rw [List.length_cons, List.range_succ_eq_map, List.map_cons, List.map_map]
      show (lo + ((0 : Nat) : Int), o) :: _ = (lo, o) :: _
      congr 1
      · congr 1
        omega
      · apply List.map_congr_left
        intro j _
        show (lo + ((j + 1 : Nat) : Int), (o :: r).getD (j + 1) 0) = (lo + 1 + (j : Int), r.getD j 0)
        congr 1
        omega
  intro offs
  induction offs with
  | nil =>
    intro lo x _
    rw [key]
    exact ⟨fun _ => rfl, fun h1 h2 => by simp at h2; omega⟩
  | cons o r ih =>
    intro lo x _
    rw [key]
    show _ ∧ _
    simp only
    rw [Op.lookupswitch.offset_cons]
    obtain ⟨i1, i2⟩ := ih (lo + 1) x (fun _ _ => Or.inr trivial)
    rw [List.length_cons]
    refine ⟨fun hx => ?_, fun h1 h2 => ?_⟩
    · rw [if_neg (by omega)]
      exact i1 (by omega)
    · by_cases hx : lo = x
      · rw [if_pos hx, show (x - lo).toNat = 0 by omega]
        rfl
      · rw [if_neg hx, show (x - lo).toNat = (x - (lo + 1)).toNat + 1 by omega]
        exact i2 (by omega) (by omega)
theorem zx_le1_s {b : Bool} {r r' : Nat × Nat × Nat} (h : zx_le1 b r = some r') : b = true ∧ r = r' := by
  unfold zx_le1 at h
  split at h
  · rename_i hb; exact ⟨hb, Option.some.inj h⟩
  · cases h
end ZZ
