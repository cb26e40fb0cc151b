/-! one step of the typed walker: loads, stores, numbers, jumps -/
section ZYS
variable {p : Program} {l : Launch} {en : Env} {R : Room} {s : State} {m : MethodId} {args : Array Value} {below : List Frame} {meth : Method} {c : Code} {Q : State → Prop} {D : va_G} {N0 : Nat} {T : List Nat} {Wm : Nat} {ws0 : va_W} {A0 A : zy_V} {M : zx_M} {d : Nat} {nx : zy_N} {cur cur0 : List zx_E} {pc row : Nat} {st : List Nat} {C : zy_C} {e : Nat} {ls : Array Slot} {vs : List Value} {H : Heap} {locs : List Loc}
theorem zy_kc_or {b v : Nat} (h : (zx_kc b v || (Nat.beq b 146 && zy_ii v)) = true) : zx_kc b v = true ∨ (b = 146 ∧ zy_ii v = true) := by
  rcases (Bool.or_eq_true _ _).mp h with q | q
  · exact Or.inl q
  · obtain ⟨q1, q2⟩ := zx_and_b q
    exact Or.inr ⟨zx_beq_t q1, q2⟩
theorem zy_ii_of {v : Nat} (h : zx_kc 146 v = true) : zy_ii v = true := by
  have q : ∀ t, t < 16 → Nat.beq (Nat.mod (Nat.shiftRight 146 t) 2) 1 = true → Nat.beq (Nat.mod (Nat.shiftRight 63634 t) 2) 1 = true := by decide
  exact q _ (Nat.mod_lt _ (by decide)) h
theorem zy_kp_of {b v : Nat} {x : Value} (h : (zx_kc b v || (Nat.beq b 146 && zy_ii v)) = true) (hr : zy_r A v x) : zx_kp b x := by
  refine ⟨fun e => ?_, fun e => ?_, fun e => ?_⟩
  · subst e
    rcases zy_kc_or h with q | ⟨-, q⟩
    · exact zy_r_i (zy_ii_of q) hr
    · exact zy_r_i q hr
  · subst e
    rcases zy_kc_or h with q | ⟨q, -⟩
    · exact zy_r_r q hr
    · cases q
  · subst e
    rcases zy_kc_or h with q | ⟨q, -⟩
    · exact zy_r_j (zx_kc32 q) hr
    · cases q
theorem zy_kc0 {b v : Nat} (hb : b = 146 ∨ b = 332 ∨ b = 32) (h : (zx_kc b v || (Nat.beq b 146 && zy_ii v)) = true) : v % 16 ≠ 0 := by
  rcases zy_kc_or h with q | ⟨-, q⟩
  · exact zx_kc0 hb q
  · rcases zy_kci q with q | q | q | q | q | q | q | q <;> omega
theorem zz_ld {a b np : Nat} (hb : b = 146 ∨ b = 332 ∨ b = 32) (hN : zy_Nx p l en R s m args below meth c Q D N0 T Wm ws0 A0 M nx) (hA : zy_le A0 A) (hv : ∀ q ∈ cur, zx_ve M q) (hR : zy_Rl D N0 T Wm ws0 A M s row st C e ls vs H locs) (hk : zyh_ld nx a b np cur row st C e = true) :
    ∃ x, ls[a]? = some (.val x) ∧ zx_kp b x ∧ W p l en R s m args below meth c H locs 0 0 Q (F0 m np ls (x :: vs)) := by
  unfold zyh_ld at hk
  rw [zx_fn_eq] at hk
  obtain ⟨q, hk⟩ := zx_bft hk
  obtain ⟨tys, ws, hW, hS, hl, hL, hT, hCR, hE, hU⟩ := hR
  obtain ⟨x, h1, h2⟩ := hL a (zy_kc0 hb q)
  exact ⟨x, h1, zy_kp_of q h2, hN _ _ _ _ _ _ _ hA hv hk _ _ _ _ ⟨tys, ws, hW, hS, hl, hL, ⟨h2, hT⟩, hCR, hE, hU⟩⟩
/-- an int between bounds gets a name -/
theorem zy_nv_s (he : zy_ev A e) {v : Nat} {x : Value} (hr : zy_r A v x) {k : Nat → Nat → Bool} (hk : zy_nv e v k = true) : ∃ (B : zy_V) (v' e' : Nat), zy_le A B ∧ zy_ev B e' ∧ zy_r B v' x ∧ k v' e' = true := by
  unfold zy_nv at hk
  rcases zx_bif hk with ⟨q, hk⟩ | ⟨-, hk⟩
  · have q : v % 16 = 7 := zx_beq_t q
    rw [zx_fn_eq, zx_fn_eq, zx_fn_eq] at hk
    obtain ⟨-, y, rfl, h2, h3⟩ := (zy_r7 q).mp hr
    obtain ⟨B, v', e', g1, g2, g3, -, g4⟩ := zy_ni_s he h2 h3 (Nat.mod_lt _ (by decide)) hk
    exact ⟨B, v', e', g1, g2, g3, g4⟩
  · exact ⟨A, v, e, zy_le_rf A, he, hr, hk⟩
theorem zy_f100 (he : zy_ev A e) : 100 ≤ zy_fr A := he.2.2.2.2.2.2.1
/-- a value of a type gets a name -/
theorem zy_vt_s (he : zy_ev A e) {t : Nat} {x : Value} (hr : zy_r (zy_fz A) t x) {k : Nat → Nat → Bool} (hk : zy_vt e t k = true) : ∃ (B : zy_V) (v' e' : Nat), zy_le A B ∧ zy_ev B e' ∧ zy_r B v' x ∧ k v' e' = true := by
  have hr' := zy_r_le (zy_fz_le (zy_f100 he)) hr
  unfold zy_vt at hk
  rcases zx_bif hk with ⟨q, hk⟩ | ⟨-, hk⟩
  · have q : t % 16 = 7 := zx_beq_t q
    rw [zx_fn_eq, zx_fn_eq, zx_fn_eq] at hk
    obtain ⟨-, y, rfl, h2, h3⟩ := (zy_r7 q).mp hr
    obtain ⟨B, v', e', g1, g2, g3, -, g4⟩ := zy_ni_s he h2 h3 (Nat.mod_lt _ (by decide)) hk
    exact ⟨B, v', e', g1, g2, g3, g4⟩
  rcases zx_bif hk with ⟨q, hk⟩ | ⟨-, hk⟩
  · have q : t % 16 = 5 := zx_beq_t q
    obtain ⟨y, rfl⟩ := zy_r_j q hr
    obtain ⟨B, v', e', g1, g2, g3, -, g4⟩ := zy_nl_s he y hk
    exact ⟨B, v', e', g1, g2, g3, g4⟩
  rcases zx_bif hk with ⟨q, hk⟩ | ⟨-, hk⟩
  · obtain ⟨q, -⟩ := zx_and_b q
    have q : t % 16 = 2 := zx_beq_t q
    obtain ⟨-, i, a, h1, h2, rfl, -⟩ := (zy_r2 q).mp hr'
    obtain ⟨B, v', e', g1, g2, g3, -, -, g4⟩ := zy_nr_s he h1 h2 hk
    exact ⟨B, v', e', g1, g2, g3, g4⟩
  · exact ⟨A, t, e, zy_le_rf A, he, hr', hk⟩
/-- all that is known, with more names -/
theorem zy_Rl_le {B : zy_V} {e' : Nat} {tys : List (ClassId × FieldType)} {ws : va_W} {vs' : List Value} {st' : List Nat} (h : zy_le A B) (hE : zy_ev A e) (hW : zy_Wd D N0 T A s H tys ws) (hL : zy_LR A row ls) (hT : zy_SR A st' vs') (hCR : zy_CR A ws C) (hU : zy_UN (zy_gl A) Wm ws0 ws) : zy_Wd D N0 T B s H tys ws ∧ zy_LR B row ls ∧ zy_SR B st' vs' ∧ zy_CR B ws C ∧ zy_UN (zy_gl B) Wm ws0 ws :=
  ⟨zy_up_all h (zy_f100 hE) hW, zy_LR_le h hL, zy_SR_le h _ _ hT, zy_CR_le h hCR, by rw [zy_gl_le h]; exact hU⟩
theorem zz_st1 {a b np : Nat} (hN : zy_Nx p l en R s m args below meth c Q D N0 T Wm ws0 A0 M nx) (hA : zy_le A0 A) (hv : ∀ q ∈ cur, zx_ve M q) (hR : zy_Rl D N0 T Wm ws0 A M s row st C e ls vs H locs) (hk : zyh_st1 M nx a b np cur row st C e = true) :
    lv_has ls M.1.2.2.1 (zx_lv ls) ∧ a < M.1.2.2.1 ∧ ∃ x r, vs = x :: r ∧ zx_kp b x ∧ ∀ ls' : Array Slot, lv_has ls' M.1.2.2.1 ((a, x) :: (zx_lv ls).filter (fun q => !(q.1 == a) && !(q.1 + 1 == a && q.2.category == 2))) → W p l en R s m args below meth c H locs 0 0 Q (F0 m np ls' r) := by
  unfold zyh_st1 at hk
  obtain ⟨v, st, rfl, hk⟩ := zx_p1_s hk
  obtain ⟨q1, hk⟩ := zx_bft hk
  obtain ⟨tys, ws, hW, hS, hl, hL, hT, hCR, hE, hU⟩ := hR
  obtain ⟨x, r, rfl, h1, h2⟩ := zy_SR1 hT
  obtain ⟨v', h3, hk, -⟩ := zy_no_s hE h1 hk
  obtain ⟨B, v'', e', hAB, hE', h4, hk⟩ := zy_nv_s hE h3 hk
  obtain ⟨q, hk⟩ := zx_bft hk
  obtain ⟨q2, q3⟩ := zx_and_b q
  rw [zx_fn_eq] at hk
  obtain ⟨hW', hL', h2', hCR', hU'⟩ := zy_Rl_le (e' := e') hAB hE hW hL h2 hCR hU
  refine ⟨zx_lv_has hl, zx_blt_t q2, x, r, rfl, zy_kp_of q1 h1, fun ls' hl' => ?_⟩
  exact hN _ _ _ _ _ _ _ (zy_le_tr hA hAB) hv hk _ _ _ _ ⟨tys, ws, hW', hS, zx_lv_none hl', zy_LR_st1 hL' (by simpa using q3) h4 hl', h2', hCR', hE', hU'⟩
theorem zz_st2 {a np : Nat} (hN : zy_Nx p l en R s m args below meth c Q D N0 T Wm ws0 A0 M nx) (hA : zy_le A0 A) (hv : ∀ q ∈ cur, zx_ve M q) (hR : zy_Rl D N0 T Wm ws0 A M s row st C e ls vs H locs) (hk : zyh_st2 M nx a np cur row st C e = true) :
    lv_has ls M.1.2.2.1 (zx_lv ls) ∧ a + 1 < M.1.2.2.1 ∧ ∃ x r, vs = .long x :: r ∧ ∀ ls' : Array Slot, lv_has ls' M.1.2.2.1 ((a, .long x) :: (zx_lv ls).filter (fun q => !(q.1 == a) && (!(q.1 == a + 1) && !(q.1 + 1 == a && q.2.category == 2)))) → W p l en R s m args below meth c H locs 0 0 Q (F0 m np ls' r) := by
  unfold zyh_st2 at hk
  obtain ⟨v, st, rfl, hk⟩ := zx_p1_s hk
  obtain ⟨q, hk⟩ := zx_bft hk
  obtain ⟨q1, q2⟩ := zx_and_b q
  obtain ⟨q2, q3⟩ := zx_and_b q2
  rw [zx_fn_eq] at hk
  obtain ⟨tys, ws, hW, hS, hl, hL, hT, hCR, hE, hU⟩ := hR
  obtain ⟨x, r, rfl, h1, h2⟩ := zy_SR1 hT
  obtain ⟨y, rfl⟩ := zy_r_j (zx_beq_t q1) h1
  refine ⟨zx_lv_has hl, zx_blt_t q2, y, r, rfl, fun ls' hl' => ?_⟩
  exact hN _ _ _ _ _ _ _ hA hv hk _ _ _ _ ⟨tys, ws, hW, hS, zx_lv_none hl', zy_LR_st2 hL (by simpa using q3) h1 hl', h2, hCR, hE, hU⟩
theorem zz_psh1 {v np : Nat} {x : Value} (hN : zy_Nx p l en R s m args below meth c Q D N0 T Wm ws0 A0 M nx) (hA : zy_le A0 A) (hv : ∀ q ∈ cur, zx_ve M q) (hR : zy_Rl D N0 T Wm ws0 A M s row st C e ls vs H locs) (hk : nx cur np row (v :: st) C e = true) (hx : zy_r A v x) :
    W p l en R s m args below meth c H locs 0 0 Q (F0 m np ls (x :: vs)) := by
  obtain ⟨tys, ws, hW, hS, hl, hL, hT, hCR, hE, hU⟩ := hR
  exact hN _ _ _ _ _ _ _ hA hv hk _ _ _ _ ⟨tys, ws, hW, hS, hl, hL, ⟨hx, hT⟩, hCR, hE, hU⟩
theorem zz_psh {a np : Nat} {x : Value} (ha : a ≠ 5) (hN : zy_Nx p l en R s m args below meth c Q D N0 T Wm ws0 A0 M nx) (hA : zy_le A0 A) (hv : ∀ q ∈ cur, zx_ve M q) (hR : zy_Rl D N0 T Wm ws0 A M s row st C e ls vs H locs) {b : Nat} (hk : zyh_psh nx a b np cur row st C e = true) (hx : zy_r A a x) :
    W p l en R s m args below meth c H locs 0 0 Q (F0 m np ls (x :: vs)) := by
  unfold zyh_psh at hk
  rcases zx_bif hk with ⟨q, -⟩ | ⟨-, hk⟩
  · exact absurd (zx_beq_t (zx_and_b q).1) ha
  · exact zz_psh1 hN hA hv hR hk hx
/-- a long constant: which one of the reference's, if it is one -/
theorem zz_pshl {b np : Nat} {x : Int64} (hN : zy_Nx p l en R s m args below meth c Q D N0 T Wm ws0 A0 M nx) (hA : zy_le A0 A) (hv : ∀ q ∈ cur, zx_ve M q) (hR : zy_Rl D N0 T Wm ws0 A M s row st C e ls vs H locs) (hk : zyh_psh nx 5 b np cur row st C e = true) (hx : b < 25 → x = zy_lc b) :
    W p l en R s m args below meth c H locs 0 0 Q (F0 m np ls (.long x :: vs)) := by
  unfold zyh_psh at hk
  rcases zx_bif hk with ⟨q, hk⟩ | ⟨-, hk⟩
  · rw [zx_fn_eq] at hk
    have q := zx_blt_t (zx_and_b q).2
    refine zz_psh1 hN hA hv hR hk ?_
    show zy_r A (5 + 16 * (2 + 2 * b)) (.long x)
    rw [zy_r5 (by omega), show (5 + 16 * (2 + 2 * b)) / 16 = 2 + 2 * b by omega]
    exact ⟨by omega, x, rfl, fun z => by omega, fun _ _ => by rw [show (2 + 2 * b) / 2 - 1 = b by omega]; exact hx q⟩
  · exact zz_psh1 hN hA hv hR hk (zy_r_l x)
theorem zz_inc {a n np : Nat} (hn' : n < 4294967296) (hN : zy_Nx p l en R s m args below meth c Q D N0 T Wm ws0 A0 M nx) (hA : zy_le A0 A) (hv : ∀ q ∈ cur, zx_ve M q) (hR : zy_Rl D N0 T Wm ws0 A M s row st C e ls vs H locs) (hk : zyh_inc M nx a (zx_c n) np cur row st C e = true) :
    lv_has ls M.1.2.2.1 (zx_lv ls) ∧ a < M.1.2.2.1 ∧ ∃ x, (∃ k : Nat, (zx_lv ls)[k]? = some (a, .int x)) ∧ ∀ ls' : Array Slot, lv_has ls' M.1.2.2.1 ((a, .int (x + nI n)) :: (zx_lv ls).filter (fun q => !(q.1 == a) && !(q.1 + 1 == a && q.2.category == 2))) → W p l en R s m args below meth c H locs 0 0 Q (F0 m np ls' vs) := by
  unfold zyh_inc at hk
  obtain ⟨q, hk⟩ := zx_bft hk
  obtain ⟨q2, q3⟩ := zx_and_b q
  rw [zx_fn_eq] at hk
  obtain ⟨q1, hk⟩ := zx_bft hk
  obtain ⟨tys, ws, hW, hS, hl, hL, hT, hCR, hE, hU⟩ := hR
  obtain ⟨x, h1, h2⟩ := hL a (zy_kc0 (b := 146) (Or.inl rfl) (by rw [q1]; cases zx_kc 146 (zx_lg row a) <;> rfl))
  obtain ⟨y, rfl⟩ := zy_r_i q1 h2
  obtain ⟨k, hk1⟩ := List.getElem?_of_mem (zx_lv_mem.mpr h1)
  have fin : ∀ v : Nat, zy_r A v (.int y) → zy_ad e v (zx_c n) (fun v => zx_fn (zx_ls row a v) (fun row => nx cur np row st C e)) = true → ∀ ls' : Array Slot, lv_has ls' M.1.2.2.1 ((a, .int (y + nI n)) :: (zx_lv ls).filter (fun q => !(q.1 == a) && !(q.1 + 1 == a && q.2.category == 2))) → W p l en R s m args below meth c H locs 0 0 Q (F0 m np ls' vs) := by
    intro v h3 hk ls' hl'
    obtain ⟨w, h4, hk⟩ := zy_ad_s hE h3 (zy_r_c hn') hk
    rw [zx_fn_eq] at hk
    exact hN _ _ _ _ _ _ _ hA hv hk _ _ _ _ ⟨tys, ws, hW, hS, zx_lv_none hl', zy_LR_st1 hL (by simpa using q3) h4 hl', hT, hCR, hE, hU⟩
  refine ⟨zx_lv_has hl, zx_blt_t q2, y, ⟨k, hk1⟩, ?_⟩
  rcases zx_bif hk with ⟨-, hk⟩ | ⟨-, hk⟩
  · exact fin _ h2 hk
  · obtain ⟨v', h3, hk⟩ := zy_n1_s hE h2 hk
    exact fin _ h3 hk
theorem zz_bin {np : Nat} {f : Nat → Nat → Nat → (Nat → Bool) → Bool} (hN : zy_Nx p l en R s m args below meth c Q D N0 T Wm ws0 A0 M nx) (hA : zy_le A0 A) (hv : ∀ q ∈ cur, zx_ve M q) (hR : zy_Rl D N0 T Wm ws0 A M s row st C e ls vs H locs) (hk : zyh_bin nx np cur row st C e f = true)
    {P : Int32 → Int32 → Prop} {F : Int32 → Int32 → Int32} (hf : ∀ (a b : Nat) (x y : Int32) (k : Nat → Bool), zy_ev A e → zy_r A a (.int x) → zy_r A b (.int y) → f e a b k = true → P x y ∧ ∃ c : Nat, zy_r A c (.int (F x y)) ∧ k c = true) :
    ∃ x y r, vs = .int y :: .int x :: r ∧ P x y ∧ W p l en R s m args below meth c H locs 0 0 Q (F0 m np ls (.int (F x y) :: r)) := by
  unfold zyh_bin at hk
  obtain ⟨b, a, st, rfl, hk⟩ := zx_p2_s hk
  obtain ⟨q, hk⟩ := zx_bft hk
  obtain ⟨q1, q2⟩ := zx_and_b q
  obtain ⟨tys, ws, hW, hS, hl, hL, hT, hCR, hE, hU⟩ := hR
  obtain ⟨y, x, r, rfl, h1, h2, h3⟩ := zy_SR2 hT
  obtain ⟨y, rfl⟩ := zy_r_i q2 h1
  obtain ⟨x, rfl⟩ := zy_r_i q1 h2
  obtain ⟨b', h4, hk⟩ := zy_n1_s hE h1 hk
  obtain ⟨a', h5, hk⟩ := zy_n1_s hE h2 hk
  obtain ⟨hp, v, h6, hk⟩ := hf _ _ _ _ _ hE h5 h4 hk
  exact ⟨x, y, r, rfl, hp, hN _ _ _ _ _ _ _ hA hv hk _ _ _ _ ⟨tys, ws, hW, hS, hl, hL, ⟨h6, h3⟩, hCR, hE, hU⟩⟩
/-- the rest: or the same instruction once more, with its number's sign known -/
theorem zz_rem {np : Nat} (hN : zy_Nx p l en R s m args below meth c Q D N0 T Wm ws0 A0 M nx) (hA : zy_le A0 A) (hv0 : ∀ q ∈ cur0, zx_ve M q) (hv : ∀ q ∈ cur, zx_ve M q) (hR : zy_Rl D N0 T Wm ws0 A M s row st C e ls vs H locs) (hk : zyh_rem nx np cur0 cur pc row st C e = true) :
    W p l en R s m args below meth c H locs 0 0 Q (F0 m pc ls vs) ∨ ∃ x y r, vs = .int y :: .int x :: r ∧ ¬ y = 0 ∧ W p l en R s m args below meth c H locs 0 0 Q (F0 m np ls (.int (x - x / y * y) :: r)) := by
  unfold zyh_rem at hk
  obtain ⟨b, a, st', rfl, hk⟩ := zx_p2_s hk
  obtain ⟨q, hk⟩ := zx_bft hk
  obtain ⟨q1, q2⟩ := zx_and_b q
  obtain ⟨tys, ws, hW, hS, hl, hL, hT, hCR, hE, hU⟩ := hR
  obtain ⟨y, x, r, rfl, h1, h2, h3⟩ := zy_SR2 hT
  obtain ⟨y, rfl⟩ := zy_r_i q2 h1
  obtain ⟨x, rfl⟩ := zy_r_i q1 h2
  obtain ⟨b', h4, hk⟩ := zy_n1_s hE h1 hk
  obtain ⟨a', h5, hk⟩ := zy_n1_s hE h2 hk
  obtain ⟨lo, up, hk, g1, g2, g3⟩ := zy_iv_s hE h5 hk
  rcases zx_bif hk with ⟨-, hk⟩ | ⟨-, hk⟩
  · obtain ⟨k1, k2⟩ := zx_and_b hk
    left
    rcases Nat.lt_or_ge (zx_bz x) 2147483648 with z | z
    · obtain ⟨e', hE', hk⟩ := zy_rf_s hE h5 g1 (by omega) k1
      exact hN _ _ _ _ _ _ _ hA hv0 hk _ _ _ _ ⟨tys, ws, hW, hS, hl, hL, ⟨h1, h2, h3⟩, hCR, hE', hU⟩
    · obtain ⟨e', hE', hk⟩ := zy_rf_s hE h5 z g2 k2
      exact hN _ _ _ _ _ _ _ hA hv0 hk _ _ _ _ ⟨tys, ws, hW, hS, hl, hL, ⟨h1, h2, h3⟩, hCR, hE', hU⟩
  · right
    obtain ⟨hp, v, h6, hk⟩ := zy_rm_s hE h5 h4 hk
    exact ⟨x, y, r, rfl, hp, hN _ _ _ _ _ _ _ hA hv hk _ _ _ _ ⟨tys, ws, hW, hS, hl, hL, ⟨h6, h3⟩, hCR, hE, hU⟩⟩
theorem zz_un {np : Nat} {f : Nat → Nat → (Nat → Bool) → Bool} {F : Int32 → Int32} (hN : zy_Nx p l en R s m args below meth c Q D N0 T Wm ws0 A0 M nx) (hA : zy_le A0 A) (hv : ∀ q ∈ cur, zx_ve M q) (hR : zy_Rl D N0 T Wm ws0 A M s row st C e ls vs H locs) (hk : zyh_un nx np cur row st C e f = true) (hf : ∀ (a : Nat) (x : Int32) (k : Nat → Bool), zy_ev A e → zy_r A a (.int x) → f e a k = true → ∃ c : Nat, zy_r A c (.int (F x)) ∧ k c = true) :
    ∃ x r, vs = .int x :: r ∧ W p l en R s m args below meth c H locs 0 0 Q (F0 m np ls (.int (F x) :: r)) := by
  unfold zyh_un at hk
  obtain ⟨a, st, rfl, hk⟩ := zx_p1_s hk
  obtain ⟨q, hk⟩ := zx_bft hk
  obtain ⟨tys, ws, hW, hS, hl, hL, hT, hCR, hE, hU⟩ := hR
  obtain ⟨x, r, rfl, h1, h2⟩ := zy_SR1 hT
  obtain ⟨x, rfl⟩ := zy_r_i q h1
  obtain ⟨a', h4, hk⟩ := zy_n1_s hE h1 hk
  obtain ⟨v, h6, hk⟩ := hf _ _ _ hE h4 hk
  exact ⟨x, r, rfl, hN _ _ _ _ _ _ _ hA hv hk _ _ _ _ ⟨tys, ws, hW, hS, hl, hL, ⟨h6, h2⟩, hCR, hE, hU⟩⟩
theorem zz_i2l {np : Nat} (hN : zy_Nx p l en R s m args below meth c Q D N0 T Wm ws0 A0 M nx) (hA : zy_le A0 A) (hv : ∀ q ∈ cur, zx_ve M q) (hR : zy_Rl D N0 T Wm ws0 A M s row st C e ls vs H locs) (hk : zyh_i2l nx np cur row st C e = true) :
    ∃ x r, vs = .int x :: r ∧ ∀ y : Int64, W p l en R s m args below meth c H locs 0 0 Q (F0 m np ls (.long y :: r)) := by
  unfold zyh_i2l at hk
  obtain ⟨a, st, rfl, hk⟩ := zx_p1_s hk
  obtain ⟨q, hk⟩ := zx_bft hk
  obtain ⟨tys, ws, hW, hS, hl, hL, hT, hCR, hE, hU⟩ := hR
  obtain ⟨x, r, rfl, h1, h2⟩ := zy_SR1 hT
  obtain ⟨x, rfl⟩ := zy_r_i q h1
  exact ⟨x, r, rfl, fun y => hN _ _ _ _ _ _ _ hA hv hk _ _ _ _ ⟨tys, ws, hW, hS, hl, hL, ⟨zy_r_l y, h2⟩, hCR, hE, hU⟩⟩
theorem zz_lbin {np : Nat} (hN : zy_Nx p l en R s m args below meth c Q D N0 T Wm ws0 A0 M nx) (hA : zy_le A0 A) (hv : ∀ q ∈ cur, zx_ve M q) (hR : zy_Rl D N0 T Wm ws0 A M s row st C e ls vs H locs) (hk : zyh_lbin nx np cur row st C e = true) :
    ∃ x y r, vs = .long y :: .long x :: r ∧ ∀ z : Int64, W p l en R s m args below meth c H locs 0 0 Q (F0 m np ls (.long z :: r)) := by
  unfold zyh_lbin at hk
  obtain ⟨b, a, st, rfl, hk⟩ := zx_p2_s hk
  obtain ⟨q, hk⟩ := zx_bft hk
  obtain ⟨q1, q2⟩ := zx_and_b q
  obtain ⟨tys, ws, hW, hS, hl, hL, hT, hCR, hE, hU⟩ := hR
  obtain ⟨y, x, r, rfl, h1, h2, h3⟩ := zy_SR2 hT
  obtain ⟨y, rfl⟩ := zy_r_j (zx_beq_t q2) h1
  obtain ⟨x, rfl⟩ := zy_r_j (zx_beq_t q1) h2
  exact ⟨x, y, r, rfl, fun z => hN _ _ _ _ _ _ _ hA hv hk _ _ _ _ ⟨tys, ws, hW, hS, hl, hL, ⟨zy_r_l z, h3⟩, hCR, hE, hU⟩⟩
theorem zz_lshl {np : Nat} (hN : zy_Nx p l en R s m args below meth c Q D N0 T Wm ws0 A0 M nx) (hA : zy_le A0 A) (hv : ∀ q ∈ cur, zx_ve M q) (hR : zy_Rl D N0 T Wm ws0 A M s row st C e ls vs H locs) (hk : zyh_lshl nx np cur row st C e = true) :
    ∃ x y r, vs = .int y :: .long x :: r ∧ ∀ z : Int64, W p l en R s m args below meth c H locs 0 0 Q (F0 m np ls (.long z :: r)) := by
  unfold zyh_lshl at hk
  obtain ⟨b, a, st, rfl, hk⟩ := zx_p2_s hk
  obtain ⟨q, hk⟩ := zx_bft hk
  obtain ⟨q1, q2⟩ := zx_and_b q
  obtain ⟨tys, ws, hW, hS, hl, hL, hT, hCR, hE, hU⟩ := hR
  obtain ⟨y, x, r, rfl, h1, h2, h3⟩ := zy_SR2 hT
  obtain ⟨y, rfl⟩ := zy_r_i q2 h1
  obtain ⟨x, rfl⟩ := zy_r_j (zx_beq_t q1) h2
  exact ⟨x, y, r, rfl, fun z => hN _ _ _ _ _ _ _ hA hv hk _ _ _ _ ⟨tys, ws, hW, hS, hl, hL, ⟨zy_r_l z, h3⟩, hCR, hE, hU⟩⟩
theorem zz_lcmp {np : Nat} (hN : zy_Nx p l en R s m args below meth c Q D N0 T Wm ws0 A0 M nx) (hA : zy_le A0 A) (hv : ∀ q ∈ cur, zx_ve M q) (hR : zy_Rl D N0 T Wm ws0 A M s row st C e ls vs H locs) (hk : zyh_lcmp nx np cur row st C e = true) :
    ∃ x y r, vs = .long y :: .long x :: r ∧ W p l en R s m args below meth c H locs 0 0 Q (F0 m np ls (.int (lg_cmp x y) :: r)) := by
  unfold zyh_lcmp at hk
  obtain ⟨b, a, st, rfl, hk⟩ := zx_p2_s hk
  obtain ⟨q, hk⟩ := zx_bft hk
  obtain ⟨q1, q2⟩ := zx_and_b q
  have q1 : a % 16 = 5 := zx_beq_t q1
  have q2 : b % 16 = 5 := zx_beq_t q2
  obtain ⟨tys, ws, hW, hS, hl, hL, hT, hCR, hE, hU⟩ := hR
  obtain ⟨y, x, r, rfl, h1, h2, h3⟩ := zy_SR2 hT
  obtain ⟨-, y, rfl, -, h1c⟩ := (zy_r5 q2).mp h1
  obtain ⟨-, x, rfl, h2n, -⟩ := (zy_r5 q1).mp h2
  refine ⟨x, y, r, rfl, ?_⟩
  rcases zx_bif hk with ⟨q, hk⟩ | ⟨-, hk⟩
  · obtain ⟨g1, g2⟩ := zx_and_b q
    obtain ⟨g2, g3⟩ := zx_and_b g2
    obtain ⟨g3, g4⟩ := zx_and_b g3
    obtain ⟨g4, g5⟩ := zx_and_b g4
    have g1 : a / 16 % 2 = 1 := zx_beq_t g1
    have g2 : a / 16 / 2 < 64 := zx_blt_t g2
    have g3 : b / 16 % 2 = 0 := zx_beq_t g3
    have g4 : 0 < b / 16 := zx_blt_t g4
    have g5 : b / 16 < 52 := zx_blt_t g5
    rw [zx_fn_eq] at hk
    obtain ⟨ex1, ex2⟩ := h2n g1
    have ey := h1c g3 (by omega)
    refine hN _ _ _ _ _ _ _ hA hv hk _ _ _ _ ⟨tys, ws, hW, hS, hl, hL, ⟨?_, h3⟩, hCR, hE, hU⟩
    show zy_r A ((a / 16 / 2 + 256 * (b / 16 / 2 - 1)) * 16 + 12) _
    have e1 : ((a / 16 / 2 + 256 * (b / 16 / 2 - 1)) * 16 + 12) / 16 = a / 16 / 2 + 256 * (b / 16 / 2 - 1) := by omega
    have e2 : (a / 16 / 2 + 256 * (b / 16 / 2 - 1)) % 256 = a / 16 / 2 := by omega
    have e3 : (a / 16 / 2 + 256 * (b / 16 / 2 - 1)) / 256 = b / 16 / 2 - 1 := by omega
    rw [zy_r12 (by omega), e1, e2, e3, ← ex1, ← ey]
    exact ⟨by omega, rfl, ex2, by omega⟩
  · exact hN _ _ _ _ _ _ _ hA hv hk _ _ _ _ ⟨tys, ws, hW, hS, hl, hL, ⟨zy_r_un _, h3⟩, hCR, hE, hU⟩
theorem zy_cat1 {v : Nat} {x : Value} (h : zy_r A v x) (hk : Nat.beq (zx_kd v) 5 = false) : x.category = 1 := by rw [zy_r_cat h, hk]; rfl
theorem zz_dup {np : Nat} (hN : zy_Nx p l en R s m args below meth c Q D N0 T Wm ws0 A0 M nx) (hA : zy_le A0 A) (hv : ∀ q ∈ cur, zx_ve M q) (hR : zy_Rl D N0 T Wm ws0 A M s row st C e ls vs H locs) (hk : zyh_dup nx np cur row st C e = true) :
    ∃ x r, vs = x :: r ∧ x.category = 1 ∧ W p l en R s m args below meth c H locs 0 0 Q (F0 m np ls (x :: x :: r)) := by
  unfold zyh_dup at hk
  obtain ⟨a, st, rfl, hk⟩ := zx_p1_s hk
  rcases zx_bif hk with ⟨-, hk⟩ | ⟨q, hk⟩
  · cases hk
  obtain ⟨tys, ws, hW, hS, hl, hL, hT, hCR, hE, hU⟩ := hR
  obtain ⟨x, r, rfl, h1, h2⟩ := zy_SR1 hT
  exact ⟨x, r, rfl, zy_cat1 h1 q, hN _ _ _ _ _ _ _ hA hv hk _ _ _ _ ⟨tys, ws, hW, hS, hl, hL, ⟨h1, h1, h2⟩, hCR, hE, hU⟩⟩
theorem zz_pop {np : Nat} (hN : zy_Nx p l en R s m args below meth c Q D N0 T Wm ws0 A0 M nx) (hA : zy_le A0 A) (hv : ∀ q ∈ cur, zx_ve M q) (hR : zy_Rl D N0 T Wm ws0 A M s row st C e ls vs H locs) (hk : zyh_pop nx np cur row st C e = true) :
    ∃ x r, vs = x :: r ∧ x.category = 1 ∧ W p l en R s m args below meth c H locs 0 0 Q (F0 m np ls r) := by
  unfold zyh_pop at hk
  obtain ⟨a, st, rfl, hk⟩ := zx_p1_s hk
  rcases zx_bif hk with ⟨-, hk⟩ | ⟨q, hk⟩
  · cases hk
  obtain ⟨tys, ws, hW, hS, hl, hL, hT, hCR, hE, hU⟩ := hR
  obtain ⟨x, r, rfl, h1, h2⟩ := zy_SR1 hT
  exact ⟨x, r, rfl, zy_cat1 h1 q, hN _ _ _ _ _ _ _ hA hv hk _ _ _ _ ⟨tys, ws, hW, hS, hl, hL, h2, hCR, hE, hU⟩⟩
theorem zz_dup2 {np : Nat} (hN : zy_Nx p l en R s m args below meth c Q D N0 T Wm ws0 A0 M nx) (hA : zy_le A0 A) (hv : ∀ q ∈ cur, zx_ve M q) (hR : zy_Rl D N0 T Wm ws0 A M s row st C e ls vs H locs) (hk : zyh_dup2 nx np cur row st C e = true) :
    ∃ x y r, vs = y :: x :: r ∧ x.category = 1 ∧ y.category = 1 ∧ W p l en R s m args below meth c H locs 0 0 Q (F0 m np ls (y :: x :: y :: x :: r)) := by
  unfold zyh_dup2 at hk
  obtain ⟨b, a, st, rfl, hk⟩ := zx_p2_s hk
  rcases zx_bif hk with ⟨-, hk⟩ | ⟨q, hk⟩
  · cases hk
  obtain ⟨q1, q2⟩ := (Bool.or_eq_false_iff).mp q
  obtain ⟨tys, ws, hW, hS, hl, hL, hT, hCR, hE, hU⟩ := hR
  obtain ⟨y, x, r, rfl, h1, h2, h3⟩ := zy_SR2 hT
  exact ⟨x, y, r, rfl, zy_cat1 h2 q1, zy_cat1 h1 q2, hN _ _ _ _ _ _ _ hA hv hk _ _ _ _ ⟨tys, ws, hW, hS, hl, hL, ⟨h1, h2, h1, h2, h3⟩, hCR, hE, hU⟩⟩
/-- a jump -/
theorem zz_jp {a : Nat} (hN : zy_Nx p l en R s m args below meth c Q D N0 T Wm ws0 A0 M nx) (hA : zy_le A0 A) (hR : zy_Rl D N0 T Wm ws0 A M s row st C e ls vs H locs) (hk : zy_jp M nx a row st C e = true) :
    W p l en R s m args below meth c H locs 0 0 Q (F0 m a ls vs) := by
  obtain ⟨b, hb, hk⟩ := zx_bk_s _ hk
  exact hN _ _ _ _ _ _ _ hA (fun q hq => by cases hq) hk _ _ _ _ hR
theorem zz_icmp {a b np : Nat} (hb : b < 6) (hN : zy_Nx p l en R s m args below meth c Q D N0 T Wm ws0 A0 M nx) (hA : zy_le A0 A) (hv : ∀ q ∈ cur, zx_ve M q) (hR : zy_Rl D N0 T Wm ws0 A M s row st C e ls vs H locs) (hk : zyh_icmp M nx a b np cur row st C e = true) :
    ∃ x y r, vs = .int y :: .int x :: r ∧ (zx_cv b x y → W p l en R s m args below meth c H locs 0 0 Q (F0 m a ls r)) ∧ (¬ zx_cv b x y → W p l en R s m args below meth c H locs 0 0 Q (F0 m np ls r)) := by
  unfold zyh_icmp at hk
  obtain ⟨y0, x0, st, rfl, hk⟩ := zx_p2_s hk
  obtain ⟨q1, q2⟩ := zy_cm_i hk
  obtain ⟨tys, ws, hW, hS, hl, hL, hT, hCR, hE, hU⟩ := hR
  obtain ⟨y, x, r, rfl, h1, h2, h3⟩ := zy_SR2 hT
  obtain ⟨y, rfl⟩ := zy_r_i q2 h1
  obtain ⟨x, rfl⟩ := zy_r_i q1 h2
  obtain ⟨kt, kf⟩ := zy_cm_s hE h2 h1 hk hb
  refine ⟨x, y, r, rfl, fun z => ?_, fun z => ?_⟩
  · obtain ⟨e', hE', kt⟩ := kt z
    exact zz_jp hN hA ⟨tys, ws, hW, hS, hl, hL, h3, hCR, hE', hU⟩ kt
  · obtain ⟨e', hE', kf⟩ := kf z
    exact hN _ _ _ _ _ _ _ hA hv kf _ _ _ _ ⟨tys, ws, hW, hS, hl, hL, h3, hCR, hE', hU⟩
theorem zy_tb_s (K n : Nat) : zy_tb K n = K.testBit n := by
  unfold zy_tb
  rw [Nat.testBit_eq_decide_div_mod_eq]
  show Nat.beq ((K >>> n) % 2) 1 = _
  rw [Nat.shiftRight_eq_div_pow]
  cases h : Nat.beq (K / 2 ^ n % 2) 1
  · have := zx_beq_f h
    exact (decide_eq_false this).symm
  · have := zx_beq_t h
    exact (decide_eq_true this).symm
theorem zy_ev_lg {n F : Nat} (he : zy_ev A e) (hn : n < 64) (hF : F < 18446744073709551616) (h1 : F % 4294967296 ≠ 0 → zy_lu A n = zy_lc (F % 4294967296 - 1)) (h2 : ∀ j, j < 32 → (F / 4294967296).testBit j = true → zy_lu A n ≠ zy_lc j) : zy_ev A (zx_es e (192 + n) F) := by
  obtain ⟨g1, g2, g3, g4, g5, g6, g7, g8⟩ := he
  refine ⟨fun k hk => ?_, fun k hk => ?_, ?_, g4, g5, g6, g7, g8⟩
  · have := hk.2
    rw [zy_eg_other _ _ _ _ hF (by omega)]
    exact g1 k hk
  · by_cases q : k = n
    · subst q
      rw [zy_eg_same _ _ _ hF]
      exact ⟨h1, h2⟩
    · rw [zy_eg_other _ _ _ _ hF (by omega)]
      exact g2 k hk
  · rw [zy_eg_other _ _ _ _ hF (by omega)]
    exact g3
theorem zy_lcs_ok : ((List.range 25).all (fun i => (List.range 25).all (fun j => Nat.beq i j || decide (zy_lc i ≠ zy_lc j)))) = true := by decide +kernel
theorem zy_lc_inj {i j : Nat} (hi : i < 25) (hj : j < 25) (h : zy_lc i = zy_lc j) : i = j := by
  have h1 := List.all_eq_true.mp (List.all_eq_true.mp zy_lcs_ok i (List.mem_range.mpr hi)) j (List.mem_range.mpr hj)
  rcases (Bool.or_eq_true _ _).mp h1 with q | q
  · exact zx_beq_t q
  · exact absurd h (of_decide_eq_true q)
theorem zy_lq_s {n k : Nat} {kt kf : Nat → Bool} (he : zy_ev A e) (hn : n < zy_fl A) (hk25 : k < 25) (hk : zy_lq e n k kt kf = true) : ∃ e', zy_ev A e' ∧ (zy_lu A n = zy_lc k → kt e' = true) ∧ (zy_lu A n ≠ zy_lc k → kf e' = true) := by
  have hn64 : n < 64 := Nat.lt_of_lt_of_le hn he.2.2.2.2.2.1
  obtain ⟨f1, f2⟩ := he.2.1 n hn64
  unfold zy_lq at hk
  rw [zx_fn_eq] at hk
  have hF : zx_eg e (192 + n) < 18446744073709551616 := zx_dg_lt (by decide)
  have hk : (bif Nat.beq (zx_eg e (192 + n) % 4294967296) 0 then
    (bif zy_tb (zx_eg e (192 + n) / 4294967296) k then kf e else (zx_fn (zx_es e (192 + n) (zx_eg e (192 + n) + (k + 1))) kt && zx_fn (zx_es e (192 + n) (zx_eg e (192 + n) ||| 2 ^ (32 + k))) kf)) else
    bif Nat.beq (zx_eg e (192 + n) % 4294967296) (k + 1) then kt e else bif Nat.blt (zx_eg e (192 + n) % 4294967296) 26 then kf e else false) = true := hk
  generalize zx_eg e (192 + n) = F at hk f1 f2 hF
  rcases zx_bif hk with ⟨q, hk⟩ | ⟨q, hk⟩
  · have q := zx_beq_t q
    rcases zx_bif hk with ⟨q1, hk⟩ | ⟨q1, hk⟩
    · rw [zy_tb_s] at q1
      exact ⟨e, he, fun z => absurd z (f2 k (by omega) q1), fun _ => hk⟩
    · obtain ⟨k1, k2⟩ := zx_and_b hk
      rw [zx_fn_eq] at k1 k2
      rw [zy_tb_s] at q1
      by_cases z : zy_lu A n = zy_lc k
      · refine ⟨_, zy_ev_lg he hn64 (F := F + (k + 1)) (by omega) (fun _ => ?_) (fun j hj hb => ?_), fun _ => k1, fun y => absurd z y⟩
        · rw [show (F + (k + 1)) % 4294967296 - 1 = k by omega]
          exact z
        · rw [show (F + (k + 1)) / 4294967296 = F / 4294967296 by omega] at hb
          exact f2 j hj hb
      · have p32 : (4294967296 : Nat) = 2 ^ 32 := by decide
        have p64 : (18446744073709551616 : Nat) = 2 ^ 64 := by decide
        have hdiv : (F ||| 2 ^ (32 + k)) / 4294967296 = F / 4294967296 ||| 2 ^ k := by
          rw [p32, Nat.or_div_two_pow, Nat.pow_add, Nat.mul_div_cancel_left _ (Nat.pow_pos (by decide))]
        have hmod : (F ||| 2 ^ (32 + k)) % 4294967296 = 0 := by
          rw [p32, Nat.or_mod_two_pow, ← p32, q, p32, Nat.pow_add, Nat.mul_mod_right]
          rfl
        have hlt : F ||| 2 ^ (32 + k) < 18446744073709551616 := by
          rw [p64]
          exact Nat.or_lt_two_pow (by rw [← p64]; exact hF) (Nat.pow_lt_pow_right (by decide) (by omega))
        refine ⟨_, zy_ev_lg he hn64 (F := F ||| 2 ^ (32 + k)) hlt (fun y => absurd hmod y) (fun j hj hb => ?_), fun y => absurd y z, fun _ => k2⟩
        rw [hdiv, Nat.testBit_or, Nat.testBit_two_pow] at hb
        rcases (Bool.or_eq_true _ _).mp hb with w | w
        · exact f2 j hj w
        · have w := of_decide_eq_true w
          rw [← w]
          exact z
  · have q := zx_beq_f q
    have f1 := f1 q
    rcases zx_bif hk with ⟨q1, hk⟩ | ⟨q1, hk⟩
    · have q1 := zx_beq_t q1
      rw [q1] at f1
      exact ⟨e, he, fun _ => hk, fun z => absurd (by rw [f1]; rfl) z⟩
    · have q1 := zx_beq_f q1
      obtain ⟨q2, hk⟩ := zx_bft hk
      have q2 := zx_blt_t q2
      refine ⟨e, he, fun z => ?_, fun _ => hk⟩
      exfalso
      have := zy_lc_inj (by omega) hk25 (f1.symm.trans z)
      omega
end ZYS
