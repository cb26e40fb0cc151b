/-! one step: loads, stores, numbers, jumps -/
section ZS
variable {p : Program} {l : Launch} {en : Env} {R : Room} {s : State} {m : MethodId} {args : Array Value} {below : List Frame} {meth : Method} {c : Code} {Q : State → Prop} {D : va_G} {N0 : Nat} {ex : Nat → Nat} {nu : Nat → Int32} {ad0 : List Nat} {M : zx_M} {d : Nat} {nx : zx_N} {cur : List zx_E} {pc row : Nat} {st : List Nat} {h : zx_H} {e hn ce sl : Nat} {ls : Array Slot} {vs : List Value} {H : Heap} {locs : List Loc}
theorem zx_SR1 {ads : List Nat} {a : Nat} {t : List Nat} {vs : List Value} (h : zx_SR ads ex nu (a :: t) vs) : ∃ x r, vs = x :: r ∧ zx_r ads ex nu a x ∧ zx_SR ads ex nu t r := by
  cases vs with
  | nil => exact h.elim
  | cons x r => exact ⟨x, r, rfl, h.1, h.2⟩
theorem zx_SR2 {ads : List Nat} {a b : Nat} {t : List Nat} {vs : List Value} (h : zx_SR ads ex nu (a :: b :: t) vs) : ∃ x y r, vs = x :: y :: r ∧ zx_r ads ex nu a x ∧ zx_r ads ex nu b y ∧ zx_SR ads ex nu t r := by
  obtain ⟨x, r, rfl, h1, h2⟩ := zx_SR1 h
  obtain ⟨y, r, rfl, h3, h4⟩ := zx_SR1 h2
  exact ⟨x, y, r, rfl, h1, h3, h4⟩
theorem zx_SR3 {ads : List Nat} {a b k : Nat} {t : List Nat} {vs : List Value} (h : zx_SR ads ex nu (a :: b :: k :: t) vs) : ∃ x y z r, vs = x :: y :: z :: r ∧ zx_r ads ex nu a x ∧ zx_r ads ex nu b y ∧ zx_r ads ex nu k z ∧ zx_SR ads ex nu t r := by
  obtain ⟨x, y, r, rfl, h1, h2, h3⟩ := zx_SR2 h
  obtain ⟨z, r, rfl, h4, h5⟩ := zx_SR1 h3
  exact ⟨x, y, z, r, rfl, h1, h2, h4, h5⟩
theorem zx_kc0 {b v : Nat} (hb : b = 146 ∨ b = 332 ∨ b = 32) (h : zx_kc b v = true) : v % 16 ≠ 0 := by
  rcases hb with rfl | rfl | rfl
  · rcases zx_kc146 h with q | q | q <;> omega
  · rcases zx_kc332 h with q | q | q | q <;> omega
  · have := zx_kc32 h; omega
/-- what kinds the masks name -/
def zx_kp (b : Nat) (x : Value) : Prop := (b = 146 → ∃ y, x = .int y) ∧ (b = 332 → x = .null ∨ ∃ q, x = .ref q) ∧ (b = 32 → ∃ y, x = .long y)
theorem zx_kp_of {ads : List Nat} {b v : Nat} {x : Value} (h : zx_kc b v = true) (hr : zx_r ads ex nu v x) : zx_kp b x := ⟨fun e => by subst e; exact zx_r_i h hr, fun e => by subst e; exact zx_r_r h hr, fun e => by subst e; exact zx_r_j (zx_kc32 h) hr⟩
theorem zs_ld {a b np : Nat} (hb : b = 146 ∨ b = 332 ∨ b = 32) (hN : zx_Nx p l en R s m args below meth c Q D N0 ex nu ad0 M nx) (hv : ∀ q ∈ cur, zx_ve M q) (hR : zx_Rl D N0 ex nu ad0 M s row st h e hn ls vs H locs) (hk : zh_ld nx a b np cur row st h e hn ce sl = true) :
    ∃ x, ls[a]? = some (.val x) ∧ zx_kp b x ∧ W p l en R s m args below meth c H locs ce sl Q (F0 m np ls (x :: vs)) := by
  unfold zh_ld at hk
  rw [zx_fn_eq] at hk
  obtain ⟨q, hk⟩ := zx_bft hk
  obtain ⟨tys, ws, hW, hS, hl, hL, hT, hE⟩ := hR
  obtain ⟨x, h1, h2⟩ := hL a (zx_kc0 hb q)
  exact ⟨x, h1, zx_kp_of q h2, hN _ _ _ _ _ _ _ _ _ hv hk _ _ _ _ ⟨tys, ws, hW, hS, hl, hL, ⟨h2, hT⟩, hE⟩⟩
theorem zs_st1 {a b np : Nat} (hN : zx_Nx p l en R s m args below meth c Q D N0 ex nu ad0 M nx) (hv : ∀ q ∈ cur, zx_ve M q) (hR : zx_Rl D N0 ex nu ad0 M s row st h e hn ls vs H locs) (hk : zh_st1 M nx a b np cur row st h e hn ce sl = true) :
    lv_has ls M.1.2.2.1 (zx_lv ls) ∧ a < M.1.2.2.1 ∧ ∃ x r, vs = x :: r ∧ zx_kp b x ∧ ∀ ls' : Array Slot, lv_has ls' M.1.2.2.1 ((a, x) :: (zx_lv ls).filter (fun q => !(q.1 == a) && !(q.1 + 1 == a && q.2.category == 2))) → W p l en R s m args below meth c H locs ce sl Q (F0 m np ls' r) := by
  unfold zh_st1 at hk
  obtain ⟨v, st, rfl, hk⟩ := zx_p1_s hk
  obtain ⟨q, hk⟩ := zx_bft hk
  obtain ⟨q1, q2⟩ := zx_and_b q
  obtain ⟨q2, q3⟩ := zx_and_b q2
  rw [zx_fn_eq] at hk
  obtain ⟨tys, ws, hW, hS, hl, hL, hT, hE⟩ := hR
  obtain ⟨x, r, rfl, h1, h2⟩ := zx_SR1 hT
  refine ⟨zx_lv_has hl, zx_blt_t q2, x, r, rfl, zx_kp_of q1 h1, fun ls' hl' => ?_⟩
  exact hN _ _ _ _ _ _ _ _ _ hv hk _ _ _ _ ⟨tys, ws, hW, hS, zx_lv_none hl', zx_LR_st1 hL (by simpa using q3) h1 hl', h2, hE⟩
theorem zs_st2 {a np : Nat} (hN : zx_Nx p l en R s m args below meth c Q D N0 ex nu ad0 M nx) (hv : ∀ q ∈ cur, zx_ve M q) (hR : zx_Rl D N0 ex nu ad0 M s row st h e hn ls vs H locs) (hk : zh_st2 M nx a np cur row st h e hn ce sl = true) :
    lv_has ls M.1.2.2.1 (zx_lv ls) ∧ a + 1 < M.1.2.2.1 ∧ ∃ x r, vs = .long x :: r ∧ ∀ ls' : Array Slot, lv_has ls' M.1.2.2.1 ((a, .long x) :: (zx_lv ls).filter (fun q => !(q.1 == a) && (!(q.1 == a + 1) && !(q.1 + 1 == a && q.2.category == 2)))) → W p l en R s m args below meth c H locs ce sl Q (F0 m np ls' r) := by
  unfold zh_st2 at hk
  obtain ⟨v, st, rfl, hk⟩ := zx_p1_s hk
  obtain ⟨q, hk⟩ := zx_bft hk
  obtain ⟨q1, q2⟩ := zx_and_b q
  obtain ⟨q2, q3⟩ := zx_and_b q2
  rw [zx_fn_eq] at hk
  obtain ⟨tys, ws, hW, hS, hl, hL, hT, hE⟩ := hR
  obtain ⟨x, r, rfl, h1, h2⟩ := zx_SR1 hT
  obtain ⟨y, rfl⟩ := zx_r_j (by rw [zx_beq_t q1]) h1
  refine ⟨zx_lv_has hl, zx_blt_t q2, y, r, rfl, fun ls' hl' => ?_⟩
  exact hN _ _ _ _ _ _ _ _ _ hv hk _ _ _ _ ⟨tys, ws, hW, hS, zx_lv_none hl', zx_LR_st2 hL (by simpa using q3) h1 hl', h2, hE⟩
theorem zs_psh {a np : Nat} {x : Value} (hN : zx_Nx p l en R s m args below meth c Q D N0 ex nu ad0 M nx) (hv : ∀ q ∈ cur, zx_ve M q) (hR : zx_Rl D N0 ex nu ad0 M s row st h e hn ls vs H locs) (hk : zh_psh nx a np cur row st h e hn ce sl = true) (hx : ∀ ads : List Nat, zx_r ads ex nu a x) :
    W p l en R s m args below meth c H locs ce sl Q (F0 m np ls (x :: vs)) := by
  obtain ⟨tys, ws, hW, hS, hl, hL, hT, hE⟩ := hR
  exact hN _ _ _ _ _ _ _ _ _ hv hk _ _ _ _ ⟨tys, ws, hW, hS, hl, hL, ⟨hx _, hT⟩, hE⟩
theorem zx_m32_lt (n : Int) : zx_m32 n < 4294967296 := by unfold zx_m32; omega
theorem zx_m32_of (n : Int) : Int32.ofInt n = nI (zx_m32 n) := by
  apply Int32.toBitVec_inj.1
  show BitVec.ofInt 32 n = BitVec.ofNat 32 (zx_m32 n)
  apply BitVec.eq_of_toNat_eq
  rw [BitVec.toNat_ofInt, BitVec.toNat_ofNat]
  unfold zx_m32
  omega
theorem zx_m8_of {n : Int} (h : -128 ≤ n ∧ n < 128) : (Int8.ofInt n).toInt32 = nI (zx_m32 n) := by
  rw [← zx_m32_of]
  apply Int32.toInt_inj.1
  rw [Int8.toInt_toInt32, Int8.toInt_ofInt, Int32.toInt_ofInt, show Int8.size = 256 from rfl, show Int32.size = 4294967296 from rfl]
  simp only [Int.bmod_def]
  split <;> split <;> omega
theorem zx_m16_of {n : Int} (h : -32768 ≤ n ∧ n < 32768) : (Int16.ofInt n).toInt32 = nI (zx_m32 n) := by
  rw [← zx_m32_of]
  apply Int32.toInt_inj.1
  rw [Int16.toInt_toInt32, Int16.toInt_ofInt, Int32.toInt_ofInt, show Int16.size = 65536 from rfl, show Int32.size = 4294967296 from rfl]
  simp only [Int.bmod_def]
  split <;> split <;> omega
theorem zs_inc {a n np : Nat} (hn' : n < 4294967296) (hN : zx_Nx p l en R s m args below meth c Q D N0 ex nu ad0 M nx) (hv : ∀ q ∈ cur, zx_ve M q) (hR : zx_Rl D N0 ex nu ad0 M s row st h e hn ls vs H locs) (hk : zh_inc M nx a (zx_c n) np cur row st h e hn ce sl = true) :
    lv_has ls M.1.2.2.1 (zx_lv ls) ∧ a < M.1.2.2.1 ∧ ∃ x, (∃ k : Nat, (zx_lv ls)[k]? = some (a, .int x)) ∧ ∀ ls' : Array Slot, lv_has ls' M.1.2.2.1 ((a, .int (x + nI n)) :: (zx_lv ls).filter (fun q => !(q.1 == a) && !(q.1 + 1 == a && q.2.category == 2))) → W p l en R s m args below meth c H locs ce sl Q (F0 m np ls' vs) := by
  unfold zh_inc at hk
  obtain ⟨q, hk⟩ := zx_bft hk
  obtain ⟨q2, q3⟩ := zx_and_b q
  rw [zx_fn_eq] at hk
  obtain ⟨q1, hk⟩ := zx_bft hk
  obtain ⟨tys, ws, hW, hS, hl, hL, hT, hE⟩ := hR
  obtain ⟨x, h1, h2⟩ := hL a (zx_kc0 (Or.inl rfl) q1)
  obtain ⟨y, rfl⟩ := zx_r_i q1 h2
  obtain ⟨v', h3, hk⟩ := zx_no_s hE h2 hk
  obtain ⟨w, h4, hk⟩ := zx_ad_s h3 (zx_r_c hn') hk
  rw [zx_fn_eq] at hk
  obtain ⟨k, hk1⟩ := List.getElem?_of_mem (zx_lv_mem.mpr h1)
  refine ⟨zx_lv_has hl, zx_blt_t q2, y, ⟨k, hk1⟩, fun ls' hl' => ?_⟩
  exact hN _ _ _ _ _ _ _ _ _ hv hk _ _ _ _ ⟨tys, ws, hW, hS, zx_lv_none hl', zx_LR_st1 hL (by simpa using q3) h4 hl', hT, hE⟩
theorem zs_bin {np : Nat} {f : Nat → Nat → (Nat → Bool) → Bool} (hN : zx_Nx p l en R s m args below meth c Q D N0 ex nu ad0 M nx) (hv : ∀ q ∈ cur, zx_ve M q) (hR : zx_Rl D N0 ex nu ad0 M s row st h e hn ls vs H locs) (hk : zh_bin nx np cur row st h e hn ce sl f = true)
    {P : Int32 → Int32 → Prop} {F : Int32 → Int32 → Int32} (hf : ∀ (ads : List Nat) (a b : Nat) (x y : Int32) (k : Nat → Bool), zx_r ads ex nu a (.int x) → zx_r ads ex nu b (.int y) → f a b k = true → P x y ∧ ∃ c : Nat, zx_r ads ex nu c (.int (F x y)) ∧ k c = true) :
    ∃ x y r, vs = .int y :: .int x :: r ∧ P x y ∧ W p l en R s m args below meth c H locs ce sl Q (F0 m np ls (.int (F x y) :: r)) := by
  unfold zh_bin at hk
  obtain ⟨b, a, st, rfl, hk⟩ := zx_p2_s hk
  obtain ⟨q, hk⟩ := zx_bft hk
  obtain ⟨q1, q2⟩ := zx_and_b q
  obtain ⟨tys, ws, hW, hS, hl, hL, hT, hE⟩ := hR
  obtain ⟨y, x, r, rfl, h1, h2, h3⟩ := zx_SR2 hT
  obtain ⟨y, rfl⟩ := zx_r_i q2 h1
  obtain ⟨x, rfl⟩ := zx_r_i q1 h2
  obtain ⟨b', h4, hk⟩ := zx_no_s hE h1 hk
  obtain ⟨a', h5, hk⟩ := zx_no_s hE h2 hk
  obtain ⟨hp, v, h6, hk⟩ := hf _ _ _ _ _ _ h5 h4 hk
  exact ⟨x, y, r, rfl, hp, hN _ _ _ _ _ _ _ _ _ hv hk _ _ _ _ ⟨tys, ws, hW, hS, hl, hL, ⟨h6, h3⟩, hE⟩⟩
theorem zs_un {np : Nat} {f : Nat → Nat} {F : Int32 → Int32} (hN : zx_Nx p l en R s m args below meth c Q D N0 ex nu ad0 M nx) (hv : ∀ q ∈ cur, zx_ve M q) (hR : zx_Rl D N0 ex nu ad0 M s row st h e hn ls vs H locs) (hk : zh_un nx np cur row st h e hn ce sl f = true) (hf : ∀ x : Nat, x < 4294967296 → F (nI x) = nI (f x) ∧ f x < 4294967296) :
    ∃ x r, vs = .int x :: r ∧ W p l en R s m args below meth c H locs ce sl Q (F0 m np ls (.int (F x) :: r)) := by
  unfold zh_un at hk
  obtain ⟨a, st, rfl, hk⟩ := zx_p1_s hk
  obtain ⟨q, hk⟩ := zx_bft hk
  obtain ⟨tys, ws, hW, hS, hl, hL, hT, hE⟩ := hR
  obtain ⟨x, r, rfl, h1, h2⟩ := zx_SR1 hT
  obtain ⟨x, rfl⟩ := zx_r_i q h1
  obtain ⟨a', h4, hk⟩ := zx_no_s hE h1 hk
  obtain ⟨v, h6, hk⟩ := zx_u1_s hf h4 hk
  exact ⟨x, r, rfl, hN _ _ _ _ _ _ _ _ _ hv hk _ _ _ _ ⟨tys, ws, hW, hS, hl, hL, ⟨h6, h2⟩, hE⟩⟩
theorem zs_i2l {np : Nat} (hN : zx_Nx p l en R s m args below meth c Q D N0 ex nu ad0 M nx) (hv : ∀ q ∈ cur, zx_ve M q) (hR : zx_Rl D N0 ex nu ad0 M s row st h e hn ls vs H locs) (hk : zh_i2l nx np cur row st h e hn ce sl = true) :
    ∃ x r, vs = .int x :: r ∧ ∀ y : Int64, W p l en R s m args below meth c H locs ce sl Q (F0 m np ls (.long y :: r)) := by
  unfold zh_i2l at hk
  obtain ⟨a, st, rfl, hk⟩ := zx_p1_s hk
  obtain ⟨q, hk⟩ := zx_bft hk
  obtain ⟨tys, ws, hW, hS, hl, hL, hT, hE⟩ := hR
  obtain ⟨x, r, rfl, h1, h2⟩ := zx_SR1 hT
  obtain ⟨x, rfl⟩ := zx_r_i q h1
  exact ⟨x, r, rfl, fun y => hN _ _ _ _ _ _ _ _ _ hv hk _ _ _ _ ⟨tys, ws, hW, hS, hl, hL, ⟨zx_r_l y, h2⟩, hE⟩⟩
theorem zs_lbin {np : Nat} (hN : zx_Nx p l en R s m args below meth c Q D N0 ex nu ad0 M nx) (hv : ∀ q ∈ cur, zx_ve M q) (hR : zx_Rl D N0 ex nu ad0 M s row st h e hn ls vs H locs) (hk : zh_lbin nx np cur row st h e hn ce sl = true) :
    ∃ x y r, vs = .long y :: .long x :: r ∧ ∀ z : Int64, W p l en R s m args below meth c H locs ce sl Q (F0 m np ls (.long z :: r)) := by
  unfold zh_lbin at hk
  obtain ⟨b, a, st, rfl, hk⟩ := zx_p2_s hk
  obtain ⟨q, hk⟩ := zx_bft hk
  obtain ⟨q1, q2⟩ := zx_and_b q
  obtain ⟨tys, ws, hW, hS, hl, hL, hT, hE⟩ := hR
  obtain ⟨y, x, r, rfl, h1, h2, h3⟩ := zx_SR2 hT
  obtain ⟨y, rfl⟩ := zx_r_j (by rw [zx_beq_t q2]) h1
  obtain ⟨x, rfl⟩ := zx_r_j (by rw [zx_beq_t q1]) h2
  exact ⟨x, y, r, rfl, fun z => hN _ _ _ _ _ _ _ _ _ hv hk _ _ _ _ ⟨tys, ws, hW, hS, hl, hL, ⟨zx_r_l z, h3⟩, hE⟩⟩
theorem zx_cat1 {ads : List Nat} {v : Nat} {x : Value} (h : zx_r ads ex nu v x) (hk : Nat.beq (zx_kd v) 5 = false) : x.category = 1 := by rw [zx_r_cat h, hk]; rfl
theorem zs_dup {np : Nat} (hN : zx_Nx p l en R s m args below meth c Q D N0 ex nu ad0 M nx) (hv : ∀ q ∈ cur, zx_ve M q) (hR : zx_Rl D N0 ex nu ad0 M s row st h e hn ls vs H locs) (hk : zh_dup nx np cur row st h e hn ce sl = true) :
    ∃ x r, vs = x :: r ∧ x.category = 1 ∧ W p l en R s m args below meth c H locs ce sl Q (F0 m np ls (x :: x :: r)) := by
  unfold zh_dup at hk
  obtain ⟨a, st, rfl, hk⟩ := zx_p1_s hk
  rcases zx_bif hk with ⟨-, hk⟩ | ⟨q, hk⟩
  · cases hk
  obtain ⟨tys, ws, hW, hS, hl, hL, hT, hE⟩ := hR
  obtain ⟨x, r, rfl, h1, h2⟩ := zx_SR1 hT
  exact ⟨x, r, rfl, zx_cat1 h1 q, hN _ _ _ _ _ _ _ _ _ hv hk _ _ _ _ ⟨tys, ws, hW, hS, hl, hL, ⟨h1, h1, h2⟩, hE⟩⟩
theorem zs_pop {np : Nat} (hN : zx_Nx p l en R s m args below meth c Q D N0 ex nu ad0 M nx) (hv : ∀ q ∈ cur, zx_ve M q) (hR : zx_Rl D N0 ex nu ad0 M s row st h e hn ls vs H locs) (hk : zh_pop nx np cur row st h e hn ce sl = true) :
    ∃ x r, vs = x :: r ∧ x.category = 1 ∧ W p l en R s m args below meth c H locs ce sl Q (F0 m np ls r) := by
  unfold zh_pop at hk
  obtain ⟨a, st, rfl, hk⟩ := zx_p1_s hk
  rcases zx_bif hk with ⟨-, hk⟩ | ⟨q, hk⟩
  · cases hk
  obtain ⟨tys, ws, hW, hS, hl, hL, hT, hE⟩ := hR
  obtain ⟨x, r, rfl, h1, h2⟩ := zx_SR1 hT
  exact ⟨x, r, rfl, zx_cat1 h1 q, hN _ _ _ _ _ _ _ _ _ hv hk _ _ _ _ ⟨tys, ws, hW, hS, hl, hL, h2, hE⟩⟩
theorem zs_dup2 {np : Nat} (hN : zx_Nx p l en R s m args below meth c Q D N0 ex nu ad0 M nx) (hv : ∀ q ∈ cur, zx_ve M q) (hR : zx_Rl D N0 ex nu ad0 M s row st h e hn ls vs H locs) (hk : zh_dup2 nx np cur row st h e hn ce sl = true) :
    ∃ x y r, vs = y :: x :: r ∧ x.category = 1 ∧ y.category = 1 ∧ W p l en R s m args below meth c H locs ce sl Q (F0 m np ls (y :: x :: y :: x :: r)) := by
  unfold zh_dup2 at hk
  obtain ⟨b, a, st, rfl, hk⟩ := zx_p2_s hk
  rcases zx_bif hk with ⟨-, hk⟩ | ⟨q, hk⟩
  · cases hk
  obtain ⟨q1, q2⟩ := (Bool.or_eq_false_iff).mp q
  obtain ⟨tys, ws, hW, hS, hl, hL, hT, hE⟩ := hR
  obtain ⟨y, x, r, rfl, h1, h2, h3⟩ := zx_SR2 hT
  exact ⟨x, y, r, rfl, zx_cat1 h2 q1, zx_cat1 h1 q2, hN _ _ _ _ _ _ _ _ _ hv hk _ _ _ _ ⟨tys, ws, hW, hS, hl, hL, ⟨h1, h2, h1, h2, h3⟩, hE⟩⟩
/-- a jump -/
theorem zs_jp {a : Nat} (hw : zx_tw M) (hN : zx_Nx p l en R s m args below meth c Q D N0 ex nu ad0 M nx) (hR : zx_Rl D N0 ex nu ad0 M s row st h e hn ls vs H locs) (hk : zx_jp M nx a row st h e hn ce sl = true) :
    W p l en R s m args below meth c H locs ce sl Q (F0 m a ls vs) := by
  obtain ⟨b, hb, hk⟩ := zx_bk_s _ hk
  exact hN _ _ _ _ _ _ _ _ _ (hw b hb) hk _ _ _ _ hR
theorem zs_icmp {a b np : Nat} (hb : b < 6) (hw : zx_tw M) (hN : zx_Nx p l en R s m args below meth c Q D N0 ex nu ad0 M nx) (hv : ∀ q ∈ cur, zx_ve M q) (hR : zx_Rl D N0 ex nu ad0 M s row st h e hn ls vs H locs) (hk : zh_icmp M nx a b np cur row st h e hn ce sl = true) :
    ∃ x y r, vs = .int y :: .int x :: r ∧ (zx_cv b x y → W p l en R s m args below meth c H locs ce sl Q (F0 m a ls r)) ∧ (¬ zx_cv b x y → W p l en R s m args below meth c H locs ce sl Q (F0 m np ls r)) := by
  unfold zh_icmp at hk
  obtain ⟨y0, x0, st, rfl, hk⟩ := zx_p2_s hk
  obtain ⟨q1, q2⟩ := zx_cm_i hk
  obtain ⟨tys, ws, hW, hS, hl, hL, hT, hE⟩ := hR
  obtain ⟨y, x, r, rfl, h1, h2, h3⟩ := zx_SR2 hT
  obtain ⟨y, rfl⟩ := zx_r_i q2 h1
  obtain ⟨x, rfl⟩ := zx_r_i q1 h2
  obtain ⟨e', hE', kt, kf⟩ := zx_cm_s hE h2 h1 hk hb
  exact ⟨x, y, r, rfl, fun z => zs_jp hw hN ⟨tys, ws, hW, hS, hl, hL, h3, hE'⟩ (kt z), fun z => hN _ _ _ _ _ _ _ _ _ hv (kf z) _ _ _ _ ⟨tys, ws, hW, hS, hl, hL, h3, hE'⟩⟩
theorem zx_r_0 {ads : List Nat} : zx_r ads ex nu 4 (.int 0) := by
  have h := zx_r_c (ads := ads) (ex := ex) (nu := nu) (n := 0) (by decide)
  rw [nI_0] at h
  exact h
theorem zs_if {a b np : Nat} (hb : b < 6) (hw : zx_tw M) (hN : zx_Nx p l en R s m args below meth c Q D N0 ex nu ad0 M nx) (hv : ∀ q ∈ cur, zx_ve M q) (hR : zx_Rl D N0 ex nu ad0 M s row st h e hn ls vs H locs) (hk : zh_if M nx a b np cur row st h e hn ce sl = true) :
    ∃ x r, vs = .int x :: r ∧ (zx_cv b x 0 → W p l en R s m args below meth c H locs ce sl Q (F0 m a ls r)) ∧ (¬ zx_cv b x 0 → W p l en R s m args below meth c H locs ce sl Q (F0 m np ls r)) := by
  unfold zh_if at hk
  obtain ⟨x0, st, rfl, hk⟩ := zx_p1_s hk
  obtain ⟨q1, q2⟩ := zx_cm_i hk
  obtain ⟨tys, ws, hW, hS, hl, hL, hT, hE⟩ := hR
  obtain ⟨x, r, rfl, h2, h3⟩ := zx_SR1 hT
  obtain ⟨x, rfl⟩ := zx_r_i q1 h2
  obtain ⟨e', hE', kt, kf⟩ := zx_cm_s hE h2 zx_r_0 hk hb
  exact ⟨x, r, rfl, fun z => zs_jp hw hN ⟨tys, ws, hW, hS, hl, hL, h3, hE'⟩ (kt z), fun z => hN _ _ _ _ _ _ _ _ _ hv (kf z) _ _ _ _ ⟨tys, ws, hW, hS, hl, hL, h3, hE'⟩⟩
theorem zx_nle {x y : Int32} : ¬ x < y ↔ y ≤ x := by rw [zx_lt', zx_le']; omega
/-- switches -/
theorem zx_sw_s {v : Nat} {x : Int32} {st : List Nat} {ads : List Nat} (hr : zx_r ads ex nu v (.int x)) (dflt : Int) : ∀ (ps : List (Int × Int)) (e : Nat), zx_ev nu e → (∀ q ∈ ps, 0 ≤ (pc : Int) + q.2 ∧ -2147483648 ≤ q.1 ∧ q.1 < 2147483648) → 0 ≤ (pc : Int) + dflt → zx_sw M nx row h hn ce sl (zx_row pc dflt ps).2 (zx_row pc dflt ps).1 v st e = true → ∃ (t e' : Nat), (pc : Int) + Op.lookupswitch.offset ps dflt x.toInt = (t : Int) ∧ zx_ev nu e' ∧ zx_jp M nx t row st h e' hn ce sl = true
  | [], e, he, _, hd, hk => ⟨((pc : Int) + dflt).toNat, e, (Int.toNat_of_nonneg hd).symm, he, hk⟩
  | q :: ps, e, he, hq, hd, hk => by
    have hk : zx_eq e v (zx_c (zx_m32 q.1)) (fun e => zx_jp M nx ((pc : Int) + q.2).toNat row st h e hn ce sl) (zx_sw M nx row h hn ce sl (zx_row pc dflt ps).2 (zx_row pc dflt ps).1 v st) = true := hk
    obtain ⟨e', he', kt, kf⟩ := zx_eq_s he hr (zx_r_c (zx_m32_lt q.1)) hk
    obtain ⟨q1, q2, q3⟩ := hq q List.mem_cons_self
    obtain ⟨qa, qo⟩ := q
    have hi : x = nI (zx_m32 qa) ↔ qa = x.toInt := by
      rw [← Int32.toInt_inj, zx_nI_int _ (zx_m32_lt qa)]
      unfold zx_m32
      have := zx_rg x
      simp only at q2 q3
      split <;> omega
    rw [Op.lookupswitch.offset_cons]
    by_cases hx : qa = x.toInt
    · rw [if_pos hx]
      exact ⟨_, e', (Int.toNat_of_nonneg q1).symm, he', kt (hi.mpr hx)⟩
    · rw [if_neg hx]
      exact zx_sw_s hr dflt ps e' he' (fun q hq' => hq q (List.mem_cons_of_mem _ hq')) hd (kf (fun z => hx (hi.mp z)))
theorem zs_sw {a : Nat} {dflt : Int} {ps : List (Int × Int)} (hsx : zx_sx pc dflt ps = some (26, a, 0)) (hw : zx_tw M) (hN : zx_Nx p l en R s m args below meth c Q D N0 ex nu ad0 M nx) (hR : zx_Rl D N0 ex nu ad0 M s row st h e hn ls vs H locs) (hk : zh_sw M nx a row st h e hn ce sl = true) :
    ∃ x r t, vs = .int x :: r ∧ (pc : Int) + Op.lookupswitch.offset ps dflt x.toInt = ((t : Nat) : Int) ∧ W p l en R s m args below meth c H locs ce sl Q (F0 m t ls r) := by
  unfold zh_sw at hk
  obtain ⟨v, st, rfl, hk⟩ := zx_p1_s hk
  obtain ⟨q, hk⟩ := zx_bft hk
  obtain ⟨rw', h1, hk⟩ := zx_at_s _ _ hk
  unfold zx_sx at hsx
  split at hsx
  · rename_i hok
    rw [Option.map_eq_some_iff] at hsx
    obtain ⟨i, hi, he⟩ := hsx
    have he : i = a := by injection he with _ he; injection he
    subst he
    obtain ⟨hlt, hdec, -⟩ := List.findIdx?_eq_some_iff_getElem.mp hi
    rw [List.getElem?_eq_getElem hlt] at h1
    have h1 := Option.some.inj h1
    have hdec := of_decide_eq_true hdec
    rw [h1] at hdec
    subst hdec
    obtain ⟨o1, o2⟩ := zx_and_b hok
    obtain ⟨tys, ws, hW, hS, hl, hL, hT, hE⟩ := hR
    obtain ⟨x, r, rfl, h2, h3⟩ := zx_SR1 hT
    obtain ⟨x, rfl⟩ := zx_r_i q h2
    obtain ⟨t, e', ht, hE', hk⟩ := zx_sw_s h2 dflt ps e hE (fun q hq => of_decide_eq_true (List.all_eq_true.mp o2 q hq)) (of_decide_eq_true o1) hk
    exact ⟨x, r, t, rfl, ht, zs_jp hw hN ⟨tys, ws, hW, hS, hl, hL, h3, hE'⟩ hk⟩
  · cases hsx
end ZS
