/-! groups of cells, their templates, and the world that keeps them -/
/-- the same with no names but those that are fixed -/
def zy_fz (A : zy_V) : zy_V := (A.1, (fun k => if k < 100 then zy_ru A k else 0, fun _ => 0, fun _ => 0), (0, 0, 100))
theorem zy_fz_le {A : zy_V} (h : 100 ≤ zy_fr A) : zy_le (zy_fz A) A := ⟨rfl, ⟨Nat.zero_le _, Nat.zero_le _, h⟩, fun _ hk => absurd hk (Nat.not_lt_zero _), fun _ hk => absurd hk (Nat.not_lt_zero _), fun _ hk => (if_pos hk).symm⟩
theorem zy_fz_eq {A B : zy_V} (h : zy_le A B) (hf : 100 ≤ zy_fr A) : zy_fz A = zy_fz B := by
  unfold zy_fz
  rw [h.1]
  have : (fun k => if k < 100 then zy_ru A k else 0) = fun k => if k < 100 then zy_ru B k else 0 := by
    funext k
    by_cases hk : k < 100
    · rw [if_pos hk, if_pos hk, h.2.2.2.2 k (by omega)]
    · rw [if_neg hk, if_neg hk]
  rw [this]
def zy_SR (A : zy_V) : List Nat → List Value → Prop
  | [], [] => True
  | a :: l, b :: m => zy_r A a b ∧ zy_SR A l m
  | [], _ :: _ => False
  | _ :: _, [] => False
def zy_LR (A : zy_V) (row : Nat) (ls : Array Slot) : Prop := ∀ i : Nat, zx_lg row i % 16 ≠ 0 → ∃ v, ls[i]? = some (.val v) ∧ zy_r A (zx_lg row i) v
theorem zy_SR_le {A B : zy_V} (h : zy_le A B) : ∀ (l : List Nat) (m : List Value), zy_SR A l m → zy_SR B l m
  | [], [], _ => trivial
  | _ :: l, _ :: m, h1 => ⟨zy_r_le h h1.1, zy_SR_le h l m h1.2⟩
  | [], _ :: _, h1 => h1.elim
  | _ :: _, [], h1 => h1.elim
theorem zy_LR_le {A B : zy_V} (h : zy_le A B) {row : Nat} {ls : Array Slot} (hl : zy_LR A row ls) : zy_LR B row ls := fun i hi => by
  obtain ⟨v, h1, h2⟩ := hl i hi
  exact ⟨v, h1, zy_r_le h h2⟩
def zy_lo (c : Nat) : Nat := Nat.div (Nat.mod (Nat.shiftRight c 20) 18446744073709551616) 4294967296
def zy_hi (c : Nat) : Nat := Nat.mod (Nat.mod (Nat.shiftRight c 20) 18446744073709551616) 4294967296
theorem zy_hi_lt (c : Nat) : zy_hi c < 4294967296 := Nat.mod_lt _ (by decide)
def zy_cr (A : zy_V) (tys : List (ClassId × FieldType)) (c : Nat) (e : va_E) : Prop := match c % 16 with
  | 3 => ∃ (cA : ClassId) (f : Nat → Int32), (cA, zx_ty 0) ∈ tys ∧ e = .inl (cA, zx_cn c, .inl f) ∧ ∀ j, j < zx_cn c → zy_lo c ≤ zx_bz (f j) ∧ zx_bz (f j) ≤ zy_hi c
  | 4 => ∃ (cA : ClassId) (f : Nat → Int32), (cA, zx_ty 1) ∈ tys ∧ e = .inl (cA, zx_cn c, .inl f) ∧ ∀ j, j < zx_cn c → zy_lo c ≤ zx_bz (f j) ∧ zx_bz (f j) ≤ zy_hi c
  | 5 => ∃ (cA : ClassId) (f : Nat → Int32), (cA, zx_ty 2) ∈ tys ∧ e = .inl (cA, zx_cn c, .inl f) ∧ ∀ j, j < zx_cn c → zy_lo c ≤ zx_bz (f j) ∧ zx_bz (f j) ≤ zy_hi c
  | 6 => ∃ (cA : ClassId) (f : Nat → Int64), (cA, FieldType.long) ∈ tys ∧ e = .inl (cA, zx_cn c, .inr (.inl f))
  | 7 => ∃ (fs : List Value) (r : vw_C), e = .inr (zx_cn c, fs) ∧ vwCl[zx_cn c]? = some r ∧ fs.length = r.2.2 ∧ ∀ (k : Nat) (v : Value), fs[k]? = some v → zy_r A (zx_og c k) v
  | 8 => ∃ (cA : ClassId) (f : Nat → Option Nat), (cA, FieldType.object RX8) ∈ tys ∧ e = .inl (cA, zx_cn c, .inr (.inr (.inr (.inr f)))) ∧ ∀ j, j < zx_cn c → zy_r A (zx_og c 0) (va_rf (f j))
  | 9 => ∃ (cA : ClassId) (f : Nat → Int32), (cA, zx_ty 0) ∈ tys ∧ e = .inl (cA, zx_cn c, .inl f) ∧ ∀ j, j < zx_cn c → zy_r A (zx_og c (j % 16)) (.int (f j))
  | _ => False
section ZYC
variable {A : zy_V} {tys : List (ClassId × FieldType)}
theorem zy_c7 {c : Nat} {e : va_E} (h : c % 16 = 7) : zy_cr A tys c e ↔ ∃ (fs : List Value) (r : vw_C), e = .inr (zx_cn c, fs) ∧ vwCl[zx_cn c]? = some r ∧ fs.length = r.2.2 ∧ ∀ (k : Nat) (v : Value), fs[k]? = some v → zy_r A (zx_og c k) v := by unfold zy_cr; rw [h]; exact Iff.rfl
theorem zy_c8 {c : Nat} {e : va_E} (h : c % 16 = 8) : zy_cr A tys c e ↔ ∃ (cA : ClassId) (f : Nat → Option Nat), (cA, FieldType.object RX8) ∈ tys ∧ e = .inl (cA, zx_cn c, .inr (.inr (.inr (.inr f)))) ∧ ∀ j, j < zx_cn c → zy_r A (zx_og c 0) (va_rf (f j)) := by unfold zy_cr; rw [h]; exact Iff.rfl
theorem zy_c6 {c : Nat} {e : va_E} (h : c % 16 = 6) : zy_cr A tys c e ↔ ∃ (cA : ClassId) (f : Nat → Int64), (cA, FieldType.long) ∈ tys ∧ e = .inl (cA, zx_cn c, .inr (.inl f)) := by unfold zy_cr; rw [h]; exact Iff.rfl
theorem zy_c9 {c : Nat} {e : va_E} (h : c % 16 = 9) : zy_cr A tys c e ↔ ∃ (cA : ClassId) (f : Nat → Int32), (cA, zx_ty 0) ∈ tys ∧ e = .inl (cA, zx_cn c, .inl f) ∧ ∀ j, j < zx_cn c → zy_r A (zx_og c (j % 16)) (.int (f j)) := by unfold zy_cr; rw [h]; exact Iff.rfl
theorem zy_cu {c t : Nat} {e : va_E} (h : c % 16 = t + 3) (ht : t < 3) : zy_cr A tys c e ↔ ∃ (cA : ClassId) (f : Nat → Int32), (cA, zx_ty t) ∈ tys ∧ e = .inl (cA, zx_cn c, .inl f) ∧ ∀ j, j < zx_cn c → zy_lo c ≤ zx_bz (f j) ∧ zx_bz (f j) ≤ zy_hi c := by
  unfold zy_cr
  rw [h]
  match t, ht with
  | 0, _ => exact Iff.rfl
  | 1, _ => exact Iff.rfl
  | 2, _ => exact Iff.rfl
theorem zy_cr_tg {c : Nat} {e : va_E} (h : zy_cr A tys c e) : 3 ≤ c % 16 ∧ c % 16 < 10 := by
  unfold zy_cr at h
  have hl : c % 16 < 16 := Nat.mod_lt _ (by decide)
  generalize c % 16 = t at h hl
  match t, h with
  | 0, h => exact h.elim
  | 1, h => exact h.elim
  | 2, h => exact h.elim
  | 3, _ => omega
  | 4, _ => omega
  | 5, _ => omega
  | 6, _ => omega
  | 7, _ => omega
  | 8, _ => omega
  | 9, _ => omega
  | (k + 10), h => exact h.elim
/-- an array of ints: tags 3, 4, 5, 9; the type of each element -/
def zy_et (c i : Nat) : Nat := bif Nat.beq (zx_tg c) 9 then zx_og c (Nat.mod i 16) else zy_c7v (zy_lo c) (zy_hi c)
theorem zy_cr_int {c : Nat} {e : va_E} (h : zy_cr A tys c e) (ht : c % 16 < 6 ∨ c % 16 = 9) : ∃ (cA : ClassId) (f : Nat → Int32), (cA, zx_ty (c % 16 % 3)) ∈ tys ∧ e = .inl (cA, zx_cn c, .inl f) ∧ ∀ j, j < zx_cn c → zy_r A (zy_et c j) (.int (f j)) := by
  obtain ⟨h3, -⟩ := zy_cr_tg h
  have eb : Nat.beq (zx_tg c) 9 = Nat.beq (c % 16) 9 := rfl
  rcases ht with ht | ht
  · have e1 : c % 16 = (c % 16 - 3) + 3 := by omega
    obtain ⟨cA, f, h1, h2, h4⟩ := (zy_cu e1 (by omega)).mp h
    refine ⟨cA, f, by rw [show c % 16 % 3 = c % 16 - 3 by omega]; exact h1, h2, fun j hj => ?_⟩
    have e2 : zy_et c j = zy_c7v (zy_lo c) (zy_hi c) := by
      unfold zy_et
      rw [eb, show Nat.beq (c % 16) 9 = false from by
        cases q : Nat.beq (c % 16) 9
        · rfl
        · have := zx_beq_t q; omega]
      rfl
    rw [e2]
    exact zy_r_7 (h4 j hj).1 (h4 j hj).2 (zy_hi_lt c)
  · obtain ⟨cA, f, h1, h2, h4⟩ := (zy_c9 ht).mp h
    refine ⟨cA, f, by rw [ht]; exact h1, h2, fun j hj => ?_⟩
    have e2 : zy_et c j = zx_og c (j % 16) := by
      unfold zy_et
      rw [eb, ht]
      rfl
    rw [e2]
    exact h4 j hj
theorem zy_7_r {l u : Nat} {x : Int32} (hl : l < 4294967296) (hu : u < 4294967296) (h : zy_r A (zy_c7v l u) (.int x)) : l ≤ zx_bz x ∧ zx_bz x ≤ u := by
  have e0 : zy_c7v l u = (l * 4294967296 + u) * 16 + 7 := rfl
  rw [e0] at h
  obtain ⟨-, y, h1, h2, h3⟩ := (zy_r7 (by omega)).mp h
  injection h1 with h1
  subst h1
  rw [show ((l * 4294967296 + u) * 16 + 7) / 16 = l * 4294967296 + u by omega] at h2 h3
  omega
theorem zy_lo_lt (c : Nat) : zy_lo c < 4294967296 := by
  have : Nat.mod (Nat.shiftRight c 20) 18446744073709551616 < 18446744073709551616 := Nat.mod_lt _ (by decide)
  show Nat.mod (Nat.shiftRight c 20) 18446744073709551616 / 4294967296 < 4294967296
  omega
/-- and back: an array of ints whose elements fit -/
theorem zy_cr_int' {c : Nat} {cA : ClassId} {f : Nat → Int32} (ht : (3 ≤ c % 16 ∧ c % 16 < 6) ∨ c % 16 = 9) (h1 : (cA, zx_ty (c % 16 % 3)) ∈ tys) (h4 : ∀ j, j < zx_cn c → zy_r A (zy_et c j) (.int (f j))) : zy_cr A tys c (.inl (cA, zx_cn c, .inl f)) := by
  have eb : Nat.beq (zx_tg c) 9 = Nat.beq (c % 16) 9 := rfl
  rcases ht with ht | ht
  · have e1 : c % 16 = (c % 16 - 3) + 3 := by omega
    refine (zy_cu e1 (by omega)).mpr ⟨cA, f, by rw [show c % 16 - 3 = c % 16 % 3 by omega]; exact h1, rfl, fun j hj => ?_⟩
    have e2 : zy_et c j = zy_c7v (zy_lo c) (zy_hi c) := by
      unfold zy_et
      rw [eb, show Nat.beq (c % 16) 9 = false from by
        cases q : Nat.beq (c % 16) 9
        · rfl
        · have := zx_beq_t q; omega]
      rfl
    have h5 := h4 j hj
    rw [e2] at h5
    exact zy_7_r (zy_lo_lt c) (zy_hi_lt c) h5
  · refine (zy_c9 ht).mpr ⟨cA, f, by rw [ht] at h1; exact h1, rfl, fun j hj => ?_⟩
    have e2 : zy_et c j = zx_og c (j % 16) := by
      unfold zy_et
      rw [eb, ht]
      rfl
    have h5 := h4 j hj
    rw [e2] at h5
    exact h5
end ZYC
/-- what a place of a cell holds: field f of an object, element a of an array -/
def zy_re (e : va_E) (f a : Nat) : Option Value := match e with
  | .inr (_, fs) => fs[f]?
  | .inl (_, n, .inl g) => if f = 0 ∧ a < n then some (.int (g a)) else none
  | .inl (_, n, .inr (.inl g)) => if f = 0 ∧ a < n then some (.long (g a)) else none
  | .inl (_, n, .inr (.inr (.inr (.inr g)))) => if f = 0 ∧ a < n then some (va_rf (g a)) else none
  | .inl (_, _, .inr (.inr (.inl _))) => none
  | .inl (_, _, .inr (.inr (.inr (.inl _)))) => none
def zy_rd (ws : va_W) (i f a : Nat) : Option Value := (ws[i]?).bind (fun w => zy_re w.2 f a)
/-- templates, by group -/
def zy_tm (T : List Nat) (g : Nat) : Nat := T.getD g 0
/-- every cell keeps its group's template -/
def zy_HR (A : zy_V) (T : List Nat) (tys : List (ClassId × FieldType)) (ws : va_W) : Prop := ws.map (fun w => w.1) = zy_ads A ∧ ∀ (i g : Nat) (w : Nat × va_E), ws[i]? = some w → (zy_gl A)[i]? = some g → zy_cr (zy_fz A) tys (zy_tm T g) w.2
/-- what is remembered of places: rho + 256 * (128 * group + field) + 2^24 * element -/
abbrev zy_C : Type := List (Nat × Nat)
def zy_CR (A : zy_V) (ws : va_W) (C : zy_C) : Prop := ∀ q ∈ C, (q.1 % 256 < zy_fr A ∧ (zy_gl A)[zy_ru A (q.1 % 256)]? = some (q.1 / 256 % 65536 / 128)) ∧ ∃ x, zy_rd ws (zy_ru A (q.1 % 256)) (q.1 / 256 % 128) (q.1 / 16777216) = some x ∧ zy_r A q.2 x
/-! the ghost: the rule that is in force is a right postfix text (groups and fields by number) -/
/-- how high the pile is behind a sign -/
def zy_hs (n : Nat) (c : Int32) : Option Nat := if c = 126 then (if 1 ≤ n then some n else none) else if 97 ≤ c ∧ c ≤ 122 then (if n < 59 then some (n + 1) else none) else if 2 ≤ n then some (n - 1) else none
/-- k signs from place a on, the pile n high -/
def zy_po (cd : Nat → Option Value) : Nat → Nat → Nat → Option Nat
  | 0, _, n => some n
  | k + 1, a, n => match cd a with
    | some (.int c) => (match zy_hs n c with
      | some m => zy_po cd k (a + 1) m
      | none => none)
    | _ => none
/-- bank b's rule -/
def zy_V1 (gl : List Nat) (ws : va_W) (b : Nat) : Prop := ∀ (iH iF iT iC : Nat) (h f t : Int32), gl[iH]? = some 68 → gl[iF]? = some 59 → gl[iT]? = some 60 → gl[iC]? = some 71 → zy_rd ws iH 0 b = some (.int h) → zy_rd ws iF 0 b = some (.int f) → zy_rd ws iT 0 b = some (.int t) → h ≠ 0 →
  560 * b ≤ f.toNatClampNeg ∧ t.toNatClampNeg ≤ 560 * (b + 1) ∧ (zy_po (fun k => zy_rd ws iC 0 k) (t.toNatClampNeg - f.toNatClampNeg) f.toNatClampNeg 0).isSome = true
/-- the rule in force is right -/
def zy_GV (gl : List Nat) (ws : va_W) : Prop := ∀ (i : Nat) (x : Int32), gl[i]? = some 41 → zy_rd ws i 43 0 = some (.int x) → zy_V1 gl ws x.toNatClampNeg
/-- and that which is read now, where nothing is wrong yet; as long as there is none, its text is empty -/
def zy_GR (gl : List Nat) (ws : va_W) : Prop := zy_GV gl ws ∧ (∀ (i : Nat) (x y : Int32), gl[i]? = some 41 → zy_rd ws i 43 0 = some (.int x) → zy_rd ws i 44 0 = some (.int y) → y = 1 - x) ∧ (∀ (i : Nat) (y : Int32), gl[i]? = some 41 → zy_rd ws i 44 0 = some (.int y) → zy_rd ws i 4 0 = some (.int 0) → zy_V1 gl ws y.toNatClampNeg) ∧
  ∀ (i iH : Nat) (y z : Int32), gl[i]? = some 41 → gl[iH]? = some 68 → zy_rd ws i 44 0 = some (.int y) → zy_rd ws iH 0 y.toNatClampNeg = some (.int 0) → zy_rd ws i 45 0 = some (.int z) → z = 560 * y
/-- as many are queued as places have steps, and steps are fewer -/
def zy_GS (gl : List Nat) (ws : va_W) : Prop := ∀ (i iS : Nat) (q : Int32), gl[i]? = some 41 → gl[iS]? = some 83 → zy_rd ws i 61 0 = some (.int q) → ∃ f : Nat → Int32, (∀ k, k < 64 → zy_rd ws iS 0 k = some (.int (f k))) ∧ (((List.range 64).countP (fun k => decide (0 ≤ (f k).toInt)) : Nat) : Int) = q.toInt ∧ ∀ k, k < 64 → (f k).toInt < q.toInt ∨ (f k).toInt = -1
def zy_Ga (gl : List Nat) (ws0 ws : va_W) : Prop := (zy_GV gl ws0 → zy_GV gl ws) ∧ (zy_GR gl ws0 → zy_GR gl ws) ∧ (zy_GS gl ws0 → zy_GS gl ws)
/-- which of them is wanted: 1, 2, 4 -/
def zy_Gs (gl : List Nat) (n : Nat) (ws : va_W) : Prop := (n.testBit 0 = true → zy_GV gl ws) ∧ (n.testBit 1 = true → zy_GR gl ws) ∧ (n.testBit 2 = true → zy_GS gl ws)
theorem zy_Ga_rf (gl : List Nat) (ws : va_W) : zy_Ga gl ws ws := ⟨fun h => h, fun h => h, fun h => h⟩
theorem zy_Ga_tr {gl : List Nat} {ws0 ws1 ws2 : va_W} (h1 : zy_Ga gl ws0 ws1) (h2 : zy_Ga gl ws1 ws2) : zy_Ga gl ws0 ws2 := ⟨fun h => h2.1 (h1.1 h), fun h => h2.2.1 (h1.2.1 h), fun h => h2.2.2 (h1.2.2 h)⟩
theorem zy_Ga_Gs {gl : List Nat} {ws0 ws1 : va_W} {n : Nat} (h1 : zy_Ga gl ws0 ws1) (h2 : zy_Gs gl n ws0) : zy_Gs gl n ws1 := ⟨fun h => h1.1 (h2.1 h), fun h => h1.2.1 (h2.2.1 h), fun h => h1.2.2 (h2.2.2 h)⟩
theorem zy_Gs_sub {gl : List Nat} {ws : va_W} {n m : Nat} (hs : Nat.beq (Nat.land n m) m = true) (h : zy_Gs gl n ws) : zy_Gs gl m ws := by
  have hs : n &&& m = m := zx_beq_t hs
  have hb : ∀ j, m.testBit j = true → n.testBit j = true := fun j hj => by
    rw [← hs, Nat.testBit_and] at hj
    exact ((Bool.and_eq_true _ _).mp hj).1
  exact ⟨fun h1 => h.1 (hb 0 h1), fun h1 => h.2.1 (hb 1 h1), fun h1 => h.2.2 (hb 2 h1)⟩
/-- places that the ghost looks at (all but faultKind, 5252) -/
def zy_Fp : Nat := 1388909454220078908259195683501425476958852124192183816811125266631782405288984950878315604778948623157843480391859403795315656165896215378884627751408773189243516298907069817833420880990023036266035813999914607901384104877338319478888998011079992545144597617292543570129047114592619442176890876368210836532137928332051143240338671628829033658669454271367166881804164354825919008798920793043254262698239582584790442403856000628809048596687521493536205292847237187799468971729374783978528949002448328852635924108605193927297455868153630894189364440409881068116054220548470387013052719709164693485546476216468203804412686088132539125808457647944883795230418639688774142469160952666540142526819351167790628475132818400272099546029393027780405303427840648232204679284946307147632299775182338774372466971558176535751968674321085198857095877537522690136286858289028527465056067884909388468207526890080217700658747570398527705575061486592966276252233695571033991889643965403674688926765660683628737245616600801139923877443496649788586138792106406241458099146032068456864544299631372782241569693627374571487731009543878884775128071263828146392860050049048235982409751074795722090286822730358554126505394389940187726406892447825295389645102284476334152304978600596229752902988565831741206897751810886969057678527696589370092767247291253685689988182591215452793176440207367154994854519093673815288246090266961372912977729942657387408552521431806634806675646606986109973213299473919977447207162970991309473138894241717405575754046681504847764039776999265394927810735081423629687716497303331069270970774712254420193231429146643602698589858822177532319169707703667636734372127951017195794723295315058955999481277208782237097717759469538744239420698206633356790068892533604421992468606253637408046648493491328330413298467883925677130909113098208869944643708887588700524458133736843923847776728440739786495007575998816789266948284910402652658181854011443081203324129635831772027627540894444119123408796157505670678460095879394082117342625956432644034278509638089683296145717395935559095075147774902992244383888202200612037303420060827313395160912601254856361386128555876186637062304314429695041541369364333344106929429953206173333891161369064997883859519024295868562936483098303028158243973607525979927256088594813354409650865133162365695363295012963369548891489605784105229687126683544583885529716776741070876349768196643177798796670080452702609573010312556728068741263796105724078207890109085482678412742309844810236633218430343414005336908166987785121711175111314532612748671995763219383197584214325888242436746086794160178189493335576416421727540706636729196686068664121357018637348727214656138715890590371784112102637691629318466977109958051804973165437439785495869196352658767093195531589802653503786528016901035604648038495812277266016448950900340704885677570357037993497914996336990556679819356996899801962742442092827177508546694815191342784681305345015642920219192784518527024797280146825148380575776754097230429088380027515362903441040951940062992652483524611387885896307614303490611402923711977944769314607144867396262717906985601795988046101478959962387622733097297038014950536797010616568788295876608
theorem zy_Fp_ok : (zy_Fp.testBit (128 * 41 + 43) && (zy_Fp.testBit (128 * 41 + 44) && (zy_Fp.testBit (128 * 68 + 0) && (zy_Fp.testBit (128 * 59 + 0) && (zy_Fp.testBit (128 * 60 + 0) && (zy_Fp.testBit (128 * 71 + 0) && (zy_Fp.testBit (128 * 41 + 45) && (zy_Fp.testBit (128 * 41 + 61) && zy_Fp.testBit (128 * 83 + 0))))))))) = true := by decide +kernel
theorem zy_V1_eq {gl : List Nat} {ws ws' : va_W} (h : ∀ (j g f a : Nat), gl[j]? = some g → f < 128 → zy_Fp.testBit (128 * g + f) = true → zy_rd ws' j f a = zy_rd ws j f a) {b : Nat} (hv : zy_V1 gl ws b) : zy_V1 gl ws' b := by
  have hF := zy_Fp_ok
  obtain ⟨-, hF⟩ := zx_and_b hF
  obtain ⟨-, hF⟩ := zx_and_b hF
  obtain ⟨f1, hF⟩ := zx_and_b hF
  obtain ⟨f2, hF⟩ := zx_and_b hF
  obtain ⟨f3, hF⟩ := zx_and_b hF
  obtain ⟨f4, -⟩ := zx_and_b hF
  intro iH iF iT iC x f t h1 h2 h3 h4 g1 g2 g3
  rw [h _ _ 0 _ h1 (by decide) f1] at g1
  rw [h _ _ 0 _ h2 (by decide) f2] at g2
  rw [h _ _ 0 _ h3 (by decide) f3] at g3
  have e4 : (fun k => zy_rd ws' iC 0 k) = fun k => zy_rd ws iC 0 k := funext fun k => h _ _ 0 _ h4 (by decide) f4
  rw [e4]
  exact hv iH iF iT iC x f t h1 h2 h3 h4 g1 g2 g3
theorem zy_Ga_eq {gl : List Nat} {ws ws' : va_W} (h : ∀ (j g f a : Nat), gl[j]? = some g → f < 128 → zy_Fp.testBit (128 * g + f) = true → zy_rd ws' j f a = zy_rd ws j f a) (hf : ∀ j, gl[j]? = some 41 → zy_rd ws' j 4 0 = some (.int 0) → zy_rd ws j 4 0 = some (.int 0)) : zy_Ga gl ws ws' := by
  have hF := zy_Fp_ok
  obtain ⟨f1, hF⟩ := zx_and_b hF
  obtain ⟨f2, hF⟩ := zx_and_b hF
  obtain ⟨f3, hF⟩ := zx_and_b hF
  obtain ⟨-, hF⟩ := zx_and_b hF
  obtain ⟨-, hF⟩ := zx_and_b hF
  obtain ⟨-, hF⟩ := zx_and_b hF
  obtain ⟨f7, hF⟩ := zx_and_b hF
  obtain ⟨f8, f9⟩ := zx_and_b hF
  have hV : zy_GV gl ws → zy_GV gl ws' := fun hv i x h1 h2 => by
    rw [h _ _ 43 _ h1 (by decide) f1] at h2
    exact zy_V1_eq h (hv i x h1 h2)
  refine ⟨hV, fun hr => ⟨hV hr.1, fun i x y h1 h2 h3 => ?_, fun i y h1 h2 h3 => ?_, fun i iH y z h1 h2 h3 h4 h5 => ?_⟩, fun hs i iS q h1 h2 h3 => ?_⟩
  · rw [h _ _ 43 _ h1 (by decide) f1] at h2
    rw [h _ _ 44 _ h1 (by decide) f2] at h3
    exact hr.2.1 i x y h1 h2 h3
  · rw [h _ _ 44 _ h1 (by decide) f2] at h2
    exact zy_V1_eq h (hr.2.2.1 i y h1 h2 (hf i h1 h3))
  · rw [h _ _ 44 _ h1 (by decide) f2] at h3
    rw [h _ _ 0 _ h2 (by decide) f3] at h4
    rw [h _ _ 45 _ h1 (by decide) f7] at h5
    exact hr.2.2.2 i iH y z h1 h2 h3 h4 h5
  · rw [h _ _ 61 _ h1 (by decide) f8] at h3
    obtain ⟨f, g1, g2⟩ := hs i iS q h1 h2 h3
    exact ⟨f, fun k hk => by rw [h _ _ 0 _ h2 (by decide) f9]; exact g1 k hk, g2⟩
/-- what is outside a mask of places is as it was, and the ghost is kept -/
def zy_UN (gl : List Nat) (K : Nat) (ws0 ws : va_W) : Prop := ws.map (fun w => w.1) = ws0.map (fun w => w.1) ∧ (∀ (i g f a : Nat), gl[i]? = some g → f < 128 → K.testBit (128 * g + f) = false → zy_rd ws i f a = zy_rd ws0 i f a) ∧ zy_Ga gl ws0 ws
theorem zy_UN_rf {gl : List Nat} {K : Nat} {ws : va_W} : zy_UN gl K ws ws := ⟨rfl, fun _ _ _ _ _ _ _ => rfl, zy_Ga_rf gl ws⟩
theorem zy_UN_tr {gl : List Nat} {K : Nat} {ws0 ws1 ws2 : va_W} (h1 : zy_UN gl K ws0 ws1) (h2 : zy_UN gl K ws1 ws2) : zy_UN gl K ws0 ws2 := ⟨h2.1.trans h1.1, fun i g f a hg hf hK => (h2.2.1 i g f a hg hf hK).trans (h1.2.1 i g f a hg hf hK), zy_Ga_tr h1.2.2 h2.2.2⟩
theorem zy_HR_le {A B : zy_V} (h : zy_le A B) (hf : 100 ≤ zy_fr A) {T : List Nat} {tys : List (ClassId × FieldType)} {ws : va_W} (hh : zy_HR A T tys ws) : zy_HR B T tys ws := by
  unfold zy_HR zy_ads zy_gl
  rw [← h.1, ← zy_fz_eq h hf]
  exact hh
theorem zy_CR_le {A B : zy_V} (h : zy_le A B) {ws : va_W} {C : zy_C} (hc : zy_CR A ws C) : zy_CR B ws C := fun q hq => by
  obtain ⟨⟨h1, h2⟩, x, h3, h4⟩ := hc q hq
  have e1 := h.2.2.2.2 _ h1
  have e2 : zy_gl B = zy_gl A := by unfold zy_gl; rw [h.1]
  refine ⟨⟨Nat.lt_of_lt_of_le h1 h.2.1.2.2, by rw [e1, e2]; exact h2⟩, x, by rw [e1]; exact h3, zy_r_le h h4⟩
/-- a reference's cell -/
theorem zy_HR_get {A : zy_V} {T : List Nat} {tys : List (ClassId × FieldType)} {ws : va_W} (hh : zy_HR A T tys ws) {r c : Nat} {x : Value} (hr : zy_r A r x) (hk : r % 16 = 2) (hT : T[r / 16 / 256]? = some c) :
    ∃ (i ad : Nat) (ee : va_E), x = .ref ad ∧ ws[i]? = some (ad, ee) ∧ (zy_gl A)[i]? = some (r / 16 / 256) ∧ zy_cr (zy_fz A) tys c ee ∧ (r / 16 % 256 ≠ 0 → zy_ru A (r / 16 % 256) = i ∧ r / 16 % 256 < zy_fr A) := by
  obtain ⟨-, i, ad, h1, h2, h3, h4⟩ := (zy_r2 hk).mp hr
  rw [← hh.1, List.getElem?_map] at h1
  cases h5 : ws[i]? with
  | none => rw [h5] at h1; cases h1
  | some w =>
    rw [h5] at h1
    have h1 : w.1 = ad := Option.some.inj h1
    have h6 := hh.2 i _ w h5 h2
    rw [show zy_tm T (r / 16 / 256) = c from by unfold zy_tm; rw [List.getD_eq_getElem?_getD, hT]; rfl] at h6
    exact ⟨i, ad, w.2, h3, by rw [← h1]; exact h5, h2, h6, h4⟩
/-- a cell is changed -/
theorem zy_HR_set {A : zy_V} {T : List Nat} {tys : List (ClassId × FieldType)} {ws : va_W} (hh : zy_HR A T tys ws) {i ad g c : Nat} {e0 e1 : va_E} (h0 : ws[i]? = some (ad, e0)) (hg : (zy_gl A)[i]? = some g) (hT : T[g]? = some c) (h1 : zy_cr (zy_fz A) tys c e1) : zy_HR A T tys (ws.set i (ad, e1)) := by
  refine ⟨(zx_ads_set (e' := e1) h0).trans hh.1, fun j g' w hj hg' => ?_⟩
  by_cases q : j = i
  · subst q
    rw [hg] at hg'
    cases hg'
    rw [List.getElem?_set_self (List.getElem?_eq_some_iff.mp h0).1] at hj
    cases hj
    rw [show zy_tm T g = c from by unfold zy_tm; rw [List.getD_eq_getElem?_getD, hT]; rfl]
    exact h1
  · rw [List.getElem?_set_ne (Ne.symm q)] at hj
    exact hh.2 j g' w hj hg'
theorem zy_rd_set {ws : va_W} {i ad : Nat} {e0 e1 : va_E} (h0 : ws[i]? = some (ad, e0)) (f a : Nat) : zy_rd (ws.set i (ad, e1)) i f a = zy_re e1 f a := by
  unfold zy_rd
  rw [List.getElem?_set_self (List.getElem?_eq_some_iff.mp h0).1]
  rfl
theorem zy_rd_ne {ws : va_W} {i j ad : Nat} {e1 : va_E} (h : j ≠ i) (f a : Nat) : zy_rd (ws.set i (ad, e1)) j f a = zy_rd ws j f a := by
  unfold zy_rd
  rw [List.getElem?_set_ne (Ne.symm h)]
theorem zy_rd_at {ws : va_W} {i ad : Nat} {e0 : va_E} (h0 : ws[i]? = some (ad, e0)) (f a : Nat) : zy_rd ws i f a = zy_re e0 f a := by
  unfold zy_rd
  rw [h0]
  rfl
/-- what a change of a cell leaves: places elsewhere, and those of the cell that P does not name -/
theorem zy_CR_set {A : zy_V} {ws : va_W} {C C' : zy_C} (hc : zy_CR A ws C) {i ad g f : Nat} {e0 e1 : va_E} {P : Nat → Prop} (h0 : ws[i]? = some (ad, e0)) (hg : (zy_gl A)[i]? = some g) (hd : ∀ f' a, f' ≠ f ∨ ¬ P a → zy_re e1 f' a = zy_re e0 f' a) (hC : ∀ q ∈ C', q ∈ C ∧ (q.1 / 256 % 65536 = 128 * g + f → ¬ P (q.1 / 16777216))) : zy_CR A (ws.set i (ad, e1)) C' := fun q hq => by
  obtain ⟨h1, h2⟩ := hC q hq
  obtain ⟨⟨h3, h4⟩, x, h5, h6⟩ := hc q h1
  refine ⟨⟨h3, h4⟩, x, ?_, h6⟩
  by_cases hj : zy_ru A (q.1 % 256) = i
  · rw [hj] at h4 h5 ⊢
    rw [hg] at h4
    have h4 : g = q.1 / 256 % 65536 / 128 := Option.some.inj h4
    rw [zy_rd_set h0, hd _ _ ?_]
    · rw [zy_rd_at h0] at h5
      exact h5
    · by_cases hf : q.1 / 256 % 128 = f
      · right
        exact h2 (by omega)
      · exact Or.inl hf
  · rw [zy_rd_ne hj]
    exact h5
theorem zy_UN_set {gl : List Nat} {K : Nat} {ws0 ws : va_W} (hu : zy_UN gl K ws0 ws) {i ad g f : Nat} {e0 e1 : va_E} (h0 : ws[i]? = some (ad, e0)) (hg : gl[i]? = some g) (hf128 : f < 128) (hd : ∀ f' a, f' ≠ f → zy_re e1 f' a = zy_re e0 f' a) (hK : K.testBit (128 * g + f) = true) (hFp : zy_Fp.testBit (128 * g + f) = false) (hz : 128 * g + f = 5252 → zy_re e1 4 0 ≠ some (.int 0)) : zy_UN gl K ws0 (ws.set i (ad, e1)) := by
  refine ⟨(zx_ads_set (e' := e1) h0).trans hu.1, fun j g' f' a hg' hf' hb => ?_, ?_⟩
  · rw [← hu.2.1 j g' f' a hg' hf' hb]
    by_cases hj : j = i
    · subst hj
      rw [hg] at hg'
      cases hg'
      have : f' ≠ f := fun z => by rw [z, hK] at hb; cases hb
      rw [zy_rd_set h0, zy_rd_at h0, hd _ _ this]
    · exact zy_rd_ne hj f' a
  · have hga : zy_Ga gl ws (ws.set i (ad, e1)) := by
      refine zy_Ga_eq (fun j g' f' a hg' hf' hb => ?_) (fun j hj hr => ?_)
      · by_cases hj : j = i
        · subst hj
          rw [hg] at hg'
          cases hg'
          have : f' ≠ f := fun z => by rw [z, hFp] at hb; cases hb
          rw [zy_rd_set h0, zy_rd_at h0, hd _ _ this]
        · exact zy_rd_ne hj f' a
      · by_cases hji : j = i
        · subst hji
          rw [hg] at hj
          have hj : g = 41 := Option.some.inj hj
          rw [zy_rd_set h0] at hr
          by_cases hf4 : f = 4
          · exact absurd hr (hz (by omega))
          · rw [hd _ _ (fun z => hf4 z.symm)] at hr
            rw [zy_rd_at h0]
            exact hr
        · rw [zy_rd_ne hji] at hr
          exact hr
    exact zy_Ga_tr hu.2.2 hga
