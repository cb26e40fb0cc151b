/-! groups of cells, their templates, and the world that keeps them -/
/-- the same with no names but those that are fixed -/
def zy_fz (A : zy_V) : zy_V := (A.1, (fun k => if k < 100 then zy_ru A k else 0, fun _ => 0, fun _ => 0), (0, 0, 100))
theorem zy_fz_le {A : zy_V} (h : 100 ≤ zy_fr A) : zy_le (zy_fz A) A := ⟨rfl, ⟨Nat.zero_le _, Nat.zero_le _, h⟩, fun _ hk => absurd hk (Nat.not_lt_zero _), fun _ hk => absurd hk (Nat.not_lt_zero _), fun _ hk => (if_pos hk).symm⟩
theorem zy_fz_eq {A B : zy_V} (h : zy_le A B) (hf : 100 ≤ zy_fr A) : zy_fz A = zy_fz B := by
  unfold zy_fz
  rw [h.1]
  have : (fun k => if k < 100 then zy_ru A k else 0) = fun k => if k < 100 then zy_ru B k else 0 := by
    funext k
    by_cases hk : k < 100
    · rw [if_pos hk, if_pos hk, h.2.2.2.2 k (by omega)]
    · rw [if_neg hk, if_neg hk]
  rw [this]
def zy_SR (A : zy_V) : List Nat → List Value → Prop
  | [], [] => True
  | a :: l, b :: m => zy_r A a b ∧ zy_SR A l m
  | [], _ :: _ => False
  | _ :: _, [] => False
def zy_LR (A : zy_V) (row : Nat) (ls : Array Slot) : Prop := ∀ i : Nat, zx_lg row i % 16 ≠ 0 → ∃ v, ls[i]? = some (.val v) ∧ zy_r A (zx_lg row i) v
theorem zy_SR_le {A B : zy_V} (h : zy_le A B) : ∀ (l : List Nat) (m : List Value), zy_SR A l m → zy_SR B l m
  | [], [], _ => trivial
  | _ :: l, _ :: m, h1 => ⟨zy_r_le h h1.1, zy_SR_le h l m h1.2⟩
  | [], _ :: _, h1 => h1.elim
  | _ :: _, [], h1 => h1.elim
theorem zy_LR_le {A B : zy_V} (h : zy_le A B) {row : Nat} {ls : Array Slot} (hl : zy_LR A row ls) : zy_LR B row ls := fun i hi => by
  obtain ⟨v, h1, h2⟩ := hl i hi
  exact ⟨v, h1, zy_r_le h h2⟩
def zy_lo (c : Nat) : Nat := Nat.div (Nat.mod (Nat.shiftRight c 20) 18446744073709551616) 4294967296
def zy_hi (c : Nat) : Nat := Nat.mod (Nat.mod (Nat.shiftRight c 20) 18446744073709551616) 4294967296
theorem zy_hi_lt (c : Nat) : zy_hi c < 4294967296 := Nat.mod_lt _ (by decide)
def zy_cr (A : zy_V) (tys : List (ClassId × FieldType)) (c : Nat) (e : va_E) : Prop := match c % 16 with
  | 3 => ∃ (cA : ClassId) (f : Nat → Int32), (cA, zx_ty 0) ∈ tys ∧ e = .inl (cA, zx_cn c, .inl f) ∧ ∀ j, j < zx_cn c → zy_lo c ≤ zx_bz (f j) ∧ zx_bz (f j) ≤ zy_hi c
  | 4 => ∃ (cA : ClassId) (f : Nat → Int32), (cA, zx_ty 1) ∈ tys ∧ e = .inl (cA, zx_cn c, .inl f) ∧ ∀ j, j < zx_cn c → zy_lo c ≤ zx_bz (f j) ∧ zx_bz (f j) ≤ zy_hi c
  | 5 => ∃ (cA : ClassId) (f : Nat → Int32), (cA, zx_ty 2) ∈ tys ∧ e = .inl (cA, zx_cn c, .inl f) ∧ ∀ j, j < zx_cn c → zy_lo c ≤ zx_bz (f j) ∧ zx_bz (f j) ≤ zy_hi c
  | 6 => ∃ (cA : ClassId) (f : Nat → Int64), (cA, FieldType.long) ∈ tys ∧ e = .inl (cA, zx_cn c, .inr (.inl f))
  | 7 => ∃ (fs : List Value) (r : vw_C), e = .inr (zx_cn c, fs) ∧ vwCl[zx_cn c]? = some r ∧ fs.length = r.2.2 ∧ ∀ (k : Nat) (v : Value), fs[k]? = some v → zy_r A (zx_og c k) v
  | 8 => ∃ (cA : ClassId) (f : Nat → Option Nat), (cA, FieldType.object RX8) ∈ tys ∧ e = .inl (cA, zx_cn c, .inr (.inr (.inr (.inr f)))) ∧ ∀ j, j < zx_cn c → zy_r A (zx_og c 0) (va_rf (f j))
  | 9 => ∃ (cA : ClassId) (f : Nat → Int32), (cA, zx_ty 0) ∈ tys ∧ e = .inl (cA, zx_cn c, .inl f) ∧ ∀ j, j < zx_cn c → zy_r A (zx_og c (j % 16)) (.int (f j))
  | _ => False
section ZYC
variable {A : zy_V} {tys : List (ClassId × FieldType)}
theorem zy_c7 {c : Nat} {e : va_E} (h : c % 16 = 7) : zy_cr A tys c e ↔ ∃ (fs : List Value) (r : vw_C), e = .inr (zx_cn c, fs) ∧ vwCl[zx_cn c]? = some r ∧ fs.length = r.2.2 ∧ ∀ (k : Nat) (v : Value), fs[k]? = some v → zy_r A (zx_og c k) v := by unfold zy_cr; rw [h]; exact Iff.rfl
theorem zy_c8 {c : Nat} {e : va_E} (h : c % 16 = 8) : zy_cr A tys c e ↔ ∃ (cA : ClassId) (f : Nat → Option Nat), (cA, FieldType.object RX8) ∈ tys ∧ e = .inl (cA, zx_cn c, .inr (.inr (.inr (.inr f)))) ∧ ∀ j, j < zx_cn c → zy_r A (zx_og c 0) (va_rf (f j)) := by unfold zy_cr; rw [h]; exact Iff.rfl
theorem zy_c6 {c : Nat} {e : va_E} (h : c % 16 = 6) : zy_cr A tys c e ↔ ∃ (cA : ClassId) (f : Nat → Int64), (cA, FieldType.long) ∈ tys ∧ e = .inl (cA, zx_cn c, .inr (.inl f)) := by unfold zy_cr; rw [h]; exact Iff.rfl
theorem zy_c9 {c : Nat} {e : va_E} (h : c % 16 = 9) : zy_cr A tys c e ↔ ∃ (cA : ClassId) (f : Nat → Int32), (cA, zx_ty 0) ∈ tys ∧ e = .inl (cA, zx_cn c, .inl f) ∧ ∀ j, j < zx_cn c → zy_r A (zx_og c (j % 16)) (.int (f j)) := by unfold zy_cr; rw [h]; exact Iff.rfl
theorem zy_cu {c t : Nat} {e : va_E} (h : c % 16 = t + 3) (ht : t < 3) : zy_cr A tys c e ↔ ∃ (cA : ClassId) (f : Nat → Int32), (cA, zx_ty t) ∈ tys ∧ e = .inl (cA, zx_cn c, .inl f) ∧ ∀ j, j < zx_cn c → zy_lo c ≤ zx_bz (f j) ∧ zx_bz (f j) ≤ zy_hi c := by
  unfold zy_cr
  rw [h]
  match t, ht with
  | 0, _ => exact Iff.rfl
  | 1, _ => exact Iff.rfl
  | 2, _ => exact Iff.rfl
theorem zy_cr_tg {c : Nat} {e : va_E} (h : zy_cr A tys c e) : 3 ≤ c % 16 ∧ c % 16 < 10 := by
  unfold zy_cr at h
  have hl : c % 16 < 16 := Nat.mod_lt _ (by decide)
  generalize c % 16 = t at h hl
  match t, h with
  | 0, h => exact h.elim
  | 1, h => exact h.elim
  | 2, h => exact h.elim
  | 3, _ => omega
  | 4, _ => omega
  | 5, _ => omega
  | 6, _ => omega
  | 7, _ => omega
  | 8, _ => omega
  | 9, _ => omega
  | (k + 10), h => exact h.elim
/-- an array of ints: tags 3, 4, 5, 9; the type of each element -/
def zy_et (c i : Nat) : Nat := bif Nat.beq (zx_tg c) 9 then zx_og c (Nat.mod i 16) else zy_c7v (zy_lo c) (zy_hi c)
theorem zy_cr_int {c : Nat} {e : va_E} (h : zy_cr A tys c e) (ht : c % 16 < 6 ∨ c % 16 = 9) : ∃ (cA : ClassId) (f : Nat → Int32), (cA, zx_ty (c % 16 % 3)) ∈ tys ∧ e = .inl (cA, zx_cn c, .inl f) ∧ ∀ j, j < zx_cn c → zy_r A (zy_et c j) (.int (f j)) := by
  obtain ⟨h3, -⟩ := zy_cr_tg h
  have eb : Nat.beq (zx_tg c) 9 = Nat.beq (c % 16) 9 := rfl
  rcases ht with ht | ht
  · have e1 : c % 16 = (c % 16 - 3) + 3 := by omega
    obtain ⟨cA, f, h1, h2, h4⟩ := (zy_cu e1 (by omega)).mp h
    refine ⟨cA, f, by rw [show c % 16 % 3 = c % 16 - 3 by omega]; exact h1, h2, fun j hj => ?_⟩
    have e2 : zy_et c j = zy_c7v (zy_lo c) (zy_hi c) := by
      unfold zy_et
      rw [eb, show Nat.beq (c % 16) 9 = false from by
        cases q : Nat.beq (c % 16) 9
        · rfl
        · have := zx_beq_t q; omega]
      rfl
    rw [e2]
    exact zy_r_7 (h4 j hj).1 (h4 j hj).2 (zy_hi_lt c)
  · obtain ⟨cA, f, h1, h2, h4⟩ := (zy_c9 ht).mp h
    refine ⟨cA, f, by rw [ht]; exact h1, h2, fun j hj => ?_⟩
    have e2 : zy_et c j = zx_og c (j % 16) := by
      unfold zy_et
      rw [eb, ht]
      rfl
    rw [e2]
    exact h4 j hj
theorem zy_7_r {l u : Nat} {x : Int32} (hl : l < 4294967296) (hu : u < 4294967296) (h : zy_r A (zy_c7v l u) (.int x)) : l ≤ zx_bz x ∧ zx_bz x ≤ u := by
  have e0 : zy_c7v l u = (l * 4294967296 + u) * 16 + 7 := rfl
  rw [e0] at h
  obtain ⟨-, y, h1, h2, h3⟩ := (zy_r7 (by omega)).mp h
  injection h1 with h1
  subst h1
  rw [show ((l * 4294967296 + u) * 16 + 7) / 16 = l * 4294967296 + u by omega] at h2 h3
  omega
theorem zy_lo_lt (c : Nat) : zy_lo c < 4294967296 := by
  have : Nat.mod (Nat.shiftRight c 20) 18446744073709551616 < 18446744073709551616 := Nat.mod_lt _ (by decide)
  show Nat.mod (Nat.shiftRight c 20) 18446744073709551616 / 4294967296 < 4294967296
  omega
/-- and back: an array of ints whose elements fit -/
theorem zy_cr_int' {c : Nat} {cA : ClassId} {f : Nat → Int32} (ht : (3 ≤ c % 16 ∧ c % 16 < 6) ∨ c % 16 = 9) (h1 : (cA, zx_ty (c % 16 % 3)) ∈ tys) (h4 : ∀ j, j < zx_cn c → zy_r A (zy_et c j) (.int (f j))) : zy_cr A tys c (.inl (cA, zx_cn c, .inl f)) := by
  have eb : Nat.beq (zx_tg c) 9 = Nat.beq (c % 16) 9 := rfl
  rcases ht with ht | ht
  · have e1 : c % 16 = (c % 16 - 3) + 3 := by omega
    refine (zy_cu e1 (by omega)).mpr ⟨cA, f, by rw [show c % 16 - 3 = c % 16 % 3 by omega]; exact h1, rfl, fun j hj => ?_⟩
    have e2 : zy_et c j = zy_c7v (zy_lo c) (zy_hi c) := by
      unfold zy_et
      rw [eb, show Nat.beq (c % 16) 9 = false from by
        cases q : Nat.beq (c % 16) 9
        · rfl
        · have := zx_beq_t q; omega]
      rfl
    have h5 := h4 j hj
    rw [e2] at h5
    exact zy_7_r (zy_lo_lt c) (zy_hi_lt c) h5
  · refine (zy_c9 ht).mpr ⟨cA, f, by rw [ht] at h1; exact h1, rfl, fun j hj => ?_⟩
    have e2 : zy_et c j = zx_og c (j % 16) := by
      unfold zy_et
      rw [eb, ht]
      rfl
    have h5 := h4 j hj
    rw [e2] at h5
    exact h5
end ZYC
/-- what a place of a cell holds: field f of an object, element a of an array -/
def zy_re (e : va_E) (f a : Nat) : Option Value := match e with
  | .inr (_, fs) => fs[f]?
  | .inl (_, n, .inl g) => if f = 0 ∧ a < n then some (.int (g a)) else none
  | .inl (_, n, .inr (.inl g)) => if f = 0 ∧ a < n then some (.long (g a)) else none
  | .inl (_, n, .inr (.inr (.inr (.inr g)))) => if f = 0 ∧ a < n then some (va_rf (g a)) else none
  | .inl (_, _, .inr (.inr (.inl _))) => none
  | .inl (_, _, .inr (.inr (.inr (.inl _)))) => none
def zy_rd (ws : va_W) (i f a : Nat) : Option Value := (ws[i]?).bind (fun w => zy_re w.2 f a)
/-- templates, by group -/
def zy_tm (T : List Nat) (g : Nat) : Nat := T.getD g 0
/-- every cell keeps its group's template -/
def zy_HR (A : zy_V) (T : List Nat) (tys : List (ClassId × FieldType)) (ws : va_W) : Prop := ws.map (fun w => w.1) = zy_ads A ∧ ∀ (i g : Nat) (w : Nat × va_E), ws[i]? = some w → (zy_gl A)[i]? = some g → zy_cr (zy_fz A) tys (zy_tm T g) w.2
/-- what is remembered of places: rho + 256 * (128 * group + field) + 2^24 * element -/
abbrev zy_C : Type := List (Nat × Nat)
def zy_CR (A : zy_V) (ws : va_W) (C : zy_C) : Prop := ∀ q ∈ C, (q.1 % 256 < zy_fr A ∧ (zy_gl A)[zy_ru A (q.1 % 256)]? = some (q.1 / 256 % 65536 / 128)) ∧ ∃ x, zy_rd ws (zy_ru A (q.1 % 256)) (q.1 / 256 % 128) (q.1 / 16777216) = some x ∧ zy_r A q.2 x
/-! the ghost: the rule that is in force is a right postfix text (groups and fields by number) -/
/-- how high the pile is behind a sign -/
def zy_hs (n : Nat) (c : Int32) : Option Nat := if c = 126 then (if 1 ≤ n then some n else none) else if 97 ≤ c ∧ c ≤ 122 then (if n < 59 then some (n + 1) else none) else if 2 ≤ n then some (n - 1) else none
/-- k signs from place a on, the pile n high -/
def zy_po (cd : Nat → Option Value) : Nat → Nat → Nat → Option Nat
  | 0, _, n => some n
  | k + 1, a, n => match cd a with
    | some (.int c) => (match zy_hs n c with
      | some m => zy_po cd k (a + 1) m
      | none => none)
    | _ => none
/-- bank b's rule -/
def zy_V1 (gl : List Nat) (ws : va_W) (b : Nat) : Prop := ∀ (iH iF iT iC : Nat) (h f t : Int32), gl[iH]? = some 68 → gl[iF]? = some 59 → gl[iT]? = some 60 → gl[iC]? = some 71 → zy_rd ws iH 0 b = some (.int h) → zy_rd ws iF 0 b = some (.int f) → zy_rd ws iT 0 b = some (.int t) → h ≠ 0 →
  560 * b ≤ f.toNatClampNeg ∧ t.toNatClampNeg ≤ 560 * (b + 1) ∧ (zy_po (fun k => zy_rd ws iC 0 k) (t.toNatClampNeg - f.toNatClampNeg) f.toNatClampNeg 0).isSome = true
/-- the rule in force is right -/
def zy_GV (gl : List Nat) (ws : va_W) : Prop := ∀ (i : Nat) (x : Int32), gl[i]? = some 41 → zy_rd ws i 43 0 = some (.int x) → zy_V1 gl ws x.toNatClampNeg
/-- and that which is read now, where nothing is wrong yet -/
def zy_GR (gl : List Nat) (ws : va_W) : Prop := zy_GV gl ws ∧ (∀ (i : Nat) (x y : Int32), gl[i]? = some 41 → zy_rd ws i 43 0 = some (.int x) → zy_rd ws i 44 0 = some (.int y) → y = 1 - x) ∧ ∀ (i : Nat) (y : Int32), gl[i]? = some 41 → zy_rd ws i 44 0 = some (.int y) → zy_rd ws i 4 0 = some (.int 0) → zy_V1 gl ws y.toNatClampNeg
def zy_Ga (gl : List Nat) (ws0 ws : va_W) : Prop := (zy_GV gl ws0 → zy_GV gl ws) ∧ (zy_GR gl ws0 → zy_GR gl ws)
/-- places that the ghost looks at (all but faultKind, 5252) -/
def zy_Fp : Nat := 576236274894160347476739731381173937246689737474208399298630871474154176819743019789080106453137744071541657615071763357275748049258221993658063043941661683288848087246528135446968007711066236773412391839059502046274969406184898925799686738402675111141333495259724877444474147999177177651970678761835408295812943974624960652097714876296885099025752979661837691380626774456356333254720365245085899943858150870979621139318953024504921764900414420020612746007323923695372767443835548988094344893498447527761891353093983908611222246489993250014736100193020859976673271717972471909160503470474596797820986169665345727101304637102940935085659799338490782791836818474024312545020286851180042186753789942551778773824897797431244940317159722457123849424252159449543157534046522340417782473872415257550828983500433341159057402218863723463767456935102729281146377690637781628260009842158458980642824534253618952197876541151143131984874092912482030761490558769541741811685384886870535211089840390070258442389250251316676497911392756761963472398285006353575565988906942281778809458541230297468871795895979905059934715516968737726708330421883195593318664187956557690201678477340811687289597181077005577956481831725802449771760231208093882135670478229939160072695309794482230490308992740454832440999427114983796375926594019238694620994058731021874812519019387655962472192301259804933857044944750590122478445092051718710376482722732147358448201291075158435314209525823649658971501531142592686135590704120880077544907483647275506548171987341183437607602533961308986694329204680126970675248750617176187114813764562376397772516442883672207059085611485191099935473082176163424953611867476262084200681851670804902978534172908258476999278167102140473229808550037600896454580502963101051528008486894093607435148050684512284220492415859638134650408689379817266766807725952004819245885864402945391467056915340373852934796418385464370517535211101032473492492683041081814525146608342695622546948214719777239336289025555019663946121910503676421616608633322279961126659455388670406496741820408940115649970969435348442843471359058942999911908326860971238986895847949921618602621957380565545083903697826618436045040827729507609382445516229641843260475179266882846025693328801466126281927917116433388613514660396592329584351114813280425759600932426512978821824729053743203857519960764467334140382576089685343099567993629732408782091963815758208612930102108280358680118683878068455687594707345873682241812595350276008327299367532969376631995151976615041957483401824334200606184048608030030274156256476988742922551696622136935352506557005484388033757219871845322414284369342817888789652389202640267960078881187671032791181557682841369673585328627926990706134209777369088
theorem zy_Fp_ok : (zy_Fp.testBit (128 * 41 + 43) && (zy_Fp.testBit (128 * 41 + 44) && (zy_Fp.testBit (128 * 68 + 0) && (zy_Fp.testBit (128 * 59 + 0) && (zy_Fp.testBit (128 * 60 + 0) && zy_Fp.testBit (128 * 71 + 0)))))) = true := by decide +kernel
theorem zy_V1_eq {gl : List Nat} {ws ws' : va_W} (h : ∀ (j g f a : Nat), gl[j]? = some g → f < 128 → zy_Fp.testBit (128 * g + f) = true → zy_rd ws' j f a = zy_rd ws j f a) {b : Nat} (hv : zy_V1 gl ws b) : zy_V1 gl ws' b := by
  have hF := zy_Fp_ok
  obtain ⟨-, hF⟩ := zx_and_b hF
  obtain ⟨-, hF⟩ := zx_and_b hF
  obtain ⟨f1, hF⟩ := zx_and_b hF
  obtain ⟨f2, hF⟩ := zx_and_b hF
  obtain ⟨f3, f4⟩ := zx_and_b hF
  intro iH iF iT iC x f t h1 h2 h3 h4 g1 g2 g3
  rw [h _ _ 0 _ h1 (by decide) f1] at g1
  rw [h _ _ 0 _ h2 (by decide) f2] at g2
  rw [h _ _ 0 _ h3 (by decide) f3] at g3
  have e4 : (fun k => zy_rd ws' iC 0 k) = fun k => zy_rd ws iC 0 k := funext fun k => h _ _ 0 _ h4 (by decide) f4
  rw [e4]
  exact hv iH iF iT iC x f t h1 h2 h3 h4 g1 g2 g3
theorem zy_Ga_eq {gl : List Nat} {ws ws' : va_W} (h : ∀ (j g f a : Nat), gl[j]? = some g → f < 128 → zy_Fp.testBit (128 * g + f) = true → zy_rd ws' j f a = zy_rd ws j f a) (hf : ∀ j, gl[j]? = some 41 → zy_rd ws' j 4 0 = some (.int 0) → zy_rd ws j 4 0 = some (.int 0)) : zy_Ga gl ws ws' := by
  have hF := zy_Fp_ok
  obtain ⟨f1, hF⟩ := zx_and_b hF
  obtain ⟨f2, -⟩ := zx_and_b hF
  have hV : zy_GV gl ws → zy_GV gl ws' := fun hv i x h1 h2 => by
    rw [h _ _ 43 _ h1 (by decide) f1] at h2
    exact zy_V1_eq h (hv i x h1 h2)
  refine ⟨hV, fun hr => ⟨hV hr.1, fun i x y h1 h2 h3 => ?_, fun i y h1 h2 h3 => ?_⟩⟩
  · rw [h _ _ 43 _ h1 (by decide) f1] at h2
    rw [h _ _ 44 _ h1 (by decide) f2] at h3
    exact hr.2.1 i x y h1 h2 h3
  · rw [h _ _ 44 _ h1 (by decide) f2] at h2
    exact zy_V1_eq h (hr.2.2 i y h1 h2 (hf i h1 h3))
/-- what is outside a mask of places is as it was, and the ghost is kept -/
def zy_UN (gl : List Nat) (K : Nat) (ws0 ws : va_W) : Prop := ws.map (fun w => w.1) = ws0.map (fun w => w.1) ∧ (∀ (i g f a : Nat), gl[i]? = some g → f < 128 → K.testBit (128 * g + f) = false → zy_rd ws i f a = zy_rd ws0 i f a) ∧ zy_Ga gl ws0 ws
theorem zy_UN_rf {gl : List Nat} {K : Nat} {ws : va_W} : zy_UN gl K ws ws := ⟨rfl, fun _ _ _ _ _ _ _ => rfl, fun h => h, fun h => h⟩
theorem zy_UN_tr {gl : List Nat} {K : Nat} {ws0 ws1 ws2 : va_W} (h1 : zy_UN gl K ws0 ws1) (h2 : zy_UN gl K ws1 ws2) : zy_UN gl K ws0 ws2 := ⟨h2.1.trans h1.1, fun i g f a hg hf hK => (h2.2.1 i g f a hg hf hK).trans (h1.2.1 i g f a hg hf hK), fun h => h2.2.2.1 (h1.2.2.1 h), fun h => h2.2.2.2 (h1.2.2.2 h)⟩
theorem zy_HR_le {A B : zy_V} (h : zy_le A B) (hf : 100 ≤ zy_fr A) {T : List Nat} {tys : List (ClassId × FieldType)} {ws : va_W} (hh : zy_HR A T tys ws) : zy_HR B T tys ws := by
  unfold zy_HR zy_ads zy_gl
  rw [← h.1, ← zy_fz_eq h hf]
  exact hh
theorem zy_CR_le {A B : zy_V} (h : zy_le A B) {ws : va_W} {C : zy_C} (hc : zy_CR A ws C) : zy_CR B ws C := fun q hq => by
  obtain ⟨⟨h1, h2⟩, x, h3, h4⟩ := hc q hq
  have e1 := h.2.2.2.2 _ h1
  have e2 : zy_gl B = zy_gl A := by unfold zy_gl; rw [h.1]
  refine ⟨⟨Nat.lt_of_lt_of_le h1 h.2.1.2.2, by rw [e1, e2]; exact h2⟩, x, by rw [e1]; exact h3, zy_r_le h h4⟩
/-- a reference's cell -/
theorem zy_HR_get {A : zy_V} {T : List Nat} {tys : List (ClassId × FieldType)} {ws : va_W} (hh : zy_HR A T tys ws) {r c : Nat} {x : Value} (hr : zy_r A r x) (hk : r % 16 = 2) (hT : T[r / 16 / 256]? = some c) :
    ∃ (i ad : Nat) (ee : va_E), x = .ref ad ∧ ws[i]? = some (ad, ee) ∧ (zy_gl A)[i]? = some (r / 16 / 256) ∧ zy_cr (zy_fz A) tys c ee ∧ (r / 16 % 256 ≠ 0 → zy_ru A (r / 16 % 256) = i ∧ r / 16 % 256 < zy_fr A) := by
  obtain ⟨-, i, ad, h1, h2, h3, h4⟩ := (zy_r2 hk).mp hr
  rw [← hh.1, List.getElem?_map] at h1
  cases h5 : ws[i]? with
  | none => rw [h5] at h1; cases h1
  | some w =>
    rw [h5] at h1
    have h1 : w.1 = ad := Option.some.inj h1
    have h6 := hh.2 i _ w h5 h2
    rw [show zy_tm T (r / 16 / 256) = c from by unfold zy_tm; rw [List.getD_eq_getElem?_getD, hT]; rfl] at h6
    exact ⟨i, ad, w.2, h3, by rw [← h1]; exact h5, h2, h6, h4⟩
/-- a cell is changed -/
theorem zy_HR_set {A : zy_V} {T : List Nat} {tys : List (ClassId × FieldType)} {ws : va_W} (hh : zy_HR A T tys ws) {i ad g c : Nat} {e0 e1 : va_E} (h0 : ws[i]? = some (ad, e0)) (hg : (zy_gl A)[i]? = some g) (hT : T[g]? = some c) (h1 : zy_cr (zy_fz A) tys c e1) : zy_HR A T tys (ws.set i (ad, e1)) := by
  refine ⟨(zx_ads_set (e' := e1) h0).trans hh.1, fun j g' w hj hg' => ?_⟩
  by_cases q : j = i
  · subst q
    rw [hg] at hg'
    cases hg'
    rw [List.getElem?_set_self (List.getElem?_eq_some_iff.mp h0).1] at hj
    cases hj
    rw [show zy_tm T g = c from by unfold zy_tm; rw [List.getD_eq_getElem?_getD, hT]; rfl]
    exact h1
  · rw [List.getElem?_set_ne (Ne.symm q)] at hj
    exact hh.2 j g' w hj hg'
theorem zy_rd_set {ws : va_W} {i ad : Nat} {e0 e1 : va_E} (h0 : ws[i]? = some (ad, e0)) (f a : Nat) : zy_rd (ws.set i (ad, e1)) i f a = zy_re e1 f a := by
  unfold zy_rd
  rw [List.getElem?_set_self (List.getElem?_eq_some_iff.mp h0).1]
  rfl
theorem zy_rd_ne {ws : va_W} {i j ad : Nat} {e1 : va_E} (h : j ≠ i) (f a : Nat) : zy_rd (ws.set i (ad, e1)) j f a = zy_rd ws j f a := by
  unfold zy_rd
  rw [List.getElem?_set_ne (Ne.symm h)]
theorem zy_rd_at {ws : va_W} {i ad : Nat} {e0 : va_E} (h0 : ws[i]? = some (ad, e0)) (f a : Nat) : zy_rd ws i f a = zy_re e0 f a := by
  unfold zy_rd
  rw [h0]
  rfl
/-- what a change of a cell leaves: places elsewhere, and those of the cell that P does not name -/
theorem zy_CR_set {A : zy_V} {ws : va_W} {C C' : zy_C} (hc : zy_CR A ws C) {i ad g f : Nat} {e0 e1 : va_E} {P : Nat → Prop} (h0 : ws[i]? = some (ad, e0)) (hg : (zy_gl A)[i]? = some g) (hd : ∀ f' a, f' ≠ f ∨ ¬ P a → zy_re e1 f' a = zy_re e0 f' a) (hC : ∀ q ∈ C', q ∈ C ∧ (q.1 / 256 % 65536 = 128 * g + f → ¬ P (q.1 / 16777216))) : zy_CR A (ws.set i (ad, e1)) C' := fun q hq => by
  obtain ⟨h1, h2⟩ := hC q hq
  obtain ⟨⟨h3, h4⟩, x, h5, h6⟩ := hc q h1
  refine ⟨⟨h3, h4⟩, x, ?_, h6⟩
  by_cases hj : zy_ru A (q.1 % 256) = i
  · rw [hj] at h4 h5 ⊢
    rw [hg] at h4
    have h4 : g = q.1 / 256 % 65536 / 128 := Option.some.inj h4
    rw [zy_rd_set h0, hd _ _ ?_]
    · rw [zy_rd_at h0] at h5
      exact h5
    · by_cases hf : q.1 / 256 % 128 = f
      · right
        exact h2 (by omega)
      · exact Or.inl hf
  · rw [zy_rd_ne hj]
    exact h5
theorem zy_UN_set {gl : List Nat} {K : Nat} {ws0 ws : va_W} (hu : zy_UN gl K ws0 ws) {i ad g f : Nat} {e0 e1 : va_E} (h0 : ws[i]? = some (ad, e0)) (hg : gl[i]? = some g) (hf128 : f < 128) (hd : ∀ f' a, f' ≠ f → zy_re e1 f' a = zy_re e0 f' a) (hK : K.testBit (128 * g + f) = true) (hFp : zy_Fp.testBit (128 * g + f) = false) (hz : 128 * g + f = 5252 → zy_re e1 4 0 ≠ some (.int 0)) : zy_UN gl K ws0 (ws.set i (ad, e1)) := by
  refine ⟨(zx_ads_set (e' := e1) h0).trans hu.1, fun j g' f' a hg' hf' hb => ?_, ?_⟩
  · rw [← hu.2.1 j g' f' a hg' hf' hb]
    by_cases hj : j = i
    · subst hj
      rw [hg] at hg'
      cases hg'
      have : f' ≠ f := fun z => by rw [z, hK] at hb; cases hb
      rw [zy_rd_set h0, zy_rd_at h0, hd _ _ this]
    · exact zy_rd_ne hj f' a
  · have hga : zy_Ga gl ws (ws.set i (ad, e1)) := by
      refine zy_Ga_eq (fun j g' f' a hg' hf' hb => ?_) (fun j hj hr => ?_)
      · by_cases hj : j = i
        · subst hj
          rw [hg] at hg'
          cases hg'
          have : f' ≠ f := fun z => by rw [z, hFp] at hb; cases hb
          rw [zy_rd_set h0, zy_rd_at h0, hd _ _ this]
        · exact zy_rd_ne hj f' a
      · by_cases hji : j = i
        · subst hji
          rw [hg] at hj
          have hj : g = 41 := Option.some.inj hj
          rw [zy_rd_set h0] at hr
          by_cases hf4 : f = 4
          · exact absurd hr (hz (by omega))
          · rw [hd _ _ (fun z => hf4 z.symm)] at hr
            rw [zy_rd_at h0]
            exact hr
        · rw [zy_rd_ne hji] at hr
          exact hr
    exact ⟨fun h => hga.1 (hu.2.2.1 h), fun h => hga.2 (hu.2.2.2 h)⟩
