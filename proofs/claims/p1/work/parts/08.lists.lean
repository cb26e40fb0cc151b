/-! locals, stacks and worlds of the walker's values -/
def zx_LR (ads : List Nat) (ex : Nat → Nat) (nu : Nat → Int32) : List (Nat × zx_V) → List (Nat × Value) → Prop
  | [], [] => True
  | a :: l, b :: m => a.1 = b.1 ∧ zx_r ads ex nu a.2 b.2 ∧ zx_LR ads ex nu l m
  | [], _ :: _ => False
  | _ :: _, [] => False
def zx_SR (ads : List Nat) (ex : Nat → Nat) (nu : Nat → Int32) : List zx_V → List Value → Prop
  | [], [] => True
  | a :: l, b :: m => zx_r ads ex nu a b ∧ zx_SR ads ex nu l m
  | [], _ :: _ => False
  | _ :: _, [] => False
def zx_cr (ads : List Nat) (ex : Nat → Nat) (nu : Nat → Int32) (aC : Nat → ClassId) (c : zx_C) (e : va_E) : Prop := match c.1 with
  | 0 => ∃ f : Nat → Int32, e = .inl (aC c.2.1, c.2.2.1, .inl f) ∧ c.2.1 < 3 ∧ ∀ j, j < c.2.2.1 → f j = nI (zx_dg c.2.2.2.1 j)
  | 1 => ∃ f : Nat → Int32, e = .inl (aC c.2.1, c.2.2.1, .inl f) ∧ c.2.1 < 3
  | 2 => ∃ fs : List Value, e = .inr (c.2.1, fs) ∧ zx_SR ads ex nu c.2.2.2.2 fs
  | 3 => ∃ f : Nat → Int64, e = .inl (aC 3, c.2.2.1, .inr (.inl f))
  | 4 => ∃ f : Nat → Option Nat, e = .inl (aC 4, c.2.2.1, .inr (.inr (.inr (.inr f)))) ∧ c.2.2.2.2.length = c.2.2.1 ∧ ∀ (j : Nat) (a : zx_V), c.2.2.2.2[j]? = some a → zx_r ads ex nu a (va_rf (f j))
  | _ => False
def zx_HR (ads : List Nat) (ex : Nat → Nat) (nu : Nat → Int32) (aC : Nat → ClassId) : List zx_C → va_W → Prop
  | [], [] => True
  | c :: h, w :: ws => zx_cr ads ex nu aC c w.2 ∧ zx_HR ads ex nu aC h ws
  | [], _ :: _ => False
  | _ :: _, [] => False
def zx_la : Nat → List zx_V → List (Nat × zx_V)
  | _, [] => []
  | i, a :: l => (i, a) :: zx_la (bif zx_jj a then i + 2 else i + 1) l
def zx_sz : List zx_V → Nat
  | [] => 0
  | a :: l => zx_ct a + zx_sz l
section ZL
variable {ads ads' : List Nat} {ex : Nat → Nat} {nu : Nat → Int32} {aC : Nat → ClassId}
theorem zx_LR_lk : ∀ {lo : List (Nat × zx_V)} {lv : List (Nat × Value)} {i : Nat} {a : zx_V}, zx_LR ads ex nu lo lv → zx_lk lo i = some a → ∃ v, zx_r ads ex nu a v ∧ (i, v) ∈ lv
  | [], [], _, _, _, h => by cases h
  | b :: l, c :: m, i, a, h, hk => by
    obtain ⟨j, x⟩ := b
    obtain ⟨j', y⟩ := c
    obtain ⟨h1, h2, h3⟩ := h
    have h1 : j = j' := h1
    subst h1
    unfold zx_lk at hk
    cases hb : Nat.beq j i with
    | true =>
      rw [hb] at hk
      have hk : some x = some a := hk
      cases hk
      have := Nat.eq_of_beq_eq_true hb
      subst this
      exact ⟨y, h2, List.mem_cons_self⟩
    | false =>
      rw [hb] at hk
      obtain ⟨v, q1, q2⟩ := zx_LR_lk h3 hk
      exact ⟨v, q1, List.mem_cons_of_mem _ q2⟩
  | [], _ :: _, _, _, h, _ => h.elim
  | _ :: _, [], _, _, h, _ => h.elim
theorem zx_ct_eq {a : zx_V} {v : Value} (h : zx_r ads ex nu a v) : (zx_ct a == 2) = (v.category == 2) := by rw [zx_r_cat h]
theorem zx_LR_f1 (i : Nat) : ∀ {lo : List (Nat × zx_V)} {lv : List (Nat × Value)}, zx_LR ads ex nu lo lv → zx_LR ads ex nu (lo.filter (fun q => !(q.1 == i) && !(q.1 + 1 == i && zx_ct q.2 == 2))) (lv.filter (fun q => !(q.1 == i) && !(q.1 + 1 == i && q.2.category == 2)))
  | [], [], _ => trivial
  | a :: l, b :: m, h => by
    obtain ⟨h1, h2, h3⟩ := h
    have ih := zx_LR_f1 i h3
    have he : (!(a.1 == i) && !(a.1 + 1 == i && zx_ct a.2 == 2)) = (!(b.1 == i) && !(b.1 + 1 == i && b.2.category == 2)) := by rw [h1, zx_ct_eq h2]
    rw [List.filter_cons, List.filter_cons, he]
    split
    · exact ⟨h1, h2, ih⟩
    · exact ih
  | [], _ :: _, h => h.elim
  | _ :: _, [], h => h.elim
theorem zx_LR_f2 (i : Nat) : ∀ {lo : List (Nat × zx_V)} {lv : List (Nat × Value)}, zx_LR ads ex nu lo lv → zx_LR ads ex nu (lo.filter (fun q => !(q.1 == i) && (!(q.1 == i + 1) && !(q.1 + 1 == i && zx_ct q.2 == 2)))) (lv.filter (fun q => !(q.1 == i) && (!(q.1 == i + 1) && !(q.1 + 1 == i && q.2.category == 2))))
  | [], [], _ => trivial
  | a :: l, b :: m, h => by
    obtain ⟨h1, h2, h3⟩ := h
    have ih := zx_LR_f2 i h3
    have he : (!(a.1 == i) && (!(a.1 == i + 1) && !(a.1 + 1 == i && zx_ct a.2 == 2))) = (!(b.1 == i) && (!(b.1 == i + 1) && !(b.1 + 1 == i && b.2.category == 2))) := by rw [h1, zx_ct_eq h2]
    rw [List.filter_cons, List.filter_cons, he]
    split
    · exact ⟨h1, h2, ih⟩
    · exact ih
  | [], _ :: _, h => h.elim
  | _ :: _, [], h => h.elim
theorem zx_LR_mono (hp : ∀ (i q : Nat), ads[i]? = some q → ads'[i]? = some q) : ∀ {lo : List (Nat × zx_V)} {lv : List (Nat × Value)}, zx_LR ads ex nu lo lv → zx_LR ads' ex nu lo lv
  | [], [], _ => trivial
  | _ :: _, _ :: _, h => ⟨h.1, zx_r_mono hp h.2.1, zx_LR_mono hp h.2.2⟩
  | [], _ :: _, h => h.elim
  | _ :: _, [], h => h.elim
theorem zx_SR_mono (hp : ∀ (i q : Nat), ads[i]? = some q → ads'[i]? = some q) : ∀ {lo : List zx_V} {lv : List Value}, zx_SR ads ex nu lo lv → zx_SR ads' ex nu lo lv
  | [], [], _ => trivial
  | _ :: _, _ :: _, h => ⟨zx_r_mono hp h.1, zx_SR_mono hp h.2⟩
  | [], _ :: _, h => h.elim
  | _ :: _, [], h => h.elim
theorem zx_cr_mono (hp : ∀ (i q : Nat), ads[i]? = some q → ads'[i]? = some q) {c : zx_C} {e : va_E} (h : zx_cr ads ex nu aC c e) : zx_cr ads' ex nu aC c e := by
  obtain ⟨t, ci, n, cd, fs⟩ := c
  match t, h with
  | 0, h => exact h
  | 1, h => exact h
  | 2, h => obtain ⟨f, h1, h2⟩ := h; exact ⟨f, h1, zx_SR_mono hp h2⟩
  | 3, h => exact h
  | 4, h => obtain ⟨f, h1, h2, h3⟩ := h; exact ⟨f, h1, h2, fun j a ha => zx_r_mono hp (h3 j a ha)⟩
  | (k + 5), h => exact h.elim
theorem zx_HR_mono (hp : ∀ (i q : Nat), ads[i]? = some q → ads'[i]? = some q) : ∀ {h : List zx_C} {ws : va_W}, zx_HR ads ex nu aC h ws → zx_HR ads' ex nu aC h ws
  | [], [], _ => trivial
  | _ :: _, _ :: _, h => ⟨zx_cr_mono hp h.1, zx_HR_mono hp h.2⟩
  | [], _ :: _, h => h.elim
  | _ :: _, [], h => h.elim
theorem zx_HR_get : ∀ {h : List zx_C} {ws : va_W} {i : Nat} {c : zx_C}, zx_HR ads ex nu aC h ws → h[i]? = some c → ∃ w, ws[i]? = some w ∧ zx_cr ads ex nu aC c w.2
  | [], [], _, _, _, h => by cases h
  | a :: l, b :: m, 0, c, h, hk => by
    have hk : some a = some c := hk
    cases hk
    exact ⟨b, rfl, h.1⟩
  | a :: l, b :: m, i + 1, c, h, hk => zx_HR_get (i := i) h.2 hk
  | [], _ :: _, _, _, h, _ => h.elim
  | _ :: _, [], _, _, h, _ => h.elim
theorem zx_HR_set : ∀ {h : List zx_C} {ws : va_W} {i : Nat} {c : zx_C} {w : Nat × va_E}, zx_HR ads ex nu aC h ws → zx_cr ads ex nu aC c w.2 → zx_HR ads ex nu aC (h.set i c) (ws.set i w)
  | [], [], _, _, _, _, _ => trivial
  | a :: l, b :: m, 0, c, w, h, hk => ⟨hk, h.2⟩
  | a :: l, b :: m, i + 1, c, w, h, hk => ⟨h.1, zx_HR_set (i := i) h.2 hk⟩
  | [], _ :: _, _, _, _, h, _ => h.elim
  | _ :: _, [], _, _, _, h, _ => h.elim
theorem zx_HR_len : ∀ {h : List zx_C} {ws : va_W}, zx_HR ads ex nu aC h ws → h.length = ws.length
  | [], [], _ => rfl
  | a :: l, b :: m, h => by rw [List.length_cons, List.length_cons, zx_HR_len h.2]
  | [], _ :: _, h => h.elim
  | _ :: _, [], h => h.elim
theorem zx_HR_push : ∀ {h : List zx_C} {ws : va_W} {c : zx_C} {w : Nat × va_E}, zx_HR ads ex nu aC h ws → zx_cr ads ex nu aC c w.2 → zx_HR ads ex nu aC (h ++ [c]) (ws ++ [w])
  | [], [], _, _, _, hc => ⟨hc, trivial⟩
  | a :: l, b :: m, c, w, h, hc => ⟨h.1, zx_HR_push h.2 hc⟩
  | [], _ :: _, _, _, h, _ => h.elim
  | _ :: _, [], _, _, h, _ => h.elim
theorem zx_ads_set {ws : va_W} {i a : Nat} {e e' : va_E} (h : ws[i]? = some (a, e)) : (ws.set i (a, e')).map (fun w => w.1) = ws.map (fun w => w.1) := by
  rw [List.map_set]
  apply List.ext_getElem?
  intro j
  rw [List.getElem?_set]
  split
  · rename_i hij
    subst hij
    rw [List.getElem?_map, h]
    split
    · rfl
    · rename_i hl
      rw [List.length_map] at hl
      rw [List.getElem?_eq_none (by omega)] at h
      cases h
  · rfl
theorem zx_SR_get : ∀ {fs : List zx_V} {vs : List Value} {i : Nat} {a : zx_V}, zx_SR ads ex nu fs vs → fs[i]? = some a → ∃ v, vs[i]? = some v ∧ zx_r ads ex nu a v
  | [], [], _, _, _, h => by cases h
  | a :: l, b :: m, 0, c, h, hk => by
    have hk : some a = some c := hk
    cases hk
    exact ⟨b, rfl, h.1⟩
  | a :: l, b :: m, i + 1, c, h, hk => zx_SR_get (i := i) h.2 hk
  | [], _ :: _, _, _, h, _ => h.elim
  | _ :: _, [], _, _, h, _ => h.elim
theorem zx_SR_set : ∀ {fs : List zx_V} {vs : List Value} {i : Nat} {a : zx_V} {v : Value}, zx_SR ads ex nu fs vs → zx_r ads ex nu a v → zx_SR ads ex nu (fs.set i a) (vs.set i v)
  | [], [], _, _, _, _, _ => trivial
  | a :: l, b :: m, 0, c, w, h, hk => ⟨hk, h.2⟩
  | a :: l, b :: m, i + 1, c, w, h, hk => ⟨h.1, zx_SR_set (i := i) h.2 hk⟩
  | [], _ :: _, _, _, _, h, _ => h.elim
  | _ :: _, [], _, _, _, h, _ => h.elim
theorem zx_SR_len : ∀ {fs : List zx_V} {vs : List Value}, zx_SR ads ex nu fs vs → fs.length = vs.length
  | [], [], _ => rfl
  | a :: l, b :: m, h => by rw [List.length_cons, List.length_cons, zx_SR_len h.2]
  | [], _ :: _, h => h.elim
  | _ :: _, [], h => h.elim
theorem zx_SR_app : ∀ {f1 f2 : List zx_V} {v1 v2 : List Value}, zx_SR ads ex nu f1 v1 → zx_SR ads ex nu f2 v2 → zx_SR ads ex nu (f1 ++ f2) (v1 ++ v2)
  | [], _, [], _, _, h => h
  | _ :: _, _, _ :: _, _, h, h2 => ⟨h.1, zx_SR_app h.2 h2⟩
  | [], _, _ :: _, _, h, _ => h.elim
  | _ :: _, _, [], _, h, _ => h.elim
theorem zx_SR_rev : ∀ {f : List zx_V} {v : List Value}, zx_SR ads ex nu f v → zx_SR ads ex nu f.reverse v.reverse
  | [], [], _ => trivial
  | a :: l, b :: m, h => by
    rw [List.reverse_cons, List.reverse_cons]
    exact zx_SR_app (zx_SR_rev h.2) ⟨h.1, trivial⟩
  | [], _ :: _, h => h.elim
  | _ :: _, [], h => h.elim
/-- a stack, cut behind its first n -/
theorem zx_SR_cut : ∀ (n : Nat) {f : List zx_V} {v : List Value}, zx_SR ads ex nu f v → zx_SR ads ex nu (f.take n) (v.take n) ∧ zx_SR ads ex nu (f.drop n) (v.drop n)
  | 0, _, _, h => ⟨trivial, h⟩
  | n + 1, [], [], _ => ⟨trivial, trivial⟩
  | n + 1, _ :: _, _ :: _, h => ⟨⟨h.1, (zx_SR_cut n h.2).1⟩, (zx_SR_cut n h.2).2⟩
  | _ + 1, [], _ :: _, h => h.elim
  | _ + 1, _ :: _, [], h => h.elim
theorem zx_la_s : ∀ {f : List zx_V} {v : List Value} (i : Nat), zx_SR ads ex nu f v → zx_LR ads ex nu (zx_la i f) (lv_args i v)
  | [], [], _, _ => trivial
  | a :: l, b :: m, i, h => by
    have hc := zx_r_cat h.1
    have he : (bif zx_jj a then i + 2 else i + 1) = (if b.category = 2 then i + 2 else i + 1) := by
      rw [hc]
      unfold zx_ct
      cases zx_jj a <;> rfl
    unfold zx_la lv_args
    rw [← he]
    exact ⟨rfl, h.1, zx_la_s _ h.2⟩
  | [], _ :: _, _, h => h.elim
  | _ :: _, [], _, h => h.elim
theorem zx_sz_s : ∀ {f : List zx_V} {v : List Value}, zx_SR ads ex nu f v → (lg_sl v).length = zx_sz f ∧ (v.map fun w => w.category).sum = zx_sz f
  | [], [], _ => ⟨rfl, rfl⟩
  | a :: l, b :: m, h => by
    have hc := zx_r_cat h.1
    obtain ⟨i1, i2⟩ := zx_sz_s h.2
    refine ⟨?_, ?_⟩
    · unfold lg_sl at i1 ⊢
      rw [List.flatMap_cons, List.length_append, i1]
      show _ = zx_ct a + zx_sz l
      rw [← hc]
      rcases lv_cat b with q | q <;> rw [q] <;> simp
    · rw [List.map_cons, List.sum_cons, i2, hc]
      rfl
  | [], _ :: _, h => h.elim
  | _ :: _, [], h => h.elim
end ZL
