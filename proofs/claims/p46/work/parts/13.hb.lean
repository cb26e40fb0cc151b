/-! the methods' heads -/
def zx_re1 (M : zx_M) (q : zx_E) : Bool := bif Nat.beq q.2.1 42 then (bif Nat.beq q.2.2.1 0 then Nat.ble 1 M.2.1.2.2.2.2.2 && Nat.ble M.2.1.2.2.2.2.2 4 else bif Nat.beq q.2.2.1 1 then Nat.beq M.2.1.2.2.2.2.2 5 else Nat.beq M.2.1.2.2.2.2.2 6) else true
def zx_re (m : zx_M) : Bool := m.2.2.all (fun b => b.2.all (zx_re1 m))
def zx_hc (m : zx_M) : Bool := decide (m.1.1.cls = zx_on1 m.2.1.1) && (plainFor m.1.1 && (decide (m.1.1.cls ≠ "java/lang/invoke/MethodHandle" ∧ m.1.1.cls ≠ "java/lang/invoke/VarHandle") &&
  (decide ((parseMethodDescriptor m.1.1.desc).map (fun d => d.parameters.length) = some (bif Nat.beq m.2.1.2.1 1 then m.2.1.2.2.1 else m.2.1.2.2.1 - 1)) && ((Nat.beq m.2.1.2.1 1 || Nat.ble 1 m.2.1.2.2.1) && (Nat.ble m.1.2.2.1 60 && ((!Nat.beq m.2.1.2.1 2 || (decide (m.1.1.name = "<init>") && decide (m.1.2.2.2 = none))) &&
  (Nat.beq (zx_rk m.1.2.2.2) m.2.1.2.2.2.2.2 && (Nat.ble m.2.1.2.1 2 && ((!Nat.beq m.2.1.2.1 0 || (Nat.beq m.2.1.1 14 || (Nat.blt m.2.1.1 13 && decide ((zx_ci m.2.1.1).1 = zx_on1 m.2.1.1)))) && zx_re m)))))))))
theorem zx_hc_ok : (zx_mt.flatten.all zx_hc) = true := by decide +kernel
theorem zx_re_law : zx_re zm_law = true := by decide +kernel
theorem zx_on14 : zx_on1 14 = "java/lang/String" := by decide +kernel
/-- what is known of a method of the tables -/
def zx_ve (M : zx_M) (q : zx_E) : Prop := zx_vd M q ∧ zx_re1 M q = true
def zx_tw (M : zx_M) : Prop := ∀ b ∈ M.2.2, ∀ q ∈ b.2, zx_ve M q
theorem zx_tw_of {M : zx_M} (h1 : zx_tv M = true) (h2 : zx_re M = true) : zx_tw M := fun b hb q hq => ⟨zx_vb_s (List.all_eq_true.mp (List.all_eq_true.mp h1 b hb) q hq), List.all_eq_true.mp (List.all_eq_true.mp h2 b hb) q hq⟩
theorem zx_me_s {k : Nat} {y : zx_M} (h : zx_me k = some y) : y ∈ zx_mt.flatten ∧ zx_tv y = true := by
  unfold zx_me at h
  cases h1 : zx_mt[k / 16]? with
  | none => rw [h1] at h; cases h
  | some l =>
    rw [h1] at h
    have h2 : l[k % 16]? = some y := h
    have m1 := List.mem_of_getElem? h1
    have m2 := List.mem_of_getElem? h2
    exact ⟨List.mem_flatten.mpr ⟨l, m1, m2⟩, zx_tv_ok l m1 y m2⟩
theorem zx_tw_in {y : zx_M} (h : y ∈ zx_mt.flatten) : zx_tw y := by
  obtain ⟨l, m1, m2⟩ := List.mem_flatten.mp h
  have h1 := List.all_eq_true.mp zx_hc_ok y h
  unfold zx_hc at h1
  have h2 := (zx_and_b (zx_and_b (zx_and_b (zx_and_b (zx_and_b (zx_and_b (zx_and_b (zx_and_b (zx_and_b (zx_and_b h1).2).2).2).2).2).2).2).2).2).2
  exact zx_tw_of (zx_tv_ok l m1 y m2) h2
theorem zx_tw_law : zx_tw zm_law := zx_tw_of zt_law zx_re_law
