/-! the words that the walker's tables stand for, and that the statement has them -/
def zx_tb (k : Nat) : List Cond := match k with
  | 0 => k2_sels lw_privs
  | 1 => tables_1_1
  | 2 => tables_1_2
  | 3 => tables_1_3
  | 4 => tables_1_4
  | 5 => tables_1_5
  | 6 => tables_1_6
  | 7 => tables_1_7
  | 8 => tables_1_8
  | 9 => tables_1_9
  | _ => []
theorem zx_tb_in (k : Nat) (w : Cond) (h : w ∈ zx_tb k) : w ∈ lw_tbl := by
  have hr : ∀ {a b : List Cond}, w ∈ b → w ∈ a ++ b := fun h => List.mem_append_right _ h
  have hl : ∀ {a b : List Cond}, w ∈ a → w ∈ a ++ b := fun h => List.mem_append_left _ h
  match k, h with
  | 0, h => exact hl h
  | 1, h => exact hr (hl h)
  | 2, h => exact hr (hr (hl h))
  | 3, h => exact hr (hr (hr (hl h)))
  | 4, h => exact hr (hr (hr (hr (hl h))))
  | 5, h => exact hr (hr (hr (hr (hr (hl h)))))
  | 6, h => exact hr (hr (hr (hr (hr (hr (hl h))))))
  | 7, h => exact hr (hr (hr (hr (hr (hr (hr (hl h)))))))
  | 8, h => exact hr (hr (hr (hr (hr (hr (hr (hr (hl h))))))))
  | 9, h => exact hr (hr (hr (hr (hr (hr (hr (hr (hr h))))))))
  | (k + 10), h => cases h
abbrev zx_Q : Type := Nat × Nat × Nat × Nat × Nat × Nat
def zx_os (o : Nat) : String := zx_on.getD o ""
def zx_me (k : Nat) : zx_M := zx_mt.getD k zm_law
def zx_ci (ci : Nat) : vw_C := vwCl.getD ci ("", fun _ => ("", "", "", false), 0)
def zx_fd (x y : Nat) : String × String × String := bif Nat.blt x 100 then (((zx_ci x).2.1 y).1, ((zx_ci x).2.1 y).2.1, ((zx_ci x).2.1 y).2.2.1) else match x with
  | 100 => ("java/lang/String", "value", "[B")
  | 101 => ("java/lang/String", "coder", "B")
  | 200 => ("java/lang/String", "COMPACT_STRINGS", "Z")
  | _ => ("jdk/internal/util/Preconditions", "SIOOBE_FORMATTER", "Ljava/util/function/BiFunction;")
def zx_fw (q : zx_Q) : Cond := .fieldLink (zx_os q.1) q.2.1 (zx_fd q.2.2.1 q.2.2.2.1).1 (zx_fd q.2.2.1 q.2.2.2.1).2.1 (zx_fd q.2.2.1 q.2.2.2.1).2.2
def zx_my (k : Nat) : MethodName := bif Nat.beq k 9000 then objectInit else bif Nat.beq k 9001 then arraycopyName else (zx_me k).1.1
def zx_mw (q : zx_Q) : Cond := .methodLink (zx_os q.1) q.2.1 (zx_my q.2.2.1)
def zx_nw1 (q : zx_Q) : Cond := .methodLinkNest (zx_os q.1) q.2.1 (zx_my q.2.2.1) "LaneDoors"
def zx_cw (q : zx_Q) : Cond := .classLink (zx_os q.1) q.2.1 (zx_ci q.2.2.1).1
def zx_kw (q : zx_Q) : Cond := .constant (zx_os q.1) q.2.1 (nI q.2.2.1)
def zx_jw (q : zx_Q) : Cond := .constantLong (zx_os q.1) q.2.1 (lN q.2.2.1)
def zx_mc (m : zx_M) : Cond := .code m.1.1 m.1.2.1 m.1.2.2.1 m.1.2.2.2
def zx_mi (m : zx_M) : Cond := .initialized m.1.1.cls
def zx_mk (m : zx_M) : Cond := bif Nat.beq m.2.1.2.1 1 then .static m.1.1 else .instanceMethod m.1.1
def zx_ms (m : zx_M) : List Cond := bif Nat.beq m.2.1.2.1 0 then [.selects m.1.1.cls m.1.1 m.1.1] else []
def zx_mws (m : zx_M) : List Cond := zx_mc m :: zx_mi m :: zx_mk m :: zx_ms m
def zx_cls (c : vw_C) : List Cond := .instantiable c.1 c.2.2 :: .initialized c.1 :: u_ws c.1 c.2.1 c.2.2
def zx_G : List Cond := zx_FL.map zx_fw ++ (zx_ML.map zx_mw ++ (zx_CL.map zx_cw ++ (zx_KL.map zx_kw ++ (zx_JL.map zx_jw ++ (zx_mt.flatMap zx_mws ++ (vwCl.flatMap zx_cls ++ zx_ow.map (fun q => q.2.2)))))))
def zx_nw : List Cond := zx_NL.map zx_nw1
def zx_gd (k i : Nat) (w : Cond) : Bool := decide ((zx_tb k)[i]? = some w) && goodWord w
theorem zx_gd_s {k i : Nat} {w : Cond} (h : zx_gd k i w = true) : w ∈ lw_tbl ∧ goodWord w = true := by
  obtain ⟨h1, h2⟩ := zx_and_b h
  exact ⟨zx_tb_in k w (List.mem_of_getElem? (of_decide_eq_true h1)), h2⟩
theorem zx_FL_ok : (zx_FL.all fun q => zx_gd q.2.2.2.2.1 q.2.2.2.2.2 (zx_fw q)) = true := by decide +kernel
theorem zx_CL_ok : (zx_CL.all fun q => zx_gd q.2.2.2.2.1 q.2.2.2.2.2 (zx_cw q)) = true := by decide +kernel
theorem zx_KL_ok : (zx_KL.all fun q => zx_gd q.2.2.2.2.1 q.2.2.2.2.2 (zx_kw q)) = true := by decide +kernel
theorem zx_JL_ok : (zx_JL.all fun q => zx_gd q.2.2.2.2.1 q.2.2.2.2.2 (zx_jw q)) = true := by decide +kernel
theorem zx_ow_ok : (zx_ow.all fun q => zx_gd q.1 q.2.1 q.2.2) = true := by decide +kernel
theorem zx_NL_ok : (zx_NL.all fun q => decide ((zx_tb q.2.2.2.2.1)[q.2.2.2.2.2]? = some (zx_nw1 q))) = true := by decide +kernel
