/-! the words that the walker's tables stand for, that the statement has them, and what an instruction is among the walker's -/
def zx_tb (k : Nat) : List Cond := match k with
  | 0 => k2_sels lw_privs
  | 1 => tables_1_1
  | 2 => tables_1_2
  | 3 => tables_1_3
  | 4 => tables_1_4
  | 5 => tables_1_5
  | 6 => tables_1_6
  | 7 => tables_1_7
  | 8 => tables_1_8
  | 9 => tables_1_9
  | _ => []
theorem zx_tb_in (k : Nat) (w : Cond) (h : w ∈ zx_tb k) : w ∈ lw_tbl := by
  have hr : ∀ {a b : List Cond}, w ∈ b → w ∈ a ++ b := fun h => List.mem_append_right _ h
  have hl : ∀ {a b : List Cond}, w ∈ a → w ∈ a ++ b := fun h => List.mem_append_left _ h
  match k, h with
  | 0, h => exact hl h
  | 1, h => exact hr (hl h)
  | 2, h => exact hr (hr (hl h))
  | 3, h => exact hr (hr (hr (hl h)))
  | 4, h => exact hr (hr (hr (hr (hl h))))
  | 5, h => exact hr (hr (hr (hr (hr (hl h)))))
  | 6, h => exact hr (hr (hr (hr (hr (hr (hl h))))))
  | 7, h => exact hr (hr (hr (hr (hr (hr (hr (hl h)))))))
  | 8, h => exact hr (hr (hr (hr (hr (hr (hr (hr (hl h))))))))
  | 9, h => exact hr (hr (hr (hr (hr (hr (hr (hr (hr h))))))))
  | (k + 10), h => cases h
def zx_on1 (o : Nat) : String := zx_on.getD o ""
def zx_me (k : Nat) : Option zx_M := (zx_mt[k / 16]?).bind (fun l => l[k % 16]?)
def zx_ci (ci : Nat) : vw_C := vwCl.getD ci ("", fun _ => ("", "", "", false), 0)
def zx_fd (x y : Nat) : String × String × String := bif Nat.blt x 100 then (((zx_ci x).2.1 y).1, ((zx_ci x).2.1 y).2.1, ((zx_ci x).2.1 y).2.2.1) else match x with
  | 100 => ("java/lang/String", "value", "[B")
  | 101 => ("java/lang/String", "coder", "B")
  | 200 => ("java/lang/String", "COMPACT_STRINGS", "Z")
  | _ => ("jdk/internal/util/Preconditions", "SIOOBE_FORMATTER", "Ljava/util/function/BiFunction;")
def zx_fw (q : zx_Q) : Cond := .fieldLink (zx_on1 q.1) q.2.1 (zx_fd q.2.2.1 q.2.2.2.1).1 (zx_fd q.2.2.1 q.2.2.2.1).2.1 (zx_fd q.2.2.1 q.2.2.2.1).2.2
def zx_my (k : Nat) : MethodName := bif Nat.beq k 9000 then objectInit else bif Nat.beq k 9001 then arraycopyName else match zx_me k with
  | some y => y.1.1
  | none => objectInit
def zx_mw (q : zx_Q) : Cond := .methodLink (zx_on1 q.1) q.2.1 (zx_my q.2.2.1)
def zx_nw1 (q : zx_Q) : Cond := .methodLinkNest (zx_on1 q.1) q.2.1 (zx_my q.2.2.1) "LaneDoors"
def zx_cw (q : zx_Q) : Cond := .classLink (zx_on1 q.1) q.2.1 (zx_ci q.2.2.1).1
def zx_kw (q : zx_Q) : Cond := .constant (zx_on1 q.1) q.2.1 (nI q.2.2.1)
def zx_jw (q : zx_Q) : Cond := .constantLong (zx_on1 q.1) q.2.1 (lN q.2.2.1)
def zx_mc (m : zx_M) : Cond := .code m.1.1 m.1.2.1 m.1.2.2.1 m.1.2.2.2
def zx_mi (m : zx_M) : Cond := .initialized m.1.1.cls
def zx_mkw (m : zx_M) : Cond := bif Nat.beq m.2.1.2.1 1 then .static m.1.1 else .instanceMethod m.1.1
def zx_ms (m : zx_M) : List Cond := bif Nat.beq m.2.1.2.1 0 then [.selects m.1.1.cls m.1.1 m.1.1] else []
def zx_mws (m : zx_M) : List Cond := zx_mc m :: zx_mi m :: zx_mkw m :: zx_ms m
def zx_cls (c : vw_C) : List Cond := .instantiable c.1 c.2.2 :: .initialized c.1 :: u_ws c.1 c.2.1 c.2.2
def zx_G : List Cond := zx_FL.map zx_fw ++ (zx_ML.map zx_mw ++ (zx_CL.map zx_cw ++ (zx_KL.map zx_kw ++ (zx_JL.map zx_jw ++ (zx_mt.flatten.flatMap zx_mws ++ (vwCl.flatMap zx_cls ++ zx_ow.map (fun q => q.2.2)))))))
def zx_nw : List Cond := zx_NL.map zx_nw1
def zx_gd (k i : Nat) (w : Cond) : Bool := decide ((zx_tb k)[i]? = some w) && goodWord w
theorem zx_gd_s {k i : Nat} {w : Cond} (h : zx_gd k i w = true) : w ∈ lw_tbl ∧ goodWord w = true := by
  obtain ⟨h1, h2⟩ := zx_and_b h
  exact ⟨zx_tb_in k w (List.mem_of_getElem? (of_decide_eq_true h1)), h2⟩
theorem zx_FL_ok : (zx_FL.all fun q => zx_gd q.2.2.2.2.1 q.2.2.2.2.2 (zx_fw q)) = true := by decide +kernel
theorem zx_ML_ok : (zx_ML.all fun q => zx_gd q.2.2.2.2.1 q.2.2.2.2.2 (zx_mw q)) = true := by decide +kernel
theorem zx_CL_ok : (zx_CL.all fun q => zx_gd q.2.2.2.2.1 q.2.2.2.2.2 (zx_cw q)) = true := by decide +kernel
theorem zx_KL_ok : (zx_KL.all fun q => zx_gd q.2.2.2.2.1 q.2.2.2.2.2 (zx_kw q)) = true := by decide +kernel
theorem zx_JL_ok : (zx_JL.all fun q => zx_gd q.2.2.2.2.1 q.2.2.2.2.2 (zx_jw q)) = true := by decide +kernel
theorem zx_ow_ok : (zx_ow.all fun q => zx_gd q.1 q.2.1 q.2.2) = true := by decide +kernel
theorem zx_NL_ok : (zx_NL.all fun q => decide ((zx_tb q.2.2.2.2.1)[q.2.2.2.2.2]? = some (zx_nw1 q))) = true := by decide +kernel
def zx_mok (m : zx_M) (p : Nat × Nat × Nat × Nat × Nat × Nat × Nat × Nat) : Bool := goodWord (zx_mc m) && (zx_gd p.2.2.1 p.2.2.2.1 (zx_mi m) && (zx_gd p.2.2.2.2.1 p.2.2.2.2.2.1 (zx_mkw m) && (zx_ms m).all (fun w => zx_gd p.2.2.2.2.2.2.1 p.2.2.2.2.2.2.2 w)))
theorem zx_mp_ok : ((zx_mt.flatten.zip zx_mp).all fun q => zx_mok q.1 q.2) = true := by decide +kernel
set_option maxRecDepth 100000 in
theorem zx_mpc_ok : zx_mt.flatten.map (fun m => some (zx_mc m)) = zx_mp.map (fun p => (zx_tb p.1)[p.2.1]?) := by rfl
theorem zx_mp_len : zx_mt.flatten.length = zx_mp.length := by decide +kernel
def zx_cok (c : vw_C) (p : List (Nat × Nat) × (Nat × Nat) × (Nat × Nat)) : Bool := zx_gd p.2.1.1 p.2.1.2 (.instantiable c.1 c.2.2) && (zx_gd p.2.2.1 p.2.2.2 (.initialized c.1) && (Nat.beq c.2.2 p.1.length && (List.range c.2.2).all (fun k => zx_gd (p.1.getD k (0, 0)).1 (p.1.getD k (0, 0)).2 (u_lay c.1 c.2.1 k))))
theorem zx_cp_ok : ((vwCl.zip zx_cp).all fun q => zx_cok q.1 q.2) = true := by decide +kernel
theorem zx_cp_len : vwCl.length = zx_cp.length := by decide +kernel
theorem zx_zip_all {α β : Type} {f : α × β → Bool} : ∀ (l : List α) (m : List β), l.length = m.length → (l.zip m).all f = true → ∀ a ∈ l, ∃ b, f (a, b) = true
  | [], _, _, _, a, h => by cases h
  | _ :: _, [], h, _, _, _ => by cases h
  | a :: l, b :: m, hl, h, x, hx => by
    rw [List.zip_cons_cons, List.all_cons] at h
    obtain ⟨h1, h2⟩ := zx_and_b h
    rcases List.mem_cons.mp hx with rfl | hx
    · exact ⟨b, h1⟩
    · exact zx_zip_all l m (Nat.succ.inj hl) h2 x hx
theorem zx_mws_ok {y : zx_M} (hy : y ∈ zx_mt.flatten) {w : Cond} (h : w ∈ zx_mws y) : w ∈ lw_tbl ∧ goodWord w = true := by
  obtain ⟨p, hp⟩ := zx_zip_all _ _ zx_mp_len zx_mp_ok y hy
  obtain ⟨h1, h2⟩ := zx_and_b hp
  obtain ⟨h2, h3⟩ := zx_and_b h2
  obtain ⟨h3, h4⟩ := zx_and_b h3
  rcases List.mem_cons.mp h with rfl | h
  · have h5 : some (zx_mc y) ∈ zx_mt.flatten.map (fun m => some (zx_mc m)) := List.mem_map.mpr ⟨y, hy, rfl⟩
    rw [zx_mpc_ok] at h5
    obtain ⟨p', -, h6⟩ := List.mem_map.mp h5
    exact ⟨zx_tb_in _ _ (List.mem_of_getElem? h6), h1⟩
  rcases List.mem_cons.mp h with rfl | h
  · exact zx_gd_s h2
  rcases List.mem_cons.mp h with rfl | h
  · exact zx_gd_s h3
  · exact zx_gd_s (List.all_eq_true.mp h4 w h)
theorem zx_cls_ok {c : vw_C} (hc : c ∈ vwCl) {w : Cond} (h : w ∈ zx_cls c) : w ∈ lw_tbl ∧ goodWord w = true := by
  obtain ⟨p, hp⟩ := zx_zip_all _ _ zx_cp_len zx_cp_ok c hc
  obtain ⟨h1, h2⟩ := zx_and_b hp
  obtain ⟨h2, h3⟩ := zx_and_b h2
  obtain ⟨h3, h4⟩ := zx_and_b h3
  rcases List.mem_cons.mp h with rfl | h
  · exact zx_gd_s h1
  rcases List.mem_cons.mp h with rfl | h
  · exact zx_gd_s h2
  · obtain ⟨k, hk, rfl⟩ := List.mem_map.mp h
    exact zx_gd_s (List.all_eq_true.mp h4 k hk)
theorem zx_all_map {f : zx_Q → Cond} {l : List zx_Q} (h : (l.all fun q => zx_gd q.2.2.2.2.1 q.2.2.2.2.2 (f q)) = true) {w : Cond} (hw : w ∈ l.map f) : w ∈ lw_tbl ∧ goodWord w = true := by
  obtain ⟨q, hq, rfl⟩ := List.mem_map.mp hw
  exact zx_gd_s (List.all_eq_true.mp h q hq)
theorem zx_G_ok {w : Cond} (h : w ∈ zx_G) : w ∈ lw_tbl ∧ goodWord w = true := by
  rcases List.mem_append.mp h with h | h
  · exact zx_all_map zx_FL_ok h
  rcases List.mem_append.mp h with h | h
  · exact zx_all_map zx_ML_ok h
  rcases List.mem_append.mp h with h | h
  · exact zx_all_map zx_CL_ok h
  rcases List.mem_append.mp h with h | h
  · exact zx_all_map zx_KL_ok h
  rcases List.mem_append.mp h with h | h
  · exact zx_all_map zx_JL_ok h
  rcases List.mem_append.mp h with h | h
  · obtain ⟨y, hy, hw⟩ := List.mem_flatMap.mp h
    exact zx_mws_ok hy hw
  rcases List.mem_append.mp h with h | h
  · obtain ⟨c, hc, hw⟩ := List.mem_flatMap.mp h
    exact zx_cls_ok hc hw
  · obtain ⟨q, hq, rfl⟩ := List.mem_map.mp h
    exact zx_gd_s (List.all_eq_true.mp zx_ow_ok q hq)
/-- places in zx_G -/
theorem zx_inF {q : zx_Q} (h : q ∈ zx_FL) : zx_fw q ∈ zx_G := List.mem_append_left _ (List.mem_map.mpr ⟨q, h, rfl⟩)
theorem zx_inM {q : zx_Q} (h : q ∈ zx_ML) : zx_mw q ∈ zx_G := List.mem_append_right _ (List.mem_append_left _ (List.mem_map.mpr ⟨q, h, rfl⟩))
theorem zx_inC {q : zx_Q} (h : q ∈ zx_CL) : zx_cw q ∈ zx_G := List.mem_append_right _ (List.mem_append_right _ (List.mem_append_left _ (List.mem_map.mpr ⟨q, h, rfl⟩)))
theorem zx_inK {q : zx_Q} (h : q ∈ zx_KL) : zx_kw q ∈ zx_G := List.mem_append_right _ (List.mem_append_right _ (List.mem_append_right _ (List.mem_append_left _ (List.mem_map.mpr ⟨q, h, rfl⟩))))
theorem zx_inJ {q : zx_Q} (h : q ∈ zx_JL) : zx_jw q ∈ zx_G := List.mem_append_right _ (List.mem_append_right _ (List.mem_append_right _ (List.mem_append_right _ (List.mem_append_left _ (List.mem_map.mpr ⟨q, h, rfl⟩)))))
theorem zx_inY {y : zx_M} (h : y ∈ zx_mt.flatten) {w : Cond} (hw : w ∈ zx_mws y) : w ∈ zx_G := List.mem_append_right _ (List.mem_append_right _ (List.mem_append_right _ (List.mem_append_right _ (List.mem_append_right _ (List.mem_append_left _ (List.mem_flatMap.mpr ⟨y, h, hw⟩))))))
theorem zx_inL {c : vw_C} (h : c ∈ vwCl) {w : Cond} (hw : w ∈ zx_cls c) : w ∈ zx_G := List.mem_append_right _ (List.mem_append_right _ (List.mem_append_right _ (List.mem_append_right _ (List.mem_append_right _ (List.mem_append_right _ (List.mem_append_left _ (List.mem_flatMap.mpr ⟨c, h, hw⟩)))))))
theorem zx_inO {q : Nat × Nat × Cond} (h : q ∈ zx_ow) : q.2.2 ∈ zx_G := List.mem_append_right _ (List.mem_append_right _ (List.mem_append_right _ (List.mem_append_right _ (List.mem_append_right _ (List.mem_append_right _ (List.mem_append_right _ (List.mem_map.mpr ⟨q, h, rfl⟩)))))))
/-! instructions -/
def zx_lf (l : List zx_Q) (o i : Nat) : Option zx_Q := l.find? (fun q => Nat.beq q.1 o && Nat.beq q.2.1 i)
theorem zx_lf_s {l : List zx_Q} {o i : Nat} {q : zx_Q} (h : zx_lf l o i = some q) : q ∈ l ∧ q.1 = o ∧ q.2.1 = i := by
  refine ⟨List.mem_of_find?_eq_some h, ?_⟩
  obtain ⟨h1, h2⟩ := zx_and_b (List.find?_some (p := fun q : zx_Q => Nat.beq q.1 o && Nat.beq q.2.1 i) h)
  exact ⟨zx_beq_t h1, zx_beq_t h2⟩
def zx_cc (c : ClassFile.Cond) : Nat := match c with
  | .lt => 0
  | .ge => 1
  | .gt => 2
  | .le => 3
  | .eq => 4
  | .ne => 5
def zx_m32 (n : Int) : Nat := (n % 4294967296).toNat
def zx_row (pc : Nat) (d : Int) (ps : List (Int × Int)) : Nat × List (Nat × Nat) := (((pc : Int) + d).toNat, ps.map (fun p => (zx_m32 p.1, ((pc : Int) + p.2).toNat)))
def zx_rok (pc : Nat) (d : Int) (ps : List (Int × Int)) : Bool := decide (0 ≤ (pc : Int) + d) && ps.all (fun p => decide (0 ≤ (pc : Int) + p.2 ∧ -2147483648 ≤ p.1 ∧ p.1 < 2147483648))
def zx_sx (pc : Nat) (d : Int) (ps : List (Int × Int)) : Option (Nat × Nat × Nat) := if zx_rok pc d ps = true then (zx_SW.findIdx? (fun q => decide (q = zx_row pc d ps))).map (fun i => (26, i, 0)) else none
def zx_tps (lo : Int) (offs : List Int) : List (Int × Int) := (List.range offs.length).map (fun (j : Nat) => (lo + (j : Int), offs.getD j 0))
def zx_tg1 (pc : Nat) (off : Int) (op b : Nat) : Option (Nat × Nat × Nat) := if 0 ≤ (pc : Int) + off then some (op, ((pc : Int) + off).toNat, b) else none
def zx_le1 (c : Bool) (r : Nat × Nat × Nat) : Option (Nat × Nat × Nat) := if c = true then some r else none
def zx_fm (d : String) : Nat := if d = "I" then 146 else if d = "J" then 32 else 332
/-- which of the reference's long constants; 25: none -/
def zx_jx (n : Nat) : Nat := zy_lcs.findIdx (fun m => Nat.beq m n)
def zx_cd (M : zx_M) (pc : Nat) (ins : Instr) (len : Nat) : Option (Nat × Nat × Nat) := match ins with
  | .iload_n k => zx_le1 (Nat.beq len 1) (0, k.val, 146)
  | .iload i => zx_le1 (Nat.beq len 2) (0, i, 146)
  | .aload_n k => zx_le1 (Nat.beq len 1) (0, k.val, 332)
  | .aload i => zx_le1 (Nat.beq len 2) (0, i, 332)
  | .lload_n k => zx_le1 (Nat.beq len 1) (0, k.val, 32)
  | .lload i => zx_le1 (Nat.beq len 2) (0, i, 32)
  | .istore_n k => zx_le1 (Nat.beq len 1) (1, k.val, 146)
  | .istore i => zx_le1 (Nat.beq len 2) (1, i, 146)
  | .astore_n k => zx_le1 (Nat.beq len 1) (1, k.val, 332)
  | .astore i => zx_le1 (Nat.beq len 2) (1, i, 332)
  | .lstore_n k => zx_le1 (Nat.beq len 1) (2, k.val, 0)
  | .lstore i => zx_le1 (Nat.beq len 2) (2, i, 0)
  | .iinc i n => zx_le1 (Nat.beq len 3) (3, i, zx_c (zx_m32 n))
  | .iconst n => zx_le1 (Nat.beq len 1) (4, zx_c (zx_m32 n), 0)
  | .bipush n => zx_le1 (Nat.beq len 2 && decide (-128 ≤ n ∧ n < 128)) (4, zx_c (zx_m32 n), 0)
  | .sipush n => zx_le1 (Nat.beq len 3 && decide (-32768 ≤ n ∧ n < 32768)) (4, zx_c (zx_m32 n), 0)
  | .ldc i => match zx_lf zx_KL M.2.1.1 i with
    | some q => zx_le1 (Nat.beq len 2 && Nat.blt q.2.2.1 4294967296) (4, zx_c q.2.2.1, 0)
    | none => if M.2.1.1 = 3 ∧ i = 34 then zx_le1 (Nat.beq len 2) (4, 22, 0) else if M.2.1.1 = 3 ∧ i = 74 then zx_le1 (Nat.beq len 2) (4, 54, 0) else none
  | .ldc_w i => match zx_lf zx_KL M.2.1.1 i with
    | some q => zx_le1 (Nat.beq len 3 && Nat.blt q.2.2.1 4294967296) (4, zx_c q.2.2.1, 0)
    | none => none
  | .lconst _ => zx_le1 (Nat.beq len 1) (4, 5, 25)
  | .ldc2_w i => match zx_lf zx_JL M.2.1.1 i with
    | some q => zx_le1 (Nat.beq len 3) (4, 5, zx_jx q.2.2.1)
    | none => none
  | .iadd => zx_le1 (Nat.beq len 1) (5, 0, 0)
  | .isub => zx_le1 (Nat.beq len 1) (6, 0, 0)
  | .imul => zx_le1 (Nat.beq len 1) (7, 0, 0)
  | .iand => zx_le1 (Nat.beq len 1) (8, 0, 0)
  | .ior => zx_le1 (Nat.beq len 1) (9, 0, 0)
  | .ixor => zx_le1 (Nat.beq len 1) (10, 0, 0)
  | .ishl => zx_le1 (Nat.beq len 1) (11, 0, 0)
  | .ishr => zx_le1 (Nat.beq len 1) (12, 0, 0)
  | .iushr => zx_le1 (Nat.beq len 1) (13, 0, 0)
  | .idiv => zx_le1 (Nat.beq len 1) (14, 0, 0)
  | .irem => zx_le1 (Nat.beq len 1) (15, 0, 0)
  | .i2b => zx_le1 (Nat.beq len 1) (16, 0, 0)
  | .i2c => zx_le1 (Nat.beq len 1) (17, 0, 0)
  | .i2l => zx_le1 (Nat.beq len 1) (18, 0, 0)
  | .ladd => zx_le1 (Nat.beq len 1) (19, 0, 0)
  | .lsub => zx_le1 (Nat.beq len 1) (19, 0, 0)
  | .lmul => zx_le1 (Nat.beq len 1) (19, 0, 0)
  | .lcmp => zx_le1 (Nat.beq len 1) (44, 0, 0)
  | .ineg => zx_le1 (Nat.beq len 1) (45, 0, 0)
  | .lshl => zx_le1 (Nat.beq len 1) (46, 0, 0)
  | .lor => zx_le1 (Nat.beq len 1) (47, 0, 0)
  | .dup => zx_le1 (Nat.beq len 1) (20, 0, 0)
  | .pop => zx_le1 (Nat.beq len 1) (21, 0, 0)
  | .dup2 => zx_le1 (Nat.beq len 1) (22, 0, 0)
  | .goto off => if len = 3 then zx_tg1 pc off 23 0 else none
  | .if_icmp c off => if len = 3 then zx_tg1 pc off 24 (zx_cc c) else none
  | .ifCond c off => if len = 3 then zx_tg1 pc off 25 (zx_cc c) else none
  | .tableswitch d lo hi offs => if hi + 1 = lo + (offs.size : Int) then zx_sx pc d (zx_tps lo offs.toList) else none
  | .lookupswitch d ps => if (ps.toList.zip (ps.toList.drop 1)).all (fun (a, next) => a.1 < next.1) = true then zx_sx pc d ps.toList else none
  | .getfield i => match zx_lf zx_FL M.2.1.1 i with
    | some q => if len = 3 then (if q.2.2.1 < 100 then zx_le1 (decide (q.2.2.2.1 < (zx_ci q.2.2.1).2.2)) (27, 7 + 16 * q.2.2.1, q.2.2.2.1) else if q.2.2.1 = 100 then some (29, 0, 0) else if q.2.2.1 = 101 then some (29, 1, 0) else none) else none
    | none => none
  | .putfield i => match zx_lf zx_FL M.2.1.1 i with
    | some q => if len = 3 ∧ q.2.2.1 < 100 ∧ q.2.2.2.1 < (zx_ci q.2.2.1).2.2 ∧ (((zx_ci q.2.2.1).2.1 q.2.2.2.1).2.2.2 = false ∨ (M.2.1.2.1 = 2 ∧ ((zx_ci q.2.2.1).2.1 q.2.2.2.1).1 = zx_on1 M.2.1.1)) then some (28, 7 + 16 * q.2.2.1 + 1048576 * zx_fm ((zx_ci q.2.2.1).2.1 q.2.2.2.1).2.2.1, q.2.2.2.1) else none
    | none => none
  | .getstatic i => match zx_lf zx_FL M.2.1.1 i with
    | some q => if len = 3 then (if q.2.2.1 = 200 then some (4, 20, 0) else if q.2.2.1 = 201 then some (4, 8, 0) else none) else none
    | none => none
  | .new i => match zx_lf zx_CL M.2.1.1 i with
    | some q => zx_le1 (Nat.beq len 3 && Nat.blt q.2.2.1 13) (30, zx_nc.getD q.2.2.1 0, (zx_ci q.2.2.1).2.2)
    | none => none
  | .newarray t => if len = 2 then (match t with
    | .int => some (31, 0, 0)
    | .byte => some (31, 1, 0)
    | .boolean => some (31, 2, 0)
    | .long => some (31, 6, 0)
    | _ => none) else none
  | .anewarray i => match zx_lf zx_CL M.2.1.1 i with
    | some q => zx_le1 (Nat.beq len 3 && Nat.beq q.2.2.1 8) (31, 8, 0)
    | none => none
  | .arraylength => zx_le1 (Nat.beq len 1) (32, 0, 0)
  | .iaload => zx_le1 (Nat.beq len 1) (33, 9, 0)
  | .baload => zx_le1 (Nat.beq len 1) (33, 54, 0)
  | .iastore => zx_le1 (Nat.beq len 1) (34, 9, 0)
  | .bastore => zx_le1 (Nat.beq len 1) (34, 54, 0)
  | .laload => zx_le1 (Nat.beq len 1) (35, 0, 0)
  | .lastore => zx_le1 (Nat.beq len 1) (36, 0, 0)
  | .aaload => zx_le1 (Nat.beq len 1) (37, 0, 0)
  | .aastore => zx_le1 (Nat.beq len 1) (38, 0, 0)
  | .invokevirtual i => match zx_lf zx_ML M.2.1.1 i with
    | some q => match zx_me q.2.2.1 with
      | some y => if len = 3 ∧ y.2.1.2.1 = 0 ∧ q.2.2.1 < 9000 then some (41, q.2.2.1, 0) else none
      | none => none
    | none => none
  | .invokestatic i => match zx_lf zx_ML M.2.1.1 i with
    | some q => if q.2.2.1 = 9001 then zx_le1 (Nat.beq len 3) (40, 0, 0) else match zx_me q.2.2.1 with
      | some y => if len = 3 ∧ y.2.1.2.1 = 1 ∧ q.2.2.1 < 9000 then some (41, q.2.2.1, 1) else none
      | none => none
    | none => match zx_lf zx_NL M.2.1.1 i with
      | some q => match zx_me q.2.2.1 with
        | some y => if len = 3 ∧ y.2.1.2.1 = 1 ∧ q.2.2.1 < 9000 then some (41, q.2.2.1, 5) else none
        | none => none
      | none => none
  | .invokespecial i => match zx_lf zx_ML M.2.1.1 i with
    | some q => if q.2.2.1 = 9000 then zx_le1 (Nat.beq len 3) (39, 0, 0) else match zx_me q.2.2.1 with
      | some y => if len = 3 ∧ y.2.1.2.1 = 2 ∧ q.2.2.1 < 9000 then some (41, q.2.2.1, 2) else none
      | none => none
    | none => match zx_lf zx_NL M.2.1.1 i with
      | some q => match zx_me q.2.2.1 with
        | some y => if len = 3 ∧ y.2.1.2.1 = 2 ∧ q.2.2.1 < 9000 then some (41, q.2.2.1, 6) else none
        | none => none
      | none => none
  | .ireturn => zx_le1 (Nat.beq len 1) (42, 0, 0)
  | .lreturn => zx_le1 (Nat.beq len 1) (42, 1, 0)
  | .areturn => zx_le1 (Nat.beq len 1) (42, 2, 0)
  | .return_ => zx_le1 (Nat.beq len 1) (43, 0, 0)
  | _ => none
def zx_vb (M : zx_M) (q : zx_E) : Bool := match decode M.1.2.1 q.1 with
  | .ok (ins, len) => Nat.beq q.2.2.2.2 (q.1 + len) && decide (zx_cd M q.1 ins len = some (q.2.1, q.2.2.1, q.2.2.2.1))
  | .error _ => false
def zx_vd (M : zx_M) (q : zx_E) : Prop := ∃ (ins : Instr) (len : Nat), decode M.1.2.1 q.1 = .ok (ins, len) ∧ q.2.2.2.2 = q.1 + len ∧ zx_cd M q.1 ins len = some (q.2.1, q.2.2.1, q.2.2.2.1)
theorem zx_vb_s {M : zx_M} {q : zx_E} (h : zx_vb M q = true) : zx_vd M q := by
  unfold zx_vb at h
  split at h
  · rename_i ins len hd
    obtain ⟨h1, h2⟩ := zx_and_b h
    exact ⟨ins, len, hd, zx_beq_t h1, of_decide_eq_true h2⟩
  · cases h
/-- what a method of the tables is -/
def zx_rk (r : Option FieldType) : Nat := match r with
  | none => 0
  | some .int => 1
  | some .boolean => 2
  | some .char => 3
  | some .byte => 4
  | some .long => 5
  | some (.object _) => 6
  | some (.array _) => 6
  | _ => 7
def zx_hb (m : zx_M) : Bool := decide (m.1.1.cls = zx_on1 m.2.1.1) && (plainName m.1.1.cls && (decide (m.1.1.cls ≠ "java/lang/invoke/MethodHandle" ∧ m.1.1.cls ≠ "java/lang/invoke/VarHandle") &&
  (decide ((parseMethodDescriptor m.1.1.desc).map (fun d => d.parameters.length) = some (bif Nat.beq m.2.1.2.1 1 then m.2.1.2.2.1 else m.2.1.2.2.1 - 1)) && ((Nat.beq m.2.1.2.1 1 || Nat.ble 1 m.2.1.2.2.1) && (Nat.ble m.1.2.2.1 60 && ((!Nat.beq m.2.1.2.1 2 || (decide (m.1.1.name = "<init>") && decide (m.1.2.2.2 = none))) &&
  (Nat.beq (zx_rk m.1.2.2.2) m.2.1.2.2.2.2.2 && (Nat.ble m.2.1.2.1 2 && (!Nat.beq m.2.1.2.1 0 || (Nat.beq m.2.1.1 14 || (Nat.blt m.2.1.1 13 && decide ((zx_ci m.2.1.1).1 = zx_on1 m.2.1.1)))))))))))) 
def zx_tv (m : zx_M) : Bool := m.2.2.all (fun b => b.2.all (zx_vb m))
