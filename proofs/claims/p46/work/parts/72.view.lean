/-! contracts with a meaning of their own; values seen as they are -/
def zy_QP (D : va_G) (N0 : Nat) (T : List Nat) (Z : zy_V) (Post : List Value → va_W → Prop) : Array Value → State → Outcome → State → Prop := fun _ st o t =>
  (∃ (vs : List Value) (tys : List (ClassId × FieldType)) (ws : va_W), o = .returned vs.head? ∧ vs.length ≤ 1 ∧ Post vs ws ∧ zy_Wd D N0 T Z t t.heap tys ws) ∧ va_F (zx_A N0) st t
def zy_OkP (l : Launch) (D : va_G) (N0 : Nat) (T : List Nat) (Z : zy_V) (a dm : Nat) (Pre : List Value → va_W → Prop) (Post : List Value → va_W → List Value → va_W → Prop) : Prop :=
  ∀ (y : zx_M), zx_me a = some y → ∀ (d : Nat), dm ≤ d → ∀ (av : List Value) (tys : List (ClassId × FieldType)) (ws : va_W), Pre av ws → va_D (zx_A N0) ws → zy_HR Z T tys ws →
    Met l y.1.1 (zx_mc y :: zx_G) (zx_rm d y) (zx_Pc D N0 (zy_ex Z) zy_n0 av tys ws) (zy_QP D N0 T Z (Post av ws)) 0 0 (zx_A N0)
/-- a typed contract, by its meaning -/
theorem zy_OkP_of {l : Launch} {D : va_G} {N0 : Nat} {T : List Nat} {Z : zy_V} {q : zy_Co} (h : zy_Ok l D N0 T Z q) : zy_OkP l D N0 T Z q.1.1 q.1.2.1 (fun av ws => zy_SR Z q.2.1 av ∧ zy_Gs (zy_gl Z) q.1.2.2.2 ws ∧ zy_CR Z ws q.2.2.1) (fun av ws vs ws' => ∃ po ∈ q.2.2.2, zy_SR Z po.1 vs ∧ (∀ f ∈ po.2, zy_FS Z (zy_av av) ws ws' f) ∧ zy_UN (zy_gl Z) q.1.2.2.1 ws ws') := by
  intro y hy d hd av tys ws hp hD hH
  refine MetFree.mono (h y hy d hd av tys ws hp.1 hp.2.1 hD hH hp.2.2) (fun _ _ h => h) (fun _ _ _ _ _ h => h) ?_
  intro a' s' o t' _ ⟨⟨⟨vs, tys', ws', po, o1, o2, o3, o4, o5, o6, o7⟩, o8⟩, hL⟩
  exact ⟨⟨⟨vs, tys', ws', o1, o2, ⟨po, o3, o4, o5, o7⟩, o6⟩, o8⟩, hL⟩
/-- and back -/
theorem zy_Ok_of {l : Launch} {D : va_G} {N0 : Nat} {T : List Nat} {Z : zy_V} {q : zy_Co} {Post : List Value → va_W → List Value → va_W → Prop} (h : zy_OkP l D N0 T Z q.1.1 q.1.2.1 (fun av ws => zy_SR Z q.2.1 av ∧ zy_Gs (zy_gl Z) q.1.2.2.2 ws ∧ zy_CR Z ws q.2.2.1) Post) (hp : ∀ av ws vs ws', zy_SR Z q.2.1 av → zy_Gs (zy_gl Z) q.1.2.2.2 ws → zy_CR Z ws q.2.2.1 → Post av ws vs ws' → ∃ po ∈ q.2.2.2, zy_SR Z po.1 vs ∧ (∀ f ∈ po.2, zy_FS Z (zy_av av) ws ws' f) ∧ zy_UN (zy_gl Z) q.1.2.2.1 ws ws') : zy_Ok l D N0 T Z q := by
  intro y hy d hd av tys ws h1 h2 hD hH h3
  refine MetFree.mono (h y hy d hd av tys ws ⟨h1, h2, h3⟩ hD hH) (fun _ _ h => h) (fun _ _ _ _ _ h => h) ?_
  intro a' s' o t' _ ⟨⟨⟨vs, tys', ws', o1, o2, o3, o6⟩, o8⟩, hL⟩
  obtain ⟨po, p1, p2, p3, p4⟩ := hp av ws vs ws' h1 h2 h3 o3
  exact ⟨⟨⟨vs, tys', ws', po, o1, o2, p1, p2, p3, o6, p4⟩, o8⟩, hL⟩
/-- where a method stands: fixed -/
def zy_Fr (p : Program) (l : Launch) (R : Room) (s : State) (m : MethodId) (args : Array Value) (meth : Method) (c : Code) (N0 : Nat) (Z : zy_V) (M : zx_M) (dd : Nat) : Prop :=
  zy_H0 Z ∧ zy_UQ zy_fg Z ∧ (∀ As, zy_le Z As → zx_Cx p R s m args meth c M dd N0 (zy_ex As) zy_n0) ∧ zx_rk M.1.2.2.2 = M.2.1.2.2.2.2.2 ∧ meth.sig.returnType = M.1.2.2.2 ∧ meth.locks = false
/-- and as it goes -/
def zy_Mx (D : va_G) (N0 : Nat) (T : List Nat) (Z : zy_V) (s : State) (M : zx_M) (ls : Array Slot) (H : Heap) (locs : List Loc) (tys : List (ClassId × FieldType)) (ws : va_W) : Prop := zy_Wd D N0 T Z s H tys ws ∧ va_S (zx_A N0) s.heap H locs ∧ lv_has ls M.1.2.2.1 []
/-- addresses of what is fixed -/
def zy_fa1 (Z : zy_V) (r : Nat) : Nat := ((zy_ads Z)[zy_ru Z r]?).getD 0
def zv_dv (Z : zy_V) (ys : List Int32) (t : Nat) : Option Value :=
  if t % 16 = 1 then (if t / 16 % 256 = 0 then none else match ys[t / 16 % 256 - 1]? with
    | some y => some (.int (if t / 16 / 256 = 0 then y else y + nI (t / 16 / 256)))
    | none => none)
  else if t % 16 = 2 then (if t / 16 % 256 = 0 ∨ 100 ≤ t / 16 % 256 then none else some (.ref (zy_fa1 Z (t / 16 % 256))))
  else if t % 16 = 4 then some (.int (nI (t / 16)))
  else none
def zv_dm (Z : zy_V) (ys : List Int32) : List Nat → Option (List Value)
  | [] => some []
  | t :: ts => match zv_dv Z ys t, zv_dm Z ys ts with
    | some v, some vs => some (v :: vs)
    | _, _ => none
def zv_dk (t : Nat) : Bool := Nat.blt t 4722366482869645213696 && Nat.blt (t / 16) (if t % 16 = 1 then 1099511627776 else 4722366482869645213696) && (if t % 16 = 2 then decide (zy_fg[t / 16 % 256]? = some (t / 16 / 256)) else if t % 16 = 4 then Nat.blt (t / 16) 4294967296 else true)
section ZV
variable {l : Launch} {D : va_G} {N0 : Nat} {Z : zy_V} {ys : List Int32}
theorem zv_dv_of (H : zy_H0 Z) (hn : ys.length ≤ 150) {t : Nat} {v w : Value} (h : zy_r (ys.foldl zy_xi Z) t v) (hd : zv_dv Z ys t = some w) : v = w := by
  obtain ⟨hZ1, hZ2, hZr, hF⟩ := H
  have hle := zy_mk_le ys Z
  unfold zv_dv at hd
  split at hd
  · rename_i q1
    split at hd
    · cases hd
    · rename_i q2
      cases hy : ys[t / 16 % 256 - 1]? with
      | none => rw [hy] at hd; cases hd
      | some y =>
        rw [hy] at hd
        obtain ⟨h1, -⟩ := zy_mk_nu ys (A := Z) _ y hy
        rw [hZ1, show 1 + (t / 16 % 256 - 1) = t / 16 % 256 by omega] at h1
        obtain ⟨-, e1, -⟩ := (zy_r1 q1).mp h
        rw [e1, h1, ← Option.some.inj hd]
        split
        · rename_i q3
          rw [q3, nI_0, Int32.add_zero]
        · rfl
  · split at hd
    · rename_i q1
      split at hd
      · cases hd
      · rename_i q2
        obtain ⟨-, i, q, g1, g2, e1, g4⟩ := (zy_r2 q1).mp h
        obtain ⟨g5, -⟩ := g4 (fun z => q2 (Or.inl z))
        have e2 : zy_ads (ys.foldl zy_xi Z) = zy_ads Z := by unfold zy_ads; rw [← hle.1]
        rw [e2, ← g5, hle.2.2.2.2 _ (by omega)] at g1
        rw [e1, ← Option.some.inj hd]
        unfold zy_fa1
        rw [g1]
        rfl
    · split at hd
      · rename_i q1
        obtain ⟨-, e1, -⟩ := (zy_r4 q1).mp h
        rw [e1, ← Option.some.inj hd]
      · cases hd
theorem zv_dv_to (H : zy_H0 Z) {t : Nat} {w : Value} (hk : zv_dk t = true) (hd : zv_dv Z ys t = some w) : zy_r (ys.foldl zy_xi Z) t w := by
  obtain ⟨hZ1, hZ2, hZr, hF⟩ := H
  have hle := zy_mk_le ys Z
  unfold zv_dk at hk
  obtain ⟨hk, k3⟩ := zx_and_b hk
  obtain ⟨k1, k2⟩ := zx_and_b hk
  have k1 := zx_blt_t k1
  have k2 := zx_blt_t k2
  unfold zv_dv at hd
  split at hd
  · rename_i q1
    rw [if_pos q1] at k2
    split at hd
    · cases hd
    · rename_i q2
      cases hy : ys[t / 16 % 256 - 1]? with
      | none => rw [hy] at hd; cases hd
      | some y =>
        rw [hy] at hd
        obtain ⟨h1, h2⟩ := zy_mk_nu ys (A := Z) _ y hy
        rw [hZ1, show 1 + (t / 16 % 256 - 1) = t / 16 % 256 by omega] at h1 h2
        refine (zy_r1 q1).mpr ⟨k1, ?_, by omega, by omega, h2⟩
        rw [h1, ← Option.some.inj hd]
        split
        · rename_i q3
          rw [q3, nI_0, Int32.add_zero]
        · rfl
  · split at hd
    · rename_i q1
      rw [if_pos q1] at k3
      split at hd
      · cases hd
      · rename_i q2
        obtain ⟨f1, ad, f2⟩ := hF (t / 16 % 256) (t / 16 / 256) (by omega) (by omega) (of_decide_eq_true k3)
        have e2 : zy_ads (ys.foldl zy_xi Z) = zy_ads Z := by unfold zy_ads; rw [← hle.1]
        refine (zy_r2 q1).mpr ⟨k1, zy_ru Z (t / 16 % 256), ad, by rw [e2]; exact f2, by rw [zy_gl_le hle]; exact f1, ?_, fun _ => ⟨hle.2.2.2.2 _ (by omega), ?_⟩⟩
        · rw [← Option.some.inj hd]
          unfold zy_fa1
          rw [f2]
          rfl
        · have := hle.2.1.2.2
          omega
    · split at hd
      · rename_i q1 q2 q3
        rw [if_neg q2, if_pos q3] at k3
        exact (zy_r4 q3).mpr ⟨k1, (Option.some.inj hd).symm, zx_blt_t k3⟩
      · cases hd
theorem zv_dm_of (H : zy_H0 Z) (hn : ys.length ≤ 150) : ∀ {ts : List Nat} {vs ws : List Value}, zy_SR (ys.foldl zy_xi Z) ts vs → zv_dm Z ys ts = some ws → vs = ws
  | [], [], _, _, hd => (Option.some.inj hd)
  | [], _ :: _, _, h, _ => h.elim
  | _ :: _, [], _, h, _ => h.elim
  | t :: ts, v :: vs, ws, h, hd => by
    unfold zv_dm at hd
    split at hd
    · rename_i w1 w2 h1 h2
      rw [← Option.some.inj hd, zv_dv_of H hn h.1 h1, zv_dm_of H hn h.2 h2]
    · cases hd
theorem zv_dm_to (H : zy_H0 Z) : ∀ {ts : List Nat} {ws : List Value}, ts.all zv_dk = true → zv_dm Z ys ts = some ws → zy_SR (ys.foldl zy_xi Z) ts ws
  | [], ws, _, hd => by
    rw [← Option.some.inj hd]
    trivial
  | t :: ts, ws, hk, hd => by
    obtain ⟨k1, k2⟩ := zx_and_b (show (zv_dk t && ts.all zv_dk) = true from hk)
    unfold zv_dm at hd
    split at hd
    · rename_i w1 w2 h1 h2
      rw [← Option.some.inj hd]
      exact ⟨zv_dv_to H k1 h1, zv_dm_to H k2 h2⟩
    · cases hd
/-- places seen as they are -/
def zv_ro (Z : zy_V) (ws : va_W) (key : Nat) : Option Value := zy_rd ws (zy_ru Z (key % 256)) (key / 256 % 128) (key / 16777216)
theorem zv_dc_to (H : zy_H0 Z) {ws : va_W} {C : zy_C} (hk : C.all (fun q => zv_dk q.2 && (Nat.blt 0 (q.1 % 256) && (Nat.blt (q.1 % 256) 100 && decide (zy_fg[q.1 % 256]? = some (q.1 / 256 % 65536 / 128))))) = true) (h : ∀ q ∈ C, ∃ x, zv_ro Z ws q.1 = some x ∧ zv_dv Z ys q.2 = some x) : zy_CR (ys.foldl zy_xi Z) ws C := fun q hq => by
  have hH := H
  obtain ⟨hZ1, hZ2, hZr, hF⟩ := H
  have hle := zy_mk_le ys Z
  obtain ⟨k1, k2⟩ := zx_and_b (List.all_eq_true.mp hk q hq)
  obtain ⟨k0, k2⟩ := zx_and_b k2
  obtain ⟨k2, k3⟩ := zx_and_b k2
  have k0 := zx_blt_t k0
  have k2 := zx_blt_t k2
  obtain ⟨x, h1, h2⟩ := h q hq
  have hf := hle.2.1.2.2
  have e1 := hle.2.2.2.2 (q.1 % 256) (by omega)
  refine ⟨⟨by omega, ?_⟩, x, ?_, zv_dv_to hH k1 h2⟩
  · rw [e1, zy_gl_le hle]
    exact (hF _ _ k0 k2 (of_decide_eq_true k3)).1
  · rw [e1]
    exact h1
theorem zv_dc_of (H : zy_H0 Z) (hn : ys.length ≤ 150) {ws : va_W} {C : zy_C} (h : zy_CR (ys.foldl zy_xi Z) ws C) {i : Nat} {q : Nat × Nat} (hi : C[i]? = some q) (h1 : q.1 % 256 < 100) {w : Value} (hd : zv_dv Z ys q.2 = some w) : zv_ro Z ws q.1 = some w := by
  obtain ⟨-, x, g1, g2⟩ := h q (List.mem_of_getElem? hi)
  have hle := zy_mk_le ys Z
  rw [hle.2.2.2.2 _ (by rw [H.2.2.1]; exact h1)] at g1
  rw [← zv_dv_of H hn g2 hd]
  exact g1
theorem zv_dl_of (H : zy_H0 Z) (hn : ys.length ≤ 150) {ls : Array Slot} {row : List (Nat × Nat)} (h : ∀ q ∈ row, ∃ v, ls[q.1]? = some (.val v) ∧ zy_r (ys.foldl zy_xi Z) q.2 v) {i : Nat} {q : Nat × Nat} (hi : row[i]? = some q) {w : Value} (hd : zv_dv Z ys q.2 = some w) : ls[q.1]? = some (.val w) := by
  obtain ⟨v, g1, g2⟩ := h q (List.mem_of_getElem? hi)
  rw [← zv_dv_of H hn g2 hd]
  exact g1
end ZV
section ZW
variable {l : Launch} {D : va_G} {N0 : Nat} {Z : zy_V} {Wm g mk : Nat} {tb : zy_Tb} {p : Program} {en : Env} {R : Room} {s : State} {m : MethodId} {args : Array Value} {below : List Frame} {meth : Method} {c : Code} {Q : State → Prop}
/-- a part is walked from a state seen as it is to its stops -/
theorem zy_seg {M : zx_M} {K : zy_K} {d0 k n pm : Nat} {stops : List zy_C2} (hB : zy_Fr p l R s m args meth c N0 Z M (d0 + k)) (hOk : ∀ t ∈ tb, ∀ co ∈ t.2.2, zy_Ok l D N0 zy_T Z co) (ys : List Int32) (bs : List (Nat × Nat)) (rowL : List (Nat × Nat)) (stL : List Nat) (CL : zy_C) (hlen : ys.length = bs.length) (hmax : bs.length ≤ 150) (hb : ∀ (i : Nat) (y : Int32) (b : Nat × Nat), ys[i]? = some y → bs[i]? = some b → b.1 ≤ zx_bz y ∧ zx_bz y ≤ b.2 ∧ b.2 < 4294967296)
    {pc : Nat} {ls : Array Slot} {vs : List Value} {H : Heap} {locs : List Loc} {tys : List (ClassId × FieldType)} {ws : va_W} (hRt : ∀ As, zy_le Z As → zy_Rt p l en R s m args below meth c Q D N0 zy_T Wm ws As M K) (hG : zy_Gs (zy_gl Z) g ws) (hx : zy_Mx D N0 zy_T Z s M ls H locs tys ws)
    (hkd : (((rowL.map (fun q => q.2)).all zv_dk && stL.all zv_dk) && CL.all (fun q => zv_dk q.2 && (Nat.blt 0 (q.1 % 256) && (Nat.blt (q.1 % 256) 100 && decide (zy_fg[q.1 % 256]? = some (q.1 / 256 % 65536 / 128)))))) = true)
    (hrow : ∀ q ∈ rowL, ∃ v, ls[q.1]? = some (.val v) ∧ zv_dv Z ys q.2 = some v) (hst : zv_dm Z ys stL = some vs) (hCL : ∀ q ∈ CL, ∃ x, zv_ro Z ws q.1 = some x ∧ zv_dv Z ys q.2 = some x)
    (hck : zx_bk M.2.2 pc (fun cur => zy_R zy_T zy_fg Wm g tb mk n d0 M K (zy_cf2 zy_T zy_fg (1 + bs.length) 0 100 (zx_eg (bs.foldl zy_pe zy_e1) 0) pm stops) cur pc (zy_rl rowL) stL CL (bs.foldl zy_pe zy_e1)) = true)
    (hP : ∀ cu ∈ stops, ∀ (ls' : Array Slot) (vs' : List Value) (H' : Heap) (locs' : List Loc) (tys' : List (ClassId × FieldType)) (ws' : va_W), zy_Mx D N0 zy_T Z s M ls' H' locs' tys' ws' → (∀ q ∈ cu.2.2.1, ∃ v, ls'[q.1]? = some (.val v) ∧ zy_r (ys.foldl zy_xi Z) q.2 v) → zy_SR (ys.foldl zy_xi Z) cu.2.1 vs' → zy_CR (ys.foldl zy_xi Z) ws' cu.2.2.2.1 → zy_ev (ys.foldl zy_xi Z) cu.2.2.2.2 → zy_UN (zy_gl Z) Wm ws ws' → W p l en R s m args below meth c H' locs' 0 0 Q (F0 m cu.1 ls' vs')) :
    W p l en R s m args below meth c H locs 0 0 Q (F0 m pc ls vs) := by
  obtain ⟨hH, hUQ, hC, hrk, -, -⟩ := hB
  have hH' := hH
  obtain ⟨hZ1, hZ2, hZr, hF⟩ := hH
  obtain ⟨hW, hS, hl⟩ := hx
  obtain ⟨k1, k3⟩ := zx_and_b hkd
  obtain ⟨k1, k2⟩ := zx_and_b k1
  have hle := zy_mk_le ys Z
  refine zy_sx hZ1 hZ2 hZr hF hOk ys bs rowL stL CL hlen hmax hb hC hRt hrk hG hW hS hl (fun q hq => ?_) (zv_dm_to hH' k2 hst) (zv_dc_to hH' k3 hCL) zy_UN_rf hck ?_
  · obtain ⟨v, g1, g2⟩ := hrow q hq
    exact ⟨v, g1, zv_dv_to hH' (List.all_eq_true.mp k1 _ (List.mem_map.mpr ⟨q, hq, rfl⟩)) g2⟩
  · intro cu hcu ls' vs' H' locs' tys' ws' hAt
    obtain ⟨a1, a2, a3, a4, a5, a6, a7, a8⟩ := hAt
    rw [zy_gl_le hle] at a8
    exact hP cu hcu ls' vs' H' locs' tys' ws' ⟨⟨a1.1, a1.2.1, a1.2.2.1, zy_HR_ge hle (by omega) a1.2.2.2⟩, a2, a3⟩ a4 a5 a6 a7 a8
/-- a method by hand: its frame -/
theorem zy_handP {y : zx_M} {a dm : Nat} {Pre : List Value → va_W → Prop} {Post : List Value → va_W → List Value → va_W → Prop} (HH : zy_H0 Z) (HU : zy_UQ zy_fg Z) (hya : zx_me a = some y) (hwd : ∀ av ws, Pre av ws → (lg_sl av).length ≤ y.1.2.2.1)
    (body : ∀ (d : Nat), dm ≤ d → ∀ (av : List Value) (tys : List (ClassId × FieldType)) (ws : va_W), Pre av ws → ∀ (p : Program) (en : Env) (R : Room) (s : State) (m : MethodId) (below : List Frame) (meth : Method) (c : Code), zy_Fr p l R s m av.toArray meth c N0 Z y d → ∀ (ls : Array Slot), (∀ q ∈ lv_args 0 av, ls[q.1]? = some (.val q.2)) → zy_Mx D N0 zy_T Z s y ls s.heap [] tys ws →
      W p l en R s m av.toArray below meth c s.heap [] 0 0 (MQ below (zy_QP D N0 zy_T Z (Post av ws)) av.toArray s 0 0 (zx_A N0)) (F0 m 0 ls [])) : zy_OkP l D N0 zy_T Z a dm Pre Post := by
  intro y' hy' d hd av tys ws hPre hD hH
  have hyy : y' = y := Option.some.inj (hy'.symm.trans hya)
  rw [hyy]
  have hym := (zx_me_s hya).1
  obtain ⟨h1, h2, h3, h4, h5, h6, h7, h8, h9, h10⟩ := zx_head hym
  refine zx_ofW (cc := y.1.2.1) (maxL := y.1.2.2.1) (ret := y.1.2.2.2) h2 rfl ?_
  intro p en s m args below meth c s₁ B hml hv
  obtain ⟨rfl, hN0, hK, hP, hX⟩ := hv
  have hts0 := atoms_spec (ws := zx_mc y :: zx_G) B.pre
  have hown : s.vm.findClass y.1.1.cls = some m.cls := findClass_of_methodNamed B.named
  rw [h1] at hown
  have hin : meth.name = y.1.1.name := (name_of_methodNamed B.named B.method).1
  have hl := lv_entry av (hwd av ws hPre)
  rw [lg_entry_eq]
  refine body d hd av tys ws hPre p en _ s m below meth c ⟨HH, HU, fun As hAs => ?_, h8, B.returns, B.notSynchronized⟩ _ hl.2.2 ⟨⟨hK, hP, hD, hH⟩, ⟨Nat.le_refl _, fun _ _ _ => rfl, fun _ h => by cases h⟩, ⟨hl.1, hl.2.1, fun _ h => by cases h⟩⟩
  rw [zy_exA hAs]
  exact ⟨B.exec, B.bytes, hml, hown, fun w hw => hts0 w (List.mem_cons_of_mem _ hw), fun z => hin.trans (h7 z).1, hN0, hX, ⟨Nat.le_refl _, Nat.le_refl _, Nat.le_refl _, Nat.le_refl _⟩, zx_tw_in hym⟩
/-- its ends -/
theorem zy_rtP {As : zy_V} {M : zx_M} {K : zy_K} {ws3 : va_W} {dd : Nat} {P : List Value → va_W → Prop} (hB : zy_Fr p l R s m args meth c N0 Z M dd) (hZ : zy_le Z As) (h : ∀ (A : zy_V) (r : List Nat) (C : zy_C) (e : Nat) (vs : List Value) (ws' : va_W), zy_le As A → K r C e = true → zy_SR A r vs → zy_CR A ws' C → zy_ev A e → zy_UN (zy_gl Z) Wm ws3 ws' → P vs ws') : zy_Rt p l en R s m args below meth c (MQ below (zy_QP D N0 zy_T Z P) args s 0 0 (zx_A N0)) D N0 zy_T Wm ws3 As M K := by
  obtain ⟨hH, hUQ, hC, hrk, hret, hlk⟩ := hB
  have hC0 := hC Z (zy_le_rf Z)
  refine zy_ends hC0.1 hC0.2.1 hret hlk ?_
  intro A r C e vs tys' ws' t hA hK hlen hsr hW' hCR' hE' hU' hFt
  have hZA := zy_le_tr hZ hA
  rw [zy_gl_le hZA] at hU'
  exact ⟨⟨vs, tys', ws', rfl, hlen, h A r C e vs ws' hA hK hsr hCR' hE' hU', ⟨hW'.1, hW'.2.1, hW'.2.2.1, zy_HR_ge hZA (by rw [hH.2.2.1]; decide) hW'.2.2.2⟩⟩, hFt⟩
theorem zy_rtf {ws3 : va_W} {M : zx_M} : ∀ As, zy_le Z As → zy_Rt p l en R s m args below meth c Q D N0 zy_T Wm ws3 As M zy_Kf := fun As hAs A pc row r C e ls vs H locs ins _ _ _ hK => by cases hK
/-- behind a call -/
theorem zy_goP {P : List Value → va_W → Prop} {M : zx_M} {a : Array Value} {pc : Nat} {ls : Array Slot} {H : Heap} {locs : List Loc} {vs0 rest : List Value} (hr : va_Run p l en R s m args below meth c H locs 0 0 0 0 (F0 m pc ls vs0) rest (zy_QP D N0 zy_T Z P a) (zx_A N0)) (hS : va_S (zx_A N0) s.heap H locs) (hl : lv_has ls M.1.2.2.1 [])
    (kk : ∀ (vs : List Value) (tys : List (ClassId × FieldType)) (ws : va_W) (H1 : Heap) (locs1 : List Loc), vs.length ≤ 1 → P vs ws → zy_Mx D N0 zy_T Z s M ls H1 locs1 tys ws → W p l en R s m args below meth c H1 locs1 0 0 Q (F0 m (pc + 3) ls (vs ++ rest))) : W p l en R s m args below meth c H locs 0 0 Q (F0 m pc ls vs0) := by
  intro Tt hT X
  obtain ⟨v, st₀, t, T', L, h0, X', hL, e1, e2, ⟨⟨vs, tys, ws, ho, hlen, hPp, hW⟩, hz, hkp⟩, stp⟩ := hr Tt hT X
  have hv : v = vs.head? := by injection ho
  have hvl : v.toList = vs := by
    rw [hv]
    match vs, hlen with
    | [], _ => rfl
    | [x], _ => rfl
    | _ :: _ :: _, hlen => exact absurd hlen (by simp)
  rw [h0] at hz hkp
  have hal : s.vm.Alike t.vm := by rw [← e2]; exact X'.warmed.alike
  obtain ⟨k1, k2, k3⟩ := hW
  have hS1 : va_S (zx_A N0) s.heap T'.heap (locs ++ L) := ⟨Nat.le_trans hS.1 (by rw [e1]; exact hz), fun q h1 h2 => by rw [e1, hkp q (Nat.lt_of_lt_of_le h1 hS.1) h2]; exact hS.2.1 q h1 h2, fun q hq => by
      rcases List.mem_append.mp hq with h | h
      · exact hS.2.2 q h
      · exact hL q h⟩
  obtain ⟨t2, a1, b1⟩ := kk vs tys ws T'.heap (locs ++ L) hlen hPp ⟨⟨va_K.moved hal.symm k1, by rw [e1]; exact k2, k3⟩, hS1, hl⟩ T' rfl X'
  refine ⟨t2, stp t2 ?_, b1⟩
  rw [hvl]
  exact a1
/-- a call by hand: an object's method -/
theorem zy_ivP {M : zx_M} {q : zx_Q} {i a dm d' b j ci pc : Nat} {y : zx_M} {fs As rest : List Value} {Pre : List Value → va_W → Prop} {Post : List Value → va_W → List Value → va_W → Prop} {ls : Array Slot} {H : Heap} {locs : List Loc} {tys : List (ClassId × FieldType)} {ws : va_W} (hq : q ∈ zx_ML) (ho : q.1 = M.2.1.1) (hi : q.2.1 = i) (ha : q.2.2.1 = a) (ha2 : a < 9000) (hya : zx_me a = some y) (hk0 : y.2.1.2.1 = 0 ∧ y.2.1.2.2.2.1 = 0 ∧ y.2.1.2.2.2.2.1 = 0) (hd : decode M.1.2.1 pc = .ok (.invokevirtual i, 3)) (hB : zy_Fr p l R s m args meth c N0 Z M (d' + 1)) (hOk : zy_OkP l D N0 zy_T Z a dm Pre Post) (hdm : dm ≤ d') (hx : zy_Mx D N0 zy_T Z s M ls H locs tys ws) (hpre : Pre (.ref b :: As) ws) (hlen : As.length + 1 = y.2.1.2.2.1) (hrm : (rest.map fun v => v.category).sum ≤ 8) (h4 : ws[j]? = some (b, .inr (ci, fs))) (hci : ci = y.2.1.1) (hci3 : ci < 13)
    (kk : ∀ (vs : List Value) (tys : List (ClassId × FieldType)) (ws1 : va_W) (H1 : Heap) (locs1 : List Loc), vs.length ≤ 1 → Post (.ref b :: As) ws vs ws1 → zy_Mx D N0 zy_T Z s M ls H1 locs1 tys ws1 → W p l en R s m args below meth c H1 locs1 0 0 Q (F0 m (pc + 3) ls (vs ++ rest))) :
    W p l en R s m args below meth c H locs 0 0 Q (F0 m pc ls (As.reverse ++ .ref b :: rest)) := by
  obtain ⟨hH, hUQ, hCf, hrk, -, -⟩ := hB
  have hC := hCf Z (zy_le_rf Z)
  obtain ⟨hW, hS, hl⟩ := hx
  obtain ⟨hK, hP, hD, hHR⟩ := hW
  obtain ⟨hk0, hz1, hz2⟩ := hk0
  have hym := (zx_me_s hya).1
  obtain ⟨h1, h2, h3, g4, h5, h6, h7, h8, h9, h10⟩ := zx_head hym
  have hM := hOk y hya d' hdm (.ref b :: As) tys ws hpre hD hHR
  have hCC := hC
  obtain ⟨hx0, hb, hml, hown, hts, -, hN0, hX, -⟩ := hCC
  have hmy : zx_my q.2.2.1 = y.1.1 := by rw [ha]; exact zx_my_of ha2 hya
  have hlink : (Cond.methodLink (zx_on1 M.2.1.1) i y.1.1).before args s = true := by
    have := hts _ (zx_inM hq)
    unfold zx_mw at this
    rw [ho, hi, hmy] at this
    exact this
  have hkw : (Cond.instanceMethod y.1.1).before args s = true := by
    have := hts _ (zx_inY hym (List.mem_cons_of_mem _ (List.mem_cons_of_mem _ List.mem_cons_self)))
    unfold zx_mkw at this
    rw [hk0] at this
    exact this
  have hse : (Cond.selects y.1.1.cls y.1.1 y.1.1).before args s = true := by
    refine hts _ (zx_inY hym (List.mem_cons_of_mem _ (List.mem_cons_of_mem _ (List.mem_cons_of_mem _ ?_))))
    unfold zx_ms
    rw [hk0]
    exact List.mem_cons_self
  have hcell : ∃ cellB : Cell, H[b]? = some cellB ∧ cellB.vm.isStatics = false ∧ s.vm.findClass y.1.1.cls = some cellB.cls := by
    rcases h10 hk0 with z | ⟨z, z'⟩
    · omega
    · obtain ⟨rc, hrc⟩ : ∃ rc, vwCl[ci]? = some rc := ⟨_, List.getElem?_eq_getElem (by rw [zx_vwl]; exact hci3)⟩
      rw [h1, ← z', ← hci, zx_ci_of hrc]
      exact va_recv hK hP hrc h4
  rw [hk0] at g4
  have hcb := zx_cb hC hym rfl hlink g4
  rw [hz1, hz2] at hcb
  refine zy_goP (va_runV (As := As) (rest := rest) ⟨hx0, hb, hml, hown, hts⟩ hM ⟨hcb, hkw, hse⟩ ⟨zx_Pc_blind, hcell, ?_⟩ rfl ?_ hl.1 rfl (lv_room hrm) hd ⟨Nat.zero_le _, Nat.zero_le _⟩) hS hl kk
  · intro U hUe hWm
    exact ⟨rfl, by rw [hUe]; exact Nat.le_trans hN0 hS.1, va_K.moved hWm.alike hK, by rw [hUe]; exact hP, zx_X_mv hX hN0 hWm (by rw [hUe]; exact hS.2.1)⟩
  · show As.length = y.2.1.2.2.1 - 1
    omega
/-- a class's method -/
theorem zy_isP {M : zx_M} {q : zx_Q} {i a dm d' pc : Nat} {y : zx_M} {As rest : List Value} {Pre : List Value → va_W → Prop} {Post : List Value → va_W → List Value → va_W → Prop} {ls : Array Slot} {H : Heap} {locs : List Loc} {tys : List (ClassId × FieldType)} {ws : va_W} (hq : q ∈ zx_ML) (ho : q.1 = M.2.1.1) (hi : q.2.1 = i) (ha : q.2.2.1 = a) (ha2 : a < 9000) (hya : zx_me a = some y) (hk0 : y.2.1.2.1 = 1 ∧ y.2.1.2.2.2.1 = 0 ∧ y.2.1.2.2.2.2.1 = 0) (hd : decode M.1.2.1 pc = .ok (.invokestatic i, 3)) (hB : zy_Fr p l R s m args meth c N0 Z M (d' + 1)) (hOk : zy_OkP l D N0 zy_T Z a dm Pre Post) (hdm : dm ≤ d') (hx : zy_Mx D N0 zy_T Z s M ls H locs tys ws) (hpre : Pre As ws) (hlen : As.length = y.2.1.2.2.1) (hrm : (rest.map fun v => v.category).sum ≤ 8)
    (kk : ∀ (vs : List Value) (tys : List (ClassId × FieldType)) (ws1 : va_W) (H1 : Heap) (locs1 : List Loc), vs.length ≤ 1 → Post As ws vs ws1 → zy_Mx D N0 zy_T Z s M ls H1 locs1 tys ws1 → W p l en R s m args below meth c H1 locs1 0 0 Q (F0 m (pc + 3) ls (vs ++ rest))) :
    W p l en R s m args below meth c H locs 0 0 Q (F0 m pc ls (As.reverse ++ rest)) := by
  obtain ⟨hH, hUQ, hCf, hrk, -, -⟩ := hB
  have hC := hCf Z (zy_le_rf Z)
  obtain ⟨hW, hS, hl⟩ := hx
  obtain ⟨hK, hP, hD, hHR⟩ := hW
  obtain ⟨hk0, hz1, hz2⟩ := hk0
  have hym := (zx_me_s hya).1
  obtain ⟨h1, h2, h3, g4, h5, h6, h7, h8, h9, h10⟩ := zx_head hym
  have hM := hOk y hya d' hdm As tys ws hpre hD hHR
  have hCC := hC
  obtain ⟨hx0, hb, hml, hown, hts, -, hN0, hX, -⟩ := hCC
  have hmy : zx_my q.2.2.1 = y.1.1 := by rw [ha]; exact zx_my_of ha2 hya
  have hkw : (Cond.static y.1.1).before args s = true := by
    have := hts _ (zx_inY hym (List.mem_cons_of_mem _ (List.mem_cons_of_mem _ List.mem_cons_self)))
    unfold zx_mkw at this
    rw [hk0] at this
    exact this
  have hlink : (Cond.methodLink (zx_on1 M.2.1.1) i y.1.1).before args s = true := by
    have := hts _ (zx_inM hq)
    unfold zx_mw at this
    rw [ho, hi, hmy] at this
    exact this
  rw [hk0] at g4
  have hcb := zx_cb hC hym rfl hlink g4
  rw [hz1, hz2] at hcb
  refine zy_goP (va_runS (As := As) (rest := rest) ⟨hx0, hb, hml, hown, hts⟩ hM ⟨hcb, hkw⟩ ⟨zx_Pc_blind, ?_⟩ rfl hlen hl.1 rfl (lv_room hrm) hd ⟨Nat.zero_le _, Nat.zero_le _⟩) hS hl kk
  intro U hUe hWm
  exact ⟨rfl, by rw [hUe]; exact Nat.le_trans hN0 hS.1, va_K.moved hWm.alike hK, by rw [hUe]; exact hP, zx_X_mv hX hN0 hWm (by rw [hUe]; exact hS.2.1)⟩
end ZW
