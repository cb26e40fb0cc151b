/-! parts of a method that are walked, and what stands between them by hand -/
/-- one name more, in what is known -/
def zy_pe (e : Nat) (b : Nat × Nat) : Nat := zx_es (zx_es e (Nat.mod (zx_eg e 0) 65536) (zx_bd b.1 b.2)) 0 (Nat.succ (zx_eg e 0))
/-- a stop: place, types on the stack, of locals, of places, what is known of the names -/
abbrev zy_C2 : Type := Nat × List Nat × List (Nat × Nat) × zy_C × Nat
noncomputable def zy_ls (ki kl kr e : Nat) (ts : List Nat) : List Nat → Bool := @List.rec Nat (fun _ => List Nat → Bool) (fun r => @List.rec Nat (fun _ => Bool) true (fun _ _ _ => false) r) (fun t _ ih r => @List.rec Nat (fun _ => Bool) false (fun v r _ => zy_mv ki kl kr e v t && ih r) r) ts
noncomputable def zy_cx2 (T fg : List Nat) (ki kl kr n0 pc row : Nat) (st : List Nat) (C : zy_C) (e : Nat) (l : List zy_C2) : Bool := @List.rec zy_C2 (fun _ => Bool) false (fun cu _ ih => bif Nat.beq cu.1 pc && (Nat.beq (zx_eg cu.2.2.2.2 0) n0 && (Nat.beq (Nat.shiftRight cu.2.2.2.2 12288) 0 && (zy_ls ki kl kr e cu.2.1 st && (zy_mr ki kl kr e row cu.2.2.1 && (zy_mC T fg ki kl kr e C cu.2.2.2.1 && zy_kb e cu.2.2.2.2 ki))))) then true else ih) l
noncomputable def zy_cf2 (T fg : List Nat) (ki kl kr n0 pm : Nat) (l : List zy_C2) : zy_U := fun pc row st C e b => bif zy_tb pm pc then zy_cx2 T fg ki kl kr n0 pc row st C e l else b
theorem zy_ls_s {A : zy_V} {e ki kl kr : Nat} (he : zy_ev A e) : ∀ (ts r : List Nat) (vs : List Value), zy_SR A r vs → zy_ls ki kl kr e ts r = true → zy_SR (zy_rs A ki kl kr) ts vs
  | [], [], [], _, _ => trivial
  | [], [], _ :: _, h, _ => h.elim
  | [], _ :: _, _, _, h => by cases h
  | _ :: _, [], _, _, h => by cases h
  | _ :: _, _ :: _, [], h, _ => h.elim
  | t :: ts, v :: r, x :: vs, h, hk => by
    have hk : (zy_mv ki kl kr e v t && zy_ls ki kl kr e ts r) = true := hk
    obtain ⟨k1, k2⟩ := zx_and_b hk
    exact ⟨zy_mv_s he h.1 k1, zy_ls_s he ts r vs h.2 k2⟩
theorem zy_cx2_s {T fg : List Nat} {ki kl kr n0 pc row e : Nat} {st : List Nat} {C : zy_C} : ∀ (l : List zy_C2), zy_cx2 T fg ki kl kr n0 pc row st C e l = true → ∃ cu ∈ l, cu.1 = pc ∧ zx_eg cu.2.2.2.2 0 = n0 ∧ Nat.shiftRight cu.2.2.2.2 12288 = 0 ∧ zy_ls ki kl kr e cu.2.1 st = true ∧ zy_mr ki kl kr e row cu.2.2.1 = true ∧ zy_mC T fg ki kl kr e C cu.2.2.2.1 = true ∧ zy_kb e cu.2.2.2.2 ki = true
  | [], h => by cases h
  | cu :: l, h => by
    have h : (bif Nat.beq cu.1 pc && (Nat.beq (zx_eg cu.2.2.2.2 0) n0 && (Nat.beq (Nat.shiftRight cu.2.2.2.2 12288) 0 && (zy_ls ki kl kr e cu.2.1 st && (zy_mr ki kl kr e row cu.2.2.1 && (zy_mC T fg ki kl kr e C cu.2.2.2.1 && zy_kb e cu.2.2.2.2 ki))))) then true else zy_cx2 T fg ki kl kr n0 pc row st C e l) = true := h
    rcases zx_bif h with ⟨q, -⟩ | ⟨-, h⟩
    · obtain ⟨q1, q⟩ := zx_and_b q
      obtain ⟨q2, q⟩ := zx_and_b q
      obtain ⟨q3, q⟩ := zx_and_b q
      obtain ⟨q4, q⟩ := zx_and_b q
      obtain ⟨q5, q⟩ := zx_and_b q
      obtain ⟨q6, q7⟩ := zx_and_b q
      exact ⟨cu, List.mem_cons_self, zx_beq_t q1, zx_beq_t q2, zx_beq_t q3, q4, q5, q6, q7⟩
    · obtain ⟨cu', h1, h2⟩ := zy_cx2_s l h
      exact ⟨cu', List.mem_cons_of_mem _ h1, h2⟩
/-- what is known at a stop -/
def zy_At (D : va_G) (N0 : Nat) (T : List Nat) (Wm : Nat) (ws0 : va_W) (A : zy_V) (M : zx_M) (s : State) (cu : zy_C2) (ls : Array Slot) (vs : List Value) (H : Heap) (locs : List Loc) (tys : List (ClassId × FieldType)) (ws : va_W) : Prop :=
  zy_Wd D N0 T A s H tys ws ∧ va_S (zx_A N0) s.heap H locs ∧ lv_has ls M.1.2.2.1 [] ∧ (∀ q ∈ cu.2.2.1, ∃ v, ls[q.1]? = some (.val v) ∧ zy_r A q.2 v) ∧ zy_SR A cu.2.1 vs ∧ zy_CR A ws cu.2.2.2.1 ∧ zy_ev A cu.2.2.2.2 ∧ zy_UN (zy_gl A) Wm ws0 ws
section ZYI
variable {l : Launch} {D : va_G} {N0 : Nat} {T fg : List Nat} {Z : zy_V} {Wm g mk : Nat} {tb : zy_Tb} {p : Program} {en : Env} {R : Room} {s : State} {m : MethodId} {args : Array Value} {below : List Frame} {meth : Method} {c : Code} {Q : State → Prop}
theorem zy_cf2_s {As : zy_V} {ws0 : va_W} {M : zx_M} {es pm : Nat} {stops : List zy_C2} (hF : zy_FX fg As) (hs : zy_ev As es)
    (hP : ∀ cu ∈ stops, ∀ (ls : Array Slot) (vs : List Value) (H : Heap) (locs : List Loc) (tys : List (ClassId × FieldType)) (ws : va_W), zy_At D N0 T Wm ws0 As M s cu ls vs H locs tys ws → W p l en R s m args below meth c H locs 0 0 Q (F0 m cu.1 ls vs)) :
    zy_Cu p l en R s m args below meth c Q D N0 T Wm ws0 As M (zy_cf2 T fg (zy_fi As) (zy_fl As) (zy_fr As) (zx_eg es 0) pm stops) := by
  intro A pc row st C e b hA h ls vs H locs hR
  unfold zy_cf2 at h
  rcases zx_bif h with ⟨-, h⟩ | ⟨-, h⟩
  · right
    obtain ⟨tys, ws, ⟨hK, hPp, hD, hH⟩, hS, hl, hL, hT, hCR, hE, hU⟩ := hR
    have hf := zy_f100 hs
    obtain ⟨cu, c1, rfl, c3, c4, c5, c6, c7, c8⟩ := zy_cx2_s _ h
    have hback := zy_rs_le hA
    refine hP cu c1 ls vs H locs tys ws ⟨⟨hK, hPp, hD, zy_HR_ge hA hf hH⟩, hS, hl, ?_, ?_, ?_, ?_, ?_⟩
    · intro q hq
      obtain ⟨v, v1, v2⟩ := zy_mr_s hE hL _ c6 q hq
      exact ⟨v, v1, zy_r_le hback v2⟩
    · exact zy_SR_le hback _ _ (zy_ls_s hE _ _ _ hT c5)
    · exact zy_CR_le hback (zy_mC_s hE hCR (zy_FX_le hA hf hF) hH _ c7)
    · exact zy_kb_s hE hs hA c8 c3 c4
    · rw [← zy_gl_le hA]
      exact hU
  · exact Or.inl h
/-- a part is walked from a state to its stops -/
theorem zy_sg (hZ1 : zy_fi Z = 1) (hZ2 : zy_fl Z = 0) (hZr : zy_fr Z = 100) (hF : zy_FX fg Z) (hOk : ∀ t ∈ tb, ∀ co ∈ t.2.2, zy_Ok l D N0 T Z co) {As : zy_V} {ws0 : va_W} {M : zx_M} {K : zy_K} {d0 k n pm : Nat} {stops : List zy_C2} (hZ : zy_le Z As) (hC : zx_Cx p R s m args meth c M (d0 + k) N0 (zy_ex As) zy_n0) (hRt : zy_Rt p l en R s m args below meth c Q D N0 T Wm ws0 As M K) (hrk : zx_rk M.1.2.2.2 = M.2.1.2.2.2.2.2) (hG : zy_Gs (zy_gl Z) g ws0) {pc row : Nat} {st : List Nat} {C : zy_C} {e : Nat} {ls : Array Slot} {vs : List Value} {H : Heap} {locs : List Loc} (hR : zy_Rl D N0 T Wm ws0 As M s row st C e ls vs H locs)
    (hck : zx_bk M.2.2 pc (fun cur => zy_R T fg Wm g tb mk n d0 M K (zy_cf2 T fg (zy_fi As) (zy_fl As) (zy_fr As) (zx_eg e 0) pm stops) cur pc row st C e) = true)
    (hP : ∀ cu ∈ stops, ∀ (ls : Array Slot) (vs : List Value) (H : Heap) (locs : List Loc) (tys : List (ClassId × FieldType)) (ws : va_W), zy_At D N0 T Wm ws0 As M s cu ls vs H locs tys ws → W p l en R s m args below meth c H locs 0 0 Q (F0 m cu.1 ls vs)) :
    W p l en R s m args below meth c H locs 0 0 Q (F0 m pc ls vs) := by
  obtain ⟨bl, hbl, hk⟩ := zx_bk_s _ hck
  have hE : zy_ev As e := by
    obtain ⟨_, _, _, _, _, _, _, _, h, _⟩ := hR
    exact h
  exact zy_run_s hC hRt hrk (zy_cf2_s (zy_FX_le hZ (by omega) hF) hE hP) n (fun n' _ => zy_Ca_s hZ1 hZ2 hZr hF hOk n' d0 k As ws0 hZ hG) As bl.2 pc row st C e (zy_le_rf As) (hC.2.2.2.2.2.2.2.2.2 bl hbl) hk ls vs H locs hR
end ZYI
theorem zy_dt1 : decode prog_14_method_112_code 5 = .ok (.iaload, 1) := by rfl
