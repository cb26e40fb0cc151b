/-! the reader's lexer, by its meaning -/
theorem zy_OkP_mono {l : Launch} {D : va_G} {N0 : Nat} {T : List Nat} {Z : zy_V} {a dm dm' : Nat} {Pre Pre' : List Value → va_W → Prop} {Post Post' : List Value → va_W → List Value → va_W → Prop} (h : zy_OkP l D N0 T Z a dm Pre Post) (hdm : dm ≤ dm') (h1 : ∀ av ws, Pre' av ws → Pre av ws) (h2 : ∀ av ws vs ws', Pre' av ws → Post av ws vs ws' → Post' av ws vs ws') : zy_OkP l D N0 T Z a dm' Pre' Post' := by
  intro y hy d hd av tys ws hp hD hH
  refine MetFree.mono (h y hy d (Nat.le_trans hdm hd) av tys ws (h1 av ws hp) hD hH) (fun _ _ h => h) (fun _ _ _ _ _ h => h) ?_
  intro a' s' o t' _ ⟨⟨⟨vs, tys', ws', o1, o2, o3, o4⟩, o5⟩, hL⟩
  exact ⟨⟨⟨vs, tys', ws', o1, o2, h2 av ws vs ws' hp o3, o4⟩, o5⟩, hL⟩
section ZLX
variable {l : Launch} {D : va_G} {N0 : Nat} {Z : zy_V}
theorem zv_cr (H : zy_H0 Z) {ws : va_W} {key t : Nat} {x : Value} (h0 : 0 < key % 256) (h1 : key % 256 < 100) (hfg : zy_fg[key % 256]? = some (key / 256 % 65536 / 128)) (hv : zv_ro Z ws key = some x) (ht : zy_r Z t x) : zy_CR Z ws [(key, t)] := fun q hq => by
  rcases List.mem_singleton.mp hq with rfl
  exact ⟨⟨by rw [H.2.2.1]; exact h1, (H.2.2.2 _ _ h0 h1 hfg).1⟩, x, hv, ht⟩
theorem zv_cr2 {ws : va_W} {q1 : Nat × Nat} {C : zy_C} (h1 : zy_CR Z ws [q1]) (h2 : zy_CR Z ws C) : zy_CR Z ws (q1 :: C) := fun q hq => by
  rcases List.mem_cons.mp hq with rfl | hq
  · exact h1 _ List.mem_cons_self
  · exact h2 q hq
theorem zr_en_cr (H : zy_H0 Z) {ws : va_W} (h : zr_en Z ws) : zy_CR Z ws [(1345309, 147573952624036176903)] := by
  obtain ⟨k, hk, h7⟩ := h
  refine zv_cr H (by decide) (by decide) rfl h7 ?_
  show zy_r Z (zy_c7v 2147483648 2147485248) (.int (nI k))
  exact zy_r_7 (by rw [zy_bz_n (by omega)]; omega) (by rw [zy_bz_n (by omega)]; omega) (by decide)
theorem zr_en_of (H : zy_H0 Z) {ws : va_W} (h : zy_CR Z ws [(1345309, 147573952624036176903)]) : zr_en Z ws := by
  obtain ⟨y, q7, e1, e2⟩ := zv_dc_7 (ys := []) H h (i := 0) (key := 1345309) (lo := 2147483648) (hi := 2147485248) rfl (by decide) (by decide) (by decide)
  obtain ⟨k, hk, rfl⟩ := zv_nn (n := 1600) e1 e2
  exact ⟨k, hk, q7⟩
theorem zo_go2 (H : zy_H0 Z) (HU : zy_UQ zy_fg Z) : zy_OkP l D N0 zy_T Z 238 1 (fun av ws => av = [.ref (zy_fa1 Z 29)] ∧ zr_en Z ws) (fun _ ws vs ws' => vs = [] ∧ zv_Fm Z ws ws' (zr_lx Z) ∧ zr_en Z ws' ∧ zy_rd ws' (zy_ru Z 29) 4 0 = zy_rd ws (zy_ru Z 29) 4 0) := by
  refine zy_OkP_mono (zy_OkP_of (zo_66 H)) (Nat.le_refl _) (fun av ws h => ?_) (fun av ws vs ws' _ h => ?_)
  · rw [h.1]
    exact ⟨⟨zv_rr H (r := 29) (g := 41) (by decide) (by decide) rfl (by decide), trivial⟩, zy_Gs0, zr_en_cr H h.2⟩
  · obtain ⟨po, p1, p2, p3, p4⟩ := h
    rcases List.mem_singleton.mp p1 with rfl
    refine ⟨zv_dm_of (ys := []) H (by decide) p2 rfl, zr_UN_lx HU p4 (by decide +kernel), zr_en_of H (p3 _ List.mem_cons_self).1, zv_un H p4 (r := 29) (g := 41) (f := 4) (by decide) (by decide) rfl (by decide) (by decide +kernel) 0⟩
theorem zo_mp2 (H : zy_H0 Z) (HU : zy_UQ zy_fg Z) : zy_OkP l D N0 zy_T Z 236 1 (fun av ws => av = [.ref (zy_fa1 Z 29)] ∧ zy_rd ws (zy_ru Z 29) 4 0 = some (.int (nI 0))) (fun _ ws vs ws' => vs = [] ∧ zv_Fm Z ws ws' (zr_lx Z) ∧ zy_rd ws' (zy_ru Z 29) 7 0 = zy_rd ws (zy_ru Z 29) 7 0 ∧ ∃ fk : Int32, zy_rd ws' (zy_ru Z 29) 4 0 = some (.int fk) ∧ fk ≠ 0) := by
  refine zy_OkP_mono (zy_OkP_of (zo_mp H)) (Nat.le_refl _) (fun av ws h => ?_) (fun av ws vs ws' _ h => ?_)
  · rw [h.1]
    exact ⟨⟨zv_rr H (r := 29) (g := 41) (by decide) (by decide) rfl (by decide), trivial⟩, zy_Gs0, zv_cr H (by decide) (by decide) rfl h.2 (zy_r_c (n := 0) (by decide))⟩
  · obtain ⟨po, p1, p2, p3, p4⟩ := h
    rcases List.mem_singleton.mp p1 with rfl
    obtain ⟨fk, k1, k2, -⟩ := zv_dc_7 (ys := []) H (p3 _ List.mem_cons_self).1 (i := 0) (key := 1344541) (lo := 2147483649) (hi := 2147483653) rfl (by decide) (by decide) (by decide)
    refine ⟨zv_dm_of (ys := []) H (by decide) p2 rfl, zr_UN_lx HU p4 (by decide +kernel), zv_un H p4 (r := 29) (g := 41) (f := 7) (by decide) (by decide) rfl (by decide) (by decide +kernel) 0, fk, k1, fun z => ?_⟩
    rw [z, show zx_bz 0 = 2147483648 from by decide] at k2
    omega
theorem zo_must2 (H : zy_H0 Z) (HU : zy_UQ zy_fg Z) {v : Nat} (hv : v ≤ 1) : zy_OkP l D N0 zy_T Z 235 2 (fun av ws => av = [.ref (zy_fa1 Z 29), .int (nI v)] ∧ zr_en Z ws ∧ zy_rd ws (zy_ru Z 29) 4 0 = some (.int (nI 0))) (fun _ ws vs ws' => vs = [] ∧ zv_Fm Z ws ws' (zr_lx Z) ∧ zr_en Z ws' ∧ ((∃ fk : Int32, zy_rd ws' (zy_ru Z 29) 4 0 = some (.int fk) ∧ fk ≠ 0) ∨ zy_rd ws' (zy_ru Z 29) 4 0 = some (.int (nI 0)))) := by
  refine zy_OkP_mono (zy_OkP_of (zo_67 H)) (Nat.le_refl _) (fun av ws h => ?_) (fun av ws vs ws' _ h => ?_)
  · rw [h.1]
    refine ⟨⟨zv_rr H (r := 29) (g := 41) (by decide) (by decide) rfl (by decide), ?_, trivial⟩, zy_Gs0, zv_cr2 (zr_en_cr H h.2.1) (zv_cr H (by decide) (by decide) rfl h.2.2 (zy_r_c (n := 0) (by decide)))⟩
    show zy_r Z (zy_c7v 2147483648 2147483649) (.int (nI v))
    exact zy_r_7 (by rw [zy_bz_n (by omega)]; omega) (by rw [zy_bz_n (by omega)]; omega) (by decide)
  · obtain ⟨po, p1, p2, p3, p4⟩ := h
    rcases List.mem_cons.mp p1 with rfl | p1
    · obtain ⟨fk, k1, k2, -⟩ := zv_dc_7 (ys := []) H (p3 _ (List.mem_cons_of_mem _ List.mem_cons_self)).1 (i := 0) (key := 1344541) (lo := 2147483649) (hi := 2147483650) rfl (by decide) (by decide) (by decide)
      refine ⟨zv_dm_of (ys := []) H (by decide) p2 rfl, zr_UN_lx HU p4 (by decide +kernel), zr_en_of H (p3 _ List.mem_cons_self).1, Or.inl ⟨fk, k1, fun z => ?_⟩⟩
      rw [z, show zx_bz 0 = 2147483648 from by decide] at k2
      omega
    · rcases List.mem_singleton.mp p1 with rfl
      exact ⟨zv_dm_of (ys := []) H (by decide) p2 rfl, zr_UN_lx HU p4 (by decide +kernel), zr_en_of H (p3 _ List.mem_cons_self).1, Or.inr (zv_dc_of (ys := []) H (by decide) (p3 _ (List.mem_cons_of_mem _ List.mem_cons_self)).1 (i := 0) rfl (by decide) rfl)⟩
/-- the rank stays -/
theorem zr_Rk_fr {ws ws' : va_W} {r : Nat} (h6 : zy_rd ws' (zy_ru Z 29) 6 0 = zy_rd ws (zy_ru Z 29) 6 0) (h3 : zy_rd ws' (zy_ru Z 29) 3 0 = zy_rd ws (zy_ru Z 29) 3 0) (ht : ∀ a, zy_rd ws' (zy_ru Z 31) 0 a = zy_rd ws (zy_ru Z 31) 0 a) (h : zr_Rk Z ws r) : zr_Rk Z ws' r := by
  have e : ∀ k, zr_sgn Z ws' k = zr_sgn Z ws k := fun k => by
    unfold zr_sgn
    rw [h3, ht]
  rcases h with h | h | h | ⟨h, k, h1, h2, h4⟩
  · exact Or.inl h
  · exact Or.inr (Or.inl h)
  · exact Or.inr (Or.inr (Or.inl h))
  · exact Or.inr (Or.inr (Or.inr ⟨h, k, h1, h6.trans h2, by rw [e]; exact h4⟩))
end ZLX
