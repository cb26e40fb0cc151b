/-! oilOf is kept: its loop -/
section ZOIL2
variable {l : Launch} {D : va_G} {N0 : Nat} {Z : zy_V} {p : Program} {en : Env} {R : Room} {s : State} {m : MethodId} {args : Array Value} {below : List Frame} {meth : Method} {c : Code} {Q : State → Prop}
theorem zv_le {a b : Nat} (ha : a < 2147483648) (hb : b < 2147483648) : nI a ≤ nI b ↔ a ≤ b := by
  rw [zx_le', zy_bz_n ha, zy_bz_n hb]
  omega
theorem zv_bz_le {x : Int32} {n : Nat} (hn : n < 2147483648) : (nI n ≤ x ↔ n + 2147483648 ≤ zx_bz x) ∧ (x ≤ nI n ↔ zx_bz x ≤ n + 2147483648) := by
  rw [zx_le', zx_le', zy_bz_n hn]
  exact ⟨Iff.rfl, Iff.rfl⟩
theorem zv_pred {n : Nat} (h1 : 1 ≤ n) (h2 : n < 4294967296) : nI n + nI 4294967295 = nI (n - 1) := by
  rw [nI_add, ← zx_md, show (n + 4294967295) % 4294967296 = n - 1 by omega]
def zo_of (D : va_G) (N0 : Nat) (Z : zy_V) (s : State) (ws0 : va_W) (door : Int32) (n k : Nat) (ls : Array Slot) (H : Heap) (locs : List Loc) (tys : List (ClassId × FieldType)) (ws : va_W) : Prop := zy_Mx D N0 zy_T Z s zc_oil ls H locs tys ws ∧ ls[0]? = some (.val (.ref (zy_fa1 Z 29))) ∧ ls[1]? = some (.val (.int door)) ∧ ls[2]? = some (.val (.int (nI n))) ∧ ls[3]? = some (.val (.int (nI k))) ∧ zy_UN (zy_gl Z) zq_h1.1.2.2.1 ws0 ws
set_option maxHeartbeats 1000000 in
set_option maxRecDepth 20000 in
theorem zo_oil_l0 {k0 : Nat} (hB : zy_Fr p l R s m args meth c N0 Z zc_oil (12 + k0)) {ws0 : va_W} (hRt : ∀ ws3, zy_UN (zy_gl Z) zq_h1.1.2.2.1 ws0 ws3 → ∀ As, zy_le Z As → zy_Rt p l en R s m args below meth c Q D N0 zy_T 0 ws3 As zc_oil zo_K) {door : Int32} (hd1 : 2147483648 ≤ zx_bz door) (hd2 : zx_bz door ≤ 2147483657) {t : Nat} (ht : t ≤ 1120) (hbk : zy_rd ws0 (zy_ru Z 29) 43 0 = some (.int (nI 0))) (hto : zy_rd ws0 (zy_ru Z 48) 0 0 = some (.int (nI t))) :
    ∀ (N k n : Nat), t - k = N → k ≤ 1120 → n ≤ 59 → (zy_po (fun a => zy_rd ws0 (zy_ru Z 59) 0 a) N k n).isSome = true → ∀ (ls : Array Slot) (H : Heap) (locs : List Loc) (tys : List (ClassId × FieldType)) (ws : va_W), zo_of D N0 Z s ws0 door n k ls H locs tys ws → W p l en R s m args below meth c H locs 0 0 Q (F0 m 26 ls []) := by
  have hC0 := hB.2.2.1 Z (zy_le_rf Z)
  have bk : ∀ ws, zy_UN (zy_gl Z) zq_h1.1.2.2.1 ws0 ws → zv_ro Z ws 1354525 = some (.int (nI 0)) ∧ zv_ro Z ws 1966128 = some (.int (nI t)) := fun ws hU => ⟨(zv_un hB.1 hU (r := 29) (g := 41) (f := 43) (by decide) (by decide) rfl (by decide) (by decide +kernel) 0).trans hbk, (zv_un hB.1 hU (r := 48) (g := 60) (f := 0) (by decide) (by decide) rfl (by decide) (by decide +kernel) 0).trans hto⟩
  have pre : ∀ (k n : Nat), k ≤ 1120 → n ≤ 59 → ∀ (ls : Array Slot) (H : Heap) (locs : List Loc) (tys : List (ClassId × FieldType)) (ws : va_W), zo_of D N0 Z s ws0 door n k ls H locs tys ws → (∀ (ls : Array Slot) (H : Heap) (locs : List Loc) (tys : List (ClassId × FieldType)) (ws : va_W), zo_of D N0 Z s ws0 door n k ls H locs tys ws → W p l en R s m args below meth c H locs 0 0 Q (F0 m 36 ls [.int (nI t), .int (nI k)])) → W p l en R s m args below meth c H locs 0 0 Q (F0 m 26 ls []) := by
    intro k n hk hn ls H locs tys ws ⟨hx, l0, l1, l2, l3, hU⟩ kk
    refine zy_seg hB zy_g2 [door, nI n, nI k, nI t] zob_b0 zor_b0 [] [(1354525, 4), (1966128, 65)] rfl (by decide) (zv_hi hd1 hd2 (by decide) (zv_hb (by omega) (by omega) (by decide) (zv_hb (by omega) (by omega) (by decide) (zv_hb (by omega) (by omega) (by decide) zy_hb0)))) zy_rtf zy_Gs0 hx (by decide +kernel) (zy_fa ⟨_, l0, rfl⟩ (zy_fa ⟨_, l1, rfl⟩ (zy_fa ⟨_, l2, rfl⟩ (zy_fa ⟨_, l3, rfl⟩ zy_fa0)))) rfl (zy_fa ⟨_, (bk _ hU).1, rfl⟩ (zy_fa ⟨_, (bk _ hU).2, rfl⟩ zy_fa0)) zok_b0 (zy_fa ?_ zy_fa0)
    intro ls' vs' H' locs' tys' ws' hx' hrow hst hcr hev hU'
    have e : vs' = [.int (nI t), .int (nI k)] := zv_dm_of hB.1 (Nat.le_of_ble_eq_true rfl) hst rfl
    subst e
    exact kk ls' H' locs' tys' ws' ⟨hx', zv_dl_of (ys := [door, nI n, nI k, nI t]) hB.1 (Nat.le_of_ble_eq_true rfl) hrow (i := 0) rfl rfl, zv_dl_of (ys := [door, nI n, nI k, nI t]) hB.1 (Nat.le_of_ble_eq_true rfl) hrow (i := 1) rfl rfl, zv_dl_of (ys := [door, nI n, nI k, nI t]) hB.1 (Nat.le_of_ble_eq_true rfl) hrow (i := 2) rfl rfl, zv_dl_of (ys := [door, nI n, nI k, nI t]) hB.1 (Nat.le_of_ble_eq_true rfl) hrow (i := 3) rfl rfl, zy_UN_tr hU hU'⟩
  intro N
  induction N with
  | zero =>
    intro k n hN hk hn hpo ls H locs tys ws hf
    refine pre k n hk hn ls H locs tys ws hf ?_
    intro ls H locs tys ws ⟨hx, l0, l1, l2, l3, hU⟩
    refine lv_icmp_ge (tgt := 150) hC0.1 hC0.2.1 (show decode zc_oil.1.2.1 36 = .ok (.if_icmp .ge 114, 3) from rfl) (by decide) (fun _ => ?_) (fun h => absurd ((zv_le (by omega) (by omega)).mpr (by omega)) h)
    exact zo_oil_e hB.1.1 hB.1.2.1 hB.1.2.2.1 hB.1.2.2.2 hB.2.2.1 hB.2.2.2.1 (hRt ws hU) hx.1 hx.2.1 hx.2.2 l0 (zv_rr hB.1 (r := 29) (g := 41) (by decide) (by decide) rfl (by decide))
  | succ N ih =>
    intro k n hN hk hn hpo ls H locs tys ws hf
    obtain ⟨ch, n', hch, hhs, hpo'⟩ := zy_po_S hpo
    refine pre k n hk hn ls H locs tys ws hf ?_
    intro ls H locs tys ws ⟨hx, l0, l1, l2, l3, hU⟩
    refine lv_icmp_ge (tgt := 150) hC0.1 hC0.2.1 (show decode zc_oil.1.2.1 36 = .ok (.if_icmp .ge 114, 3) from rfl) (by decide) (fun h => absurd ((zv_le (by omega) (by omega)).mp h) (by omega)) (fun _ => ?_)
    refine zy_seg hB zy_g2 [door, nI n, nI k, nI t] zob_c0 zor_c0 [] [(1354525, 4), (1966128, 65)] rfl (by decide) (zv_hi hd1 hd2 (by decide) (zv_hb (by omega) (by omega) (by decide) (zv_hb (by omega) (by omega) (by decide) (zv_hb (by omega) (by omega) (by decide) zy_hb0)))) zy_rtf zy_Gs0 hx (by decide +kernel) (zy_fa ⟨_, l0, rfl⟩ (zy_fa ⟨_, l1, rfl⟩ (zy_fa ⟨_, l2, rfl⟩ (zy_fa ⟨_, l3, rfl⟩ zy_fa0)))) rfl (zy_fa ⟨_, (bk _ hU).1, rfl⟩ (zy_fa ⟨_, (bk _ hU).2, rfl⟩ zy_fa0)) zok_c0 (zy_fa ?_ zy_fa0)
    intro ls' vs' H' locs' tys' ws' hx' hrow hst hcr hev hU'
    have e : vs' = [.int (nI k), .ref (zy_fa1 Z 59)] := zv_dm_of hB.1 (Nat.le_of_ble_eq_true rfl) hst rfl
    subst e
    have hU := zy_UN_tr hU hU'
    have l0 := zv_dl_of (ys := [door, nI n, nI k, nI t]) hB.1 (Nat.le_of_ble_eq_true rfl) hrow (i := 0) rfl rfl
    have l1 := zv_dl_of (ys := [door, nI n, nI k, nI t]) hB.1 (Nat.le_of_ble_eq_true rfl) hrow (i := 1) rfl rfl
    have l2 := zv_dl_of (ys := [door, nI n, nI k, nI t]) hB.1 (Nat.le_of_ble_eq_true rfl) hrow (i := 2) rfl rfl
    have l3 := zv_dl_of (ys := [door, nI n, nI k, nI t]) hB.1 (Nat.le_of_ble_eq_true rfl) hrow (i := 3) rfl rfl
    have hx := hx'
    refine zv_ald hB hx (r := 59) (g := 71) (by decide) (by decide) rfl (by decide) rfl (Or.inl (by decide)) (Or.inl ⟨by decide, rfl⟩) (show decode zc_oil.1.2.1 44 = .ok (.iaload, 1) from rfl) (show k < 1120 by omega) (by decide) ((zv_un hB.1 hU (by decide) (by decide) rfl (by decide) (by decide +kernel) k).trans hch) ?_
    rcases zy_hs_c hhs with ⟨e1, e2, e3⟩ | ⟨⟨e1, e2⟩, e3, e4⟩ | ⟨e1, e2, e3, e4⟩
    · rw [e3] at hpo'
      have e1 : ch = nI 126 := by rw [e1]; decide
      subst e1
      refine zy_seg hB zy_g2 [door, nI n, nI k, nI t] zob_dn0 zor_dn0 [2020] [(1354525, 4), (1966128, 65)] rfl (by decide) (zv_hi hd1 hd2 (by decide) (zv_hb (by omega) (by omega) (by decide) (zv_hb (by omega) (by omega) (by decide) (zv_hb (by omega) (by omega) (by decide) zy_hb0)))) zy_rtf zy_Gs0 hx (by decide +kernel) (zy_fa ⟨_, l0, rfl⟩ (zy_fa ⟨_, l1, rfl⟩ (zy_fa ⟨_, l2, rfl⟩ (zy_fa ⟨_, l3, rfl⟩ zy_fa0)))) rfl (zy_fa ⟨_, (bk _ hU).1, rfl⟩ (zy_fa ⟨_, (bk _ hU).2, rfl⟩ zy_fa0)) zok_dn0 (zy_fa ?_ zy_fa0)
      intro ls' vs' H' locs' tys' ws' hx' hrow hst hcr hev hU'
      have e : vs' = [] := zv_dm_of hB.1 (Nat.le_of_ble_eq_true rfl) hst rfl
      subst e
      have l2' := zv_dl_of (ys := [door, nI n, nI k, nI t]) hB.1 (Nat.le_of_ble_eq_true rfl) hrow (i := 2) rfl rfl
      have l3' := zv_dl_of (ys := [door, nI n, nI k, nI t]) hB.1 (Nat.le_of_ble_eq_true rfl) hrow (i := 3) rfl rfl
      refine ih (k + 1) _ (by omega) (by omega) (by omega) hpo' ls' H' locs' tys' ws' ⟨hx', zv_dl_of (ys := [door, nI n, nI k, nI t]) hB.1 (Nat.le_of_ble_eq_true rfl) hrow (i := 0) rfl rfl, zv_dl_of (ys := [door, nI n, nI k, nI t]) hB.1 (Nat.le_of_ble_eq_true rfl) hrow (i := 1) rfl rfl, ?_, ?_, zy_UN_tr hU hU'⟩
      · exact l2'
      · rw [← nI_add]
        exact l3'
    · subst e4
      have e1 := (zv_bz_le (x := ch) (n := 97) (by decide)).1.mp e1
      have e2 := (zv_bz_le (x := ch) (n := 122) (by decide)).2.mp e2
      refine zy_seg hB zy_g2 [door, nI n, nI k, nI t, ch] zob_dl0 zor_dl0 [81] [(1354525, 4), (1966128, 65)] rfl (by decide) (zv_hi hd1 hd2 (by decide) (zv_hb (by omega) (by omega) (by decide) (zv_hb (by omega) (by omega) (by decide) (zv_hb (by omega) (by omega) (by decide) (zv_hi e1 e2 (by decide) zy_hb0))))) zy_rtf zy_Gs0 hx (by decide +kernel) (zy_fa ⟨_, l0, rfl⟩ (zy_fa ⟨_, l1, rfl⟩ (zy_fa ⟨_, l2, rfl⟩ (zy_fa ⟨_, l3, rfl⟩ zy_fa0)))) rfl (zy_fa ⟨_, (bk _ hU).1, rfl⟩ (zy_fa ⟨_, (bk _ hU).2, rfl⟩ zy_fa0)) zok_dl0 (zy_fa ?_ zy_fa0)
      intro ls' vs' H' locs' tys' ws' hx' hrow hst hcr hev hU'
      have e : vs' = [] := zv_dm_of hB.1 (Nat.le_of_ble_eq_true rfl) hst rfl
      subst e
      have l2' := zv_dl_of (ys := [door, nI n, nI k, nI t, ch]) hB.1 (Nat.le_of_ble_eq_true rfl) hrow (i := 2) rfl rfl
      have l3' := zv_dl_of (ys := [door, nI n, nI k, nI t, ch]) hB.1 (Nat.le_of_ble_eq_true rfl) hrow (i := 3) rfl rfl
      refine ih (k + 1) _ (by omega) (by omega) (by omega) hpo' ls' H' locs' tys' ws' ⟨hx', zv_dl_of (ys := [door, nI n, nI k, nI t, ch]) hB.1 (Nat.le_of_ble_eq_true rfl) hrow (i := 0) rfl rfl, zv_dl_of (ys := [door, nI n, nI k, nI t, ch]) hB.1 (Nat.le_of_ble_eq_true rfl) hrow (i := 1) rfl rfl, ?_, ?_, zy_UN_tr hU hU'⟩
      · rw [← nI_add]
        exact l2'
      · rw [← nI_add]
        exact l3'
    · subst e4
      have hb := zx_bz_lt ch
      have e1 : zx_bz ch ≠ 2147483774 := fun z => e1 (by
        have h1 := zx_of_bz ch
        rw [z] at h1
        rw [h1]
        decide)
      have e2 : ¬ (2147483745 ≤ zx_bz ch ∧ zx_bz ch ≤ 2147483770) := fun z => e2 ⟨(zv_bz_le (x := ch) (n := 97) (by decide)).1.mpr z.1, (zv_bz_le (x := ch) (n := 122) (by decide)).2.mpr z.2⟩
      rcases (show zx_bz ch ≤ 2147483744 ∨ (2147483771 ≤ zx_bz ch ∧ zx_bz ch ≤ 2147483773) ∨ 2147483775 ≤ zx_bz ch by omega) with e5 | ⟨e5, e6⟩ | e5
      · refine zy_seg hB zy_g2 [door, nI n, nI k, nI t, ch] zob_dx0 zor_dx0 [81] [(1354525, 4), (1966128, 65)] rfl (by decide) (zv_hi hd1 hd2 (by decide) (zv_hb (by omega) (by omega) (by decide) (zv_hb (by omega) (by omega) (by decide) (zv_hb (by omega) (by omega) (by decide) (zv_hi (Nat.zero_le _) e5 (by decide) zy_hb0))))) zy_rtf zy_Gs0 hx (by decide +kernel) (zy_fa ⟨_, l0, rfl⟩ (zy_fa ⟨_, l1, rfl⟩ (zy_fa ⟨_, l2, rfl⟩ (zy_fa ⟨_, l3, rfl⟩ zy_fa0)))) rfl (zy_fa ⟨_, (bk _ hU).1, rfl⟩ (zy_fa ⟨_, (bk _ hU).2, rfl⟩ zy_fa0)) zok_dx0 (zy_fa ?_ zy_fa0)
        intro ls' vs' H' locs' tys' ws' hx' hrow hst hcr hev hU'
        have e : vs' = [] := zv_dm_of hB.1 (Nat.le_of_ble_eq_true rfl) hst rfl
        subst e
        have l2' := zv_dl_of (ys := [door, nI n, nI k, nI t, ch]) hB.1 (Nat.le_of_ble_eq_true rfl) hrow (i := 2) rfl rfl
        have l3' := zv_dl_of (ys := [door, nI n, nI k, nI t, ch]) hB.1 (Nat.le_of_ble_eq_true rfl) hrow (i := 3) rfl rfl
        refine ih (k + 1) _ (by omega) (by omega) (by omega) hpo' ls' H' locs' tys' ws' ⟨hx', zv_dl_of (ys := [door, nI n, nI k, nI t, ch]) hB.1 (Nat.le_of_ble_eq_true rfl) hrow (i := 0) rfl rfl, zv_dl_of (ys := [door, nI n, nI k, nI t, ch]) hB.1 (Nat.le_of_ble_eq_true rfl) hrow (i := 1) rfl rfl, ?_, ?_, zy_UN_tr hU hU'⟩
        · rw [← zv_pred (by omega) (by omega)]
          exact l2'
        · rw [← nI_add]
          exact l3'
      · refine zy_seg hB zy_g2 [door, nI n, nI k, nI t, ch] zob_dy0 zor_dy0 [81] [(1354525, 4), (1966128, 65)] rfl (by decide) (zv_hi hd1 hd2 (by decide) (zv_hb (by omega) (by omega) (by decide) (zv_hb (by omega) (by omega) (by decide) (zv_hb (by omega) (by omega) (by decide) (zv_hi e5 e6 (by decide) zy_hb0))))) zy_rtf zy_Gs0 hx (by decide +kernel) (zy_fa ⟨_, l0, rfl⟩ (zy_fa ⟨_, l1, rfl⟩ (zy_fa ⟨_, l2, rfl⟩ (zy_fa ⟨_, l3, rfl⟩ zy_fa0)))) rfl (zy_fa ⟨_, (bk _ hU).1, rfl⟩ (zy_fa ⟨_, (bk _ hU).2, rfl⟩ zy_fa0)) zok_dy0 (zy_fa ?_ zy_fa0)
        intro ls' vs' H' locs' tys' ws' hx' hrow hst hcr hev hU'
        have e : vs' = [] := zv_dm_of hB.1 (Nat.le_of_ble_eq_true rfl) hst rfl
        subst e
        have l2' := zv_dl_of (ys := [door, nI n, nI k, nI t, ch]) hB.1 (Nat.le_of_ble_eq_true rfl) hrow (i := 2) rfl rfl
        have l3' := zv_dl_of (ys := [door, nI n, nI k, nI t, ch]) hB.1 (Nat.le_of_ble_eq_true rfl) hrow (i := 3) rfl rfl
        refine ih (k + 1) _ (by omega) (by omega) (by omega) hpo' ls' H' locs' tys' ws' ⟨hx', zv_dl_of (ys := [door, nI n, nI k, nI t, ch]) hB.1 (Nat.le_of_ble_eq_true rfl) hrow (i := 0) rfl rfl, zv_dl_of (ys := [door, nI n, nI k, nI t, ch]) hB.1 (Nat.le_of_ble_eq_true rfl) hrow (i := 1) rfl rfl, ?_, ?_, zy_UN_tr hU hU'⟩
        · rw [← zv_pred (by omega) (by omega)]
          exact l2'
        · rw [← nI_add]
          exact l3'
      · refine zy_seg hB zy_g2 [door, nI n, nI k, nI t, ch] zob_dz0 zor_dz0 [81] [(1354525, 4), (1966128, 65)] rfl (by decide) (zv_hi hd1 hd2 (by decide) (zv_hb (by omega) (by omega) (by decide) (zv_hb (by omega) (by omega) (by decide) (zv_hb (by omega) (by omega) (by decide) (zv_hi e5 (by omega) (by decide) zy_hb0))))) zy_rtf zy_Gs0 hx (by decide +kernel) (zy_fa ⟨_, l0, rfl⟩ (zy_fa ⟨_, l1, rfl⟩ (zy_fa ⟨_, l2, rfl⟩ (zy_fa ⟨_, l3, rfl⟩ zy_fa0)))) rfl (zy_fa ⟨_, (bk _ hU).1, rfl⟩ (zy_fa ⟨_, (bk _ hU).2, rfl⟩ zy_fa0)) zok_dz0 (zy_fa ?_ zy_fa0)
        intro ls' vs' H' locs' tys' ws' hx' hrow hst hcr hev hU'
        have e : vs' = [] := zv_dm_of hB.1 (Nat.le_of_ble_eq_true rfl) hst rfl
        subst e
        have l2' := zv_dl_of (ys := [door, nI n, nI k, nI t, ch]) hB.1 (Nat.le_of_ble_eq_true rfl) hrow (i := 2) rfl rfl
        have l3' := zv_dl_of (ys := [door, nI n, nI k, nI t, ch]) hB.1 (Nat.le_of_ble_eq_true rfl) hrow (i := 3) rfl rfl
        refine ih (k + 1) _ (by omega) (by omega) (by omega) hpo' ls' H' locs' tys' ws' ⟨hx', zv_dl_of (ys := [door, nI n, nI k, nI t, ch]) hB.1 (Nat.le_of_ble_eq_true rfl) hrow (i := 0) rfl rfl, zv_dl_of (ys := [door, nI n, nI k, nI t, ch]) hB.1 (Nat.le_of_ble_eq_true rfl) hrow (i := 1) rfl rfl, ?_, ?_, zy_UN_tr hU hU'⟩
        · rw [← zv_pred (by omega) (by omega)]
          exact l2'
        · rw [← nI_add]
          exact l3'
set_option maxHeartbeats 1000000 in
set_option maxRecDepth 20000 in
theorem zo_oil_l1 {k0 : Nat} (hB : zy_Fr p l R s m args meth c N0 Z zc_oil (12 + k0)) {ws0 : va_W} (hRt : ∀ ws3, zy_UN (zy_gl Z) zq_h1.1.2.2.1 ws0 ws3 → ∀ As, zy_le Z As → zy_Rt p l en R s m args below meth c Q D N0 zy_T 0 ws3 As zc_oil zo_K) {door : Int32} (hd1 : 2147483648 ≤ zx_bz door) (hd2 : zx_bz door ≤ 2147483657) {t : Nat} (ht : t ≤ 1120) (hbk : zy_rd ws0 (zy_ru Z 29) 43 0 = some (.int (nI 1))) (hto : zy_rd ws0 (zy_ru Z 48) 0 1 = some (.int (nI t))) :
    ∀ (N k n : Nat), t - k = N → k ≤ 1120 → n ≤ 59 → (zy_po (fun a => zy_rd ws0 (zy_ru Z 59) 0 a) N k n).isSome = true → ∀ (ls : Array Slot) (H : Heap) (locs : List Loc) (tys : List (ClassId × FieldType)) (ws : va_W), zo_of D N0 Z s ws0 door n k ls H locs tys ws → W p l en R s m args below meth c H locs 0 0 Q (F0 m 26 ls []) := by
  have hC0 := hB.2.2.1 Z (zy_le_rf Z)
  have bk : ∀ ws, zy_UN (zy_gl Z) zq_h1.1.2.2.1 ws0 ws → zv_ro Z ws 1354525 = some (.int (nI 1)) ∧ zv_ro Z ws 18743344 = some (.int (nI t)) := fun ws hU => ⟨(zv_un hB.1 hU (r := 29) (g := 41) (f := 43) (by decide) (by decide) rfl (by decide) (by decide +kernel) 0).trans hbk, (zv_un hB.1 hU (r := 48) (g := 60) (f := 0) (by decide) (by decide) rfl (by decide) (by decide +kernel) 1).trans hto⟩
  have pre : ∀ (k n : Nat), k ≤ 1120 → n ≤ 59 → ∀ (ls : Array Slot) (H : Heap) (locs : List Loc) (tys : List (ClassId × FieldType)) (ws : va_W), zo_of D N0 Z s ws0 door n k ls H locs tys ws → (∀ (ls : Array Slot) (H : Heap) (locs : List Loc) (tys : List (ClassId × FieldType)) (ws : va_W), zo_of D N0 Z s ws0 door n k ls H locs tys ws → W p l en R s m args below meth c H locs 0 0 Q (F0 m 36 ls [.int (nI t), .int (nI k)])) → W p l en R s m args below meth c H locs 0 0 Q (F0 m 26 ls []) := by
    intro k n hk hn ls H locs tys ws ⟨hx, l0, l1, l2, l3, hU⟩ kk
    refine zy_seg hB zy_g2 [door, nI n, nI k, nI t] zob_b1 zor_b1 [] [(1354525, 20), (18743344, 65)] rfl (by decide) (zv_hi hd1 hd2 (by decide) (zv_hb (by omega) (by omega) (by decide) (zv_hb (by omega) (by omega) (by decide) (zv_hb (by omega) (by omega) (by decide) zy_hb0)))) zy_rtf zy_Gs0 hx (by decide +kernel) (zy_fa ⟨_, l0, rfl⟩ (zy_fa ⟨_, l1, rfl⟩ (zy_fa ⟨_, l2, rfl⟩ (zy_fa ⟨_, l3, rfl⟩ zy_fa0)))) rfl (zy_fa ⟨_, (bk _ hU).1, rfl⟩ (zy_fa ⟨_, (bk _ hU).2, rfl⟩ zy_fa0)) zok_b1 (zy_fa ?_ zy_fa0)
    intro ls' vs' H' locs' tys' ws' hx' hrow hst hcr hev hU'
    have e : vs' = [.int (nI t), .int (nI k)] := zv_dm_of hB.1 (Nat.le_of_ble_eq_true rfl) hst rfl
    subst e
    exact kk ls' H' locs' tys' ws' ⟨hx', zv_dl_of (ys := [door, nI n, nI k, nI t]) hB.1 (Nat.le_of_ble_eq_true rfl) hrow (i := 0) rfl rfl, zv_dl_of (ys := [door, nI n, nI k, nI t]) hB.1 (Nat.le_of_ble_eq_true rfl) hrow (i := 1) rfl rfl, zv_dl_of (ys := [door, nI n, nI k, nI t]) hB.1 (Nat.le_of_ble_eq_true rfl) hrow (i := 2) rfl rfl, zv_dl_of (ys := [door, nI n, nI k, nI t]) hB.1 (Nat.le_of_ble_eq_true rfl) hrow (i := 3) rfl rfl, zy_UN_tr hU hU'⟩
  intro N
  induction N with
  | zero =>
    intro k n hN hk hn hpo ls H locs tys ws hf
    refine pre k n hk hn ls H locs tys ws hf ?_
    intro ls H locs tys ws ⟨hx, l0, l1, l2, l3, hU⟩
    refine lv_icmp_ge (tgt := 150) hC0.1 hC0.2.1 (show decode zc_oil.1.2.1 36 = .ok (.if_icmp .ge 114, 3) from rfl) (by decide) (fun _ => ?_) (fun h => absurd ((zv_le (by omega) (by omega)).mpr (by omega)) h)
    exact zo_oil_e hB.1.1 hB.1.2.1 hB.1.2.2.1 hB.1.2.2.2 hB.2.2.1 hB.2.2.2.1 (hRt ws hU) hx.1 hx.2.1 hx.2.2 l0 (zv_rr hB.1 (r := 29) (g := 41) (by decide) (by decide) rfl (by decide))
  | succ N ih =>
    intro k n hN hk hn hpo ls H locs tys ws hf
    obtain ⟨ch, n', hch, hhs, hpo'⟩ := zy_po_S hpo
    refine pre k n hk hn ls H locs tys ws hf ?_
    intro ls H locs tys ws ⟨hx, l0, l1, l2, l3, hU⟩
    refine lv_icmp_ge (tgt := 150) hC0.1 hC0.2.1 (show decode zc_oil.1.2.1 36 = .ok (.if_icmp .ge 114, 3) from rfl) (by decide) (fun h => absurd ((zv_le (by omega) (by omega)).mp h) (by omega)) (fun _ => ?_)
    refine zy_seg hB zy_g2 [door, nI n, nI k, nI t] zob_c1 zor_c1 [] [(1354525, 20), (18743344, 65)] rfl (by decide) (zv_hi hd1 hd2 (by decide) (zv_hb (by omega) (by omega) (by decide) (zv_hb (by omega) (by omega) (by decide) (zv_hb (by omega) (by omega) (by decide) zy_hb0)))) zy_rtf zy_Gs0 hx (by decide +kernel) (zy_fa ⟨_, l0, rfl⟩ (zy_fa ⟨_, l1, rfl⟩ (zy_fa ⟨_, l2, rfl⟩ (zy_fa ⟨_, l3, rfl⟩ zy_fa0)))) rfl (zy_fa ⟨_, (bk _ hU).1, rfl⟩ (zy_fa ⟨_, (bk _ hU).2, rfl⟩ zy_fa0)) zok_c1 (zy_fa ?_ zy_fa0)
    intro ls' vs' H' locs' tys' ws' hx' hrow hst hcr hev hU'
    have e : vs' = [.int (nI k), .ref (zy_fa1 Z 59)] := zv_dm_of hB.1 (Nat.le_of_ble_eq_true rfl) hst rfl
    subst e
    have hU := zy_UN_tr hU hU'
    have l0 := zv_dl_of (ys := [door, nI n, nI k, nI t]) hB.1 (Nat.le_of_ble_eq_true rfl) hrow (i := 0) rfl rfl
    have l1 := zv_dl_of (ys := [door, nI n, nI k, nI t]) hB.1 (Nat.le_of_ble_eq_true rfl) hrow (i := 1) rfl rfl
    have l2 := zv_dl_of (ys := [door, nI n, nI k, nI t]) hB.1 (Nat.le_of_ble_eq_true rfl) hrow (i := 2) rfl rfl
    have l3 := zv_dl_of (ys := [door, nI n, nI k, nI t]) hB.1 (Nat.le_of_ble_eq_true rfl) hrow (i := 3) rfl rfl
    have hx := hx'
    refine zv_ald hB hx (r := 59) (g := 71) (by decide) (by decide) rfl (by decide) rfl (Or.inl (by decide)) (Or.inl ⟨by decide, rfl⟩) (show decode zc_oil.1.2.1 44 = .ok (.iaload, 1) from rfl) (show k < 1120 by omega) (by decide) ((zv_un hB.1 hU (by decide) (by decide) rfl (by decide) (by decide +kernel) k).trans hch) ?_
    rcases zy_hs_c hhs with ⟨e1, e2, e3⟩ | ⟨⟨e1, e2⟩, e3, e4⟩ | ⟨e1, e2, e3, e4⟩
    · rw [e3] at hpo'
      have e1 : ch = nI 126 := by rw [e1]; decide
      subst e1
      refine zy_seg hB zy_g2 [door, nI n, nI k, nI t] zob_dn1 zor_dn1 [2020] [(1354525, 20), (18743344, 65)] rfl (by decide) (zv_hi hd1 hd2 (by decide) (zv_hb (by omega) (by omega) (by decide) (zv_hb (by omega) (by omega) (by decide) (zv_hb (by omega) (by omega) (by decide) zy_hb0)))) zy_rtf zy_Gs0 hx (by decide +kernel) (zy_fa ⟨_, l0, rfl⟩ (zy_fa ⟨_, l1, rfl⟩ (zy_fa ⟨_, l2, rfl⟩ (zy_fa ⟨_, l3, rfl⟩ zy_fa0)))) rfl (zy_fa ⟨_, (bk _ hU).1, rfl⟩ (zy_fa ⟨_, (bk _ hU).2, rfl⟩ zy_fa0)) zok_dn1 (zy_fa ?_ zy_fa0)
      intro ls' vs' H' locs' tys' ws' hx' hrow hst hcr hev hU'
      have e : vs' = [] := zv_dm_of hB.1 (Nat.le_of_ble_eq_true rfl) hst rfl
      subst e
      have l2' := zv_dl_of (ys := [door, nI n, nI k, nI t]) hB.1 (Nat.le_of_ble_eq_true rfl) hrow (i := 2) rfl rfl
      have l3' := zv_dl_of (ys := [door, nI n, nI k, nI t]) hB.1 (Nat.le_of_ble_eq_true rfl) hrow (i := 3) rfl rfl
      refine ih (k + 1) _ (by omega) (by omega) (by omega) hpo' ls' H' locs' tys' ws' ⟨hx', zv_dl_of (ys := [door, nI n, nI k, nI t]) hB.1 (Nat.le_of_ble_eq_true rfl) hrow (i := 0) rfl rfl, zv_dl_of (ys := [door, nI n, nI k, nI t]) hB.1 (Nat.le_of_ble_eq_true rfl) hrow (i := 1) rfl rfl, ?_, ?_, zy_UN_tr hU hU'⟩
      · exact l2'
      · rw [← nI_add]
        exact l3'
    · subst e4
      have e1 := (zv_bz_le (x := ch) (n := 97) (by decide)).1.mp e1
      have e2 := (zv_bz_le (x := ch) (n := 122) (by decide)).2.mp e2
      refine zy_seg hB zy_g2 [door, nI n, nI k, nI t, ch] zob_dl1 zor_dl1 [81] [(1354525, 20), (18743344, 65)] rfl (by decide) (zv_hi hd1 hd2 (by decide) (zv_hb (by omega) (by omega) (by decide) (zv_hb (by omega) (by omega) (by decide) (zv_hb (by omega) (by omega) (by decide) (zv_hi e1 e2 (by decide) zy_hb0))))) zy_rtf zy_Gs0 hx (by decide +kernel) (zy_fa ⟨_, l0, rfl⟩ (zy_fa ⟨_, l1, rfl⟩ (zy_fa ⟨_, l2, rfl⟩ (zy_fa ⟨_, l3, rfl⟩ zy_fa0)))) rfl (zy_fa ⟨_, (bk _ hU).1, rfl⟩ (zy_fa ⟨_, (bk _ hU).2, rfl⟩ zy_fa0)) zok_dl1 (zy_fa ?_ zy_fa0)
      intro ls' vs' H' locs' tys' ws' hx' hrow hst hcr hev hU'
      have e : vs' = [] := zv_dm_of hB.1 (Nat.le_of_ble_eq_true rfl) hst rfl
      subst e
      have l2' := zv_dl_of (ys := [door, nI n, nI k, nI t, ch]) hB.1 (Nat.le_of_ble_eq_true rfl) hrow (i := 2) rfl rfl
      have l3' := zv_dl_of (ys := [door, nI n, nI k, nI t, ch]) hB.1 (Nat.le_of_ble_eq_true rfl) hrow (i := 3) rfl rfl
      refine ih (k + 1) _ (by omega) (by omega) (by omega) hpo' ls' H' locs' tys' ws' ⟨hx', zv_dl_of (ys := [door, nI n, nI k, nI t, ch]) hB.1 (Nat.le_of_ble_eq_true rfl) hrow (i := 0) rfl rfl, zv_dl_of (ys := [door, nI n, nI k, nI t, ch]) hB.1 (Nat.le_of_ble_eq_true rfl) hrow (i := 1) rfl rfl, ?_, ?_, zy_UN_tr hU hU'⟩
      · rw [← nI_add]
        exact l2'
      · rw [← nI_add]
        exact l3'
    · subst e4
      have hb := zx_bz_lt ch
      have e1 : zx_bz ch ≠ 2147483774 := fun z => e1 (by
        have h1 := zx_of_bz ch
        rw [z] at h1
        rw [h1]
        decide)
      have e2 : ¬ (2147483745 ≤ zx_bz ch ∧ zx_bz ch ≤ 2147483770) := fun z => e2 ⟨(zv_bz_le (x := ch) (n := 97) (by decide)).1.mpr z.1, (zv_bz_le (x := ch) (n := 122) (by decide)).2.mpr z.2⟩
      rcases (show zx_bz ch ≤ 2147483744 ∨ (2147483771 ≤ zx_bz ch ∧ zx_bz ch ≤ 2147483773) ∨ 2147483775 ≤ zx_bz ch by omega) with e5 | ⟨e5, e6⟩ | e5
      · refine zy_seg hB zy_g2 [door, nI n, nI k, nI t, ch] zob_dx1 zor_dx1 [81] [(1354525, 20), (18743344, 65)] rfl (by decide) (zv_hi hd1 hd2 (by decide) (zv_hb (by omega) (by omega) (by decide) (zv_hb (by omega) (by omega) (by decide) (zv_hb (by omega) (by omega) (by decide) (zv_hi (Nat.zero_le _) e5 (by decide) zy_hb0))))) zy_rtf zy_Gs0 hx (by decide +kernel) (zy_fa ⟨_, l0, rfl⟩ (zy_fa ⟨_, l1, rfl⟩ (zy_fa ⟨_, l2, rfl⟩ (zy_fa ⟨_, l3, rfl⟩ zy_fa0)))) rfl (zy_fa ⟨_, (bk _ hU).1, rfl⟩ (zy_fa ⟨_, (bk _ hU).2, rfl⟩ zy_fa0)) zok_dx1 (zy_fa ?_ zy_fa0)
        intro ls' vs' H' locs' tys' ws' hx' hrow hst hcr hev hU'
        have e : vs' = [] := zv_dm_of hB.1 (Nat.le_of_ble_eq_true rfl) hst rfl
        subst e
        have l2' := zv_dl_of (ys := [door, nI n, nI k, nI t, ch]) hB.1 (Nat.le_of_ble_eq_true rfl) hrow (i := 2) rfl rfl
        have l3' := zv_dl_of (ys := [door, nI n, nI k, nI t, ch]) hB.1 (Nat.le_of_ble_eq_true rfl) hrow (i := 3) rfl rfl
        refine ih (k + 1) _ (by omega) (by omega) (by omega) hpo' ls' H' locs' tys' ws' ⟨hx', zv_dl_of (ys := [door, nI n, nI k, nI t, ch]) hB.1 (Nat.le_of_ble_eq_true rfl) hrow (i := 0) rfl rfl, zv_dl_of (ys := [door, nI n, nI k, nI t, ch]) hB.1 (Nat.le_of_ble_eq_true rfl) hrow (i := 1) rfl rfl, ?_, ?_, zy_UN_tr hU hU'⟩
        · rw [← zv_pred (by omega) (by omega)]
          exact l2'
        · rw [← nI_add]
          exact l3'
      · refine zy_seg hB zy_g2 [door, nI n, nI k, nI t, ch] zob_dy1 zor_dy1 [81] [(1354525, 20), (18743344, 65)] rfl (by decide) (zv_hi hd1 hd2 (by decide) (zv_hb (by omega) (by omega) (by decide) (zv_hb (by omega) (by omega) (by decide) (zv_hb (by omega) (by omega) (by decide) (zv_hi e5 e6 (by decide) zy_hb0))))) zy_rtf zy_Gs0 hx (by decide +kernel) (zy_fa ⟨_, l0, rfl⟩ (zy_fa ⟨_, l1, rfl⟩ (zy_fa ⟨_, l2, rfl⟩ (zy_fa ⟨_, l3, rfl⟩ zy_fa0)))) rfl (zy_fa ⟨_, (bk _ hU).1, rfl⟩ (zy_fa ⟨_, (bk _ hU).2, rfl⟩ zy_fa0)) zok_dy1 (zy_fa ?_ zy_fa0)
        intro ls' vs' H' locs' tys' ws' hx' hrow hst hcr hev hU'
        have e : vs' = [] := zv_dm_of hB.1 (Nat.le_of_ble_eq_true rfl) hst rfl
        subst e
        have l2' := zv_dl_of (ys := [door, nI n, nI k, nI t, ch]) hB.1 (Nat.le_of_ble_eq_true rfl) hrow (i := 2) rfl rfl
        have l3' := zv_dl_of (ys := [door, nI n, nI k, nI t, ch]) hB.1 (Nat.le_of_ble_eq_true rfl) hrow (i := 3) rfl rfl
        refine ih (k + 1) _ (by omega) (by omega) (by omega) hpo' ls' H' locs' tys' ws' ⟨hx', zv_dl_of (ys := [door, nI n, nI k, nI t, ch]) hB.1 (Nat.le_of_ble_eq_true rfl) hrow (i := 0) rfl rfl, zv_dl_of (ys := [door, nI n, nI k, nI t, ch]) hB.1 (Nat.le_of_ble_eq_true rfl) hrow (i := 1) rfl rfl, ?_, ?_, zy_UN_tr hU hU'⟩
        · rw [← zv_pred (by omega) (by omega)]
          exact l2'
        · rw [← nI_add]
          exact l3'
      · refine zy_seg hB zy_g2 [door, nI n, nI k, nI t, ch] zob_dz1 zor_dz1 [81] [(1354525, 20), (18743344, 65)] rfl (by decide) (zv_hi hd1 hd2 (by decide) (zv_hb (by omega) (by omega) (by decide) (zv_hb (by omega) (by omega) (by decide) (zv_hb (by omega) (by omega) (by decide) (zv_hi e5 (by omega) (by decide) zy_hb0))))) zy_rtf zy_Gs0 hx (by decide +kernel) (zy_fa ⟨_, l0, rfl⟩ (zy_fa ⟨_, l1, rfl⟩ (zy_fa ⟨_, l2, rfl⟩ (zy_fa ⟨_, l3, rfl⟩ zy_fa0)))) rfl (zy_fa ⟨_, (bk _ hU).1, rfl⟩ (zy_fa ⟨_, (bk _ hU).2, rfl⟩ zy_fa0)) zok_dz1 (zy_fa ?_ zy_fa0)
        intro ls' vs' H' locs' tys' ws' hx' hrow hst hcr hev hU'
        have e : vs' = [] := zv_dm_of hB.1 (Nat.le_of_ble_eq_true rfl) hst rfl
        subst e
        have l2' := zv_dl_of (ys := [door, nI n, nI k, nI t, ch]) hB.1 (Nat.le_of_ble_eq_true rfl) hrow (i := 2) rfl rfl
        have l3' := zv_dl_of (ys := [door, nI n, nI k, nI t, ch]) hB.1 (Nat.le_of_ble_eq_true rfl) hrow (i := 3) rfl rfl
        refine ih (k + 1) _ (by omega) (by omega) (by omega) hpo' ls' H' locs' tys' ws' ⟨hx', zv_dl_of (ys := [door, nI n, nI k, nI t, ch]) hB.1 (Nat.le_of_ble_eq_true rfl) hrow (i := 0) rfl rfl, zv_dl_of (ys := [door, nI n, nI k, nI t, ch]) hB.1 (Nat.le_of_ble_eq_true rfl) hrow (i := 1) rfl rfl, ?_, ?_, zy_UN_tr hU hU'⟩
        · rw [← zv_pred (by omega) (by omega)]
          exact l2'
        · rw [← nI_add]
          exact l3'
set_option maxHeartbeats 1000000 in
set_option maxRecDepth 20000 in
theorem zo_oil (H : zy_H0 Z) (HU : zy_UQ zy_fg Z) : zy_Ok l D N0 zy_T Z zq_h1 := by
  refine zy_hand (y := zm_164) rfl (by decide +kernel) ?_
  intro d hd av tys ws hsr hG hCR p en s m below meth c hC hret hlocks hrk ls0 hl0 hW0
  obtain ⟨k0, rfl⟩ : ∃ k0, d = 12 + k0 := ⟨d - 12, by have hd : 12 ≤ d := hd; omega⟩
  obtain ⟨x0, x1, r, rfl, a0, a1, hsr⟩ := zy_SR2 hsr
  cases r with
  | cons _ _ => exact hsr.elim
  | nil =>
  obtain ⟨-, door, rfl, k1, k2⟩ := (zy_r7 (by decide)).mp a1
  have k1 : 2147483648 ≤ zx_bz door := k1
  have k2 : zx_bz door ≤ 2147483657 := k2
  have e0 : x0 = .ref (zy_fa1 Z 29) := zv_dv_of (ys := []) H (by decide) a0 rfl
  subst e0
  have hB : zy_Fr p l _ s m _ meth c N0 Z zc_oil (12 + k0) := zy_Fr_fin zol_oil_ok ⟨H, HU, hC, hrk, hret, hlocks⟩
  have hC0 := hB.2.2.1 Z (zy_le_rf Z)
  have hx : zy_Mx D N0 zy_T Z s zc_oil ls0 s.heap [] tys ws := ⟨hW0, ⟨Nat.le_refl _, fun _ _ _ => rfl, fun _ h => by cases h⟩, ⟨hl0.1, hl0.2.1, fun _ h => by cases h⟩⟩
  have l0 : ls0[0]? = some (.val (.ref (zy_fa1 Z 29))) := hl0.2.2 (0, _) (List.mem_of_getElem? (i := 0) rfl)
  have l1 : ls0[1]? = some (.val (.int door)) := hl0.2.2 (1, _) (List.mem_of_getElem? (i := 1) rfl)
  obtain ⟨bk, hbk, b1, b2⟩ := zv_int H hW0.2.2.2 (key := 1354525) (lo := 2147483648) (hi := 2147483649) (by decide +kernel) (by decide) (by decide)
  have hGV := hG.1 (by decide) (zy_ru Z 29) bk (H.2.2.2 29 41 (by decide) (by decide) rfl).1 hbk
  have gH := (H.2.2.2 56 68 (by decide) (by decide) rfl).1
  have gF := (H.2.2.2 47 59 (by decide) (by decide) rfl).1
  have gT := (H.2.2.2 48 60 (by decide) (by decide) rfl).1
  have gC := (H.2.2.2 59 71 (by decide) (by decide) rfl).1
  have hRtE : ∀ ws3, zy_UN (zy_gl Z) zq_h1.1.2.2.1 ws ws3 → ∀ As, zy_le Z As → zy_Rt p l en (headSpec (zx_mc zm_164 :: zx_G) (zx_rm (12 + k0) zm_164)).room s m [.ref (zy_fa1 Z 29), .int door].toArray below meth c (MQ below (zy_Qp D N0 zy_T Z zq_h1 [.ref (zy_fa1 Z 29), .int door] ws) [.ref (zy_fa1 Z 29), .int door].toArray s 0 0 (zx_A N0)) D N0 zy_T 0 ws3 As zc_oil zo_K := fun ws3 h As hAs => zy_rtK (q := zq_h1) H.1 H.2.1 H.2.2.1 H.2.2.2 hC0.1 hC0.2.1 hret hlocks hAs h (by decide +kernel) (fun po hpo => by
    rcases List.mem_singleton.mp hpo with rfl
    rfl)
  have hRtA : ∀ As, zy_le Z As → zy_Rt p l en (headSpec (zx_mc zm_164 :: zx_G) (zx_rm (12 + k0) zm_164)).room s m [.ref (zy_fa1 Z 29), .int door].toArray below meth c (MQ below (zy_Qp D N0 zy_T Z zq_h1 [.ref (zy_fa1 Z 29), .int door] ws) [.ref (zy_fa1 Z 29), .int door].toArray s 0 0 (zx_A N0)) D N0 zy_T zq_h1.1.2.2.1 ws As zc_oil zo_K := fun As hAs => zy_rtK (q := zq_h1) H.1 H.2.1 H.2.2.1 H.2.2.2 hC0.1 hC0.2.1 hret hlocks hAs zy_UN_rf (by decide +kernel) (fun po hpo => by
    rcases List.mem_singleton.mp hpo with rfl
    rfl)
  have hbb : bk = nI 0 ∨ bk = nI 1 := by
    have h1 := zx_of_bz bk
    rcases (show zx_bz bk = 2147483648 ∨ zx_bz bk = 2147483649 by omega) with z | z <;> rw [z] at h1
    · exact Or.inl h1
    · exact Or.inr h1
  rcases hbb with hbb | hbb <;> subst hbb
  · obtain ⟨ho, hho, o1, o2⟩ := zv_int H hW0.2.2.2 (key := 2228280) (lo := 2147483648) (hi := 2147483649) (by decide +kernel) (by decide) (by decide)
    obtain ⟨fo, hfo, f1, f2⟩ := zv_int H hW0.2.2.2 (key := 1933359) (lo := 2147483648) (hi := 2147484768) (by decide +kernel) (by decide) (by decide)
    obtain ⟨to, hto, t1, t2⟩ := zv_int H hW0.2.2.2 (key := 1966128) (lo := 2147483648) (hi := 2147484768) (by decide +kernel) (by decide) (by decide)
    obtain ⟨fo, hfn, rfl, e1⟩ := zy_nn f1
    obtain ⟨to, htn, rfl, e2⟩ := zy_nn t1
    refine zy_seg hB zy_g2 [door, ho, nI fo, nI to] zob_a0 zor_a0 [] [(1354525, 4), (2228280, 33), (1933359, 49), (1966128, 65)] rfl (by decide) (zv_hi k1 k2 (by decide) (zv_hi o1 o2 (by decide) (zv_hi f1 f2 (by decide) (zv_hi t1 t2 (by decide) zy_hb0)))) hRtA zy_Gs0 hx (by decide +kernel) (zy_fa ⟨_, l0, rfl⟩ (zy_fa ⟨_, l1, rfl⟩ zy_fa0)) rfl (zy_fa ⟨_, hbk, rfl⟩ (zy_fa ⟨_, hho, rfl⟩ (zy_fa ⟨_, hfo, rfl⟩ (zy_fa ⟨_, hto, rfl⟩ zy_fa0)))) zok_a0 (zy_fa ?_ zy_fa0)
    intro ls' vs' H' locs' tys' ws' hx' hrow hst hcr hev hU'
    have e : vs' = [] := zv_dm_of H (Nat.le_of_ble_eq_true rfl) hst rfl
    subst e
    have hbo := zy_mk_b H.1 (i := 1) (ys := [door, ho, nI fo, nI to]) rfl hev
    have e3 : zx_eg (([(2147483648, 2147483657), (2147483649, 2147483649), (2147483648, 2147484768), (2147483648, 2147484768)] : List (Nat × Nat)).foldl zy_pe zy_e1) 2 = 9223372043297226753 := by decide +kernel
    have hbo : zx_eg (([(2147483648, 2147483657), (2147483649, 2147483649), (2147483648, 2147484768), (2147483648, 2147484768)] : List (Nat × Nat)).foldl zy_pe zy_e1) 2 = 0 ∨ (zx_eg (([(2147483648, 2147483657), (2147483649, 2147483649), (2147483648, 2147484768), (2147483648, 2147484768)] : List (Nat × Nat)).foldl zy_pe zy_e1) 2 / 4294967296 ≤ zx_bz ho ∧ zx_bz ho ≤ zx_eg (([(2147483648, 2147483657), (2147483649, 2147483649), (2147483648, 2147484768), (2147483648, 2147484768)] : List (Nat × Nat)).foldl zy_pe zy_e1) 2 % 4294967296) := hbo
    rw [e3] at hbo
    have hne : ho ≠ 0 := fun z => by
      rw [z, show zx_bz 0 = 2147483648 from by decide] at hbo
      omega
    obtain ⟨v1, v2, v3⟩ := hGV (zy_ru Z 56) (zy_ru Z 47) (zy_ru Z 48) (zy_ru Z 59) ho (nI fo) (nI to) gH gF gT gC hho hfo hto hne
    rw [show (nI to).toNatClampNeg = to from nI_clamp (by omega), show (nI fo).toNatClampNeg = fo from nI_clamp (by omega)] at v3
    exact zo_oil_l0 hB hRtE k1 k2 (by omega) hbk hto (to - fo) fo 0 rfl (by omega) (by decide) v3 ls' H' locs' tys' ws' ⟨hx', zv_dl_of (ys := [door, ho, nI fo, nI to]) H (Nat.le_of_ble_eq_true rfl) hrow (i := 0) rfl rfl, zv_dl_of (ys := [door, ho, nI fo, nI to]) H (Nat.le_of_ble_eq_true rfl) hrow (i := 1) rfl rfl, zv_dl_of (ys := [door, ho, nI fo, nI to]) H (Nat.le_of_ble_eq_true rfl) hrow (i := 2) rfl rfl, zv_dl_of (ys := [door, ho, nI fo, nI to]) H (Nat.le_of_ble_eq_true rfl) hrow (i := 3) rfl rfl, hU'⟩
  · obtain ⟨ho, hho, o1, o2⟩ := zv_int H hW0.2.2.2 (key := 19005496) (lo := 2147483648) (hi := 2147483649) (by decide +kernel) (by decide) (by decide)
    obtain ⟨fo, hfo, f1, f2⟩ := zv_int H hW0.2.2.2 (key := 18710575) (lo := 2147483648) (hi := 2147484768) (by decide +kernel) (by decide) (by decide)
    obtain ⟨to, hto, t1, t2⟩ := zv_int H hW0.2.2.2 (key := 18743344) (lo := 2147483648) (hi := 2147484768) (by decide +kernel) (by decide) (by decide)
    obtain ⟨fo, hfn, rfl, e1⟩ := zy_nn f1
    obtain ⟨to, htn, rfl, e2⟩ := zy_nn t1
    refine zy_seg hB zy_g2 [door, ho, nI fo, nI to] zob_a1 zor_a1 [] [(1354525, 20), (19005496, 33), (18710575, 49), (18743344, 65)] rfl (by decide) (zv_hi k1 k2 (by decide) (zv_hi o1 o2 (by decide) (zv_hi f1 f2 (by decide) (zv_hi t1 t2 (by decide) zy_hb0)))) hRtA zy_Gs0 hx (by decide +kernel) (zy_fa ⟨_, l0, rfl⟩ (zy_fa ⟨_, l1, rfl⟩ zy_fa0)) rfl (zy_fa ⟨_, hbk, rfl⟩ (zy_fa ⟨_, hho, rfl⟩ (zy_fa ⟨_, hfo, rfl⟩ (zy_fa ⟨_, hto, rfl⟩ zy_fa0)))) zok_a1 (zy_fa ?_ zy_fa0)
    intro ls' vs' H' locs' tys' ws' hx' hrow hst hcr hev hU'
    have e : vs' = [] := zv_dm_of H (Nat.le_of_ble_eq_true rfl) hst rfl
    subst e
    have hbo := zy_mk_b H.1 (i := 1) (ys := [door, ho, nI fo, nI to]) rfl hev
    have e3 : zx_eg (([(2147483648, 2147483657), (2147483649, 2147483649), (2147483648, 2147484768), (2147483648, 2147484768)] : List (Nat × Nat)).foldl zy_pe zy_e1) 2 = 9223372043297226753 := by decide +kernel
    have hbo : zx_eg (([(2147483648, 2147483657), (2147483649, 2147483649), (2147483648, 2147484768), (2147483648, 2147484768)] : List (Nat × Nat)).foldl zy_pe zy_e1) 2 = 0 ∨ (zx_eg (([(2147483648, 2147483657), (2147483649, 2147483649), (2147483648, 2147484768), (2147483648, 2147484768)] : List (Nat × Nat)).foldl zy_pe zy_e1) 2 / 4294967296 ≤ zx_bz ho ∧ zx_bz ho ≤ zx_eg (([(2147483648, 2147483657), (2147483649, 2147483649), (2147483648, 2147484768), (2147483648, 2147484768)] : List (Nat × Nat)).foldl zy_pe zy_e1) 2 % 4294967296) := hbo
    rw [e3] at hbo
    have hne : ho ≠ 0 := fun z => by
      rw [z, show zx_bz 0 = 2147483648 from by decide] at hbo
      omega
    obtain ⟨v1, v2, v3⟩ := hGV (zy_ru Z 56) (zy_ru Z 47) (zy_ru Z 48) (zy_ru Z 59) ho (nI fo) (nI to) gH gF gT gC hho hfo hto hne
    rw [show (nI to).toNatClampNeg = to from nI_clamp (by omega), show (nI fo).toNatClampNeg = fo from nI_clamp (by omega)] at v3
    exact zo_oil_l1 hB hRtE k1 k2 (by omega) hbk hto (to - fo) fo 0 rfl (by omega) (by decide) v3 ls' H' locs' tys' ws' ⟨hx', zv_dl_of (ys := [door, ho, nI fo, nI to]) H (Nat.le_of_ble_eq_true rfl) hrow (i := 0) rfl rfl, zv_dl_of (ys := [door, ho, nI fo, nI to]) H (Nat.le_of_ble_eq_true rfl) hrow (i := 1) rfl rfl, zv_dl_of (ys := [door, ho, nI fo, nI to]) H (Nat.le_of_ble_eq_true rfl) hrow (i := 2) rfl rfl, zv_dl_of (ys := [door, ho, nI fo, nI to]) H (Nat.le_of_ble_eq_true rfl) hrow (i := 3) rfl rfl, hU'⟩
end ZOIL2
