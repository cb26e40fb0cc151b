/-! a run of the walker is one of the machine -/
theorem zx_ofW {l : Launch} {y : MethodName} {ws ws' : List Cond} {rm : Room} {Pc : Array Value → State → Prop} {Qc : Array Value → State → Outcome → State → Prop} {mc ms : Nat} {free : Addr → Prop} {cc : ByteArray} {maxL : Nat} {ret : Option FieldType}
    (hy : plainFor y = true) (hw : ws = Cond.code y cc maxL ret :: ws')
    (body : ∀ p e s m args below meth c s₁, BodyLoose p l y (headSpec ws rm) cc maxL ret e s m args below meth c s₁ → c.maxLocals = maxL → Pc args s →
      W p l e (headSpec ws rm).room s m args below meth c s.heap [] 0 0 (MQ below Qc args s mc ms free) (entryFrame m args maxL)) : Met l y ws rm Pc Qc mc ms free := by
  refine MetFree.of_bodySF (code := cc) (maxLocals := maxL) (ret := ret) hy ?_ ?_
  · intro args s m h hn
    obtain ⟨meth, c, h1, h2, h3, h4, h5, h6, -, -⟩ := Cond.code_spec hn (atoms_spec (ws := ws) h _ (by rw [hw]; exact List.mem_cons_self))
    exact ⟨meth, c, h1, h2, h3, h4, h5, h6⟩
  · intro p e s m args below meth c s₁ B hml hP _
    have hh0 : s₁.heap = s.heap := by rw [B.state]; rfl
    obtain ⟨t, a1, o, b1, b2, b3⟩ := body p e s m args below meth c s₁ B hml hP s₁ hh0 (Stand.of_body B)
    exact ⟨t, o, a1, b1, b2, ⟨b3.1, b3.2⟩⟩
noncomputable def zx_cl (n d : Nat) : zx_M → zx_K → zx_N := fun M' K' => @Nat.rec (fun _ => zx_N) zx_zf (fun d' _ => zx_R n d' M' K' zx_zf) d
theorem zx_R_S (n d : Nat) (M : zx_M) (K : zx_K) (z : zx_N) : zx_R (n + 1) d M K z = zx_st M K (zx_cl n d) (zx_R n d M K z) := rfl
section ZV
variable {l : Launch} {D : va_G} {N0 : Nat} {ex : Nat → Nat} {nu : Nat → Int32}
theorem zx_run_s {p : Program} {en : Env} {R : Room} {s : State} {m : MethodId} {args : Array Value} {below : List Frame} {meth : Method} {c : Code} {Q : State → Prop} {ad0 : List Nat} {M : zx_M} {d : Nat} {K : zx_K} {z : zx_N} (hC : zx_Cx p R s m args meth c M d N0 ex nu) (hRt : zx_Rt p l en R s m args below meth c Q D N0 ex nu ad0 M K) (hrk : zx_rk M.1.2.2.2 = M.2.1.2.2.2.2.2) (hz : zx_Nx p l en R s m args below meth c Q D N0 ex nu ad0 M z) :
    ∀ n, (∀ k, k < n → zx_Ca l D N0 ex nu d (zx_cl k d)) → zx_Nx p l en R s m args below meth c Q D N0 ex nu ad0 M (zx_R n d M K z)
  | 0, _ => hz
  | n + 1, h => by
    rw [zx_R_S]
    exact zx_st_s hC (h n (Nat.lt_succ_self n)) hRt hrk (zx_run_s hC hRt hrk hz n (fun k hk => h k (Nat.lt_succ_of_lt hk)))
/-- how a method of the tables ends -/
theorem zx_ends {p : Program} {en : Env} {R : Room} {s : State} {m : MethodId} {args : Array Value} {below : List Frame} {meth : Method} {c : Code} {ad0 : List Nat} {M : zx_M} {K : zx_K} (hx : p.tables.exec = Jvm.exec) (hb : c.code = M.1.2.1) (hr : meth.sig.returnType = M.1.2.2.2) (hlocks : meth.locks = false) :
    zx_Rt p l en R s m args below meth c (MQ below (zx_Qc D N0 ex nu ad0 K) args s M.2.1.2.2.2.1 M.2.1.2.2.2.2.1 (zx_A N0)) D N0 ex nu ad0 M K := by
  intro pc row r h e hn ce sl ls vs H locs ins hd hri hK hce hsl hR
  refine W.widen hce hsl ?_
  obtain ⟨tys, ws, hW, hS, hl, hL, hT, hE⟩ := hR
  have hf : ∀ q ∈ locs, zx_A N0 q.base := hS.2.2
  have hq : vs.length ≤ 1 → ∀ t : State, t.heap = H → s.WarmedH t.vm → zx_Qc D N0 ex nu ad0 K args s (.returned vs.head?) t := by
    intro hlen t ht hWm
    obtain ⟨k1, k2, k3⟩ := hW
    exact ⟨⟨r, vs, h, e, hn, tys, ws, rfl, hlen, hT, ⟨va_K.moved hWm.alike k1, by rw [ht]; exact k2, k3⟩, hE, hK⟩, hS.F ht⟩
  rcases hri with ⟨h1, rfl, rfl⟩ | ⟨ty, v, h1, rfl, rfl, h2⟩ | ⟨v, h1, rfl, rfl⟩ | ⟨ty, v, h1, h2, rfl, rfl, h3⟩
  · exact W.vret hx hb (hr.trans h1) (hq (by decide)) hf hd
  · exact W.zret hx hb (hr.trans h1) h2 (hq (Nat.le_refl 1)) hf hd
  · exact W.lret hx hb (hr.trans h1) (hq (Nat.le_refl 1)) hf hd
  · exact W.aret hx hb (hr.trans h1) h2 h3 (hq (Nat.le_refl 1)) hf hd
theorem zx_Ca_s (n : Nat) : ∀ d, zx_Ca l D N0 ex nu d (zx_cl n d) := by
  induction n using Nat.strongRecOn with
  | _ n ih =>
    intro d y K as h e hn av tys ws hy hcall hsr hwd hD hlen hH hE
    cases d with
    | zero => cases hcall
    | succ d =>
      have hcall : zx_R n d y K zx_zf [] 0 (zx_rw as) [] h e hn 0 0 = true := hcall
      refine ⟨d, rfl, ?_⟩
      obtain ⟨h1, h2, h3, h4, h5, h6, h7, h8, h9, h10⟩ := zx_head hy
      refine zx_ofW (cc := y.1.2.1) (maxL := y.1.2.2.1) (ret := y.1.2.2.2) h2 rfl ?_
      intro p en s m args below meth c s₁ B hml hv
      obtain ⟨rfl, hN0, hK, hP, hX⟩ := hv
      have hx := B.exec
      have hb := B.bytes
      have hr := B.returns
      have hts0 := atoms_spec (ws := zx_mc y :: zx_G) B.pre
      have hown : s.vm.findClass y.1.1.cls = some m.cls := findClass_of_methodNamed B.named
      rw [h1] at hown
      have hlocks := B.notSynchronized
      have hin : meth.name = y.1.1.name := (name_of_methodNamed B.named B.method).1
      have hC : zx_Cx p (headSpec (zx_mc y :: zx_G) (zx_rm d y)).room s m av.toArray meth c y d N0 ex nu := ⟨hx, hb, hml, hown, fun w hw => hts0 w (List.mem_cons_of_mem _ hw), fun z => hin.trans (h7 z).1, hN0, hX, ⟨Nat.le_refl _, Nat.le_refl _, Nat.le_refl _, Nat.le_refl _⟩, zx_tw_in hy⟩
      have hz : zx_Nx p l en (headSpec (zx_mc y :: zx_G) (zx_rm d y)).room s m av.toArray below meth c (MQ below (zx_Qc D N0 ex nu (ws.map (fun w => w.1)) K) av.toArray s y.2.1.2.2.2.1 y.2.1.2.2.2.2.1 (zx_A N0)) D N0 ex nu (ws.map (fun w => w.1)) y zx_zf := by
        intro cur pc row st h e hn ce sl _ hk
        cases hk
      have hle : (lg_sl av).length ≤ y.1.2.2.1 := by rw [(zx_wd_s hsr).1]; exact hwd
      have hl := lv_entry av hle
      rw [lg_entry_eq]
      refine zx_run_s hC (zx_ends hx hb hr hlocks) h8 hz n (fun k hk => ih k hk d) [] 0 (zx_rw as) [] h e hn 0 0 (fun q hq => by cases hq) hcall _ _ _ _ ⟨tys, ws, ⟨hK, hP, hD, hlen, hH, fun _ _ hq => hq⟩, va_S.rf, zx_lv_none hl, fun j hj => ?_, trivial, hE⟩
      obtain ⟨v, g1, g2⟩ := zx_rw_s 0 hsr j hj
      rw [Nat.zero_add] at g1
      exact ⟨v, hl.2.2 (j, v) g1, g2⟩
/-- the law's own frame -/
theorem zx_T_s {p : Program} {en : Env} {R : Room} {s : State} {m : MethodId} {args : Array Value} {below : List Frame} {meth : Method} {c : Code} {Q : State → Prop} {ad0 : List Nat} {M : zx_M} {f d : Nat} {K : zx_K} {z : zx_N} (hC : zx_Cx p R s m args meth c M (d + 1) N0 ex nu) (hRt : zx_Rt p l en R s m args below meth c Q D N0 ex nu ad0 M K) (hrk : zx_rk M.1.2.2.2 = M.2.1.2.2.2.2.2) (hz : zx_Nx p l en R s m args below meth c Q D N0 ex nu ad0 M z) :
    ∀ n, zx_Nx p l en R s m args below meth c Q D N0 ex nu ad0 M (zx_T f d M K n z)
  | 0 => hz
  | n + 1 => zx_st_s (call := fun M' K' => zx_R f d M' K' zx_zf) hC (zx_Ca_s f (d + 1)) hRt hrk (zx_T_s hC hRt hrk hz n)
end ZV
