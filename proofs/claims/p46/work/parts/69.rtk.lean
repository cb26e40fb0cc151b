/-! the end of a method that gives something back, by hand -/
section ZYQ
variable {l : Launch} {D : va_G} {N0 : Nat} {T fg : List Nat} {p : Program} {en : Env} {R : Room} {s : State} {m : MethodId} {args : Array Value} {below : List Frame} {meth : Method} {c : Code}
theorem zy_rtK {Z As : zy_V} {M : zx_M} {q : zy_Co} {av : List Value} {ws ws3 : va_W} {Wm : Nat} (hZ1 : zy_fi Z = 1) (hZ2 : zy_fl Z = 0) (hZr : zy_fr Z = 100) (hF : zy_FX fg Z) (hx : p.tables.exec = Jvm.exec) (hb : c.code = M.1.2.1) (hr : meth.sig.returnType = M.1.2.2.2) (hlocks : meth.locks = false) (hZ : zy_le Z As) (hU3 : zy_UN (zy_gl Z) q.1.2.2.1 ws ws3) (hsub : Nat.beq (Nat.land q.1.2.2.1 Wm) Wm = true) (hpo : ∀ po ∈ q.2.2.2, po.2 = []) : zy_Rt p l en R s m args below meth c (MQ below (zy_Qp D N0 T Z q av ws) args s 0 0 (zx_A N0)) D N0 T Wm ws3 As M (zy_Ke T fg q.1.2.2.1 0 [] q.2.2.2) := by
  refine zy_ends hx hb hr hlocks ?_
  intro A r C e vs tys' ws' t hA hK hlen hsr hW' hCR' hE' hU' hFt
  have hZA := zy_le_tr hZ hA
  have hf : 100 ≤ zy_fr Z := by omega
  have hU2 := zy_UN_sub hU' hsub
  obtain ⟨po, o1, o2, -⟩ := zy_Ke_s (loc := fun _ => none) (ws0 := ws3) hZ1 hZ2 hZr hF hZA hE' (fun z hz => by cases hz) hCR' hU2 hW'.2.2.2 (fun j hj => by
    exfalso
    apply hj
    show ((0 : Nat) >>> (0 + 72 * j)) % 4722366482869645213696 % 16 = 0
    rw [Nat.zero_shiftRight]) hsr _ hK
  refine ⟨⟨vs, tys', ws', po, rfl, hlen, o1, o2, fun f hff => (by rw [hpo po o1] at hff; cases hff), ⟨hW'.1, hW'.2.1, hW'.2.2.1, zy_HR_ge hZA hf hW'.2.2.2⟩, ?_⟩, hFt⟩
  rw [zy_gl_le hZA] at hU2
  exact zy_UN_tr hU3 hU2
end ZYQ
