/-! contracts, cuts and the run of the typed walker -/
/-- how many fields -/
def zy_nfs : List Nat := [5, 6, 4, 7, 7, 2, 18, 7, 7, 5, 2, 12, 72]
theorem zy_nfs_ok : ((List.range 13).all (fun i => Nat.beq (zx_ci i).2.2 (zy_nfs.getD i 0))) = true := by decide +kernel
/-- how a method may end: types of what it gives back; places: key, where it comes from (0; 1 + 2 slot; 2 + 2 key), how much more, type -/
abbrev zy_Po : Type := List Nat × List (Nat × Nat × Nat × Nat)
/-- (method, least depth, places written, whether the ghost is wanted), types of the arguments, types of places, ways to end -/
abbrev zy_Co : Type := (Nat × Nat × Nat × Nat) × List Nat × zy_C × List zy_Po
/-- contracts at hand: method, what to look at one by one, contracts -/
abbrev zy_Tb : Type := List (Nat × List (Nat × Nat) × List zy_Co)
/-- a cut: its place, types of locals, types of places, what is known of the kept names, measure -/
abbrev zy_Ct : Type := Nat × List (Nat × Nat) × zy_C × Nat × List (Nat × Nat)
/-- a type over names below given ones -/
noncomputable def zy_wf (ki kl kr t : Nat) : Bool := Nat.blt t 4722366482869645213696 && (
  bif Nat.beq (zx_kd t) 1 then Nat.blt (zy_k1 t) ki && (Nat.blt 0 (zy_k1 t) && Nat.blt (zy_o1 t) 4294967296) else
  bif Nat.beq (zx_kd t) 2 then Nat.blt (zy_k1 t) kr else
  bif Nat.beq (zx_kd t) 5 then Nat.beq (zx_pl t) 0 || (bif Nat.beq (Nat.mod (zx_pl t) 2) 1 then Nat.blt (Nat.div (zx_pl t) 2) kl else true) else
  zx_kc 472 t)
noncomputable def zy_fq (e v t : Nat) : Bool :=
  bif Nat.beq (zx_kd t) 4 then Nat.blt (zx_pl t) 4294967296 && zy_iv e v (fun l h => Nat.beq l (zx_bi (zx_pl t)) && Nat.beq h l) else
  bif Nat.beq (zx_kd t) 7 then zy_iv e v (fun l h => Nat.ble (Nat.div (zx_pl t) 4294967296) l && Nat.ble h (Nat.mod (zx_pl t) 4294967296)) else
  bif Nat.beq t 5 then Nat.beq (zx_kd v) 5 else
  bif Nat.beq (zx_kd t) 2 && Nat.beq (zy_k1 t) 0 then Nat.beq (zx_kd v) 2 && Nat.beq (zy_o1 v) (zy_o1 t) else Nat.beq v t
noncomputable def zy_mv (ki kl kr e v t : Nat) : Bool := zy_wf ki kl kr t && zy_fq e v t
/-- a place's type by its template -/
noncomputable def zy_tt (T fg : List Nat) (key : Nat) (k : Nat → Bool) : Bool := zx_at fg (Nat.mod key 256) (fun g => bif Nat.beq g (Nat.div (zy_kw key) 128) && (Nat.blt 0 (Nat.mod key 256) && Nat.blt (Nat.mod key 256) 100) then
  zx_at T g (fun c => bif Nat.beq (zx_tg c) 7 then zx_at zy_nfs (zx_cn c) (fun n => bif Nat.blt (Nat.mod (zy_kw key) 128) n then zx_fn (zx_og c (Nat.mod (zy_kw key) 128)) k else false) else
    bif zx_kc 568 (zx_tg c) && (Nat.beq (Nat.mod (zy_kw key) 128) 0 && Nat.blt (Nat.div key 16777216) (zx_cn c)) then zx_fn (zy_et c (Nat.div key 16777216)) k else false) else false)
/-- what a place holds: remembered, or a name for it -/
noncomputable def zy_gk (T fg : List Nat) (C : zy_C) (e key : Nat) (k : Nat → zy_C → Nat → Bool) : Bool := zy_cg C key (fun v => k v C e) (zy_tt T fg key (fun t => zy_vt e t (fun v e => k v ((key, v) :: C) e)))
/-- below 0, 0, above 0: each by itself -/
noncomputable def zy_ss (e v : Nat) (k : Nat → Bool) : Bool := zy_iv e v (fun l h => bif Nat.beq l h then k e else
  (bif Nat.blt l 2147483648 then zy_rf e v l 2147483647 k else true) && ((bif Nat.ble l 2147483648 && Nat.ble 2147483648 h then zy_rf e v 2147483648 2147483648 k else true) && (bif Nat.blt 2147483648 h then zy_rf e v 2147483649 h k else true)))
noncomputable def zy_s2 (e v : Nat) (k : Nat → Bool) : Bool := bif Nat.beq (zx_kd v) 1 then zy_sp e v k else k e
/-- a place is looked at one by one: 0 a slot, 1 a key by its sign, 2 a key, 3 an element whose index is at a key -/
noncomputable def zy_s1 (T fg : List Nat) (q : Nat × Nat) (row : Nat) (C : zy_C) (e : Nat) (k : zy_C → Nat → Bool) : Bool :=
  bif Nat.beq q.1 0 then zx_fn (zx_lg row q.2) (fun v => zy_s2 e v (fun e => k C e)) else
  bif Nat.beq q.1 1 then zy_gk T fg C e q.2 (fun v C e => zy_ss e v (fun e => k C e)) else
  bif Nat.beq q.1 2 then zy_gk T fg C e q.2 (fun v C e => zy_s2 e v (fun e => k C e)) else
  zy_gk T fg C e (Nat.mod q.2 18446744073709551616) (fun v C e => zy_n1 e v (fun v => bif Nat.beq (zx_kd v) 4 then zy_gk T fg C e (Nat.add (Nat.div q.2 18446744073709551616) (Nat.mul 16777216 (zx_pl v))) (fun v C e => zy_s2 e v (fun e => k C e)) else false))
noncomputable def zy_sl (T fg : List Nat) (row : Nat) (l : List (Nat × Nat)) : zy_C → Nat → (zy_C → Nat → Bool) → Bool := @List.rec (Nat × Nat) (fun _ => zy_C → Nat → (zy_C → Nat → Bool) → Bool) (fun C e k => k C e) (fun q _ ih C e k => zy_s1 T fg q row C e (fun C e => ih C e k)) l
/-- arguments fit types -/
noncomputable def zy_ma (e : Nat) (ts : List Nat) : Nat → Bool := @List.rec Nat (fun _ => Nat → Bool) (fun r => Nat.beq r 0) (fun t _ ih r => zx_fn (Nat.mod r 4722366482869645213696) (fun v => zy_mv 1 0 100 e v t && zx_fn (bif Nat.beq (zx_kd v) 5 then Nat.div r 22300745198530623141535718272648361505980416 else Nat.div r 4722366482869645213696) ih)) ts
/-- places fit types -/
noncomputable def zy_mC (T fg : List Nat) (ki kl kr e : Nat) (C : zy_C) (l : zy_C) : Bool := @List.rec (Nat × Nat) (fun _ => Bool) true (fun q _ ih => (Nat.blt (Nat.mod q.1 256) kr && zy_cg C q.1 (fun v => zy_mv ki kl kr e v q.2) (zy_tt T fg q.1 (fun t => zy_mv ki kl kr e t q.2))) && ih) l
/-- where a value comes from -/
noncomputable def zy_sv (row : Nat) (C : zy_C) (src : Nat) (k : Nat → Bool) (d : Bool) : Bool := bif Nat.beq (Nat.mod src 2) 1 then zx_fn (zx_lg row (Nat.div src 2)) k else zx_fn (Nat.pred (Nat.div src 2)) (fun key => bif Nat.blt (Nat.mod key 256) 100 then zy_cg C key k d else false)
/-- a place behind a call -/
noncomputable def zy_f1 (row : Nat) (C0 : zy_C) (f : Nat × Nat × Nat × Nat) (e : Nat) (k : Nat → Nat → Bool) : Bool :=
  bif Nat.beq f.2.1 0 then zy_vt e f.2.2.2 k else zy_sv row C0 f.2.1 (fun v => bif zx_kc 18 v && (Nat.beq (zx_kd f.2.2.2) 7 && Nat.blt f.2.2.1 4294967296) then zy_ad e v (zx_c f.2.2.1) (fun v => zy_rf e v (Nat.div (zx_pl f.2.2.2) 4294967296) (Nat.mod (zx_pl f.2.2.2) 4294967296) (fun e => k v e)) else zy_vt e f.2.2.2 k) (zy_vt e f.2.2.2 k)
noncomputable def zy_pf (row : Nat) (C0 : zy_C) (l : List (Nat × Nat × Nat × Nat)) : zy_C → Nat → (zy_C → Nat → Bool) → Bool := @List.rec (Nat × Nat × Nat × Nat) (fun _ => zy_C → Nat → (zy_C → Nat → Bool) → Bool) (fun C e k => k C e) (fun f _ ih C e k => zy_f1 row C0 f e (fun v e => ih ((f.1, v) :: C) e k)) l
noncomputable def zy_p1 (row : Nat) (C0 : zy_C) (po : zy_Po) (C : zy_C) (e : Nat) (K : zy_K) : Bool := @List.rec Nat (fun _ => Bool) (zy_pf row C0 po.2 C e (fun C e => K [] C e)) (fun t _ _ => zy_vt e t (fun v e => zy_pf row C0 po.2 C e (fun C e => K [v] C e))) po.1
noncomputable def zy_pa (row : Nat) (C0 : zy_C) (l : List zy_Po) (C : zy_C) (e : Nat) (K : zy_K) : Bool := @List.rec zy_Po (fun _ => Bool) true (fun po _ ih => zy_p1 row C0 po C e K && ih) l
noncomputable def zy_cm1 (T fg : List Nat) (W g : Nat) (q : zy_Co) (d a row : Nat) (C : zy_C) (e : Nat) : Bool := Nat.beq q.1.1 a && (Nat.blt q.1.2.1 d && (Nat.beq (Nat.land W q.1.2.2.1) q.1.2.2.1 && (Nat.beq (Nat.land g q.1.2.2.2) q.1.2.2.2 && (zy_ma e q.2.1 row && zy_mC T fg 1 0 100 e C q.2.2.1))))
noncomputable def zy_cs (T fg : List Nat) (W g d a : Nat) (K : zy_K) (row : Nat) (C : zy_C) (e : Nat) (l : List zy_Co) : Bool := @List.rec zy_Co (fun _ => Bool) false (fun q _ ih => bif zy_cm1 T fg W g q d a row C e then zy_kl (fun z => zy_tb q.1.2.2.1 (zy_kw z)) C (fun C1 => zy_pa row C q.2.2.2 C1 e K) else ih) l
/-- a call by contract -/
noncomputable def zy_cc (T fg : List Nat) (W g : Nat) (tb : zy_Tb) (d a : Nat) (K : zy_K) (row : Nat) (C : zy_C) (e : Nat) : Bool := @List.rec (Nat × List (Nat × Nat) × List zy_Co) (fun _ => Bool) false (fun q _ ih => bif Nat.beq q.1 a then zy_sl T fg row q.2.1 C e (fun C e => zy_cs T fg W g d a K row C e q.2.2) else ih) tb
def zy_nc : zy_U := fun _ _ _ _ _ b => b
/-- n steps at most, d calls deep at most -/
noncomputable def zy_R (T fg : List Nat) (W g : Nat) (tb : zy_Tb) (mk : Nat) (n : Nat) : Nat → zx_M → zy_K → zy_U → zy_N := @Nat.rec (fun _ => Nat → zx_M → zy_K → zy_U → zy_N) (fun _ _ _ _ => zy_zf) (fun _ ih d M K cut => zy_st T W M K (fun a M' K' cur pc row st C e => bif zy_tb mk a then zy_cc T fg W g tb d a K' row C e else @Nat.rec (fun _ => zy_N) zy_zf (fun d' _ => ih d' M' K' zy_nc) d cur pc row st C e) cut (ih d M K cut)) n
/-- names for types: of a list, of places, of locals -/
noncomputable def zy_vl (ts : List Nat) : Nat → (List Nat → Nat → Bool) → Bool := @List.rec Nat (fun _ => Nat → (List Nat → Nat → Bool) → Bool) (fun e k => k [] e) (fun t _ ih e k => zy_vt e t (fun v e => ih e (fun vs e => k (v :: vs) e))) ts
noncomputable def zy_vc (l : zy_C) : zy_C → Nat → (zy_C → Nat → Bool) → Bool := @List.rec (Nat × Nat) (fun _ => zy_C → Nat → (zy_C → Nat → Bool) → Bool) (fun C e k => k C e) (fun q _ ih C e k => zy_vt e q.2 (fun v e => ih ((q.1, v) :: C) e k)) l
noncomputable def zy_vr (l : List (Nat × Nat)) : Nat → Nat → (Nat → Nat → Bool) → Bool := @List.rec (Nat × Nat) (fun _ => Nat → Nat → (Nat → Nat → Bool) → Bool) (fun row e k => k row e) (fun q _ ih row e k => zy_vt e q.2 (fun v e => zx_fn (zx_ls row q.1 v) (fun row => ih row e k))) l
/-- does the end fit? -/
noncomputable def zy_k2 (row0 : Nat) (C0 : zy_C) (f : Nat × Nat × Nat × Nat) (e v : Nat) : Bool := zy_mv 1 0 100 e v f.2.2.2 && (Nat.beq f.2.1 0 || (Nat.beq (zx_kd f.2.2.2) 7 && (Nat.blt f.2.2.1 4294967296 && zy_sv row0 C0 f.2.1 (fun s => bif zx_kc 18 s && zx_kc 18 v then zy_ad e s (zx_c f.2.2.1) (fun w => Nat.beq w v) else false) false)))
noncomputable def zy_fm (T fg : List Nat) (W row0 : Nat) (C0 C : zy_C) (e : Nat) (l : List (Nat × Nat × Nat × Nat)) : Bool := @List.rec (Nat × Nat × Nat × Nat) (fun _ => Bool) true (fun f _ ih => (Nat.blt (Nat.mod f.1 256) 100 && zy_cg C f.1 (zy_k2 row0 C0 f e) (bif zy_tb W (zy_kw f.1) then zy_tt T fg f.1 (zy_k2 row0 C0 f e) else zy_cg C0 f.1 (zy_k2 row0 C0 f e) (zy_tt T fg f.1 (zy_k2 row0 C0 f e)))) && ih) l
noncomputable def zy_lm (e : Nat) (ts : List Nat) : List Nat → Bool := @List.rec Nat (fun _ => List Nat → Bool) (fun r => @List.rec Nat (fun _ => Bool) true (fun _ _ _ => false) r) (fun t _ ih r => @List.rec Nat (fun _ => Bool) false (fun v r _ => zy_mv 1 0 100 e v t && ih r) r) ts
noncomputable def zy_Ke (T fg : List Nat) (W row0 : Nat) (C0 : zy_C) (l : List zy_Po) : zy_K := fun r C e => @List.rec zy_Po (fun _ => Bool) false (fun po _ ih => bif zy_lm e po.1 r && zy_fm T fg W row0 C0 C e po.2 then true else ih) l
/-- what is known of kept names is enough -/
noncomputable def zy_kb (e e0 : Nat) (n : Nat) : Bool := @Nat.rec (fun _ => Bool) true (fun k ih => (bif Nat.beq k 0 || Nat.beq (zx_eg e0 k) 0 then true else zy_ivn e k (fun l h => Nat.ble (Nat.div (zx_eg e0 k) 4294967296) l && Nat.ble h (Nat.mod (zx_eg e0 k) 4294967296))) && ih) n
/-- locals fit types -/
noncomputable def zy_mr (ki kl kr e row : Nat) (l : List (Nat × Nat)) : Bool := @List.rec (Nat × Nat) (fun _ => Bool) true (fun q _ ih => zy_mv ki kl kr e (zx_lg row q.1) q.2 && ih) l
/-- one value of a measure: 1 goes up, 2 goes down, 3 as bits -/
noncomputable def zy_m1 (kd e v0 v1 : Nat) (ih : Bool) : Bool :=
  bif Nat.beq v0 v1 && zx_kc 18 v0 then ih else
  bif Nat.beq (zx_kd v0) 1 && (Nat.beq (zy_o1 v0) 0 && (Nat.beq (zx_kd v1) 1 && Nat.beq (zy_k1 v0) (zy_k1 v1))) then
    zy_ivn e (zy_k1 v0) (fun l h => bif Nat.beq kd 1 then Nat.blt 0 (zy_o1 v1) && Nat.blt (Nat.add h (zy_o1 v1)) 4294967296 else Nat.beq kd 2 && (Nat.ble 2147483648 (zy_o1 v1) && Nat.ble (Nat.sub 4294967296 (zy_o1 v1)) l)) else
  bif Nat.beq kd 3 then Nat.beq (zx_kd v0) 1 && (Nat.beq (zy_o1 v0) 0 && (Nat.beq v1 (zy_ch (zy_k1 v0) 1 0) && zy_ivn e (zy_k1 v0) (fun l h => Nat.blt 2147483648 l || Nat.blt h 2147483648))) else
  zy_iv e v0 (fun l0 h0 => zy_iv e v1 (fun l1 h1 => bif Nat.beq l0 h0 && (Nat.beq l1 h1 && Nat.beq l0 l1) then ih else bif Nat.beq kd 1 then Nat.blt h0 l1 else Nat.beq kd 2 && Nat.blt h1 l0))
noncomputable def zy_mz (e row0 : Nat) (C0 : zy_C) (row : Nat) (C : zy_C) (l : List (Nat × Nat)) : List (Nat × Nat) → Bool := @List.rec (Nat × Nat) (fun _ => List (Nat × Nat) → Bool) (fun _ => false) (fun q0 _ ih m => @List.rec (Nat × Nat) (fun _ => Bool) false (fun q1 m _ =>
  bif Nat.beq q0.1 q1.1 then (bif Nat.beq q0.1 0 then (bif Nat.blt q1.2 q0.2 then Nat.blt q0.2 1099511627776 else bif Nat.beq q1.2 q0.2 then ih m else false) else
    zy_sv row0 C0 q0.2 (fun v0 => zy_sv row C q1.2 (fun v1 => zy_m1 q0.1 e v0 v1 (ih m)) false) false) else false) m) l
/-- the cuts -/
noncomputable def zy_cx (T fg : List Nat) (ki kl kr n0 : Nat) (mz : List (Nat × Nat) → Nat → zy_C → Nat → Bool) (pc row : Nat) (C : zy_C) (e : Nat) (l : List zy_Ct) : Bool := @List.rec zy_Ct (fun _ => Bool) false (fun cu _ ih => bif Nat.beq cu.1 pc && (Nat.beq (zx_eg cu.2.2.2.1 0) n0 && (Nat.beq (Nat.shiftRight cu.2.2.2.1 12288) 0 && (zy_mr ki kl kr e row cu.2.1 && (zy_mC T fg ki kl kr e C cu.2.2.1 && (zy_kb e cu.2.2.2.1 ki && mz cu.2.2.2.2 row C e))))) then true else ih) l
noncomputable def zy_sk (sp : List (Nat × List (Nat × Nat))) (pc : Nat) (k : List (Nat × Nat) → Bool) : Bool := @List.rec (Nat × List (Nat × Nat)) (fun _ => Bool) (k []) (fun q _ ih => bif Nat.beq q.1 pc then k q.2 else ih) sp
noncomputable def zy_cf (T fg : List Nat) (ki kl kr n0 pm : Nat) (mz : List (Nat × Nat) → Nat → zy_C → Nat → Bool) (cuts : List zy_Ct) (sp : List (Nat × List (Nat × Nat))) : zy_U := fun pc row st C e b => bif zy_tb pm pc then @List.rec Nat (fun _ => Bool) (zy_sk sp pc (fun s => zy_sl T fg row s C e (fun C e => zy_cx T fg ki kl kr n0 mz pc row C e cuts))) (fun _ _ _ => false) st else b
/-- the first names: 1, 0, 100 -/
def zy_e1 : Nat := 429496729601
/-- all that a contract's check wants: steps at most; contracts at hand, their methods; cuts, their places, what is looked at there one by one -/
abbrev zy_Ch : Type := Nat × (zy_Tb × Nat) × List zy_Ct × Nat × List (Nat × List (Nat × Nat))
noncomputable def zy_ck (T fg : List Nat) (q : zy_Co) (h : zy_Ch) (y : zx_M) : Bool := Nat.ble (zx_wd q.2.1) y.1.2.2.1 && zy_vl q.2.1 zy_e1 (fun vs e => zy_vc q.2.2.1 [] e (fun C0 e0 => zx_fn (zx_rw vs) (fun row0 => zx_fn (zx_eg e0 0) (fun n0 => zx_fn (Nat.mod n0 65536) (fun ki => zx_fn (Nat.mod (Nat.div n0 65536) 65536) (fun kl => zx_fn (Nat.div n0 4294967296) (fun kr =>
  zx_bk y.2.2 0 (fun cur => zy_R T fg q.1.2.2.1 q.1.2.2.2 h.2.1.1 h.2.1.2 h.1 q.1.2.1 y (zy_Ke T fg q.1.2.2.1 row0 C0 q.2.2.2) (zy_cf T fg ki kl kr n0 h.2.2.2.1 (fun _ _ _ _ => true) h.2.2.1 h.2.2.2.2) cur 0 row0 [] C0 e0) &&
  @List.rec zy_Ct (fun _ => Bool) true (fun cu _ ih => zy_vr cu.2.1 0 cu.2.2.2.1 (fun row1 e1 => zy_vc cu.2.2.1 [] e1 (fun C1 e1 => zx_bk y.2.2 cu.1 (fun cur =>
    zy_R T fg q.1.2.2.1 q.1.2.2.2 h.2.1.1 h.2.1.2 h.1 q.1.2.1 y (zy_Ke T fg q.1.2.2.1 row0 C0 q.2.2.2) (zy_cf T fg ki kl kr n0 h.2.2.2.1 (fun m row C e => zy_mz e row1 C1 row C cu.2.2.2.2 m) h.2.2.1 h.2.2.2.2) cur cu.1 row1 [] C1 e1))) && ih) h.2.2.1)))))))
