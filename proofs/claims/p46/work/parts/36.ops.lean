/-! the instructions of the typed walker -/
abbrev zy_N : Type := List zx_E → Nat → Nat → List Nat → zy_C → Nat → Bool
abbrev zy_K : Type := List Nat → zy_C → Nat → Bool
/-- what is remembered of a place; d where nothing is -/
noncomputable def zy_cg (C : zy_C) (key : Nat) (k : Nat → Bool) (d : Bool) : Bool := @List.rec (Nat × Nat) (fun _ => Bool) d (fun q _ ih => bif Nat.beq q.1 key then k q.2 else ih) C
/-- all but what p names -/
noncomputable def zy_kl (p : Nat → Bool) (C : zy_C) : (zy_C → Bool) → Bool := @List.rec (Nat × Nat) (fun _ => (zy_C → Bool) → Bool) (fun k => k []) (fun q _ ih k => bif p q.1 then ih k else ih (fun t => k (q :: t))) C
def zy_tb (K n : Nat) : Bool := Nat.beq (Nat.mod (Nat.shiftRight K n) 2) 1
/-- an array may be written: it is in the mask, and the ghost does not look at it -/
def zy_tw (K n : Nat) : Bool := zy_tb K n && (!zy_tb zy_Fp n && !Nat.beq n 5252)
/-- does a value fit a type? -/
noncomputable def zy_ft (e v t : Nat) : Bool :=
  bif Nat.beq (zx_kd t) 7 then zy_iv e v (fun l h => Nat.ble (Nat.div (zx_pl t) 4294967296) l && Nat.ble h (Nat.mod (zx_pl t) 4294967296)) else
  bif Nat.beq (zx_kd t) 2 then Nat.beq (zx_kd v) 2 && (Nat.beq (zy_o1 v) (zy_o1 t) && (Nat.beq (zy_k1 t) 0 || (Nat.beq (zy_k1 t) (zy_k1 v) && Nat.blt (zy_k1 t) 100))) else
  bif Nat.beq t 5 then Nat.beq (zx_kd v) 5 else zx_kc 344 t && Nat.beq v t
/-- a value of a type: it gets a name -/
noncomputable def zy_vt (e t : Nat) (k : Nat → Nat → Bool) : Bool :=
  bif Nat.beq (zx_kd t) 7 then zx_fn (zx_pl t) (fun c => zx_fn (Nat.div c 4294967296) (fun l => zx_fn (Nat.mod c 4294967296) (fun h => zy_ni e l h k))) else
  bif Nat.beq (zx_kd t) 5 then zy_nl e k else
  bif Nat.beq (zx_kd t) 2 && Nat.beq (zy_k1 t) 0 then zy_nr e (zy_o1 t) k else k t e
/-- an int between bounds gets a name -/
noncomputable def zy_nv (e v : Nat) (k : Nat → Nat → Bool) : Bool := bif Nat.beq (zx_kd v) 7 then zx_fn (zx_pl v) (fun c => zx_fn (Nat.div c 4294967296) (fun l => zx_fn (Nat.mod c 4294967296) (fun h => zy_ni e l h k))) else k v e
/-- a place's key: name r, place w, element i -/
def zy_ky (r w i : Nat) : Nat := Nat.add r (Nat.add (Nat.mul 256 w) (Nat.mul 16777216 i))
/-- the place that a key names -/
def zy_kw (q : Nat) : Nat := Nat.mod (Nat.div q 256) 65536
/-- bounds that a place of ints of tag 9 has: those of 1 to 15 are alike -/
noncomputable def zy_al15 (c : Nat) : Bool := @Nat.rec (fun _ => Bool) true (fun d ih => Nat.beq (zx_og c (Nat.succ d)) (zx_og c 1) && ih) 15
/-- a: the tags that the instruction reads (520: 3, 9; 48: 4, 5) -/
def zy_ta (a : Nat) : Nat := bif Nat.beq a 9 then 520 else 48
/-- does it fit an element, as the array keeps it? -/
noncomputable def zy_fe (e v c t : Nat) : Bool := bif Nat.beq (zx_tg c) 4 then Nat.ble (zy_lo c) 2147483520 && Nat.ble 2147483775 (zy_hi c) else bif Nat.beq (zx_tg c) 5 then Nat.ble (zy_lo c) 2147483648 && Nat.ble 2147483649 (zy_hi c) else zy_ft e v t
/-- the type at an index that is not known: 16 n + c, or between 1 and 15, or in an array of one type -/
noncomputable def zy_ex1 (e i c : Nat) (k : Nat → Bool) : Bool :=
  bif Nat.beq (zx_tg c) 9 then
    (bif Nat.beq (zx_kd i) 11 && Nat.beq (Nat.mod (zy_o1 i) 16) 0 then zx_fn (zx_og c (Nat.mod (Nat.div (zy_o1 i) 16) 16)) k else
     zy_iv e i (fun l h => bif Nat.blt 2147483648 l && (Nat.blt h 2147483664 && zy_al15 c) then zx_fn (zx_og c 1) k else false))
  else zx_fn (zy_c7v (zy_lo c) (zy_hi c)) k
section ZYH
variable (T : List Nat) (W : Nat) (M : zx_M) (K : zy_K) (call : Nat → zx_M → zy_K → zy_N) (nx : zy_N) (a b np : Nat) (cur0 cur : List zx_E) (pc row : Nat) (st : List Nat) (C : zy_C) (e : Nat)
noncomputable def zy_jp : Bool := zx_bk M.2.2 a (fun _ => nx [] a row st C e)
noncomputable def zyh_ld : Bool := zx_fn (zx_lg row a) (fun v => bif zx_kc b v || (Nat.beq b 146 && zy_ii v) then nx cur np row (v :: st) C e else false)
noncomputable def zyh_st1 : Bool := zx_p1 st (fun v st => bif zx_kc b v || (Nat.beq b 146 && zy_ii v) then zy_no e v (fun v => zy_nv e v (fun v e => bif Nat.blt a M.1.2.2.1 && !Nat.beq (zx_kd (zx_lg row (Nat.pred a))) 5 then zx_fn (zx_ls row a v) (fun row => nx cur np row st C e) else false)) else false)
noncomputable def zyh_st2 : Bool := zx_p1 st (fun v st => bif Nat.beq (zx_kd v) 5 && (Nat.blt (Nat.succ a) M.1.2.2.1 && !Nat.beq (zx_kd (zx_lg row (Nat.pred a))) 5) then zx_fn (zx_ls (zx_ls row a v) (Nat.succ a) 0) (fun row => nx cur np row st C e) else false)
noncomputable def zyh_inc : Bool := bif Nat.blt a M.1.2.2.1 && !Nat.beq (zx_kd (zx_lg row (Nat.pred a))) 5 then zx_fn (zx_lg row a) (fun v => bif zy_ii v then (bif Nat.beq (zx_kd v) 1 then zy_ad e v b (fun v => zx_fn (zx_ls row a v) (fun row => nx cur np row st C e)) else zy_n1 e v (fun v => zy_ad e v b (fun v => zx_fn (zx_ls row a v) (fun row => nx cur np row st C e)))) else false) else false
noncomputable def zyh_psh : Bool := bif Nat.beq a 5 && Nat.blt b 25 then zx_fn (Nat.add 5 (Nat.mul 16 (Nat.add 2 (Nat.mul 2 b)))) (fun v => nx cur np row (v :: st) C e) else nx cur np row (a :: st) C e
noncomputable def zyh_bin (f : Nat → Nat → Nat → (Nat → Bool) → Bool) : Bool := zx_p2 st (fun y x st => bif zy_ii x && zy_ii y then zy_n1 e y (fun y => zy_n1 e x (fun x => f e x y (fun v => nx cur np row (v :: st) C e))) else false)
/-- the rest: an int of either sign is looked at for each -/
noncomputable def zyh_rem : Bool := zx_p2 st (fun y0 x0 st' => bif zy_ii x0 && zy_ii y0 then zy_n1 e y0 (fun y => zy_n1 e x0 (fun x => zy_iv e x (fun l h =>
  bif Nat.beq (zx_kd x) 1 && (Nat.beq (zx_kd y) 4 && (Nat.blt l 2147483648 && (Nat.ble 2147483648 h && (Nat.beq (zy_o1 x) 0 || Nat.blt 0 l)))) then zy_rf e x l 2147483647 (fun e => nx cur0 pc row st C e) && zy_rf e x 2147483648 h (fun e => nx cur0 pc row st C e)
  else zy_rm e x y (fun v => nx cur np row (v :: st') C e)))) else false)
noncomputable def zyh_un (f : Nat → Nat → (Nat → Bool) → Bool) : Bool := zx_p1 st (fun x st => bif zy_ii x then zy_n1 e x (fun x => f e x (fun v => nx cur np row (v :: st) C e)) else false)
noncomputable def zyh_i2l : Bool := zx_p1 st (fun x st => bif zy_ii x then nx cur np row (5 :: st) C e else false)
noncomputable def zyh_lbin : Bool := zx_p2 st (fun y x st => bif Nat.beq (zx_kd x) 5 && Nat.beq (zx_kd y) 5 then nx cur np row (5 :: st) C e else false)
noncomputable def zyh_lshl : Bool := zx_p2 st (fun y x st => bif Nat.beq (zx_kd x) 5 && zy_ii y then nx cur np row (5 :: st) C e else false)
/-- lcmp: of a named long and a constant it is remembered -/
noncomputable def zyh_lcmp : Bool := zx_p2 st (fun y x st => bif Nat.beq (zx_kd x) 5 && Nat.beq (zx_kd y) 5 then
  (bif Nat.beq (Nat.mod (zx_pl x) 2) 1 && (Nat.blt (Nat.div (zx_pl x) 2) 64 && (Nat.beq (Nat.mod (zx_pl y) 2) 0 && (Nat.blt 0 (zx_pl y) && Nat.blt (zx_pl y) 52))) then zx_fn (Nat.add (Nat.mul (Nat.add (Nat.div (zx_pl x) 2) (Nat.mul 256 (Nat.pred (Nat.div (zx_pl y) 2)))) 16) 12) (fun v => nx cur np row (v :: st) C e) else nx cur np row (zx_un :: st) C e) else false)
noncomputable def zyh_dup : Bool := zx_p1 st (fun x st => bif Nat.beq (zx_kd x) 5 then false else nx cur np row (x :: x :: st) C e)
noncomputable def zyh_pop : Bool := zx_p1 st (fun x st => bif Nat.beq (zx_kd x) 5 then false else nx cur np row st C e)
noncomputable def zyh_dup2 : Bool := zx_p2 st (fun y x st => bif Nat.beq (zx_kd x) 5 || Nat.beq (zx_kd y) 5 then false else nx cur np row (y :: x :: y :: x :: st) C e)
noncomputable def zyh_icmp : Bool := zx_p2 st (fun y x st => zy_cm b e x y (fun e => zy_jp M nx a row st C e) (fun e => nx cur np row st C e))
/-- is the long named n the constant c? -/
noncomputable def zy_lq (e n c : Nat) (kt kf : Nat → Bool) : Bool := zx_fn (zx_eg e (Nat.add 192 n)) (fun F => bif Nat.beq (Nat.mod F 4294967296) 0 then
    (bif zy_tb (Nat.div F 4294967296) c then kf e else (zx_fn (zx_es e (Nat.add 192 n) (Nat.add F (Nat.succ c))) kt && zx_fn (zx_es e (Nat.add 192 n) (Nat.lor F (Nat.pow 2 (Nat.add 32 c)))) kf)) else
  bif Nat.beq (Nat.mod F 4294967296) (Nat.succ c) then kt e else bif Nat.blt (Nat.mod F 4294967296) 26 then kf e else false)
noncomputable def zyh_if : Bool := zx_p1 st (fun x st => bif Nat.beq (zx_kd x) 12 && Nat.ble 4 b then (bif Nat.beq b 4 then zy_lq e (zy_k1 x) (zy_o1 x) (fun e => zy_jp M nx a row st C e) (fun e => nx cur np row st C e) else zy_lq e (zy_k1 x) (zy_o1 x) (fun e => nx cur np row st C e) (fun e => zy_jp M nx a row st C e)) else
  zy_cm b e x 4 (fun e => zy_jp M nx a row st C e) (fun e => nx cur np row st C e))
noncomputable def zy_sw (l : List (Nat × Nat)) (d v : Nat) (st : List Nat) : Nat → Bool := @List.rec (Nat × Nat) (fun _ => Nat → Bool) (fun e => zy_jp M nx d row st C e) (fun q _ ih e => zy_eq e v (zx_c q.1) (fun e => zy_jp M nx q.2 row st C e) ih) l
noncomputable def zyh_sw : Bool := zx_p1 st (fun v st => bif zy_ii v then zx_at zx_SW a (fun q => zy_sw M nx row C q.2 q.1 v st e) else false)
/-- a place is read: what is remembered, or a new name for it -/
noncomputable def zy_gt (r w i t : Nat) (k : Nat → zy_C → Nat → Bool) : Bool :=
  bif Nat.beq r 0 then zy_vt e t (fun v e => k v C e) else
  zx_fn (zy_ky r w i) (fun key => zy_cg C key (fun v => k v C e) (zy_vt e t (fun v e => bif Nat.beq v t then k v C e else k v ((key, v) :: C) e)))
noncomputable def zyh_get : Bool := zx_p1 st (fun r st => bif Nat.beq (zx_kd r) 2 then zx_at T (zy_o1 r) (fun c => bif Nat.beq (zx_hd c) a && (Nat.blt b 128 && Nat.blt (zy_o1 r) 512) then
    zy_gt C e (zy_k1 r) (Nat.add (Nat.mul 128 (zy_o1 r)) b) 0 (zx_og c b) (fun v C e => nx cur np row (v :: st) C e) else false) else false)
noncomputable def zyh_put : Bool := zx_p2 st (fun v r st => bif Nat.beq (zx_kd r) 2 && (zx_kc (Nat.shiftRight a 20) v || (Nat.beq (Nat.shiftRight a 20) 146 && zy_ii v)) then zy_no e v (fun v => zx_at T (zy_o1 r) (fun c => bif Nat.beq (zx_hd c) (zx_hd a) && (Nat.blt b 128 && (Nat.blt (zy_o1 r) 512 && zy_ft e v (zx_og c b))) then
    zx_fn (Nat.add (Nat.mul 128 (zy_o1 r)) b) (fun w => bif zy_tb W w && (!zy_tb zy_Fp w && (bif Nat.beq w 5252 then zy_iv e v (fun l h => Nat.blt 2147483648 l || Nat.blt h 2147483648) else true)) then zy_kl (fun q => Nat.beq (zy_kw q) w) C (fun C => bif Nat.beq (zy_k1 r) 0 then nx cur np row st C e else zx_fn (zy_ky (zy_k1 r) w 0) (fun key => zy_nv e v (fun v e => nx cur np row st ((key, v) :: C) e))) else false) else false)) else false)
noncomputable def zyh_str : Bool := zx_p1 st (fun r st => bif Nat.beq r 22 || Nat.beq r 54 then (bif Nat.beq a 0 then nx cur np row (Nat.add r 16 :: st) C e else nx cur np row (4 :: st) C e) else false)
noncomputable def zyh_len : Bool := zx_p1 st (fun r st => bif Nat.beq (zx_kd r) 2 then zx_at T (zy_o1 r) (fun c => bif Nat.beq (zx_tg c) 7 then false else zx_fn (zx_c (zx_cn c)) (fun v => nx cur np row (v :: st) C e)) else
  bif Nat.beq r 38 || Nat.beq r 70 then zx_fn (zx_c (zx_xl (zx_pl r))) (fun v => nx cur np row (v :: st) C e) else false)
noncomputable def zyh_ald : Bool := zx_p2 st (fun i0 r st' => bif zy_ii i0 then zy_n1 e i0 (fun i =>
  bif Nat.beq (zx_kd r) 2 then zx_at T (zy_o1 r) (fun c =>
    bif zx_kc (zy_ta a) (zx_tg c) && Nat.blt (zy_o1 r) 512 then
      (bif Nat.beq (zx_kd i) 4 then (bif Nat.blt (zx_pl i) (zx_cn c) then
          zx_fn (zy_et c (zx_pl i)) (fun t => bif Nat.blt 16 (zx_cn c) then nx cur np row (t :: st') C e else
            zy_gt C e (zy_k1 r) (Nat.mul 128 (zy_o1 r)) (zx_pl i) t (fun v C e => nx cur np row (v :: st') C e)) else false) else
      bif Nat.beq (zx_kd i) 1 && Nat.ble (zx_cn c) 3 then zy_sp e i (fun e => nx cur0 pc row st C e) else
      bif zy_in e i (zx_cn c) then zy_ex1 e i c (fun t => nx cur np row (t :: st') C e) else false) else false) else
  bif Nat.beq r 38 || Nat.beq r 70 then (bif Nat.beq a 54 && zy_in e i (zx_xl (zx_pl r)) then nx cur np row (zy_c7v 2147483520 2147483775 :: st') C e else false) else false) else false)
noncomputable def zyh_ast : Bool := zx_p3 st (fun v i0 r st' => bif zy_ii v && (zy_ii i0 && Nat.beq (zx_kd r) 2) then zy_no e v (fun v => zy_n1 e i0 (fun i => zx_at T (zy_o1 r) (fun c =>
    bif zx_kc (zy_ta a) (zx_tg c) && (Nat.blt (zy_o1 r) 512 && zy_tw W (Nat.mul 128 (zy_o1 r))) then
      (bif Nat.beq (zx_kd i) 4 then (bif Nat.blt (zx_pl i) (zx_cn c) && zy_fe e v c (zy_et c (zx_pl i)) then
          zy_kl (fun q => Nat.beq (zy_kw q) (Nat.mul 128 (zy_o1 r)) && Nat.beq (Nat.div q 16777216) (zx_pl i)) C (fun C =>
            bif Nat.beq (zy_k1 r) 0 || (Nat.blt 16 (zx_cn c) || Nat.beq (zx_tg c) 4) then nx cur np row st' C e else
            bif Nat.beq (zx_tg c) 5 && !zy_iv e v (fun l h => Nat.ble 2147483648 l && Nat.ble h 2147483649) then nx cur np row st' C e else
            zx_fn (zy_ky (zy_k1 r) (Nat.mul 128 (zy_o1 r)) (zx_pl i)) (fun key => zy_nv e v (fun v e => nx cur np row st' ((key, v) :: C) e))) else false) else
      bif Nat.beq (zx_kd i) 1 && Nat.ble (zx_cn c) 3 then zy_sp e i (fun e => nx cur0 pc row st C e) else
      bif zy_in e i (zx_cn c) then zy_ex1 e i c (fun t => bif zy_fe e v c t then zy_iv e i (fun l h => zy_kl (fun q => Nat.beq (zy_kw q) (Nat.mul 128 (zy_o1 r)) && (Nat.ble l (Nat.add 2147483648 (Nat.div q 16777216)) && Nat.ble (Nat.add 2147483648 (Nat.div q 16777216)) h)) C (fun C => nx cur np row st' C e)) else false) else false) else false))) else false)
noncomputable def zyh_lald : Bool := zx_p2 st (fun i r st => bif zy_ii i && Nat.beq (zx_kd r) 2 then zx_at T (zy_o1 r) (fun c => bif Nat.beq (zx_tg c) 6 && zy_in e i (zx_cn c) then nx cur np row (5 :: st) C e else false) else false)
noncomputable def zyh_last : Bool := zx_p3 st (fun v i r st => bif Nat.beq (zx_kd v) 5 && (zy_ii i && Nat.beq (zx_kd r) 2) then zx_at T (zy_o1 r) (fun c => bif Nat.beq (zx_tg c) 6 && (zy_in e i (zx_cn c) && zy_tw W (Nat.mul 128 (zy_o1 r))) then zy_kl (fun q => Nat.beq (zy_kw q) (Nat.mul 128 (zy_o1 r))) C (fun C => nx cur np row st C e) else false) else false)
noncomputable def zyh_rald : Bool := zx_p2 st (fun i r st => bif zy_ii i && Nat.beq (zx_kd r) 2 then zx_at T (zy_o1 r) (fun c => bif Nat.beq (zx_tg c) 8 && zy_in e i (zx_cn c) then zy_vt e (zx_og c 0) (fun v e => nx cur np row (v :: st) C e) else false) else false)
noncomputable def zyh_rast : Bool := zx_p3 st (fun v i r st => bif Nat.beq (zx_kd v) 2 && (zy_ii i && Nat.beq (zx_kd r) 2) then zx_at T (zy_o1 r) (fun c => zx_at T (zy_o1 v) (fun cv => bif Nat.beq (zx_tg c) 8 && (Nat.beq (zx_hd cv) 135 && (zy_in e i (zx_cn c) && (zy_ft e v (zx_og c 0) && zy_tw W (Nat.mul 128 (zy_o1 r))))) then zy_kl (fun q => Nat.beq (zy_kw q) (Nat.mul 128 (zy_o1 r))) C (fun C => nx cur np row st C e) else false)) else false)
/-- an array of ints copied whole or in part onto one of its group -/
noncomputable def zyh_cpy : Bool := zx_p3 st (fun n dp dst st => zx_p2 st (fun sp src st => zy_n1 e n (fun n => zy_n1 e dp (fun dp => zy_n1 e sp (fun sp =>
  bif Nat.beq (zx_kd src) 2 && (Nat.beq (zx_kd dst) 2 && (Nat.beq (zy_o1 src) (zy_o1 dst) && (Nat.beq (zx_kd n) 4 && (Nat.beq dp 4 && Nat.beq sp 4)))) then
  zx_at T (zy_o1 dst) (fun c => bif Nat.beq (zx_tg c) 3 && (Nat.beq (zx_pl n) (zx_cn c) && (zy_tw W (Nat.mul 128 (zy_o1 dst)) && (Nat.blt (zy_o1 dst) 512 && Nat.ble (zx_wd st) 8))) then zy_kl (fun q => Nat.beq (zy_kw q) (Nat.mul 128 (zy_o1 dst))) C (fun C => nx cur np row st C e) else false) else false)))))
/-- the arguments, the last first -/
noncomputable def zy_tk (n : Nat) : Nat → List Nat → List Nat → (List Nat → List Nat → Nat → Bool) → Bool := @Nat.rec (fun _ => Nat → List Nat → List Nat → (List Nat → List Nat → Nat → Bool) → Bool) (fun e as st k => k as st e) (fun _ ih e as st k => zx_p1 st (fun v st => zy_no e v (fun v => zy_nv e v (fun v e => ih e (v :: as) st k)))) n
noncomputable def zy_rc (y : zx_M) (l : List Nat) (k : Bool) : Bool := bif Nat.beq y.2.1.2.1 0 then zx_p1 l (fun r _ => bif Nat.beq (zx_kd r) 2 then zx_at T (zy_o1 r) (fun c => bif Nat.beq (zx_hd c) (Nat.add (Nat.mul y.2.1.1 16) 7) then k else false) else bif (Nat.beq r 22 || Nat.beq r 54) && Nat.beq y.2.1.1 14 then k else false) else
  bif Nat.beq y.2.1.2.1 2 then false else k
noncomputable def zyh_inv : Bool := zx_at zx_mt (Nat.div a 16) (fun l => zx_at l (Nat.mod a 16) (fun y => zy_tk y.2.1.2.2.1 e [] st (fun as st e =>
  bif Nat.ble (zx_wd st) 8 && (Nat.ble (zx_wd as) y.1.2.2.1 && (Nat.beq y.2.1.2.2.2.1 0 && Nat.beq y.2.1.2.2.2.2.1 0)) then
  zy_rc T y as (zx_fn (zx_rw as) (fun r0 => call a y (fun r C e => nx cur np row (@List.rec Nat (fun _ => List Nat) st (fun v _ _ => v :: st) r) C e) [] 0 r0 [] C e)) else false)))
/-- what may be given back: 0 nothing, 1 an int, 2 a boolean, 3 a char, 4 a byte, 5 a long, 6 a reference -/
noncomputable def zy_rt (r e v : Nat) : Bool := bif Nat.beq r 1 then zy_ii v else bif Nat.beq r 2 then zy_iv e v (fun l h => Nat.ble 2147483648 l && Nat.ble h 2147483649) else bif Nat.beq r 3 then zy_iv e v (fun l h => Nat.ble 2147483648 l && Nat.ble h 2147549183) else
  bif Nat.beq r 4 then zy_iv e v (fun l h => Nat.ble 2147483520 l && Nat.ble h 2147483775) else bif Nat.beq r 5 then Nat.beq (zx_kd v) 5 else bif Nat.beq r 6 then zx_kc 332 v else false
noncomputable def zyh_ret : Bool := zx_p1 st (fun v st => @List.rec Nat (fun _ => Bool) (zy_no e v (fun v => bif zy_rt M.2.1.2.2.2.2.2 e v then K [v] C e else false)) (fun _ _ _ => false) st)
noncomputable def zyh_rtv : Bool := @List.rec Nat (fun _ => Bool) (bif Nat.beq M.2.1.2.2.2.2.2 0 then K [] C e else false) (fun _ _ _ => false) st
end ZYH
