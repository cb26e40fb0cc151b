/-! the instructions of the typed walker -/
abbrev zy_N : Type := List zx_E → Nat → Nat → List Nat → zy_C → Nat → Bool
abbrev zy_K : Type := List Nat → zy_C → Nat → Bool
/-- what is remembered of a place; d where nothing is -/
noncomputable def zy_cg (C : zy_C) (key : Nat) (k : Nat → Bool) (d : Bool) : Bool := @List.rec (Nat × Nat) (fun _ => Bool) d (fun q _ ih => bif Nat.beq q.1 key then k q.2 else ih) C
/-- all but what p names -/
noncomputable def zy_kl (p : Nat → Bool) (C : zy_C) : (zy_C → Bool) → Bool := @List.rec (Nat × Nat) (fun _ => (zy_C → Bool) → Bool) (fun k => k []) (fun q _ ih k => bif p q.1 then ih k else ih (fun t => k (q :: t))) C
def zy_tb (K n : Nat) : Bool := Nat.beq (Nat.mod (Nat.shiftRight K n) 2) 1
/-- does a value fit a type? -/
noncomputable def zy_ft (e v t : Nat) : Bool :=
  bif Nat.beq (zx_kd t) 7 then zy_iv e v (fun l h => Nat.ble (Nat.div (zx_pl t) 4294967296) l && Nat.ble h (Nat.mod (zx_pl t) 4294967296)) else
  bif Nat.beq (zx_kd t) 2 then Nat.beq (zx_kd v) 2 && (Nat.beq (zy_o1 v) (zy_o1 t) && (Nat.beq (zy_k1 t) 0 || Nat.beq (zy_k1 t) (zy_k1 v))) else
  bif Nat.beq t 5 then Nat.beq (zx_kd v) 5 else Nat.beq v t
section ZYH
variable (T : List Nat) (W : Nat) (M : zx_M) (K : zy_K) (call : zx_M → zy_K → zy_N) (nx : zy_N) (a b np : Nat) (cur0 cur : List zx_E) (pc row : Nat) (st : List Nat) (C : zy_C) (e : Nat)
noncomputable def zy_jp : Bool := zx_bk M.2.2 a (fun _ => nx [] a row st C e)
noncomputable def zyh_ld : Bool := zx_fn (zx_lg row a) (fun v => bif zx_kc b v then nx cur np row (v :: st) C e else false)
noncomputable def zyh_st1 : Bool := zx_p1 st (fun v st => zy_no e v (fun v => bif zx_kc b v && (Nat.blt a M.1.2.2.1 && !Nat.beq (zx_kd (zx_lg row (Nat.pred a))) 5) then zx_fn (zx_ls row a v) (fun row => nx cur np row st C e) else false))
noncomputable def zyh_st2 : Bool := zx_p1 st (fun v st => bif Nat.beq (zx_kd v) 5 && (Nat.blt (Nat.succ a) M.1.2.2.1 && !Nat.beq (zx_kd (zx_lg row (Nat.pred a))) 5) then zx_fn (zx_ls (zx_ls row a v) (Nat.succ a) 0) (fun row => nx cur np row st C e) else false)
noncomputable def zyh_inc : Bool := bif Nat.blt a M.1.2.2.1 && !Nat.beq (zx_kd (zx_lg row (Nat.pred a))) 5 then zx_fn (zx_lg row a) (fun v => bif zy_ii v then zy_n1 e v (fun v => zy_ad e v b (fun v => zx_fn (zx_ls row a v) (fun row => nx cur np row st C e))) else false) else false
noncomputable def zyh_psh : Bool := bif Nat.beq a 5 && Nat.blt b 25 then zx_fn (Nat.add 5 (Nat.mul 16 (Nat.add 2 (Nat.mul 2 b)))) (fun v => nx cur np row (v :: st) C e) else nx cur np row (a :: st) C e
noncomputable def zyh_bin (f : Nat → Nat → Nat → (Nat → Bool) → Bool) : Bool := zx_p2 st (fun y x st => bif zy_ii x && zy_ii y then zy_n1 e y (fun y => zy_n1 e x (fun x => f e x y (fun v => nx cur np row (v :: st) C e))) else false)
noncomputable def zyh_un (f : Nat → Nat → (Nat → Bool) → Bool) : Bool := zx_p1 st (fun x st => bif zy_ii x then zy_n1 e x (fun x => f e x (fun v => nx cur np row (v :: st) C e)) else false)
noncomputable def zyh_i2l : Bool := zx_p1 st (fun x st => bif zy_ii x then nx cur np row (5 :: st) C e else false)
noncomputable def zyh_lbin : Bool := zx_p2 st (fun y x st => bif Nat.beq (zx_kd x) 5 && Nat.beq (zx_kd y) 5 then nx cur np row (5 :: st) C e else false)
noncomputable def zyh_lshl : Bool := zx_p2 st (fun y x st => bif Nat.beq (zx_kd x) 5 && zy_ii y then nx cur np row (5 :: st) C e else false)
/-- lcmp: of a named long and a constant it is remembered -/
noncomputable def zyh_lcmp : Bool := zx_p2 st (fun y x st => bif Nat.beq (zx_kd x) 5 && Nat.beq (zx_kd y) 5 then
  (bif Nat.beq (Nat.mod (zx_pl x) 2) 1 && (Nat.blt (Nat.div (zx_pl x) 2) 64 && (Nat.beq (Nat.mod (zx_pl y) 2) 0 && (Nat.blt 0 (zx_pl y) && Nat.blt (zx_pl y) 52))) then zx_fn (Nat.add (Nat.mul (Nat.add (Nat.div (zx_pl x) 2) (Nat.mul 256 (Nat.pred (Nat.div (zx_pl y) 2)))) 16) 12) (fun v => nx cur np row (v :: st) C e) else nx cur np row (zx_un :: st) C e) else false)
noncomputable def zyh_dup : Bool := zx_p1 st (fun x st => bif Nat.beq (zx_kd x) 5 then false else nx cur np row (x :: x :: st) C e)
noncomputable def zyh_pop : Bool := zx_p1 st (fun x st => bif Nat.beq (zx_kd x) 5 then false else nx cur np row st C e)
noncomputable def zyh_dup2 : Bool := zx_p2 st (fun y x st => bif Nat.beq (zx_kd x) 5 || Nat.beq (zx_kd y) 5 then false else nx cur np row (y :: x :: y :: x :: st) C e)
noncomputable def zyh_icmp : Bool := zx_p2 st (fun y x st => zy_cm b e x y (fun e => zy_jp M nx a row st C e) (fun e => nx cur np row st C e))
/-- is the long named n the constant c? -/
noncomputable def zy_lq (e n c : Nat) (kt kf : Nat → Bool) : Bool := zx_fn (zx_eg e (Nat.add 192 n)) (fun F => bif Nat.beq (Nat.mod F 4294967296) 0 then
    (bif zy_tb (Nat.div F 4294967296) c then kf e else (zx_fn (zx_es e (Nat.add 192 n) (Nat.add F (Nat.succ c))) kt && zx_fn (zx_es e (Nat.add 192 n) (Nat.add F (Nat.mul 4294967296 (Nat.pow 2 c)))) kf)) else
  bif Nat.beq (Nat.mod F 4294967296) (Nat.succ c) then kt e else bif Nat.blt (Nat.mod F 4294967296) 26 then kf e else false)
noncomputable def zyh_if : Bool := zx_p1 st (fun x st => bif Nat.beq (zx_kd x) 12 && Nat.ble 4 b then (bif Nat.beq b 4 then zy_lq e (zy_k1 x) (zy_o1 x) (fun e => zy_jp M nx a row st C e) (fun e => nx cur np row st C e) else zy_lq e (zy_k1 x) (zy_o1 x) (fun e => nx cur np row st C e) (fun e => zy_jp M nx a row st C e)) else
  zy_cm b e x 4 (fun e => zy_jp M nx a row st C e) (fun e => nx cur np row st C e))
noncomputable def zy_sw (l : List (Nat × Nat)) (d v : Nat) (st : List Nat) : Nat → Bool := @List.rec (Nat × Nat) (fun _ => Nat → Bool) (fun e => zy_jp M nx d row st C e) (fun q _ ih e => zy_eq e v (zx_c q.1) (fun e => zy_jp M nx q.2 row st C e) ih) l
noncomputable def zyh_sw : Bool := zx_p1 st (fun v st => bif zy_ii v then zx_at zx_SW a (fun q => zy_sw M nx row C q.2 q.1 v st e) else false)
/-- a place's key: name r, place w, element i -/
def zy_ky (r w i : Nat) : Nat := Nat.add r (Nat.add (Nat.mul 256 w) (Nat.mul 16777216 i))
noncomputable def zyh_get : Bool := zx_p1 st (fun r st => bif Nat.beq (zx_kd r) 2 then zx_at T (zy_o1 r) (fun c => bif Nat.beq (zx_hd c) a && Nat.blt b 128 then
    (bif Nat.beq (zy_k1 r) 0 then zx_fn (zx_og c b) (fun v => nx cur np row (v :: st) C e) else
     zx_fn (zy_ky (zy_k1 r) (Nat.add (Nat.mul 128 (zy_o1 r)) b) 0) (fun key => zy_cg C key (fun v => nx cur np row (v :: st) C e) (zx_fn (zx_og c b) (fun v => nx cur np row (v :: st) C e)))) else false) else false)
noncomputable def zyh_put : Bool := zx_p2 st (fun v r st => bif Nat.beq (zx_kd r) 2 then zy_no e v (fun v => bif zx_kc (Nat.shiftRight a 20) v then zx_at T (zy_o1 r) (fun c => bif Nat.beq (zx_hd c) (zx_hd a) && (Nat.blt b 128 && zy_ft e v (zx_og c b)) then
    zx_fn (Nat.add (Nat.mul 128 (zy_o1 r)) b) (fun w => bif zy_tb W w then zy_kl (fun q => Nat.beq (Nat.mod (Nat.div q 256) 65536) w) C (fun C => bif Nat.beq (zy_k1 r) 0 then nx cur np row st C e else zx_fn (zy_ky (zy_k1 r) w 0) (fun key => nx cur np row st ((key, v) :: C) e)) else false) else false) else false) else false)
noncomputable def zyh_str : Bool := zx_p1 st (fun r st => bif Nat.beq r 22 || Nat.beq r 54 then (bif Nat.beq a 0 then nx cur np row (Nat.add r 16 :: st) C e else nx cur np row (4 :: st) C e) else false)
noncomputable def zyh_len : Bool := zx_p1 st (fun r st => bif Nat.beq (zx_kd r) 2 then zx_at T (zy_o1 r) (fun c => bif Nat.beq (zx_tg c) 7 then false else zx_fn (zx_c (zx_cn c)) (fun v => nx cur np row (v :: st) C e)) else
  bif Nat.beq r 38 || Nat.beq r 70 then zx_fn (zx_c (zx_xl (zx_pl r))) (fun v => nx cur np row (v :: st) C e) else false)
/-- the type of an array's element: at a known place, at any -/
def zy_et (c i : Nat) : Nat := bif Nat.beq (zx_tg c) 9 then zx_og c (Nat.mod i 16) else zy_c7v (zy_lo c) (zy_hi c)
def zy_eu (c : Nat) : Nat := bif Nat.beq (zx_tg c) 9 then zx_un else zy_c7v (zy_lo c) (zy_hi c)
/-- a: the tags that the instruction reads (520: 3, 9; 48: 4, 5) -/
def zy_ta (a : Nat) : Nat := bif Nat.beq a 9 then 520 else 48
noncomputable def zyh_ald : Bool := zx_p2 st (fun i0 r st' => bif zy_ii i0 then zy_n1 e i0 (fun i =>
  bif Nat.beq (zx_kd r) 2 then zx_at T (zy_o1 r) (fun c =>
    bif zx_kc (zy_ta a) (zx_tg c) then
      (bif Nat.beq (zx_kd i) 4 then (bif Nat.blt (zx_pl i) (zx_cn c) then
          (bif Nat.beq (zy_k1 r) 0 then zx_fn (zy_et c (zx_pl i)) (fun v => nx cur np row (v :: st') C e) else
           zx_fn (zy_ky (zy_k1 r) (Nat.mul 128 (zy_o1 r)) (zx_pl i)) (fun key => zy_cg C key (fun v => nx cur np row (v :: st') C e) (zx_fn (zy_et c (zx_pl i)) (fun v => nx cur np row (v :: st') C e)))) else false) else
      bif Nat.beq (zx_kd i) 1 && (Nat.beq (zx_tg c) 9 || Nat.ble (zx_cn c) 3) then zy_sp e i (fun e => nx cur0 pc row st C e) else
      bif zy_in e i (zx_cn c) then zx_fn (zy_eu c) (fun v => nx cur np row (v :: st') C e) else false) else false) else
  bif Nat.beq r 38 || Nat.beq r 70 then (bif Nat.beq a 54 && zy_in e i (zx_xl (zx_pl r)) then nx cur np row (zy_c7v 2147483520 2147483775 :: st') C e else false) else false) else false)
/-- does it fit an element, as the array keeps it? -/
noncomputable def zy_fe (e v c t : Nat) : Bool := bif Nat.beq (zx_tg c) 4 then Nat.ble (zy_lo c) 2147483520 && Nat.ble 2147483775 (zy_hi c) else bif Nat.beq (zx_tg c) 5 then Nat.ble (zy_lo c) 2147483648 && Nat.ble 2147483649 (zy_hi c) else zy_ft e v t
noncomputable def zyh_ast : Bool := zx_p3 st (fun v i0 r st' => bif zy_ii v && (zy_ii i0 && Nat.beq (zx_kd r) 2) then zy_no e v (fun v => zy_n1 e i0 (fun i => zx_at T (zy_o1 r) (fun c =>
    bif zx_kc (zy_ta a) (zx_tg c) && zy_tb W (Nat.mul 128 (zy_o1 r)) then
      (bif Nat.beq (zx_kd i) 4 then (bif Nat.blt (zx_pl i) (zx_cn c) && zy_fe e v c (zy_et c (zx_pl i)) then
          zy_kl (fun q => Nat.beq (Nat.mod (Nat.div q 256) 65536) (Nat.mul 128 (zy_o1 r)) && Nat.beq (Nat.div q 16777216) (zx_pl i)) C (fun C =>
            bif Nat.beq (zy_k1 r) 0 || zx_kc 48 (zx_tg c) then nx cur np row st' C e else zx_fn (zy_ky (zy_k1 r) (Nat.mul 128 (zy_o1 r)) (zx_pl i)) (fun key => nx cur np row st' ((key, v) :: C) e)) else false) else
      bif Nat.beq (zx_kd i) 1 && (Nat.beq (zx_tg c) 9 || Nat.ble (zx_cn c) 3) then zy_sp e i (fun e => nx cur0 pc row st C e) else
      bif Nat.beq (zx_tg c) 9 then false else
      bif zy_in e i (zx_cn c) && zy_fe e v c (zy_eu c) then zy_kl (fun q => Nat.beq (Nat.mod (Nat.div q 256) 65536) (Nat.mul 128 (zy_o1 r))) C (fun C => nx cur np row st' C e) else false) else false))) else false)
noncomputable def zyh_lald : Bool := zx_p2 st (fun i r st => bif zy_ii i && Nat.beq (zx_kd r) 2 then zx_at T (zy_o1 r) (fun c => bif Nat.beq (zx_tg c) 6 && zy_in e i (zx_cn c) then nx cur np row (5 :: st) C e else false) else false)
noncomputable def zyh_last : Bool := zx_p3 st (fun v i r st => bif Nat.beq (zx_kd v) 5 && (zy_ii i && Nat.beq (zx_kd r) 2) then zx_at T (zy_o1 r) (fun c => bif Nat.beq (zx_tg c) 6 && (zy_in e i (zx_cn c) && zy_tb W (Nat.mul 128 (zy_o1 r))) then zy_kl (fun q => Nat.beq (Nat.mod (Nat.div q 256) 65536) (Nat.mul 128 (zy_o1 r))) C (fun C => nx cur np row st C e) else false) else false)
noncomputable def zyh_rald : Bool := zx_p2 st (fun i r st => bif zy_ii i && Nat.beq (zx_kd r) 2 then zx_at T (zy_o1 r) (fun c => bif Nat.beq (zx_tg c) 8 && zy_in e i (zx_cn c) then zx_fn (zx_og c 0) (fun v => nx cur np row (v :: st) C e) else false) else false)
noncomputable def zyh_rast : Bool := zx_p3 st (fun v i r st => bif Nat.beq (zx_kd v) 2 && (zy_ii i && Nat.beq (zx_kd r) 2) then zx_at T (zy_o1 r) (fun c => zx_at T (zy_o1 v) (fun cv => bif Nat.beq (zx_tg c) 8 && (Nat.beq (zx_hd cv) 135 && (zy_in e i (zx_cn c) && (zy_ft e v (zx_og c 0) && zy_tb W (Nat.mul 128 (zy_o1 r))))) then zy_kl (fun q => Nat.beq (Nat.mod (Nat.div q 256) 65536) (Nat.mul 128 (zy_o1 r))) C (fun C => nx cur np row st C e) else false)) else false)
end ZYH
