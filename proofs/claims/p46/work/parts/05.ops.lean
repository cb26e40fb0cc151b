/-! the instructions -/
/-- the texts from outside: their lengths and their bytes (two constants of the class; 0: the script) -/
def zx_xl (i : Nat) : Nat := bif Nat.beq i 2 then 125 else bif Nat.beq i 4 then 11 else 0
def zx_xb (i : Nat) : Nat := bif Nat.beq i 2 then zx_words else zx_signs
section ZH
variable (M : zx_M) (K : zx_K) (call : zx_M → zx_K → zx_N) (nx : zx_N) (a b np : Nat) (cur0 cur : List zx_E) (pc row : Nat) (st : List Nat) (h : zx_H) (e hn ce sl : Nat)
noncomputable def zx_jp : Bool := zx_bk M.2.2 a (fun cur => nx cur a row st h e hn ce sl)
noncomputable def zh_ld : Bool := zx_fn (zx_lg row a) (fun v => bif zx_kc b v then nx cur np row (v :: st) h e hn ce sl else false)
noncomputable def zh_st1 : Bool := zx_p1 st (fun v st => bif zx_kc b v && (Nat.blt a M.1.2.2.1 && !Nat.beq (zx_kd (zx_lg row (Nat.pred a))) 5) then zx_fn (zx_ls row a v) (fun row => nx cur np row st h e hn ce sl) else false)
noncomputable def zh_st2 : Bool := zx_p1 st (fun v st => bif Nat.beq v 5 && (Nat.blt (Nat.succ a) M.1.2.2.1 && !Nat.beq (zx_kd (zx_lg row (Nat.pred a))) 5) then zx_fn (zx_ls (zx_ls row a v) (Nat.succ a) 0) (fun row => nx cur np row st h e hn ce sl) else false)
noncomputable def zh_inc : Bool := bif Nat.blt a M.1.2.2.1 && !Nat.beq (zx_kd (zx_lg row (Nat.pred a))) 5 then zx_fn (zx_lg row a) (fun v => bif zx_ii v then zx_no e v (fun v => zx_ad v b (fun v => zx_fn (zx_ls row a v) (fun row => nx cur np row st h e hn ce sl))) else false) else false
noncomputable def zh_psh : Bool := nx cur np row (a :: st) h e hn ce sl
noncomputable def zh_bin (f : Nat → Nat → (Nat → Bool) → Bool) : Bool := zx_p2 st (fun y x st => bif zx_ii x && zx_ii y then zx_no e y (fun y => zx_no e x (fun x => f x y (fun v => nx cur np row (v :: st) h e hn ce sl))) else false)
noncomputable def zh_un (f : Nat → Nat) : Bool := zx_p1 st (fun x st => bif zx_ii x then zx_no e x (fun x => zx_u1 f x (fun v => nx cur np row (v :: st) h e hn ce sl)) else false)
noncomputable def zh_i2l : Bool := zx_p1 st (fun x st => bif zx_ii x then nx cur np row (5 :: st) h e hn ce sl else false)
noncomputable def zh_lbin : Bool := zx_p2 st (fun y x st => bif Nat.beq x 5 && Nat.beq y 5 then nx cur np row (5 :: st) h e hn ce sl else false)
noncomputable def zh_dup : Bool := zx_p1 st (fun x st => bif Nat.beq (zx_kd x) 5 then false else nx cur np row (x :: x :: st) h e hn ce sl)
noncomputable def zh_pop : Bool := zx_p1 st (fun x st => bif Nat.beq (zx_kd x) 5 then false else nx cur np row st h e hn ce sl)
noncomputable def zh_dup2 : Bool := zx_p2 st (fun y x st => bif Nat.beq (zx_kd x) 5 || Nat.beq (zx_kd y) 5 then false else nx cur np row (y :: x :: y :: x :: st) h e hn ce sl)
noncomputable def zh_icmp : Bool := zx_p2 st (fun y x st => zx_cm b e x y (fun e => zx_jp M nx a row st h e hn ce sl) (fun e => nx cur np row st h e hn ce sl))
noncomputable def zh_if : Bool := zx_p1 st (fun x st => zx_cm b e x 4 (fun e => zx_jp M nx a row st h e hn ce sl) (fun e => nx cur np row st h e hn ce sl))
noncomputable def zx_sw (l : List (Nat × Nat)) (d v : Nat) (st : List Nat) : Nat → Bool := @List.rec (Nat × Nat) (fun _ => Nat → Bool) (fun e => zx_jp M nx d row st h e hn ce sl) (fun q _ ih e => zx_eq e v (zx_c q.1) (fun e => zx_jp M nx q.2 row st h e hn ce sl) ih) l
noncomputable def zh_sw : Bool := zx_p1 st (fun v st => bif zx_ii v then zx_at zx_SW a (fun q => zx_sw M nx row h hn ce sl q.2 q.1 v st e) else false)
noncomputable def zh_get : Bool := zx_p1 st (fun r st => bif Nat.beq (zx_kd r) 2 then zx_hg h (zx_pl r) (fun c => bif Nat.beq (zx_hd c) a then zx_fn (zx_og c b) (fun v => nx cur np row (v :: st) h e hn ce sl) else false) else false)
noncomputable def zh_put : Bool := zx_p2 st (fun v r st => bif Nat.beq (zx_kd r) 2 && zx_kc (Nat.shiftRight a 20) v then zx_no e v (fun v => zx_hg h (zx_pl r) (fun c => bif Nat.beq (zx_hd c) (zx_hd a) then zx_fn (zx_os c b v) (fun c => zx_hs h (zx_pl r) c (fun h => nx cur np row st h e hn ce sl)) else false)) else false)
noncomputable def zh_str : Bool := zx_p1 st (fun r st => bif Nat.beq r 22 || Nat.beq r 54 then (bif Nat.beq a 0 then nx cur np row (Nat.add r 16 :: st) h e hn ce sl else nx cur np row (4 :: st) h e hn ce sl) else false)
noncomputable def zx_mk (c n : Nat) (st : List Nat) : Bool := bif Nat.blt hn 65536 && (Nat.ble (Nat.succ ce) M.2.1.2.2.2.1 && Nat.ble (Nat.add sl n) M.2.1.2.2.2.2.1) then zx_hs h hn c (fun h => zx_fn (Nat.add (Nat.mul hn 16) 2) (fun r => zx_fn (Nat.succ hn) (fun hn => zx_fn (Nat.succ ce) (fun ce => zx_fn (Nat.add sl n) (fun sl => nx cur np row (r :: st) h e hn ce sl))))) else false
noncomputable def zh_new : Bool := zx_mk M nx np cur row h e hn ce sl a b st
noncomputable def zh_arr : Bool := zx_p1 st (fun n st => zx_no e n (fun n => bif Nat.beq (zx_kd n) 4 && Nat.blt (zx_pl n) 65536 then zx_fn (Nat.add a (Nat.mul (zx_pl n) 16)) (fun c => zx_mk M nx np cur row h e hn ce sl c (zx_pl n) st) else false))
noncomputable def zh_len : Bool := zx_p1 st (fun r st => bif Nat.beq (zx_kd r) 2 then zx_hg h (zx_pl r) (fun c => bif Nat.beq (zx_tg c) 7 || Nat.ble 9 (zx_tg c) then false else zx_fn (zx_c (zx_cn c)) (fun v => nx cur np row (v :: st) h e hn ce sl)) else
  bif Nat.beq r 6 && Nat.beq (zx_eg e 63) 9223372043297226753 then nx cur np row (100 :: st) h e hn ce sl else bif Nat.beq r 38 || Nat.beq r 70 then zx_fn (zx_c (zx_xl (zx_pl r))) (fun v => nx cur np row (v :: st) h e hn ce sl) else false)
noncomputable def zh_ald : Bool := zx_p2 st (fun i0 r st' => bif zx_ii i0 then zx_no e i0 (fun i =>
  bif Nat.beq (zx_kd r) 2 then zx_hg h (zx_pl r) (fun c =>
    bif zx_kc a (zx_tg c) then
      (bif Nat.beq (zx_kd i) 4 && (Nat.blt (zx_pl i) (zx_cn c) && Nat.blt (zx_tg c) 3) then zx_fn (zx_c (zx_ig c (zx_pl i))) (fun v => nx cur np row (v :: st') h e hn ce sl) else
      bif Nat.beq (zx_kd i) 1 && Nat.blt (zx_tg c) 3 then zx_sp e i (fun e => nx cur0 pc row st h e hn ce sl) else
      bif zx_in e i (zx_cn c) then nx cur np row (zx_un :: st') h e hn ce sl else false) else false) else
  bif Nat.beq r 6 && Nat.beq (zx_eg e 63) 9223372043297226753 then (bif Nat.beq a 9 && (Nat.beq (zx_kd i) 4 && Nat.blt (zx_pl i) 6) then zx_fn (Nat.add (Nat.mul (zx_pl i) 16) 1) (fun v => nx cur np row (v :: st') h e hn ce sl) else false) else
  bif Nat.beq r 38 || Nat.beq r 70 then (bif Nat.beq a 54 && (Nat.beq (zx_kd i) 4 && Nat.blt (zx_pl i) (zx_xl (zx_pl r))) then zx_fn (zx_c (zx_dg 0 8 256 (zx_xb (zx_pl r)) (zx_pl i))) (fun v => nx cur np row (v :: st') h e hn ce sl) else false) else false) else false)
noncomputable def zh_ast : Bool := zx_p3 st (fun v i r st => bif zx_ii v && (zx_ii i && Nat.beq (zx_kd r) 2) then zx_no e v (fun v => zx_no e i (fun i => zx_hg h (zx_pl r) (fun c =>
    bif zx_kc a (zx_tg c) then
      (bif Nat.beq (zx_kd v) 4 && (Nat.beq (zx_kd i) 4 && (Nat.blt (zx_pl i) (zx_cn c) && Nat.blt (zx_tg c) 3)) then zx_fn (zx_is c (zx_pl i) (zx_nr (zx_tg c) (zx_pl v))) (fun c => zx_hs h (zx_pl r) c (fun h => nx cur np row st h e hn ce sl)) else
      bif zx_in e i (zx_cn c) then zx_fn (zx_uk (Nat.mod (zx_tg c) 3) (zx_cn c)) (fun c => zx_hs h (zx_pl r) c (fun h => nx cur np row st h e hn ce sl)) else false) else false))) else false)
noncomputable def zh_lald : Bool := zx_p2 st (fun i r st => bif zx_ii i && Nat.beq (zx_kd r) 2 then zx_hg h (zx_pl r) (fun c => bif Nat.beq (zx_tg c) 6 && zx_in e i (zx_cn c) then nx cur np row (5 :: st) h e hn ce sl else false) else false)
noncomputable def zh_last : Bool := zx_p3 st (fun v i r st => bif Nat.beq v 5 && (zx_ii i && Nat.beq (zx_kd r) 2) then zx_hg h (zx_pl r) (fun c => bif Nat.beq (zx_tg c) 6 && zx_in e i (zx_cn c) then nx cur np row st h e hn ce sl else false) else false)
noncomputable def zh_rald : Bool := zx_p2 st (fun i0 r st' => bif zx_ii i0 && Nat.beq (zx_kd r) 2 then zx_no e i0 (fun i => zx_hg h (zx_pl r) (fun c => bif Nat.beq (zx_tg c) 8 then
    (bif Nat.beq (zx_kd i) 4 && Nat.blt (zx_pl i) (zx_cn c) then zx_fn (zx_og c (zx_pl i)) (fun v => nx cur np row ((bif Nat.beq v 0 then 3 else v) :: st') h e hn ce sl) else zx_sp e i (fun e => nx cur0 pc row st h e hn ce sl)) else false)) else false)
noncomputable def zh_rast : Bool := zx_p3 st (fun v i r st => bif Nat.beq (zx_kd v) 2 && (zx_ii i && Nat.beq (zx_kd r) 2) then zx_no e i (fun i => zx_hg h (zx_pl r) (fun c => zx_hg h (zx_pl v) (fun cv => bif Nat.beq (zx_tg c) 8 && (Nat.beq (zx_hd cv) 135 && (Nat.beq (zx_kd i) 4 && Nat.blt (zx_pl i) (zx_cn c))) then zx_fn (zx_os c (zx_pl i) v) (fun c => zx_hs h (zx_pl r) c (fun h => nx cur np row st h e hn ce sl)) else false))) else false)
/-- words of a stack -/
noncomputable def zx_wd (st : List Nat) : Nat := @List.rec Nat (fun _ => Nat) 0 (fun v _ ih => Nat.add (bif Nat.beq (zx_kd v) 5 then 2 else 1) ih) st
noncomputable def zh_obj : Bool := zx_p1 st (fun r st => bif Nat.beq (zx_kd r) 2 && Nat.ble (zx_wd st) 8 then nx cur np row st h e hn ce sl else false)
noncomputable def zh_cpy : Bool := zx_p3 st (fun n dp dst st => zx_p2 st (fun sp src st => bif Nat.beq (zx_kd src) 2 && (Nat.beq (zx_kd dst) 2 && (Nat.beq sp 4 && (Nat.beq dp 4 && Nat.ble (zx_wd st) 8))) then
  zx_hg h (zx_pl src) (fun c => zx_hg h (zx_pl dst) (fun c1 => bif Nat.beq (zx_tg c) 0 && (Nat.beq (zx_hd c) (zx_hd c1) && Nat.beq n (zx_c (zx_cn c))) then zx_hs h (zx_pl dst) c (fun h => nx cur np row st h e hn ce sl) else false)) else false))
/-- the arguments of a call: n of them from the stack, the last first -/
noncomputable def zx_tk (n : Nat) (e : Nat) : List Nat → List Nat → (List Nat → List Nat → Bool) → Bool := @Nat.rec (fun _ => List Nat → List Nat → (List Nat → List Nat → Bool) → Bool) (fun acc st k => k acc st) (fun _ ih acc st k => zx_p1 st (fun v st => zx_no e v (fun v => ih (v :: acc) st k))) n
/-- the row of locals with which a method begins -/
noncomputable def zx_rw (l : List Nat) : Nat := @List.rec Nat (fun _ => Nat) 0 (fun v _ ih => Nat.add v (Nat.mul (bif Nat.beq (zx_kd v) 5 then 22300745198530623141535718272648361505980416 else 4722366482869645213696) ih)) l
noncomputable def zx_rc (y : zx_M) (l : List Nat) (h : zx_H) (k : Bool) : Bool := bif Nat.beq y.2.1.2.1 0 then zx_p1 l (fun r _ => bif Nat.beq (zx_kd r) 2 then zx_hg h (zx_pl r) (fun c => bif Nat.beq (zx_hd c) (Nat.add (Nat.mul y.2.1.1 16) 7) then k else false) else bif (Nat.beq r 22 || Nat.beq r 54) && Nat.beq y.2.1.1 14 then k else false) else
  bif Nat.beq y.2.1.2.1 2 then zx_p1 l (fun r _ => bif Nat.beq (zx_kd r) 2 then k else false) else k
noncomputable def zh_inv : Bool := zx_at zx_mt (Nat.div a 16) (fun l => zx_at l (Nat.mod a 16) (fun y => zx_tk y.2.1.2.2.1 e [] st (fun as st =>
  bif Nat.ble (zx_wd st) 8 && (Nat.ble (zx_wd as) y.1.2.2.1 && (Nat.ble (Nat.add ce y.2.1.2.2.2.1) M.2.1.2.2.2.1 && Nat.ble (Nat.add sl y.2.1.2.2.2.2.1) M.2.1.2.2.2.2.1)) then
  zx_rc y as h (zx_fn (zx_rw as) (fun r0 => call y (fun r h e hn => zx_fn (Nat.add ce y.2.1.2.2.2.1) (fun ce => zx_fn (Nat.add sl y.2.1.2.2.2.2.1) (fun sl => nx cur np row (@List.rec Nat (fun _ => List Nat) st (fun v _ _ => v :: st) r) h e hn ce sl))) [] 0 r0 [] h e hn 0 0)) else false)))
/-- what may be given back: 0 nothing, 1 an int, 2 a boolean, 3 a char, 4 a byte, 5 a long, 6 a reference -/
noncomputable def zx_rt (r e v : Nat) : Bool := bif Nat.beq r 1 then zx_ii v else bif Nat.beq r 2 then zx_iv e v (fun l h => Nat.ble 2147483648 l && Nat.ble h 2147483649) else bif Nat.beq r 3 then zx_iv e v (fun l h => Nat.ble 2147483648 l && Nat.ble h 2147549183) else
  bif Nat.beq r 4 then zx_iv e v (fun l h => Nat.ble 2147483520 l && Nat.ble h 2147483775) else bif Nat.beq r 5 then Nat.beq v 5 else bif Nat.beq r 6 then zx_kc 332 v else false
noncomputable def zh_ret : Bool := zx_p1 st (fun v st => @List.rec Nat (fun _ => Bool) (zx_no e v (fun v => bif zx_rt M.2.1.2.2.2.2.2 e v && (Nat.ble ce M.2.1.2.2.2.1 && Nat.ble sl M.2.1.2.2.2.2.1) then K [v] h e hn else false)) (fun _ _ _ => false) st)
noncomputable def zh_rtv : Bool := @List.rec Nat (fun _ => Bool) (bif Nat.beq M.2.1.2.2.2.2.2 0 && (Nat.ble ce M.2.1.2.2.2.1 && Nat.ble sl M.2.1.2.2.2.2.1) then K [] h e hn else false) (fun _ _ _ => false) st
end ZH
