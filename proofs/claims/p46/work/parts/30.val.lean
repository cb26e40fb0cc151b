/-! A typed walker. Values: 16 * payload + kind. Kinds as in the first walker but: 1 a named int and a constant more (payload: name + 256 * constant as 32 bits), 2 a reference (payload: name, 0 for none, + 256 * group), 5 a long (payload 0: some; 2 n + 1: the long named n; 2 n + 2: the n-th long constant), 11 a named int n changed (payload: n + 256 * (s + 16 * c); s 0: 16 n + c, 1: n and (n - 1), 2: n and c, 3: not n, 4: not n and (n - 1), 5: the rest of n by c), 12 what lcmp says of a named long and a constant (payload: name + 256 * constant), 13 a named int shifted right by a constant, 14 the last bit of that, 15 a named int xor a constant below 2^31. -/
def zy_k1 (v : Nat) : Nat := Nat.mod (Nat.div v 16) 256
def zy_o1 (v : Nat) : Nat := Nat.div (Nat.div v 16) 256
def zy_mx (a b : Nat) : Nat := bif Nat.ble a b then b else a
def zy_mn (a b : Nat) : Nat := bif Nat.ble a b then a else b
def zy_c7v (l h : Nat) : Nat := Nat.add (Nat.mul (zx_bd l h) 16) 7
/-- bounds of a named int -/
noncomputable def zy_ivn (e n : Nat) (k : Nat → Nat → Bool) : Bool := zx_fn (zx_eg e n) (fun c => bif Nat.beq c 0 then false else zx_fn (Nat.div c 4294967296) (fun l => zx_fn (Nat.mod c 4294967296) (fun h => k l h)))
/-- bounds of a changed int -/
noncomputable def zy_w11 (s c l h : Nat) (k : Nat → Nat → Bool) : Bool :=
  bif Nat.beq s 0 then (bif Nat.ble 2147483648 l && (Nat.ble h 2148532224 && Nat.blt c 1048576) then zx_fn (Nat.add (Nat.add 2147483648 c) (Nat.mul 16 (Nat.sub l 2147483648))) (fun l => zx_fn (Nat.add (Nat.add 2147483648 c) (Nat.mul 16 (Nat.sub h 2147483648))) (fun h => k l h)) else k 0 4294967295) else
  bif Nat.ble s 2 then (bif Nat.ble 2147483648 l then k 2147483648 h else k 0 4294967295) else
  bif Nat.beq s 3 then zx_fn (Nat.sub 4294967295 h) (fun l' => zx_fn (Nat.sub 4294967295 l) (fun h' => k l' h')) else
  bif Nat.beq s 4 then (bif Nat.ble 2147483649 l && Nat.ble h 2147484671 then k 2147483648 2147484159 else k 0 4294967295) else
  bif Nat.blt 0 c && (Nat.blt c 2147483648 && Nat.ble 2147483648 l) then zx_fn (zy_mn h (Nat.add 2147483647 c)) (fun h => k 2147483648 h) else k 0 4294967295
/-- bounds of an int -/
noncomputable def zy_iv (e v : Nat) (k : Nat → Nat → Bool) : Bool :=
  bif Nat.beq (zx_kd v) 4 then zx_fn (zx_bi (zx_pl v)) (fun b => k b b) else
  bif Nat.beq (zx_kd v) 7 then zx_fn (zx_pl v) (fun c => zx_fn (Nat.div c 4294967296) (fun l => zx_fn (Nat.mod c 4294967296) (fun h => k l h))) else
  bif Nat.beq (zx_kd v) 1 then zy_ivn e (zy_k1 v) (fun l h => zx_fn (zy_o1 v) (fun o =>
    bif Nat.beq o 0 then k l h else
    bif Nat.blt o 2147483648 then (bif Nat.blt (Nat.add h o) 4294967296 then zx_fn (Nat.add l o) (fun l => zx_fn (Nat.add h o) (fun h => k l h)) else k 0 4294967295) else
    bif Nat.ble (Nat.sub 4294967296 o) l then zx_fn (Nat.sub l (Nat.sub 4294967296 o)) (fun l => zx_fn (Nat.sub h (Nat.sub 4294967296 o)) (fun h => k l h)) else k 0 4294967295)) else
  bif Nat.beq (zx_kd v) 14 then k 2147483648 2147483649 else
  bif Nat.beq (zx_kd v) 13 then zy_ivn e (zy_k1 v) (fun l h => bif Nat.ble 2147483648 l then zx_fn (Nat.add 2147483648 (Nat.div (Nat.sub h 2147483648) (Nat.pow 2 (zy_o1 v)))) (fun h => k 2147483648 h) else k 0 4294967295) else
  bif Nat.beq (zx_kd v) 11 then zy_ivn e (zy_k1 v) (fun l h => zx_fn (Nat.mod (zy_o1 v) 16) (fun s => zx_fn (Nat.div (zy_o1 v) 16) (fun c => zy_w11 s c l h k))) else
  bif Nat.beq (zx_kd v) 12 || Nat.beq (zx_kd v) 15 then k 0 4294967295 else false
/-- a named int is known to lie between l and h as well -/
noncomputable def zy_up (e n l h : Nat) (k : Nat → Bool) : Bool := zy_ivn e n (fun lv hv => bif Nat.ble (zy_mx l lv) (zy_mn h hv) then zx_fn (zx_es e n (zx_bd (zy_mx l lv) (zy_mn h hv))) k else true)
/-- an int is known to lie between l and h: what is known of its name then -/
noncomputable def zy_rf (e v l h : Nat) (k : Nat → Bool) : Bool :=
  bif Nat.beq (zx_kd v) 1 then zy_ivn e (zy_k1 v) (fun lv hv => zx_fn (zy_o1 v) (fun o =>
    bif Nat.beq o 0 then zy_up e (zy_k1 v) l h k else
    bif Nat.blt o 2147483648 then (bif Nat.blt (Nat.add hv o) 4294967296 then (bif Nat.ble o h then zy_up e (zy_k1 v) (Nat.sub l o) (Nat.sub h o) k else true) else k e) else
    bif Nat.ble (Nat.sub 4294967296 o) lv then zy_up e (zy_k1 v) (Nat.add l (Nat.sub 4294967296 o)) (Nat.add h (Nat.sub 4294967296 o)) k else k e)) else
  bif Nat.beq (zx_kd v) 14 && Nat.ble 2147483649 l then zy_ivn e (zy_k1 v) (fun lv _ => bif Nat.ble 2147483648 lv then zy_up e (zy_k1 v) (Nat.add 2147483648 (Nat.pow 2 (zy_o1 v))) 4294967295 k else k e) else
  bif Nat.beq (zx_kd v) 15 && Nat.ble 2147483648 l then zy_up e (zy_k1 v) 2147483648 4294967295 k else
  bif Nat.beq (zx_kd v) 15 && Nat.blt h 2147483648 then zy_up e (zy_k1 v) 0 2147483647 k else
  bif Nat.beq (zx_kd v) 11 then zx_fn (Nat.mod (zy_o1 v) 16) (fun s => zx_fn (Nat.div (zy_o1 v) 16) (fun c =>
    bif Nat.beq s 2 && (Nat.beq l 2147483648 && (Nat.beq h 2147483648 && (Nat.blt 0 (Nat.sub 4294967296 c) && (Nat.blt (Nat.sub 4294967296 c) 2147483648 && Nat.beq (Nat.pow 2 (Nat.log2 (Nat.sub 4294967296 c))) (Nat.sub 4294967296 c))))) then zy_up e (zy_k1 v) 2147483648 (Nat.add 2147483648 (Nat.sub 4294967295 c)) k else
    bif Nat.beq s 5 && (Nat.blt 0 c && Nat.blt c 2147483648) then zy_ivn e (zy_k1 v) (fun lv hv => bif Nat.ble 2147483648 lv then
      (bif Nat.ble 2147483649 l then zy_up e (zy_k1 v) 2147483649 4294967295 k else
       bif Nat.blt (Nat.succ h) (Nat.add 2147483648 c) && Nat.beq (Nat.mod (Nat.sub hv 2147483648) c) (Nat.pred c) then zy_up e (zy_k1 v) 0 (Nat.pred hv) k else k e) else k e) else k e)) else k e
/-- an int of any kind -/
def zy_ii (v : Nat) : Bool := zx_kc 63634 v
/-- a value as it is known now: known ints as such -/
noncomputable def zy_n1 (e v : Nat) (k : Nat → Bool) : Bool :=
  bif zx_kc 63618 v then zy_iv e v (fun l h => bif Nat.beq l h then zx_fn (zx_c (zx_bi l)) k else k v) else k v
/-- the same, to be kept: kinds 11 to 15 by their bounds, but n and (n - 1) -/
noncomputable def zy_no (e v : Nat) (k : Nat → Bool) : Bool :=
  bif zx_kc 63618 v then zy_iv e v (fun l h => bif Nat.beq l h then zx_fn (zx_c (zx_bi l)) k else bif zx_kc 63488 v && !(Nat.beq (zx_kd v) 11 && Nat.beq (Nat.mod (zy_o1 v) 16) 1) then zx_fn (zy_c7v l h) k else k v) else k v
/-- two ints, by their bounds -/
noncomputable def zy_w2 (e x y : Nat) (f : Nat → Nat → Nat → Nat → (Nat → Bool) → Bool) (k : Nat → Bool) : Bool := zy_iv e x (fun l1 h1 => zy_iv e y (fun l2 h2 => f l1 h1 l2 h2 k))
/-- both known: f; else by their bounds: g -/
noncomputable def zy_b2 (f : Nat → Nat → Nat) (g : Nat → Nat → Nat → Nat → (Nat → Bool) → Bool) (e x y : Nat) (k : Nat → Bool) : Bool :=
  bif Nat.beq (zx_kd x) 4 && Nat.beq (zx_kd y) 4 then zx_fn (zx_c (f (zx_pl x) (zx_pl y))) k else zy_w2 e x y g k
noncomputable def zy_wadd (l1 h1 l2 h2 : Nat) (k : Nat → Bool) : Bool := bif Nat.ble 2147483648 (Nat.add l1 l2) && Nat.blt (Nat.add h1 h2) 6442450944 then zx_fn (zy_c7v (Nat.sub (Nat.add l1 l2) 2147483648) (Nat.sub (Nat.add h1 h2) 2147483648)) k else k zx_un
noncomputable def zy_wsub (l1 h1 l2 h2 : Nat) (k : Nat → Bool) : Bool := bif Nat.ble h2 (Nat.add l1 2147483648) && Nat.blt (Nat.add h1 2147483648) (Nat.add 4294967296 l2) then zx_fn (zy_c7v (Nat.sub (Nat.add l1 2147483648) h2) (Nat.sub (Nat.add h1 2147483648) l2)) k else k zx_un
noncomputable def zy_wmul (l1 h1 l2 h2 : Nat) (k : Nat → Bool) : Bool := bif Nat.ble 2147483648 l1 && (Nat.ble 2147483648 l2 && Nat.blt (Nat.mul (Nat.sub h1 2147483648) (Nat.sub h2 2147483648)) 2147483648) then zx_fn (zy_c7v (Nat.add 2147483648 (Nat.mul (Nat.sub l1 2147483648) (Nat.sub l2 2147483648))) (Nat.add 2147483648 (Nat.mul (Nat.sub h1 2147483648) (Nat.sub h2 2147483648)))) k else k zx_un
noncomputable def zy_wand (l1 h1 l2 h2 : Nat) (k : Nat → Bool) : Bool := bif Nat.ble 2147483648 l1 then (bif Nat.ble 2147483648 l2 then zx_fn (zy_c7v 2147483648 (zy_mn h1 h2)) k else zx_fn (zy_c7v 2147483648 h1) k) else bif Nat.ble 2147483648 l2 then zx_fn (zy_c7v 2147483648 h2) k else k zx_un
def zy_pw (n : Nat) : Nat := Nat.sub (Nat.pow 2 (Nat.succ (Nat.log2 n))) 1
noncomputable def zy_wor (l1 h1 l2 h2 : Nat) (k : Nat → Bool) : Bool := bif Nat.ble 2147483648 l1 && Nat.ble 2147483648 l2 then zx_fn (zy_c7v 2147483648 (Nat.add 2147483648 (zy_pw (zy_mx (Nat.sub h1 2147483648) (Nat.sub h2 2147483648))))) k else k zx_un
noncomputable def zy_wshl (l1 h1 l2 h2 : Nat) (k : Nat → Bool) : Bool := bif Nat.ble 2147483648 l1 && (Nat.ble 2147483648 l2 && (Nat.blt h2 2147483680 && Nat.blt (Nat.mul (Nat.sub h1 2147483648) (Nat.pow 2 (Nat.sub h2 2147483648))) 2147483648)) then zx_fn (zy_c7v (Nat.add 2147483648 (Nat.mul (Nat.sub l1 2147483648) (Nat.pow 2 (Nat.sub l2 2147483648)))) (Nat.add 2147483648 (Nat.mul (Nat.sub h1 2147483648) (Nat.pow 2 (Nat.sub h2 2147483648))))) k else k zx_un
noncomputable def zy_wshr (l1 h1 _ _ : Nat) (k : Nat → Bool) : Bool := bif Nat.ble 2147483648 l1 then zx_fn (zy_c7v 2147483648 h1) k else k zx_un
noncomputable def zy_wxor (l1 h1 l2 _ : Nat) (k : Nat → Bool) : Bool := bif Nat.ble 2147483648 l2 then (bif Nat.ble 2147483648 l1 then zx_fn (zy_c7v 2147483648 4294967295) k else bif Nat.blt h1 2147483648 then zx_fn (zy_c7v 0 2147483647) k else k zx_un) else k zx_un
noncomputable def zy_wushr (l1 h1 l2 h2 : Nat) (k : Nat → Bool) : Bool := bif Nat.ble 2147483648 l1 && (Nat.beq l2 h2 && (Nat.ble 2147483648 l2 && Nat.blt l2 2147483680)) then zx_fn (zy_c7v (Nat.add 2147483648 (Nat.div (Nat.sub l1 2147483648) (Nat.pow 2 (Nat.sub l2 2147483648)))) (Nat.add 2147483648 (Nat.div (Nat.sub h1 2147483648) (Nat.pow 2 (Nat.sub l2 2147483648))))) k else k zx_un
noncomputable def zy_wun (_ _ _ _ : Nat) (k : Nat → Bool) : Bool := k zx_un
/-- a divisor that is not 0 -/
def zy_nz (l h : Nat) : Bool := Nat.blt 2147483648 l || Nat.blt h 2147483648
noncomputable def zy_wdiv (l1 h1 l2 h2 : Nat) (k : Nat → Bool) : Bool := bif zy_nz l2 h2 then (bif Nat.ble 2147483648 l1 && (Nat.beq l2 h2 && Nat.blt 2147483648 l2) then zx_fn (zy_c7v (Nat.add 2147483648 (Nat.div (Nat.sub l1 2147483648) (Nat.sub l2 2147483648))) (Nat.add 2147483648 (Nat.div (Nat.sub h1 2147483648) (Nat.sub l2 2147483648)))) k else k zx_un) else false
noncomputable def zy_wrem (l1 h1 l2 h2 : Nat) (k : Nat → Bool) : Bool := bif zy_nz l2 h2 then (bif Nat.beq l2 h2 && Nat.blt 2147483648 l2 then (bif Nat.ble 2147483648 l1 then zx_fn (zy_c7v 2147483648 (zy_mn h1 (Nat.pred l2))) k else bif Nat.ble h1 2147483648 then zx_fn (zy_c7v (Nat.sub 4294967297 l2) 2147483648) k else zx_fn (zy_c7v (Nat.sub 4294967297 l2) (Nat.pred l2)) k) else k zx_un) else false
/-- a changed int -/
def zy_ch (n s c : Nat) : Nat := Nat.add (Nat.mul (Nat.add n (Nat.mul 256 (Nat.add s (Nat.mul 16 c)))) 16) 11
def zy_nm (n o : Nat) : Nat := Nat.add (Nat.mul (Nat.add n (Nat.mul 256 o)) 16) 1
/-- a named int and a known one -/
noncomputable def zy_ad (e x y : Nat) (k : Nat → Bool) : Bool :=
  bif Nat.beq (zx_kd x) 1 && Nat.beq (zx_kd y) 4 then zx_fn (zy_nm (zy_k1 x) (zx_f0 (zy_o1 x) (zx_pl y))) k else
  bif Nat.beq (zx_kd y) 1 && Nat.beq (zx_kd x) 4 then zx_fn (zy_nm (zy_k1 y) (zx_f0 (zy_o1 y) (zx_pl x))) k else
  bif Nat.beq (zx_kd x) 11 && (Nat.beq (Nat.mod (zy_o1 x) 16) 0 && (Nat.beq (zx_kd y) 4 && Nat.blt (zx_pl y) 65536)) then zx_fn (zy_ch (zy_k1 x) 0 (zx_f0 (Nat.div (zy_o1 x) 16) (zx_pl y))) k else zy_b2 zx_f0 zy_wadd e x y k
noncomputable def zy_sb (e x y : Nat) (k : Nat → Bool) : Bool :=
  bif Nat.beq (zx_kd x) 1 && Nat.beq (zx_kd y) 4 then zx_fn (zy_nm (zy_k1 x) (zx_f1 (zy_o1 x) (zx_pl y))) k else zy_b2 zx_f1 zy_wsub e x y k
/-- 16 times a named int -/
noncomputable def zy_ml (e x y : Nat) (k : Nat → Bool) : Bool := bif Nat.beq x 260 && (Nat.beq (zx_kd y) 1 && Nat.beq (zy_o1 y) 0) then zx_fn (zy_ch (zy_k1 y) 0 0) k else zy_b2 zx_f2 zy_wmul e x y k
noncomputable def zy_an (e x y : Nat) (k : Nat → Bool) : Bool :=
  bif Nat.beq (zx_kd x) 13 && Nat.beq y 20 then k (Nat.succ x) else
  bif Nat.beq (zx_kd x) 1 && (Nat.beq (zy_o1 x) 0 && (Nat.beq (zx_kd y) 4 && (Nat.blt 2147483648 (zx_pl y) && Nat.blt (zx_pl y) 4294967295))) then zx_fn (zy_ch (zy_k1 x) 2 (zx_pl y)) k else
  bif Nat.beq (zx_kd x) 1 && (Nat.beq (zy_o1 x) 0 && Nat.beq y (zy_nm (zy_k1 x) 4294967295)) then zx_fn (zy_ch (zy_k1 x) 1 0) k else
  bif Nat.beq (zx_kd x) 11 && (Nat.beq (Nat.mod (zy_o1 x) 16) 3 && Nat.beq y (zy_nm (zy_k1 x) 4294967295)) then zx_fn (zy_ch (zy_k1 x) 4 0) k else
  bif Nat.beq y 68719476724 && zx_kc 146 x then k x else bif Nat.beq x 68719476724 && zx_kc 146 y then k y else zy_b2 Nat.land zy_wand e x y k
noncomputable def zy_xr (e x y : Nat) (k : Nat → Bool) : Bool :=
  bif Nat.beq (zx_kd x) 1 && (Nat.beq (zy_o1 x) 0 && Nat.beq y 68719476724) then zx_fn (zy_ch (zy_k1 x) 3 0) k else
  bif Nat.beq (zx_kd x) 1 && (Nat.beq (zy_o1 x) 0 && (Nat.beq (zx_kd y) 4 && Nat.blt (zx_pl y) 2147483648)) then zx_fn (Nat.add (Nat.mul (Nat.add (zy_k1 x) (Nat.mul 256 (zx_pl y))) 16) 15) k else zy_b2 Nat.xor zy_wxor e x y k
noncomputable def zy_sh (f : Nat → Nat → Nat) (g : Nat → Nat → Nat → Nat → (Nat → Bool) → Bool) (e x y : Nat) (k : Nat → Bool) : Bool :=
  bif Nat.beq (zx_kd x) 4 && (Nat.beq (zx_kd y) 4 && Nat.blt (zx_pl y) 32) then zx_fn (zx_c (f (zx_pl x) (zx_pl y))) k else zy_w2 e x y g k
noncomputable def zy_sr (e x y : Nat) (k : Nat → Bool) : Bool :=
  bif Nat.beq (zx_kd x) 1 && (Nat.beq (zy_o1 x) 0 && (Nat.beq (zx_kd y) 4 && Nat.blt (zx_pl y) 31)) then zx_fn (Nat.add (Nat.mul (Nat.add (zy_k1 x) (Nat.mul 256 (zx_pl y))) 16) 13) k else zy_sh zx_g7 zy_wshr e x y k
noncomputable def zy_dv (f : Nat → Nat → Nat) (g : Nat → Nat → Nat → Nat → (Nat → Bool) → Bool) (e x y : Nat) (k : Nat → Bool) : Bool :=
  bif Nat.beq (zx_kd x) 4 && (Nat.beq (zx_kd y) 4 && (Nat.blt (zx_pl x) 2147483648 && (Nat.blt 0 (zx_pl y) && Nat.blt (zx_pl y) 2147483648))) then zx_fn (zx_c (f (zx_pl x) (zx_pl y))) k else zy_w2 e x y g k
/-- the rest by a constant -/
noncomputable def zy_rm (e x y : Nat) (k : Nat → Bool) : Bool :=
  bif Nat.beq (zx_kd x) 1 && (Nat.beq (zy_o1 x) 0 && (Nat.beq (zx_kd y) 4 && (Nat.blt 0 (zx_pl y) && Nat.blt (zx_pl y) 2147483648))) then zy_iv e x (fun l _ => bif Nat.ble 2147483648 l then zx_fn (zy_ch (zy_k1 x) 5 (zx_pl y)) k else zy_dv Nat.mod zy_wrem e x y k) else zy_dv Nat.mod zy_wrem e x y k
/-- a byte, a char: as it is, if it fits -/
noncomputable def zy_u1 (f : Nat → Nat) (lo hi : Nat) (e x : Nat) (k : Nat → Bool) : Bool := bif Nat.beq (zx_kd x) 4 then zx_fn (zx_c (f (zx_pl x))) k else zy_iv e x (fun l h => bif Nat.ble lo l && Nat.ble h hi then k x else zx_fn (zy_c7v lo hi) k)
noncomputable def zy_ng (e x : Nat) (k : Nat → Bool) : Bool := zy_iv e x (fun l h => bif Nat.ble 1 l then zx_fn (zy_c7v (Nat.sub 4294967296 h) (Nat.sub 4294967296 l)) k else k zx_un)
/-- which way a comparison goes, with what is known then -/
noncomputable def zy_lt (e x y : Nat) (kt kf : Nat → Bool) : Bool := zy_iv e x (fun l1 h1 => zy_iv e y (fun l2 h2 =>
  bif Nat.blt h1 l2 then kt e else bif Nat.ble h2 l1 then kf e else
  (zy_rf e x l1 (zy_mn h1 (Nat.pred h2)) (fun e => zy_rf e y (zy_mx l2 (Nat.succ l1)) h2 kt)) && (zy_rf e x (zy_mx l1 l2) h1 (fun e => zy_rf e y l2 (zy_mn h2 h1) kf))))
noncomputable def zy_eq (e x y : Nat) (kt kf : Nat → Bool) : Bool := zy_iv e x (fun l1 h1 => zy_iv e y (fun l2 h2 =>
  bif Nat.blt h1 l2 || Nat.blt h2 l1 then kf e else bif Nat.beq l1 h1 && Nat.beq l2 h2 then kt e else
  bif zx_kc 2 x && Nat.beq x y then kt e else
  (zy_rf e x (zy_mx l1 l2) (zy_mn h1 h2) (fun e => zy_rf e y (zy_mx l1 l2) (zy_mn h1 h2) kt)) &&
  (bif Nat.beq l2 h2 then (bif Nat.blt l1 l2 then zy_rf e x l1 (Nat.pred l2) kf else true) && (bif Nat.blt l2 h1 then zy_rf e x (Nat.succ l2) h1 kf else true) else
   bif Nat.beq l1 h1 then (bif Nat.blt l2 l1 then zy_rf e y l2 (Nat.pred l1) kf else true) && (bif Nat.blt l1 h2 then zy_rf e y (Nat.succ l1) h2 kf else true) else kf e)))
/-- conditions: 0 lt, 1 ge, 2 gt, 3 le, 4 eq, 5 ne -/
noncomputable def zy_cm (c e x y : Nat) (kt kf : Nat → Bool) : Bool :=
  bif Nat.ble c 1 then (bif Nat.beq c 0 then zy_lt e x y kt kf else zy_lt e x y kf kt) else
  bif Nat.ble c 3 then (bif Nat.beq c 2 then zy_lt e y x kt kf else zy_lt e y x kf kt) else
  (bif Nat.beq c 4 then zy_eq e x y kt kf else zy_eq e x y kf kt)
/-- a place of an array of n: surely within -/
noncomputable def zy_in (e i n : Nat) : Bool := zy_iv e i (fun l h => Nat.ble 2147483648 l && Nat.blt h (Nat.add n 2147483648))
/-- one of few (64 at most): each by itself -/
noncomputable def zy_sn (e i l : Nat) (k : Nat → Bool) (n : Nat) : Bool := @Nat.rec (fun _ => Bool) true (fun d ih => zx_fn (Nat.add l d) (fun v => zy_rf e i v v k) && ih) n
noncomputable def zy_sp (e i : Nat) (k : Nat → Bool) : Bool := zy_iv e i (fun l h => bif Nat.beq (zx_kd i) 1 && Nat.blt h (Nat.add l 64) then zy_sn e i l k (Nat.sub (Nat.succ h) l) else false)
/-! sums and their like, where nothing wraps -/
theorem zy_ti_add {x y : Int32} (h1 : -2147483648 ≤ x.toInt + y.toInt) (h2 : x.toInt + y.toInt < 2147483648) : (x + y).toInt = x.toInt + y.toInt := by
  rw [Int32.toInt_add]
  show Int.bmod (x.toInt + y.toInt) 4294967296 = _
  simp only [Int.bmod_def]
  split <;> omega
theorem zy_ti_sub {x y : Int32} (h1 : -2147483648 ≤ x.toInt - y.toInt) (h2 : x.toInt - y.toInt < 2147483648) : (x - y).toInt = x.toInt - y.toInt := by
  rw [Int32.toInt_sub]
  show Int.bmod (x.toInt - y.toInt) 4294967296 = _
  simp only [Int.bmod_def]
  split <;> omega
theorem zy_ti_mul {x y : Int32} (h1 : -2147483648 ≤ x.toInt * y.toInt) (h2 : x.toInt * y.toInt < 2147483648) : (x * y).toInt = x.toInt * y.toInt := by
  rw [Int32.toInt_mul]
  show Int.bmod (x.toInt * y.toInt) 4294967296 = _
  simp only [Int.bmod_def]
  split <;> omega
theorem zy_ti_neg {x : Int32} (h1 : -2147483648 < x.toInt) : (-x).toInt = -x.toInt := by
  have := zx_rg x
  rw [Int32.toInt_neg]
  show Int.bmod (-x.toInt) 4294967296 = _
  simp only [Int.bmod_def]
  split <;> omega
/-- an int that is not below 0, as a number -/
theorem zy_nn {x : Int32} (h : 2147483648 ≤ zx_bz x) : ∃ n, n < 2147483648 ∧ x = nI n ∧ zx_bz x = n + 2147483648 := by
  have hl := zx_bz_lt x
  refine ⟨zx_bz x - 2147483648, by omega, ?_, by omega⟩
  have h1 := zx_of_bz x
  rw [zx_bi_eq] at h1
  rw [show (zx_bz x + 2147483648) % 4294967296 = zx_bz x - 2147483648 by omega] at h1
  exact h1
theorem zy_bz_n {n : Nat} (h : n < 2147483648) : zx_bz (nI n) = n + 2147483648 := by
  rw [zx_bz_nI _ (by omega), zx_bi_eq]
  omega
theorem zy_any (x : Int32) : ∃ n, n < 4294967296 ∧ x = nI n := ⟨_, zx_bi_lt _, zx_of_bz x⟩
/-- a constant more -/
theorem zy_bz_off (x : Int32) {o : Nat} (ho : o < 4294967296) : zx_bz (x + nI o) = (zx_bz x + o) % 4294967296 := by
  have h1 := zx_bz_int x
  have h2 := zx_bz_int (x + nI o)
  have h3 := zx_rg x
  have h4 := zx_rg (x + nI o)
  rw [Int32.toInt_add, zx_nI_int o ho] at h2
  have h5 : Int.bmod (x.toInt + if o < 2147483648 then (o : Int) else (o : Int) - 4294967296) 4294967296 = (x + nI o).toInt := by rw [Int32.toInt_add, zx_nI_int o ho]
  have h2 : (zx_bz (x + nI o) : Int) = Int.bmod (x.toInt + if o < 2147483648 then (o : Int) else (o : Int) - 4294967296) 4294967296 + 2147483648 := h2
  simp only [Int.bmod_def] at h2
  split at h2 <;> split at h2 <;> omega
