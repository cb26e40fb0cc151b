/-! A walker over numbers. A value is 16 * payload + kind: kind 0 nothing, 1 the int that is named by the payload, 2 the object at that place of the world, 3 null, 4 that int (as 32 bits), 5 some long, 6 something from outside, 7 some int between two bounds (payload: lower * 2^32 + upper, both with 2^31 added), 8 null or some object. A row of locals is a number with digits of 72 bits, what is known of the named ints one with digits of 64 bits (bounds as in kind 7). A cell is tag + 16 * n + 2^20 * its digits: tags 0 1 2 known ints, bytes, booleans (digits of 32 bits), 3 4 5 unknown ones, 6 longs, 7 an object (n: its class; digits of 72 bits), 8 objects (digits of 72 bits, 0: null), 15 not made yet. -/
abbrev zx_H : Type := List (List Nat)
abbrev zx_E : Type := Nat × Nat × Nat × Nat × Nat
abbrev zx_M : Type := (MethodName × ByteArray × Nat × Option FieldType) × (Nat × Nat × Nat × Nat × Nat × Nat) × List (Nat × List zx_E)
abbrev zx_N : Type := List zx_E → Nat → Nat → List Nat → zx_H → Nat → Nat → Nat → Nat → Bool
abbrev zx_K : Type := List Nat → zx_H → Nat → Nat → Bool
noncomputable def zx_fn (n : Nat) (k : Nat → Bool) : Bool := @Nat.rec (fun _ => Bool) (k 0) (fun m _ => k (Nat.succ m)) n
noncomputable def zx_at {α : Type} (l : List α) (i : Nat) (k : α → Bool) : Bool := @List.rec α (fun _ => Nat → Bool) (fun _ => false) (fun a _ ih i => @Nat.rec (fun _ => Bool) (k a) (fun j _ => ih j) i) l i
noncomputable def zx_up {α : Type} (l : List α) (i : Nat) (x : α) (k : List α → Bool) : Bool := @List.rec α (fun _ => Nat → (List α → Bool) → Bool) (fun _ _ => false) (fun a t ih i k => @Nat.rec (fun _ => Bool) (k (x :: t)) (fun j _ => ih j (fun t' => k (a :: t'))) i) l i k
noncomputable def zx_bk (t : List (Nat × List zx_E)) (pc : Nat) (k : List zx_E → Bool) : Bool := @List.rec (Nat × List zx_E) (fun _ => Bool) false (fun q _ ih => bif Nat.beq q.1 pc then k q.2 else ih) t
/-- the first of a stack -/
noncomputable def zx_p1 (st : List Nat) (k : Nat → List Nat → Bool) : Bool := @List.rec Nat (fun _ => Bool) false (fun a t _ => k a t) st
noncomputable def zx_p2 (st : List Nat) (k : Nat → Nat → List Nat → Bool) : Bool := zx_p1 st (fun y st => zx_p1 st (fun x st => k y x st))
noncomputable def zx_p3 (st : List Nat) (k : Nat → Nat → Nat → List Nat → Bool) : Bool := zx_p1 st (fun z st => zx_p1 st (fun y st => zx_p1 st (fun x st => k z y x st)))
def zx_dg (o w B c j : Nat) : Nat := Nat.mod (Nat.shiftRight c (Nat.add o (Nat.mul w j))) B
def zx_sd (o w B c j x : Nat) : Nat := Nat.xor c (Nat.shiftLeft (Nat.xor (zx_dg o w B c j) x) (Nat.add o (Nat.mul w j)))
def zx_lg (row i : Nat) : Nat := zx_dg 0 72 4722366482869645213696 row i
def zx_ls (row i v : Nat) : Nat := zx_sd 0 72 4722366482869645213696 row i v
def zx_eg (e i : Nat) : Nat := zx_dg 0 64 18446744073709551616 e i
def zx_es (e i v : Nat) : Nat := zx_sd 0 64 18446744073709551616 e i v
def zx_og (c i : Nat) : Nat := zx_dg 20 72 4722366482869645213696 c i
def zx_os (c i v : Nat) : Nat := zx_sd 20 72 4722366482869645213696 c i v
def zx_ig (c i : Nat) : Nat := zx_dg 20 32 4294967296 c i
def zx_is (c i v : Nat) : Nat := zx_sd 20 32 4294967296 c i v
noncomputable def zx_hg (h : zx_H) (i : Nat) (k : Nat → Bool) : Bool := zx_at h (Nat.div i 16) (fun l => zx_at l (Nat.mod i 16) k)
noncomputable def zx_hs (h : zx_H) (i x : Nat) (k : zx_H → Bool) : Bool := zx_at h (Nat.div i 16) (fun l => zx_up l (Nat.mod i 16) x (fun l' => zx_up h (Nat.div i 16) l' k))
def zx_bi (n : Nat) : Nat := Nat.mod (Nat.add n 2147483648) 4294967296
def zx_kd (v : Nat) : Nat := Nat.mod v 16
def zx_pl (v : Nat) : Nat := Nat.div v 16
def zx_c (n : Nat) : Nat := Nat.add (Nat.mul n 16) 4
/-- the kind is one of a mask's bits: 146 ints, 332 references, 32 longs -/
def zx_kc (m v : Nat) : Bool := Nat.beq (Nat.mod (Nat.shiftRight m (Nat.mod v 16)) 2) 1
def zx_un : Nat := 68719476727
/-- bounds of an int -/
noncomputable def zx_iv (e v : Nat) (k : Nat → Nat → Bool) : Bool :=
  bif Nat.beq (zx_kd v) 4 then zx_fn (zx_bi (zx_pl v)) (fun b => k b b) else
  bif Nat.beq (zx_kd v) 1 then zx_fn (zx_eg e (zx_pl v)) (fun c => bif Nat.beq c 0 then false else zx_fn (Nat.div c 4294967296) (fun l => zx_fn (Nat.mod c 4294967296) (fun h => k l h))) else
  bif Nat.beq (zx_kd v) 7 then zx_fn (zx_pl v) (fun c => zx_fn (Nat.div c 4294967296) (fun l => zx_fn (Nat.mod c 4294967296) (fun h => k l h))) else false
/-- a value as it is known now -/
noncomputable def zx_no (e v : Nat) (k : Nat → Bool) : Bool :=
  bif zx_kc 130 v then zx_iv e v (fun l h => bif Nat.beq l h then zx_fn (zx_c (zx_bi l)) k else k v) else k v
def zx_ii (v : Nat) : Bool := zx_kc 146 v
/-- two numbers that are known, else some int -/
noncomputable def zx_b2 (f : Nat → Nat → Nat) (x y : Nat) (k : Nat → Bool) : Bool :=
  bif Nat.beq (zx_kd x) 4 && Nat.beq (zx_kd y) 4 then zx_fn (zx_c (f (zx_pl x) (zx_pl y))) k else bif zx_ii x && zx_ii y then k zx_un else false
def zx_f0 (x y : Nat) : Nat := Nat.mod (Nat.add x y) 4294967296
def zx_f1 (x y : Nat) : Nat := Nat.mod (Nat.add x (Nat.sub 4294967296 y)) 4294967296
def zx_f2 (x y : Nat) : Nat := Nat.mod (Nat.mul x y) 4294967296
noncomputable def zx_ad (x y : Nat) (k : Nat → Bool) : Bool := bif Nat.beq y 4 && zx_ii x then k x else bif Nat.beq x 4 && zx_ii y then k y else zx_b2 zx_f0 x y k
noncomputable def zx_an (x y : Nat) (k : Nat → Bool) : Bool :=
  bif Nat.beq y 68719476724 && zx_ii x then k x else
  bif Nat.beq (zx_kd y) 4 && (zx_kc 130 x && Nat.blt (zx_pl y) 2147483648) then zx_fn (Nat.add (Nat.mul (Nat.add 9223372036854775808 (Nat.add 2147483648 (zx_pl y))) 16) 7) k else zx_b2 Nat.land x y k
def zx_g6 (x y : Nat) : Nat := Nat.mod (Nat.mul x (Nat.pow 2 y)) 4294967296
def zx_g7 (x y : Nat) : Nat := bif Nat.blt x 2147483648 then Nat.div x (Nat.pow 2 y) else Nat.sub 4294967295 (Nat.div (Nat.sub 4294967295 x) (Nat.pow 2 y))
def zx_g8 (x y : Nat) : Nat := Nat.div x (Nat.pow 2 y)
noncomputable def zx_sh (f : Nat → Nat → Nat) (x y : Nat) (k : Nat → Bool) : Bool :=
  bif Nat.beq (zx_kd x) 4 && (Nat.beq (zx_kd y) 4 && Nat.blt (zx_pl y) 32) then zx_fn (zx_c (f (zx_pl x) (zx_pl y))) k else bif zx_ii x && zx_ii y then k zx_un else false
noncomputable def zx_sr (x y : Nat) (k : Nat → Bool) : Bool := bif Nat.beq x 4 && zx_ii y then k 4 else zx_sh zx_g7 x y k
noncomputable def zx_dv (f : Nat → Nat → Nat) (x y : Nat) (k : Nat → Bool) : Bool :=
  bif Nat.beq (zx_kd x) 4 && (Nat.beq (zx_kd y) 4 && (Nat.blt (zx_pl x) 2147483648 && (Nat.blt 0 (zx_pl y) && Nat.blt (zx_pl y) 2147483648))) then zx_fn (zx_c (f (zx_pl x) (zx_pl y))) k else false
def zx_n8 (x : Nat) : Nat := bif Nat.blt (Nat.mod x 256) 128 then Nat.mod x 256 else Nat.add (Nat.mod x 256) 4294967040
def zx_n16 (x : Nat) : Nat := Nat.mod x 65536
noncomputable def zx_u1 (f : Nat → Nat) (x : Nat) (k : Nat → Bool) : Bool := bif Nat.beq (zx_kd x) 4 then zx_fn (zx_c (f (zx_pl x))) k else bif zx_ii x then k zx_un else false
/-- which way a comparison goes, with what is known then -/
def zx_bd (l h : Nat) : Nat := Nat.add (Nat.mul l 4294967296) h
noncomputable def zx_lt (e x y : Nat) (kt kf : Nat → Bool) : Bool := zx_iv e x (fun l1 h1 => zx_iv e y (fun l2 h2 =>
  bif Nat.blt h1 l2 then kt e else bif Nat.ble h2 l1 then kf e else
  bif Nat.beq (zx_kd x) 1 && Nat.beq l2 h2 then zx_fn (zx_es e (zx_pl x) (zx_bd l1 (Nat.pred l2))) kt && zx_fn (zx_es e (zx_pl x) (zx_bd l2 h1)) kf else
  bif Nat.beq (zx_kd y) 1 && Nat.beq l1 h1 then zx_fn (zx_es e (zx_pl y) (zx_bd (Nat.succ l1) h2)) kt && zx_fn (zx_es e (zx_pl y) (zx_bd l2 l1)) kf else kt e && kf e))
noncomputable def zx_eq (e x y : Nat) (kt kf : Nat → Bool) : Bool := zx_iv e x (fun l1 h1 => zx_iv e y (fun l2 h2 =>
  bif Nat.blt h1 l2 || Nat.blt h2 l1 then kf e else bif Nat.beq l1 h1 && Nat.beq l2 h2 then kt e else
  bif Nat.beq (zx_kd x) 1 && Nat.beq x y then kt e else
  bif Nat.beq (zx_kd x) 1 && Nat.beq l2 h2 then zx_fn (zx_es e (zx_pl x) (zx_bd l2 l2)) kt && ((bif Nat.blt l1 l2 then zx_fn (zx_es e (zx_pl x) (zx_bd l1 (Nat.pred l2))) kf else true) && (bif Nat.blt l2 h1 then zx_fn (zx_es e (zx_pl x) (zx_bd (Nat.succ l2) h1)) kf else true)) else
  bif Nat.beq (zx_kd y) 1 && Nat.beq l1 h1 then zx_fn (zx_es e (zx_pl y) (zx_bd l1 l1)) kt && ((bif Nat.blt l2 l1 then zx_fn (zx_es e (zx_pl y) (zx_bd l2 (Nat.pred l1))) kf else true) && (bif Nat.blt l1 h2 then zx_fn (zx_es e (zx_pl y) (zx_bd (Nat.succ l1) h2)) kf else true)) else kt e && kf e))
/-- conditions: 0 lt, 1 ge, 2 gt, 3 le, 4 eq, 5 ne -/
noncomputable def zx_cm (c e x y : Nat) (kt kf : Nat → Bool) : Bool :=
  bif Nat.ble c 1 then (bif Nat.beq c 0 then zx_lt e x y kt kf else zx_lt e x y kf kt) else
  bif Nat.ble c 3 then (bif Nat.beq c 2 then zx_lt e y x kt kf else zx_lt e y x kf kt) else
  (bif Nat.beq c 4 then zx_eq e x y kt kf else zx_eq e x y kf kt)
/-- a place of an array of n: surely within -/
noncomputable def zx_in (e i n : Nat) : Bool := zx_iv e i (fun l h => Nat.ble 2147483648 l && Nat.blt h (Nat.add n 2147483648))
/-- one of few: each by itself -/
noncomputable def zx_sp (e i : Nat) (k : Nat → Bool) : Bool := zx_iv e i (fun l h => bif Nat.beq (zx_kd i) 1 && Nat.blt h (Nat.add l 4) then
  zx_fn (zx_es e (zx_pl i) (zx_bd l l)) k && ((bif Nat.ble (Nat.add l 1) h then zx_fn (zx_es e (zx_pl i) (zx_bd (Nat.add l 1) (Nat.add l 1))) k else true) && ((bif Nat.ble (Nat.add l 2) h then zx_fn (zx_es e (zx_pl i) (zx_bd (Nat.add l 2) (Nat.add l 2))) k else true) && (bif Nat.ble (Nat.add l 3) h then zx_fn (zx_es e (zx_pl i) (zx_bd (Nat.add l 3) (Nat.add l 3))) k else true))) else false)
def zx_hd (c : Nat) : Nat := Nat.mod c 1048576
def zx_tg (c : Nat) : Nat := Nat.mod c 16
def zx_cn (c : Nat) : Nat := Nat.div (Nat.mod c 1048576) 16
/-- what a store makes of an int: as it is, a byte, a bit -/
def zx_nr (t x : Nat) : Nat := bif Nat.beq t 0 then x else bif Nat.beq t 1 then zx_n8 x else Nat.mod x 2
/-- an array of which no more is known -/
def zx_uk (t n : Nat) : Nat := Nat.add (Nat.add 3 t) (Nat.add (Nat.mul n 16) 4503599626321920)
