/-! the walker itself -/
def zx_ii (a : zx_V) : Bool := match a.1 with
  | 0 => true
  | 1 => true
  | 7 => true
  | _ => false
def zx_jj (a : zx_V) : Bool := match a.1 with
  | 4 => true
  | 5 => true
  | _ => false
def zx_ct (a : zx_V) : Nat := bif zx_jj a then 2 else 1
def zx_rr (a : zx_V) : Bool := match a.1 with
  | 2 => true
  | 3 => true
  | 6 => true
  | 8 => true
  | _ => false
def zx_iv (e : zx_L) (a : zx_V) : Option (Nat × Nat) := match a with
  | (0, n, _) => some (zx_bi n, zx_bi n)
  | (1, k, _) => e[k]?
  | (7, l, h) => some (l, h)
  | _ => none
noncomputable def zx_no (e : zx_L) (a : zx_V) (k : zx_V → Bool) : Bool := match a with
  | (1, i, z) => match e[i]? with
    | some (l, h) => bif Nat.beq l h then zx_fn (zx_bi l) (fun n => k (0, n, 0)) else k (1, i, z)
    | none => k (1, i, z)
  | (7, l, h) => bif Nat.beq l h then zx_fn (zx_bi l) (fun n => k (0, n, 0)) else k (7, l, h)
  | a => k a
def zx_lk (lo : List (Nat × zx_V)) (i : Nat) : Option zx_V := match lo with
  | [] => none
  | (j, a) :: r => bif Nat.beq j i then some a else zx_lk r i
def zx_ld (lo : List (Nat × zx_V)) (i : Nat) (p : zx_V → Bool) (k : zx_V → Bool) : Bool := match zx_lk lo i with
  | some a => bif p a then k a else false
  | none => false
def zx_p1 (lo : List (Nat × zx_V)) (i : Nat) (a : zx_V) : List (Nat × zx_V) := (i, a) :: lo.filter (fun q => !(q.1 == i) && !(q.1 + 1 == i && zx_ct q.2 == 2))
def zx_p2 (lo : List (Nat × zx_V)) (i : Nat) (a : zx_V) : List (Nat × zx_V) := (i, a) :: lo.filter (fun q => !(q.1 == i) && (!(q.1 == i + 1) && !(q.1 + 1 == i && zx_ct q.2 == 2)))
noncomputable def zx_st1 (mx : Nat) (lo : List (Nat × zx_V)) (i : Nat) (st : List zx_V) (p : zx_V → Bool) (k : List (Nat × zx_V) → List zx_V → Bool) : Bool := match st with
  | a :: st => bif p a && Nat.blt i mx then zx_fl (zx_p1 lo i a) (fun lo => k lo st) else false
  | [] => false
/-- two numbers that are known -/
def zx_cb (op x y : Nat) : Nat := match op with
  | 0 => (x + y) % 4294967296
  | 1 => (x + (4294967296 - y)) % 4294967296
  | 2 => (x * y) % 4294967296
  | 3 => x &&& y
  | 4 => x ||| y
  | _ => x ^^^ y
def zx_cs (op x y : Nat) : Nat := match op with
  | 6 => (x * 2 ^ y) % 4294967296
  | 7 => bif Nat.blt x 2147483648 then x / 2 ^ y else 4294967295 - (4294967295 - x) / 2 ^ y
  | _ => x / 2 ^ y
def zx_un : zx_V := (7, 0, 4294967295)
noncomputable def zx_b2 (op : Nat) (a b : zx_V) (k : zx_V → Bool) : Bool := match a, b with
  | (0, x, _), (0, y, _) => zx_fn (zx_cb op x y) (fun n => k (0, n, 0))
  | a, b => bif zx_ii a && zx_ii b then k zx_un else false
/-- 0 and a number, a number and 0 -/
noncomputable def zx_ad (a b : zx_V) (k : zx_V → Bool) : Bool := match a, b with
  | (0, 0, _), (1, i, z) => k (1, i, z)
  | (1, i, z), (0, 0, _) => k (1, i, z)
  | a, b => zx_b2 0 a b k
noncomputable def zx_an (a b : zx_V) (k : zx_V → Bool) : Bool := match a, b with
  | (1, 0, _), (0, 63, _) => k (1, 7, 0)
  | (1, i, z), (0, 4294967295, _) => k (1, i, z)
  | a, b => zx_b2 3 a b k
noncomputable def zx_sh (op : Nat) (a b : zx_V) (k : zx_V → Bool) : Bool := match a, b with
  | (0, x, _), (0, y, _) => bif Nat.blt y 32 then zx_fn (zx_cs op x y) (fun n => k (0, n, 0)) else false
  | a, b => bif zx_ii a && zx_ii b then k zx_un else false
noncomputable def zx_sr (a b : zx_V) (k : zx_V → Bool) : Bool := match a, b with
  | (0, 0, z), (1, _, _) => k (0, 0, z)
  | a, b => zx_sh 7 a b k
noncomputable def zx_dv (op : Nat) (a b : zx_V) (k : zx_V → Bool) : Bool := match a, b with
  | (0, x, _), (0, y, _) => bif Nat.blt x 2147483648 && (Nat.blt 0 y && Nat.blt y 2147483648) then zx_fn (bif Nat.beq op 0 then x / y else x % y) (fun n => k (0, n, 0)) else false
  | _, _ => false
/-- which way a comparison goes: all that it can be, with what is known then -/
def zx_lts (e : zx_L) (a b : zx_V) (l1 h1 l2 h2 : Nat) : List (Bool × zx_L) :=
  bif Nat.blt h1 l2 then [(true, e)] else bif Nat.ble h2 l1 then [(false, e)] else
  bif Nat.beq a.1 1 && Nat.beq l2 h2 then [(true, e.set a.2.1 (l1, l2 - 1)), (false, e.set a.2.1 (l2, h1))] else
  bif Nat.beq b.1 1 && Nat.beq l1 h1 then [(true, e.set b.2.1 (l1 + 1, h2)), (false, e.set b.2.1 (l2, l1))] else [(true, e), (false, e)]
def zx_eqs (e : zx_L) (a b : zx_V) (l1 h1 l2 h2 : Nat) : List (Bool × zx_L) :=
  bif Nat.blt h1 l2 || Nat.blt h2 l1 then [(false, e)] else bif Nat.beq l1 h1 && Nat.beq l2 h2 then [(true, e)] else
  bif Nat.beq a.1 1 && (Nat.beq b.1 1 && Nat.beq a.2.1 b.2.1) then [(true, e)] else
  bif Nat.beq a.1 1 && Nat.beq l2 h2 then (true, e.set a.2.1 (l2, l2)) :: ((bif Nat.blt l1 l2 then [(false, e.set a.2.1 (l1, l2 - 1))] else []) ++ (bif Nat.blt l2 h1 then [(false, e.set a.2.1 (l2 + 1, h1))] else [])) else
  bif Nat.beq b.1 1 && Nat.beq l1 h1 then (true, e.set b.2.1 (l1, l1)) :: ((bif Nat.blt l2 l1 then [(false, e.set b.2.1 (l2, l1 - 1))] else []) ++ (bif Nat.blt l1 h2 then [(false, e.set b.2.1 (l1 + 1, h2))] else [])) else [(true, e), (false, e)]
def zx_cmp (c : ClassFile.Cond) (e : zx_L) (a b : zx_V) : Option (List (Bool × zx_L)) := match zx_iv e a, zx_iv e b with
  | some (l1, h1), some (l2, h2) => some (match c with
    | .lt => zx_lts e a b l1 h1 l2 h2
    | .ge => (zx_lts e a b l1 h1 l2 h2).map (fun q => (!q.1, q.2))
    | .gt => zx_lts e b a l2 h2 l1 h1
    | .le => (zx_lts e b a l2 h2 l1 h1).map (fun q => (!q.1, q.2))
    | .eq => zx_eqs e a b l1 h1 l2 h2
    | .ne => (zx_eqs e a b l1 h1 l2 h2).map (fun q => (!q.1, q.2)))
  | _, _ => none
noncomputable def zx_fe (e : zx_L) (k : zx_L → Bool) : Bool := zx_fl e k
noncomputable def zx_jmp (pc np : Nat) (off : Int) (alts : Option (List (Bool × zx_L))) (k : Nat → zx_L → Bool) : Bool := match alts with
  | none => false
  | some l => bif decide (0 ≤ (pc : Int) + off) then zx_fn ((pc : Int) + off).toNat (fun t => l.all (fun q => zx_fl q.2 (fun e => bif q.1 then k t e else k np e))) else false
/-- array places -/
def zx_dg (c j : Nat) : Nat := Nat.shiftRight c (32 * j) % 4294967296
def zx_sd (c j x : Nat) : Nat := Nat.xor c (Nat.shiftLeft (Nat.xor (zx_dg c j) x) (32 * j))
/-- a place of an array of n: known, or surely within -/
def zx_in (e : zx_L) (i : zx_V) (n : Nat) : Bool := match zx_iv e i with
  | some (l, h) => Nat.ble 2147483648 l && Nat.blt h (n + 2147483648)
  | none => false
noncomputable def zx_split (e : zx_L) (i : Nat) (k : zx_L → Bool) : Bool := match e[i]? with
  | some (l, h) => bif Nat.blt h (l + 4) then (List.range (h + 1 - l)).all (fun d => zx_fn (l + d) (fun v => zx_fl (e.set i (v, v)) k)) else false
  | none => false
def zx_nr (t x : Nat) : Nat := match t with
  | 0 => x
  | 1 => bif Nat.blt (x % 256) 128 then x % 256 else (x % 256) + 4294967040
  | _ => x % 2
