/-! The small machine over Int: values are (kind, number); kinds 0 int, 2 long, 3 a String constant, 5 the script, 9 unset, 10 + c an object of class c (number -1: null), 50 int[], 51 byte[], 52 boolean[], 53 Hearing[], 54 Teams[]. Cells are numbered in the order of their making. -/
abbrev AV : Type := Nat × Int
abbrev Mem : Type := Int → Int → Int
abbrev Ins : Type := Nat × Nat × Nat × Nat × Int × List (Int × Nat)
abbrev Cfg : Type := Nat × List AV × List AV × Mem × Nat
abbrev Out : Type := Option AV × Mem × Nat
def wrM (σ : Mem) (k j v : Int) : Mem := fun a b => if a = k ∧ b = j then v else σ a b
def mkM (σ : Mem) (k : Int) (f : Int → Int) : Mem := fun a b => if a = k then f b else σ a b
def cpM (σ : Mem) (a sp b dp n : Int) : Mem := fun x y => if x = b ∧ dp ≤ y ∧ y < dp + n then σ a (sp + (y - dp)) else σ x y
def Zadd (a b : Int) : Int := (Int32.ofInt a + Int32.ofInt b).toInt
def Zsub (a b : Int) : Int := (Int32.ofInt a - Int32.ofInt b).toInt
def Zmul (a b : Int) : Int := (Int32.ofInt a * Int32.ofInt b).toInt
def Zand (a b : Int) : Int := (Int32.ofInt a &&& Int32.ofInt b).toInt
def Zor (a b : Int) : Int := (Int32.ofInt a ||| Int32.ofInt b).toInt
def Zshl (a b : Int) : Int := (Int32.ofInt a <<< (Int32.ofInt b &&& 31)).toInt
def Zshr (a b : Int) : Int := (Int32.ofInt a >>> (Int32.ofInt b &&& 31)).toInt
def Zdiv (a b : Int) : Int := (Int32.ofInt a / Int32.ofInt b).toInt
def Zrem (a b : Int) : Int := (Int32.ofInt a - Int32.ofInt a / Int32.ofInt b * Int32.ofInt b).toInt
def Zi2b (a : Int) : Int := (Int32.ofInt a).toInt8.toInt32.toInt
def Zladd (a b : Int) : Int := (Int64.ofInt a + Int64.ofInt b).toInt
def Zlmul (a b : Int) : Int := (Int64.ofInt a * Int64.ofInt b).toInt
def Zldiv (a b : Int) : Int := (Int64.ofInt a / Int64.ofInt b).toInt
def Zlcmp (a b : Int) : Int := if b < a then 1 else if a = b then 0 else -1
def Zbnar (v : Int) : Int := (vp_nar .byte (Int32.ofInt v)).toInt
def Zznar (v : Int) : Int := (vp_nar .boolean (Int32.ofInt v)).toInt
def binM (k : Nat) (a b : Int) : Option Int := match k with
  | 0 => some (Zadd a b)
  | 1 => some (Zsub a b)
  | 2 => some (Zmul a b)
  | 3 => some (Zand a b)
  | 4 => some (Zor a b)
  | 5 => some (Zshl a b)
  | 6 => some (Zshr a b)
  | 7 => if b = 0 then none else some (Zdiv a b)
  | 8 => if b = 0 then none else some (Zrem a b)
  | _ => none
def lbinM (k : Nat) (a b : Int) : Option Int := match k with
  | 0 => some (Zladd a b)
  | 1 => some (Zlmul a b)
  | 2 => if b = 0 then none else some (Zldiv a b)
  | _ => none
def cmpM (k : Nat) (a b : Int) : Bool := match k with
  | 0 => decide (a = b)
  | 1 => decide (¬ a = b)
  | 2 => decide (a < b)
  | 3 => decide (b ≤ a)
  | 4 => decide (b < a)
  | _ => decide (a ≤ b)
/-- a local's kind: 0 int, 1 reference, 2 long, 9 none -/
def kdM (t : Nat) : Nat := if t = 0 then 0 else if t = 2 then 2 else if t = 9 then 9 else 1
def catM (x : AV) : Nat := if x.1 = 2 then 2 else 1
/-- no long in the place ahead -/
def noLM (L : List AV) (a : Nat) : Bool := match a with
  | 0 => true
  | a + 1 => match L[a]? with
    | some x => decide (¬ x.1 = 2)
    | none => true
def stoM (L : List AV) (a : Nat) (x : AV) : List AV := if x.1 = 2 then (L.set a x).set (a + 1) (9, 0) else L.set a x
/-- shapes: the kind of each cell, the length of arrays; fields' kinds of a class; String constants -/
abbrev ShM : Type := (Nat → Nat) × (Int → Int) × (Nat → Nat → Nat) × (Int → Int) × (Int → Int → Int)
def dfl (c : Nat) (ft : Nat → Nat → Nat) : Int → Int := fun j => if 10 ≤ ft c j.toNat then -1 else 0
def stpM (S : ShM) (op nx a b : Nat) (v : Int) (ts : List (Int × Nat)) (L st : List AV) (σ : Mem) (n : Nat) : Option Cfg :=
  match op with
  | 0 => some (nx, L, (0, v) :: st, σ, n)
  | 1 => some (nx, L, (2, v) :: st, σ, n)
  | 2 => some (nx, L, (b, -1) :: st, σ, n)
  | 3 => match L[a]? with
    | some x => if kdM x.1 = b then some (nx, L, x :: st, σ, n) else none
    | none => none
  | 4 => match st with
    | x :: st => if kdM x.1 = b ∧ a + b < L.length + 1 ∧ (v = 0 ∨ noLM L a = true) then some (nx, stoM L a x, st, σ, n) else none
    | [] => none
  | 5 => match L[a]? with
    | some x => if x.1 = 0 ∧ (b = 0 ∨ noLM L a = true) then some (nx, L.set a (0, Zadd x.2 v), st, σ, n) else none
    | none => none
  | 6 => match st with
    | (0, y) :: (0, x) :: st => match binM b x y with
      | some z => some (nx, L, (0, z) :: st, σ, n)
      | none => none
    | _ => none
  | 7 => match st with
    | (2, y) :: (2, x) :: st => match lbinM b x y with
      | some z => some (nx, L, (2, z) :: st, σ, n)
      | none => none
    | _ => none
  | 8 => match st with
    | (0, x) :: st => some (nx, L, (2, x) :: st, σ, n)
    | _ => none
  | 9 => match st with
    | (0, x) :: st => some (nx, L, (0, Zi2b x) :: st, σ, n)
    | _ => none
  | 10 => match st with
    | (2, y) :: (2, x) :: st => some (nx, L, (0, Zlcmp x y) :: st, σ, n)
    | _ => none
  | 11 => match st with
    | x :: st => if x.1 = 2 then none else some (nx, L, x :: x :: st, σ, n)
    | _ => none
  | 12 => match st with
    | x :: y :: st => if x.1 = 2 ∨ y.1 = 2 then none else some (nx, L, x :: y :: x :: y :: st, σ, n)
    | _ => none
  | 13 => match st with
    | (0, x) :: st => some (if cmpM b x 0 = true then a else nx, L, st, σ, n)
    | _ => none
  | 14 => match st with
    | (0, y) :: (0, x) :: st => some (if cmpM b x y = true then a else nx, L, st, σ, n)
    | _ => none
  | 15 => match st with
    | x :: st => if 10 ≤ x.1 then some (if x.2 < 0 then a else nx, L, st, σ, n) else none
    | _ => none
  | 16 => match st with
    | x :: st => if 10 ≤ x.1 then some (if x.2 < 0 then nx else a, L, st, σ, n) else none
    | _ => none
  | 17 => match st with
    | y :: x :: st => if 10 ≤ x.1 ∧ 10 ≤ y.1 then some (if x.2 = y.2 then a else nx, L, st, σ, n) else none
    | _ => none
  | 18 => some (a, L, st, σ, n)
  | 19 => match st with
    | (0, x) :: st => some ((ts.lookup x).getD a, L, st, σ, n)
    | _ => none
  | 21 => match st with
    | (t, k) :: st => if t = 10 + a ∧ 0 ≤ k then some (nx, L, (if S.2.2.1 a b = 7 then 0 else S.2.2.1 a b, σ k b) :: st, σ, n) else none
    | _ => none
  | 22 => match st with
    | (t', x) :: (t, k) :: st => if t = 10 + a ∧ 0 ≤ k ∧ t' = S.2.2.1 a b then some (nx, L, st, wrM σ k b x, n) else none
    | _ => none
  | 23 => match st with
    | (0, x) :: (t, k) :: st => if t = 10 + a ∧ 0 ≤ k ∧ (x = 0 ∨ x = 1) then some (nx, L, st, wrM σ k b x, n) else none
    | _ => none
  | 24 => match st with
    | (0, i) :: (t, k) :: st => if t = a ∧ 0 ≤ k ∧ 0 ≤ i ∧ i < S.2.1 k then some (nx, L, (b, σ k i) :: st, σ, n) else none
    | _ => none
  | 28 => match st with
    | (0, x) :: (0, i) :: (50, k) :: st => if 0 ≤ k ∧ 0 ≤ i ∧ i < S.2.1 k then some (nx, L, st, wrM σ k i x, n) else none
    | _ => none
  | 29 => match st with
    | (0, x) :: (0, i) :: (51, k) :: st => if 0 ≤ k ∧ 0 ≤ i ∧ i < S.2.1 k then some (nx, L, st, wrM σ k i (Zbnar x), n) else none
    | _ => none
  | 30 => match st with
    | (0, x) :: (0, i) :: (52, k) :: st => if 0 ≤ k ∧ 0 ≤ i ∧ i < S.2.1 k then some (nx, L, st, wrM σ k i (Zznar x), n) else none
    | _ => none
  | 31 => match st with
    | (t', x) :: (0, i) :: (t, k) :: st => if t = a ∧ t' = b ∧ 0 ≤ x ∧ 0 ≤ k ∧ 0 ≤ i ∧ i < S.2.1 k then some (nx, L, st, wrM σ k i x, n) else none
    | _ => none
  | 32 => match st with
    | (50, k) :: st => if 0 ≤ k then some (nx, L, (0, S.2.1 k) :: st, σ, n) else none
    | _ => none
  | 33 => if S.1 n = 10 + a then some (nx, L, (10 + a, (n : Int)) :: st, mkM σ n (dfl a S.2.2.1), n + 1) else none
  | 34 => match st with
    | (0, x) :: st => if S.1 n = a ∧ S.2.1 n = x ∧ 0 ≤ x ∧ x ≤ 1000 then some (nx, L, (a, (n : Int)) :: st, mkM σ n (fun _ => 0), n + 1) else none
    | _ => none
  | 35 => match st with
    | (0, x) :: st => if S.1 n = a ∧ S.2.1 n = x ∧ 0 ≤ x ∧ x ≤ 1000 then some (nx, L, (a, (n : Int)) :: st, mkM σ n (fun _ => -1), n + 1) else none
    | _ => none
  | 37 => match st with
    | (t, k) :: st => if 10 ≤ t ∧ 0 ≤ k ∧ (st.map catM).sum ≤ 8 then some (nx, L, st, σ, n) else none
    | _ => none
  | 43 => some (nx, L, (3, v) :: st, σ, n)
  | 44 => match st with
    | (3, k) :: st => if (st.map catM).sum ≤ 8 then some (nx, L, (0, S.2.2.2.1 k) :: st, σ, n) else none
    | _ => none
  | 45 => match st with
    | (0, i) :: (3, k) :: st => if 0 ≤ i ∧ i < S.2.2.2.1 k ∧ (st.map catM).sum ≤ 8 then some (nx, L, (0, S.2.2.2.2 k i) :: st, σ, n) else none
    | _ => none
  | 46 => match st with
    | (0, c) :: (0, dp) :: (50, k2) :: (0, sp) :: (50, k1) :: st => if 0 ≤ k1 ∧ 0 ≤ k2 ∧ ¬ k1 = k2 ∧ 0 ≤ c ∧ 0 ≤ sp ∧ 0 ≤ dp ∧ sp + c ≤ S.2.1 k1 ∧ dp + c ≤ S.2.1 k2 ∧ (st.map catM).sum ≤ 8 then some (nx, L, st, cpM σ k1 sp k2 dp c, n) else none
    | _ => none
  | 47 => match st with
    | (0, i) :: (5, _) :: st => if 0 ≤ i ∧ i < σ (-2) (-1) then some (nx, L, (0, σ (-2) i) :: st, σ, n) else none
    | _ => none
  | 48 => match st with
    | (5, _) :: st => some (nx, L, (0, σ (-2) (-1)) :: st, σ, n)
    | _ => none
  | 49 => match st with
    | (0, y) :: (0, x) :: st => if (st.map catM).sum ≤ 8 then some (nx, L, (0, if b = 0 then (if x < y then y else x) else (if y < x then y else x)) :: st, σ, n) else none
    | _ => none
  | _ => none
/-- a return: the answer -/
def retM (op : Nat) (st : List AV) : Option (Option AV) := match op with
  | 38 => match st with
    | [] => some none
    | _ => none
  | 39 => match st with
    | [(0, x)] => some (some (0, x))
    | _ => none
  | 40 => match st with
    | [(0, x)] => if x = 0 ∨ x = 1 then some (some (0, x)) else none
    | _ => none
  | 41 => match st with
    | [(2, x)] => some (some (2, x))
    | _ => none
  | 42 => match st with
    | [(t, x)] => if 10 ≤ t ∨ t = 3 then some (some (t, x)) else none
    | _ => none
  | _ => none
/-- the locals at a method's entry -/
def entM (nL : Nat) (as : List AV) : List AV := as ++ List.replicate (nL - as.length) (9, 0)
/-- a call's arguments are as its callee wants them: kind 0 static, 1 on an object of class c, 2 a constructor of it -/
def argM (kd c nL : Nat) (as : List AV) : Bool := (match kd with
  | 0 => true
  | _ => match as with
    | (t, k) :: _ => decide (t = 10 + c ∧ 0 ≤ k)
    | [] => false) && decide (as.length ≤ nL) && as.all (fun x => decide (¬ x.1 = 2) && decide (¬ x.1 = 9))
/-- methods: their locals, their class, their instructions -/
abbrev MtM : Type := (Nat → Nat) × (Nat → Nat) × (Nat → Nat → Ins)
def runM (S : ShM) (M : MtM) : Nat → Nat → Nat → Nat → List AV → List AV → Mem → Nat → Option Out
  | 0, _, _, _, _, _, _, _ => none
  | f + 1, d, m, pc, L, st, σ, n =>
    match M.2.2 m pc with
    | (op, nx, a, b, v, ts) =>
      if op = 36 then
        if b ≤ st.length ∧ ((st.drop b).map catM).sum ≤ 8 ∧ argM v.toNat (M.2.1 a) (M.1 a) (st.take b).reverse = true then
          match d with
          | 0 => none
          | d + 1 => match runM S M f d a 0 (entM (M.1 a) (st.take b).reverse) [] σ n with
            | none => none
            | some (r, σ1, n1) => runM S M f (d + 1) m nx L (r.toList ++ st.drop b) σ1 n1
        else none
      else match retM op st with
        | some r => some (r, σ, n)
        | none => match stpM S op nx a b v ts L st σ n with
          | none => none
          | some (pc', L', st', σ', n') => runM S M f d m pc' L' st' σ' n'
