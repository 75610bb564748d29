/-! A SMALL MACHINE OF ITS OWN: the same code over whole numbers and functions. Values: an int, a reference or null, a long; none: unset. -/
abbrev AV : Type := Option (Int ⊕ (Option Nat ⊕ Int))
abbrev vI (x : Int) : AV := some (.inl x)
abbrev vR (r : Option Nat) : AV := some (.inr (.inl r))
abbrev vL (x : Int) : AV := some (.inr (.inr x))
abbrev HI : Type := Nat → Int → Int
abbrev HR : Type := Nat → Int → Option Nat
/-- how many cells, how many slots, of each cell its kind and (an array's) length -/
abbrev AL : Type := Nat × Nat × (Nat → Nat × Nat)
abbrev Rs : Type := Option (Option AV)
abbrev Nx : Type := Nat × List AV × List AV × AL × HI × HR
abbrev Cl : Type := Nat × List AV × Nat × List AV × List AV
abbrev Out : Type := Option (Nx ⊕ (Option AV ⊕ (Unit ⊕ Cl)))
abbrev Sp : Type := List AV → List AV → AL → HI → HR → Out
abbrev oN (pc : Nat) (ls st : List AV) (al : AL) (hi : HI) (hr : HR) : Out := some (.inl (pc, ls, st, al, hi, hr))
abbrev oR (v : Option AV) : Out := some (.inr (.inl v))
abbrev oT : Out := some (.inr (.inr (.inl ())))
abbrev oC (k : Nat) (as : List AV) (nx : Nat) (ls st : List AV) : Out := some (.inr (.inr (.inr (k, as, nx, ls, st))))
def wr (x : Int) : Int := Int.bmod x 4294967296
def wl (x : Int) : Int := Int.bmod x 18446744073709551616
abbrev rng (x : Int) : Prop := -2147483648 ≤ x ∧ x < 2147483648
abbrev rgl (x : Int) : Prop := -9223372036854775808 ≤ x ∧ x < 9223372036854775808
theorem wr_id {x : Int} (h : rng x) : wr x = x := by unfold wr; rw [Int.bmod_def]; split <;> omega
theorem wr_rng (x : Int) : rng (wr x) := by unfold wr rng; rw [Int.bmod_def]; split <;> omega
theorem wl_id {x : Int} (h : rgl x) : wl x = x := by unfold wl; rw [Int.bmod_def]; split <;> omega
theorem wl_rng (x : Int) : rgl (wl x) := by unfold wl rgl; rw [Int.bmod_def]; split <;> omega
-- arithmetic
def fAdd (x y : Int) : Int := wr (x + y)
def fSub (x y : Int) : Int := wr (x - y)
def fMul (x y : Int) : Int := wr (x * y)
def fDiv (x y : Int) : Int := wr (x.tdiv y)
def fRem (x y : Int) : Int := x.tmod y
def fAnd (x y : Int) : Int := (Int32.ofInt x &&& Int32.ofInt y).toInt
def fOr (x y : Int) : Int := (Int32.ofInt x ||| Int32.ofInt y).toInt
def fXor (x y : Int) : Int := (Int32.ofInt x ^^^ Int32.ofInt y).toInt
def fShl (x y : Int) : Int := (Int32.ofInt x <<< (Int32.ofInt y &&& 31)).toInt
def fShr (x y : Int) : Int := (Int32.ofInt x >>> (Int32.ofInt y &&& 31)).toInt
def fMax (x y : Int) : Int := if x < y then y else x
def fMin (x y : Int) : Int := if y < x then y else x
def fNeg (x : Int) : Int := wr (-x)
def fB (x : Int) : Int := Int.bmod x 256
def fZ (x : Int) : Int := x % 2
-- a cell's kind and length
abbrev tgk (al : AL) (a : Nat) : Nat := (al.2.2 a).1
abbrev aln (al : AL) (a : Nat) : Nat := (al.2.2 a).2
/-- the cell a is there, of kind c -/
def isK (al : AL) (a c : Nat) : Prop := 2 ≤ a ∧ a < al.1 ∧ (al.2.2 a).1 = c
def isKb (al : AL) (a c : Nat) : Bool := decide (2 ≤ a) && (decide (a < al.1) && decide ((al.2.2 a).1 = c))
theorem isKb_iff {al : AL} {a c : Nat} : isKb al a c = true ↔ isK al a c := by simp [isKb, isK]
def upI (hi : HI) (a : Nat) (i x : Int) : HI := fun b j => if b = a ∧ j = i then x else hi b j
def upR (hr : HR) (a : Nat) (i : Int) (x : Option Nat) : HR := fun b j => if b = a ∧ j = i then x else hr b j
def zeI (hi : HI) (a : Nat) : HI := fun b j => if b = a then 0 else hi b j
def zeR (hr : HR) (a : Nat) : HR := fun b j => if b = a then none else hr b j
def nwA (al : AL) (k n s : Nat) : AL := (al.1 + 1, al.2.1 + s, fun b => if b = al.1 then (k, n) else al.2.2 b)
def cpI (hi : HI) (a : Nat) (sp : Int) (b : Nat) (dp n : Int) : HI := fun c j => if c = b ∧ dp ≤ j ∧ j < dp + n then hi a (sp + (j - dp)) else hi c j
-- the steps
def sK (x : Int) (nx : Nat) : Sp := fun ls st al hi hr => oN nx ls (vI x :: st) al hi hr
def sNul (nx : Nat) : Sp := fun ls st al hi hr => oN nx ls (vR none :: st) al hi hr
def sLC (x : Int) (nx : Nat) : Sp := fun ls st al hi hr => oN nx ls (vL x :: st) al hi hr
def sLI (i nx : Nat) : Sp := fun ls st al hi hr => match ls[i]? with
  | some (some (.inl x)) => oN nx ls (vI x :: st) al hi hr
  | _ => none
def sLR (i nx : Nat) : Sp := fun ls st al hi hr => match ls[i]? with
  | some (some (.inr (.inl r))) => oN nx ls (vR r :: st) al hi hr
  | _ => none
def sLL (i nx : Nat) : Sp := fun ls st al hi hr => match ls[i]? with
  | some (some (.inr (.inr x))) => oN nx ls (vL x :: st) al hi hr
  | _ => none
def sSI (i nx : Nat) : Sp := fun ls st al hi hr => match st with
  | some (.inl x) :: st => oN nx (ls.set i (vI x)) st al hi hr
  | _ => none
def sSR (i nx : Nat) : Sp := fun ls st al hi hr => match st with
  | some (.inr (.inl r)) :: st => oN nx (ls.set i (vR r)) st al hi hr
  | _ => none
def sInc (i : Nat) (n : Int) (nx : Nat) : Sp := fun ls st al hi hr => match ls[i]? with
  | some (some (.inl x)) => oN nx (ls.set i (vI (fAdd x n))) st al hi hr
  | _ => none
def sB2 (f : Int → Int → Int) (nx : Nat) : Sp := fun ls st al hi hr => match st with
  | some (.inl y) :: some (.inl x) :: st => oN nx ls (vI (f x y) :: st) al hi hr
  | _ => none
def sD2 (f : Int → Int → Int) (nx : Nat) : Sp := fun ls st al hi hr => match st with
  | some (.inl y) :: some (.inl x) :: st => if y = 0 then none else oN nx ls (vI (f x y) :: st) al hi hr
  | _ => none
def sB1 (f : Int → Int) (nx : Nat) : Sp := fun ls st al hi hr => match st with
  | some (.inl x) :: st => oN nx ls (vI (f x) :: st) al hi hr
  | _ => none
def sI2L (nx : Nat) : Sp := fun ls st al hi hr => match st with
  | some (.inl x) :: st => oN nx ls (vL x :: st) al hi hr
  | _ => none
def sL2I (nx : Nat) : Sp := fun ls st al hi hr => match st with
  | some (.inr (.inr x)) :: st => oN nx ls (vI (wr x) :: st) al hi hr
  | _ => none
def sLAdd (nx : Nat) : Sp := fun ls st al hi hr => match st with
  | some (.inr (.inr y)) :: some (.inr (.inr x)) :: st => oN nx ls (vL (wl (x + y)) :: st) al hi hr
  | _ => none
def fLc (x y : Int) : Int := if x < y then -1 else if x = y then 0 else 1
def sLCmp (nx : Nat) : Sp := fun ls st al hi hr => match st with
  | some (.inr (.inr y)) :: some (.inr (.inr x)) :: st => oN nx ls (vI (fLc x y) :: st) al hi hr
  | _ => none
/-- the category-one values: an int or a reference -/
def cat1 : AV → Bool
  | some (.inl _) => true
  | some (.inr (.inl _)) => true
  | _ => false
def sDup (nx : Nat) : Sp := fun ls st al hi hr => match st with
  | v :: st => if cat1 v then oN nx ls (v :: v :: st) al hi hr else none
  | _ => none
def sPop (nx : Nat) : Sp := fun ls st al hi hr => match st with
  | v :: st => if cat1 v then oN nx ls st al hi hr else none
  | _ => none
def sDup2 (nx : Nat) : Sp := fun ls st al hi hr => match st with
  | v :: w :: st => if cat1 v && cat1 w then oN nx ls (v :: w :: v :: w :: st) al hi hr else none
  | _ => none
/-- at most four -/
def sh4 : List AV → Bool
  | [] => true
  | [_] => true
  | [_, _] => true
  | [_, _, _] => true
  | [_, _, _, _] => true
  | _ => false
def sh8 (st : List AV) : Bool := decide (st.length ≤ 8) && st.all cat1
def sCt (nx : Nat) : Sp := fun ls st al hi hr => match st with
  | some (.inr (.inl (some _))) :: st => if sh4 st then oN nx ls st al hi hr else none
  | _ => none
def sM2 (f : Int → Int → Int) (nx : Nat) : Sp := fun ls st al hi hr => match st with
  | some (.inl y) :: some (.inl x) :: st => if sh4 st then oN nx ls (vI (f x y) :: st) al hi hr else none
  | _ => none
-- branches: c 0 eq, 1 ne, 2 lt, 3 ge, 4 gt, 5 le
def cnd (c : Nat) (x y : Int) : Bool := match c with
  | 0 => decide (x = y)
  | 1 => decide (x ≠ y)
  | 2 => decide (x < y)
  | 3 => decide (y ≤ x)
  | 4 => decide (y < x)
  | _ => decide (x ≤ y)
def sI1 (c t nx : Nat) : Sp := fun ls st al hi hr => match st with
  | some (.inl x) :: st => if cnd c x 0 then oN t ls st al hi hr else oN nx ls st al hi hr
  | _ => none
def sI2 (c t nx : Nat) : Sp := fun ls st al hi hr => match st with
  | some (.inl y) :: some (.inl x) :: st => if cnd c x y then oN t ls st al hi hr else oN nx ls st al hi hr
  | _ => none
def sNl (t nx : Nat) : Sp := fun ls st al hi hr => match st with
  | some (.inr (.inl none)) :: st => oN t ls st al hi hr
  | some (.inr (.inl (some _))) :: st => oN nx ls st al hi hr
  | _ => none
def sGo (t : Nat) : Sp := fun ls st al hi hr => oN t ls st al hi hr
def swt : List (Int × Nat) → Nat → Int → Nat
  | [], d, _ => d
  | (v, t) :: l, d, x => if x = v then t else swt l d x
def sSw (l : List (Int × Nat)) (d : Nat) : Sp := fun ls st al hi hr => match st with
  | some (.inl x) :: st => oN (swt l d x) ls st al hi hr
  | _ => none
-- fields
def sGI (c : Nat) (k : Nat) (nx : Nat) : Sp := fun ls st al hi hr => match st with
  | some (.inr (.inl (some a))) :: st => if isKb al a c then oN nx ls (vI (hi a k) :: st) al hi hr else none
  | _ => none
def sGR (c : Nat) (k : Nat) (nx : Nat) : Sp := fun ls st al hi hr => match st with
  | some (.inr (.inl (some a))) :: st => if isKb al a c then oN nx ls (vR (hr a k) :: st) al hi hr else none
  | _ => none
def sPI (c : Nat) (k : Nat) (nx : Nat) : Sp := fun ls st al hi hr => match st with
  | some (.inl x) :: some (.inr (.inl (some a))) :: st => if isKb al a c then oN nx ls st al (upI hi a k x) hr else none
  | _ => none
def sPZ (c : Nat) (k : Nat) (nx : Nat) : Sp := fun ls st al hi hr => match st with
  | some (.inl x) :: some (.inr (.inl (some a))) :: st => if isKb al a c && (decide (x = 0) || decide (x = 1)) then oN nx ls st al (upI hi a k x) hr else none
  | _ => none
def sPR (c : Nat) (k : Nat) (nx : Nat) : Sp := fun ls st al hi hr => match st with
  | some (.inr (.inl r)) :: some (.inr (.inl (some a))) :: st => if isKb al a c then oN nx ls st al hi (upR hr a k r) else none
  | _ => none
def sGS (nx : Nat) : Sp := fun ls st al hi hr => oN nx ls (vR (some 0) :: st) al hi hr
-- new cells
/-- new, dup, constructor of the exception, in one -/
def sNE (nx : Nat) : Sp := fun ls st al hi hr => match st with
  | [v] => oN nx ls [vR (some al.1), v] (nwA al 0 0 6) (zeI hi al.1) (zeR hr al.1)
  | _ => none
def sNew (c n : Nat) (nx : Nat) : Sp := fun ls st al hi hr => oN nx ls (vR (some al.1) :: st) (nwA al c 0 n) (zeI hi al.1) (zeR hr al.1)
def sNA (k : Nat) (nx : Nat) : Sp := fun ls st al hi hr => match st with
  | some (.inl x) :: st => if 0 ≤ x ∧ x ≤ 100000 then oN nx ls (vR (some al.1) :: st) (nwA al k x.toNat x.toNat) (zeI hi al.1) (zeR hr al.1) else none
  | _ => none
-- arrays
/-- i is a place of the array a -/
def inA (al : AL) (a : Nat) (i : Int) : Bool := decide (0 ≤ i) && decide (i < aln al a)
def isA (al : AL) (a k : Nat) : Bool := isKb al a k
def isF (al : AL) (a : Nat) : Bool := decide (a < 2) && decide ((al.2.2 a).1 = 21)
def sIA (nx : Nat) : Sp := fun ls st al hi hr => match st with
  | some (.inl i) :: some (.inr (.inl (some a))) :: st => if (isKb al a 15 || isF al a) && inA al a i then oN nx ls (vI (hi a i) :: st) al hi hr else none
  | _ => none
def sBA (nx : Nat) : Sp := fun ls st al hi hr => match st with
  | some (.inl i) :: some (.inr (.inl (some a))) :: st => if (isKb al a 14 || isKb al a 16) && inA al a i then oN nx ls (vI (hi a i) :: st) al hi hr else none
  | _ => none
def isQ (al : AL) (a : Nat) : Bool := decide (2 ≤ a) && decide (a < al.1) && decide (17 ≤ (al.2.2 a).1) && decide ((al.2.2 a).1 ≤ 20)
/-- the class of an array's items -/
def elc (k : Nat) : Nat := if k = 17 then 3 else if k = 18 then 8 else if k = 19 then 9 else 10
def sRA (nx : Nat) : Sp := fun ls st al hi hr => match st with
  | some (.inl i) :: some (.inr (.inl (some a))) :: st => if isQ al a && inA al a i then oN nx ls (vR (hr a i) :: st) al hi hr else none
  | _ => none
def sIS (nx : Nat) : Sp := fun ls st al hi hr => match st with
  | some (.inl x) :: some (.inl i) :: some (.inr (.inl (some a))) :: st => if isKb al a 15 && inA al a i then oN nx ls st al (upI hi a i x) hr else none
  | _ => none
def sBS (nx : Nat) : Sp := fun ls st al hi hr => match st with
  | some (.inl x) :: some (.inl i) :: some (.inr (.inl (some a))) :: st => if (isKb al a 14 || isKb al a 16) && inA al a i then oN nx ls st al (upI hi a i (if tgk al a = 14 then fB x else fZ x)) hr else none
  | _ => none
def sRS (nx : Nat) : Sp := fun ls st al hi hr => match st with
  | some (.inr (.inl none)) :: some (.inl i) :: some (.inr (.inl (some a))) :: st => if isQ al a && inA al a i then oN nx ls st al hi (upR hr a i none) else none
  | some (.inr (.inl (some b))) :: some (.inl i) :: some (.inr (.inl (some a))) :: st => if isQ al a && inA al a i && isKb al b (elc (tgk al a)) then oN nx ls st al hi (upR hr a i (some b)) else none
  | _ => none
def isR (al : AL) (a : Nat) : Bool := (decide (2 ≤ a) && decide (a < al.1) && decide (14 ≤ (al.2.2 a).1) && decide ((al.2.2 a).1 ≤ 20)) || isF al a
def sLen (nx : Nat) : Sp := fun ls st al hi hr => match st with
  | some (.inr (.inl (some a))) :: st => if isR al a then oN nx ls (vI (aln al a) :: st) al hi hr else none
  | _ => none
def sCp (nx : Nat) : Sp := fun ls st al hi hr => match st with
  | some (.inl n) :: some (.inl dp) :: some (.inr (.inl (some b))) :: some (.inl sp) :: some (.inr (.inl (some a))) :: st =>
    if sh4 st && isKb al a 15 && isKb al b 15 && decide (0 ≤ sp ∧ 0 ≤ dp ∧ 0 ≤ n ∧ sp + n ≤ aln al a ∧ dp + n ≤ aln al b) then oN nx ls st al (cpI hi a sp b dp n) hr else none
  | _ => none
-- calls and ends
def tk : Nat → List AV → List AV → Option (List AV × List AV)
  | 0, acc, st => some (acc, st)
  | n + 1, acc, v :: st => tk n (v :: acc) st
  | _ + 1, _, [] => none
def shw (w : Bool) (st : List AV) : Bool := match w with
  | true => sh8 st
  | false => sh4 st
/-- a static call; of an instance's method, the receiver of kind c; of a constructor -/
def sCS (w : Bool) (k n nx : Nat) : Sp := fun ls st _ _ _ => match tk n [] st with
  | some (as, st) => if as.all cat1 && shw w st then oC k as nx ls st else none
  | none => none
def sCV (w : Bool) (k n c nx : Nat) : Sp := fun ls st al _ _ => match tk n [] st with
  | some (some (.inr (.inl (some a))) :: as, st) => if isKb al a c && (as.all cat1 && shw w st) then oC k (vR (some a) :: as) nx ls st else none
  | _ => none
def sCI (k n nx : Nat) : Sp := fun ls st _ _ _ => match tk n [] st with
  | some (some (.inr (.inl (some a))) :: as, st) => if as.all cat1 && sh4 st then oC k (vR (some a) :: as) nx ls st else none
  | _ => none
/-- a call whose third argument is a long -/
def sCL (k c nx : Nat) : Sp := fun ls st al _ _ => match st with
  | some (.inl w) :: some (.inr (.inr x)) :: some (.inl p) :: some (.inr (.inl (some a))) :: st => if isKb al a c && sh4 st then oC k [vR (some a), vI p, vL x, vI w] nx ls st else none
  | _ => none
def sRI : Sp := fun _ st _ _ _ => match st with
  | [some (.inl x)] => oR (some (vI x))
  | _ => none
def sRZ : Sp := fun _ st _ _ _ => match st with
  | [some (.inl x)] => if x = 0 ∨ x = 1 then oR (some (vI x)) else none
  | _ => none
def sRR : Sp := fun _ st _ _ _ => match st with
  | [some (.inr (.inl r))] => oR (some (vR r))
  | _ => none
def sRV : Sp := fun _ st _ _ _ => match st with
  | [] => oR none
  | _ => none
def sTh : Sp := fun _ st al _ _ => match st with
  | some (.inr (.inl (some a))) :: _ => if isKb al a 0 then oT else none
  | _ => none
def sX : Sp := fun _ _ _ _ _ => none
