/-! RUNNING: the spec. A state is a HI, its columns numbered as the reference's cells; 300, 301: a box's items and their sorts; 302: a box's type -/
section SP0
def ai (s : HI) (p : Int) : Int := 16 * p + s 94 p - 1
def hg (s : HI) (p : Int) : Int := s 97 (ai s p)
def sk (s : HI) (p k : Int) : Int := 26 * ai s p + 10 + k
def st2 (s : HI) (i v w : Int) : HI := upI (upI s 98 i v) 99 i w
def psh (s : HI) (p v w : Int) : HI := upI (st2 s (sk s p (hg s p)) v w) 97 (ai s p) (hg s p + 1)
def pp (s : HI) (p n : Int) : HI := upI s 97 (ai s p) (hg s p - n)
/-- value and sort, so far below the top -/
def tv (s : HI) (p k : Int) : Int := s 98 (sk s p (hg s p - 1 - k))
def ts (s : HI) (p k : Int) : Int := s 99 (sk s p (hg s p - 1 - k))
def goS (s : HI) (p q : Int) : HI := upI s 96 (ai s p) q
def hx (p b i : Int) : Int := (1025 * p + b) * 1024 + i
/-! ends and blocks that go -/
def opn (s : HI) (e : Int) : Prop := 0 ≤ e ∧ e < 24 ∧ s 112 e ≠ -1
/-- the ends that go with those of E -/
def clo (s : HI) (E : Int → Prop) (e : Int) : Prop := ∀ C : Int → Prop, (∀ x, E x → opn s x → C x) → (∀ x k, C x → 0 ≤ k → k < s 114 x → s 117 (4 * x + k) = 3 → opn s (s 116 (4 * x + k)) → C (s 116 (4 * x + k))) → C e
theorem clo_s {s : HI} {E : Int → Prop} {x : Int} (h : E x) (ho : opn s x) : clo s E x := fun C h1 _ => h1 x h ho
theorem clo_k {s : HI} {E : Int → Prop} {x k : Int} (h : clo s E x) (k0 : 0 ≤ k) (k1 : k < s 114 x) (h3 : s 117 (4 * x + k) = 3) (ho : opn s (s 116 (4 * x + k))) : clo s E (s 116 (4 * x + k)) := fun C h1 h2 => h2 x k (h C h1 h2) k0 k1 h3 ho
theorem clo_o {s : HI} {E : Int → Prop} {x : Int} (h : clo s E x) : opn s x := h (opn s) (fun _ _ h => h) (fun _ _ _ _ _ _ h => h)
/-- the blocks that go with ends of C -/
def blo (s : HI) (C : Int → Prop) (b : Int) : Prop := ∃ x k, C x ∧ 0 ≤ k ∧ k < s 114 x ∧ s 117 (4 * x + k) = 2 ∧ s 116 (4 * x + k) = b
noncomputable def clsS (s : HI) (E : Int → Prop) : HI := fun a i => cif (a = 112 ∧ clo s E i) (-1) (cif (a = 114 ∧ clo s E i) 0 (cif (a = 109 ∧ blo s (clo s E) i) (-1) (s a i)))
noncomputable def losS (s : HI) (v w : Int) : HI := if w = 2 then upI s 109 v (-1) else if w = 3 then clsS s (fun e => e = v) else s
def ownS (s : HI) (v w o : Int) : HI := if w = 2 then upI s 110 v o else if w = 3 then upI s 113 v o else s
noncomputable def frbS (s : HI) (p : Int) : HI := fun a i => cif (a = 109 ∧ 0 ≤ i ∧ i < 128 ∧ s 109 i ≠ -1 ∧ s 110 i = p) (-1) (s a i)
noncomputable def ovrS (s : HI) (p w : Int) : HI := clsS (frbS (upI s 89 p w) p) (fun e => s 113 e = p)
noncomputable def trpS (s : HI) (p w : Int) : HI := ovrS (upI s 90 p w) p 5
/-! the heap -/
/-- what a process has: its roots -/
def rot (s : HI) (p b : Int) : Prop := ∃ a k, 0 ≤ a ∧ a < s 94 p ∧ 0 ≤ k ∧ k < 10 + s 97 (16 * p + a) ∧ s 99 (26 * (16 * p + a) + k) = 1 ∧ s 98 (26 * (16 * p + a) + k) = b ∧ 0 < b
def rch (s : HI) (p b : Int) : Prop := ∀ C : Int → Prop, (∀ x, rot s p x → C x) → (∀ x i, C x → 0 ≤ i → i < s 100 (1025 * p + x) - 1 → s 301 (hx p x i) = 1 → 0 < s 300 (hx p x i) → C (s 300 (hx p x i))) → C b
theorem rch_r {s : HI} {p b : Int} (h : rot s p b) : rch s p b := fun C h1 _ => h1 b h
theorem rch_i {s : HI} {p b i : Int} (h : rch s p b) (i0 : 0 ≤ i) (i1 : i < s 100 (1025 * p + b) - 1) (h1 : s 301 (hx p b i) = 1) (h2 : 0 < s 300 (hx p b i)) : rch s p (s 300 (hx p b i)) := fun C c1 c2 => c2 b i (h C c1 c2) i0 i1 h1 h2
/-- cells that are reached -/
noncomputable def rsm (s : HI) (p : Int) : Nat := smN (fun k => cif (rch s p ((k : Int) + 1)) (s 100 (1025 * p + (k + 1))).toNat 0) 1024
/-- what is not reached goes -/
noncomputable def gcS (s : HI) (p : Int) : HI := fun a i => cif (a = 100 ∧ 1025 * p < i ∧ i ≤ 1025 * p + 1024 ∧ ¬ rch s p (i - 1025 * p)) 0 (s a i)
/-- the lowest box that is free -/
def frB (s : HI) (p : Int) : Nat → Int → Int
  | 0, k => k
  | n + 1, k => if s 100 (1025 * p + k) > 0 then frB s p n (k + 1) else k
/-- a new box k of n items, of sorts w i, of type t -/
def newB (s : HI) (p k n t : Int) (w : Int → Int) : HI := fun a i => if a = 100 ∧ i = 1025 * p + k then n + 1 else if a = 302 ∧ i = 1025 * p + k then t else if a = 300 ∧ hx p k 0 ≤ i ∧ i < hx p k n then 0 else if a = 301 ∧ hx p k 0 ≤ i ∧ i < hx p k n then w (i - hx p k 0) else s a i
noncomputable def mkF (s : HI) (p n : Int) : Prop := (rsm s p : Int) + n + 1 ≤ s 92 p
noncomputable def mkB (s : HI) (p : Int) : Int := frB (gcS s p) p 1024 1
/-- a box is made and put on the stack; or the trap -/
noncomputable def mkS (s : HI) (p n t : Int) (w : Int → Int) : HI := cif (mkF s p n) (psh (newB (gcS s p) p (mkB s p) n t w) p (mkB s p) 1) (trpS s p 5)
/-! blocks, channels, processes -/
def bcl (s : HI) : Nat → Int
  | 0 => 0
  | n + 1 => bcl s n + (if s 109 n = -1 then 0 else s 109 n + 1)
def frL (f : Int → Bool) : Nat → Int → Int
  | 0, k => k
  | n + 1, k => if f k then frL f n (k + 1) else k
def mkbS (s : HI) (p n : Int) : HI := let b := frL (fun k => decide (s 109 k ≠ -1)) 128 0
  psh (fun a i => if a = 109 ∧ i = b then n else if a = 110 ∧ i = b then p else if a = 111 ∧ 6 * b ≤ i ∧ i < 6 * b + 6 then 0 else s a i) p b 2
def frCh (s : HI) : Int := frL (fun k => decide (s 112 (2 * k) ≠ -1 ∨ s 112 (2 * k + 1) ≠ -1)) 12 0
/-- an end is opened, and put on the stack -/
def opE (s : HI) (p e c : Int) : HI := psh (upI (upI (upI (upI s 112 e 0) 113 e p) 114 e 0) 118 e c) p e 3
noncomputable def chnS (s : HI) (p c : Int) : HI := let k := frCh s
  if k = 12 then trpS s p 7 else opE (opE s p (2 * k) c) p (2 * k + 1) c
/-- activations -/
def actS (s : HI) (p f : Int) : HI := fun a i => if (a = 95 ∧ i = 16 * p + s 94 p) then f else if (a = 96 ∨ a = 97) ∧ i = 16 * p + s 94 p then 0 else if a = 98 ∧ 26 * (16 * p + s 94 p) ≤ i ∧ i < 26 * (16 * p + s 94 p) + 26 then 0 else if a = 99 ∧ 26 * (16 * p + s 94 p) ≤ i ∧ i < 26 * (16 * p + s 94 p) + 26 then 4 else if a = 94 ∧ i = p then s 94 p + 1 else s a i
/-- many values go from a place to the locals from i on -/
def mvS (s : HI) (fr i : Int) : Nat → HI
  | 0 => s
  | n + 1 => st2 (mvS s fr i n) (i + n) (mvS s fr i n 98 (fr + n)) (mvS s fr i n 99 (fr + n))
def staS (s : HI) (p m f c : Int) : HI := actS (fun a i => if a = 89 ∧ i = p then 1 else if (a = 90 ∨ a = 93 ∨ a = 94 ∨ a = 108) ∧ i = p then 0 else if a = 91 ∧ i = p then m else if a = 92 ∧ i = p then c else if a = 100 ∧ 1025 * p < i ∧ i < 1025 * p + 1025 then 0 else s a i) p f
noncomputable def calS (s : HI) (p f np : Int) : HI := if s 94 p = 16 then trpS s p 9 else
  mvS (actS (pp s p np) p f) (sk s p (hg s p - np)) (26 * (16 * p + s 94 p)) np.toNat
noncomputable def bckS (s : HI) (p : Int) (has : Prop) : HI :=
  let s1 := cif has (pp s p 1) s
  if s 94 p = 1 then ovrS s1 p 4 else cif has (psh (upI s1 94 p (s 94 p - 1)) p (tv s p 0) (ts s p 0)) (upI s1 94 p (s 94 p - 1))
/-- the lowest process that is none, or over -/
def frP (s : HI) : Int := frL (fun k => decide (s 89 k < 4)) 12 0
def hndS (s : HI) (fr i n9 : Int) : Nat → HI
  | 0 => s
  | n + 1 => ownS (st2 (hndS s fr i n9 n) (i + n) (hndS s fr i n9 n 98 (fr + n)) (hndS s fr i n9 n 99 (fr + n))) (hndS s fr i n9 n 98 (fr + n)) (hndS s fr i n9 n 99 (fr + n)) n9
noncomputable def spnS (s : HI) (p f np : Int) : HI := let n := frP s
  if n = 12 then trpS s p 8 else
  let s2 := hndS (staS (pp s p np) n (s 91 p) f (s 92 p)) (sk s p (hg s p - np)) (26 * (16 * n)) n np.toNat
  upI s2 49 56 (if s 49 56 < n + 1 then n + 1 else s 49 56)
/-- where the message's end is: 0 on top, 1 below -/
def depS (s : HI) (p t : Int) : Int := if ts s p 0 ≠ 3 then 1 else
  (fun e => if s 60 (8 * s 118 e + s 112 e) = 1 + e % 2 ∧ t < s 61 (8 * s 118 e + s 112 e) ∧ s 62 (4 * (8 * s 118 e + s 112 e) + t) = -1 then 0 else 1) (tv s p 0)
def oth (e : Int) : Int := if e % 2 = 0 then e + 1 else e - 1
noncomputable def sndS (s : HI) (p t : Int) : HI :=
  let dp := depS s p t
  let v := if dp = 1 then tv s p 0 else 0
  let w := if dp = 1 then ts s p 0 else 4
  let s1 := if dp = 1 then pp s p 1 else s
  let e := tv s1 p 0
  let s2 := upI s1 112 e (s1 63 (4 * (8 * s1 118 e + s1 112 e) + t))
  let o := oth e
  if s2 112 o = -1 then losS s2 v w else
  let k := 4 * o + s2 114 o
  ownS (upI (upI (upI (upI s2 115 k t) 116 k v) 117 k w) 114 o (s2 114 o + 1)) v w (100 + o)
/-- the first of the waiting goes, the others move up -/
def shfS (s : HI) (e : Int) : HI := fun a i => if a = 114 ∧ i = e then s 114 e - 1 else if (a = 115 ∨ a = 116 ∨ a = 117) ∧ 4 * e ≤ i ∧ i < 4 * e + s 114 e - 1 then s a (i + 1) else s a i
def rcvS (s : HI) (p : Int) (to : Int → Int) : HI :=
  let e := tv s p 0
  let t := s 115 (4 * e)
  let v := s 116 (4 * e)
  let w := s 117 (4 * e)
  let s1 := upI (shfS s e) 112 e (s 63 (4 * (8 * s 118 e + s 112 e) + t))
  let s2 := if w ≠ 4 then ownS (psh s1 p v w) v w p else s1
  goS s2 p (to t)
noncomputable def outS (s : HI) (p : Int) : HI := if s 49 55 = 500 then trpS (pp s p 1) p 10 else upI (upI (upI (pp s p 1) 87 (s 49 55) p) 88 (s 49 55) (tv s p 0)) 49 55 (s 49 55 + 1)
def rek (o x y : Int) : Int := if o = 7 then fAdd x y else if o = 8 then fSub x y else if o = 9 then fMul x y else if o = 10 then fDiv x y else if o = 11 then fRem x y else if o = 12 then fAnd x y else if o = 13 then fOr x y else if o = 14 then fXor x y else if o = 15 then fShl x (fAnd y 31) else if o = 16 then fShr x (fAnd y 31) else if o = 17 then (if x < y then 1 else 0) else (if x = y then 1 else 0)
/-- what an instruction does: o its number, v its operand, b the module's text, q where it stands in the text; f the function -/
noncomputable def exS (b : Int → Int) (f : Int) (s : HI) (p o v q : Int) : HI :=
  if o = 0 then psh s p (wdS b (q + 1) 4) 0 else
  if o = 1 then psh s p 0 1 else
  if o = 2 then (fun i => if s 99 i = 2 ∨ s 99 i = 3 then st2 (psh s p (s 98 i) (s 99 i)) i 0 4 else psh s p (s 98 i) (s 99 i)) (26 * ai s p + v) else
  if o = 3 then st2 (pp s p 1) (26 * ai s p + v) (tv s p 0) (ts s p 0) else
  if o = 4 then pp s p 1 else
  if o = 5 then psh s p (tv s p 0) (ts s p 0) else
  if o = 6 then st2 (st2 s (sk s p (hg s p - 1)) (tv s p 1) (ts s p 1)) (sk s p (hg s p - 1) - 1) (tv s p 0) (ts s p 0) else
  if o = 19 then psh (pp s p 1) p (if tv s p 0 = 0 then 1 else 0) 0 else
  if o < 20 then (if (o = 10 ∨ o = 11) ∧ tv s p 0 = 0 then trpS (pp s p 2) p 3 else psh (pp s p 2) p (rek o (tv s p 1) (tv s p 0)) 0) else
  if o = 20 then goS s p v else
  if o = 21 then (if tv s p 0 = 0 then goS (pp s p 1) p v else pp s p 1) else
  if o = 22 then mkS s p (nFld b v) (1 + 8 * v) (fun i => if heapT (fTy b v i) then 1 else 0) else
  if o = 23 then (if tv s p 0 = 0 then trpS (pp s p 1) p 1 else psh (pp s p 1) p (s 300 (hx p (tv s p 0) v)) (s 301 (hx p (tv s p 0) v))) else
  if o = 24 then (if tv s p 1 = 0 then trpS (pp s p 2) p 1 else upI (pp s p 2) 300 (hx p (tv s p 1) v) (tv s p 0)) else
  if o = 25 then (if tv s p 0 < 0 then trpS (pp s p 1) p 4 else mkS (pp s p 1) p (tv s p 0) 2 (fun _ => 0)) else
  if o = 26 then (if tv s p 0 < 0 then trpS (pp s p 1) p 4 else mkS (pp s p 1) p (tv s p 0) (3 + 8 * v) (fun _ => 1)) else
  if o = 27 then (if tv s p 0 = 0 then trpS (pp s p 1) p 1 else psh (pp s p 1) p (s 100 (1025 * p + tv s p 0) - 1) 0) else
  if o = 28 then (if tv s p 1 = 0 then trpS (pp s p 2) p 1 else if 0 ≤ tv s p 0 ∧ tv s p 0 < s 100 (1025 * p + tv s p 1) - 1 then psh (pp s p 2) p (s 300 (hx p (tv s p 1) (tv s p 0))) (s 301 (hx p (tv s p 1) (tv s p 0))) else trpS (pp s p 2) p 2) else
  if o = 29 then (if tv s p 2 = 0 then trpS (pp s p 3) p 1 else if 0 ≤ tv s p 1 ∧ tv s p 1 < s 100 (1025 * p + tv s p 2) - 1 then upI (pp s p 3) 300 (hx p (tv s p 2) (tv s p 1)) (tv s p 0) else trpS (pp s p 3) p 2) else
  if o = 30 then calS s p v (nPar b v) else
  if o = 31 then bckS s p (rTy b f ≠ -1) else
  if o = 32 then (if bcl s 128 + nFld b v + 1 > 256 then trpS s p 6 else mkbS s p (nFld b v)) else
  if o = 33 then psh s p (s 111 (6 * tv s p 0 + v)) 0 else
  if o = 34 then upI (pp s p 1) 111 (6 * tv s p 1 + v) (tv s p 0) else
  if o = 35 then upI (pp s p 1) 109 (tv s p 0) (-1) else
  if o = 36 then chnS s p (4 * s 91 p + v) else
  if o = 37 then sndS s p v else
  if o = 38 then rcvS s p (fun t => b (q + 2 + t)) else
  if o = 39 then clsS (pp s p 1) (fun e => e = tv s p 0) else
  if o = 40 then spnS s p v (nPar b v) else
  if o = 41 then s else
  if o = 42 then ovrS s p 4 else
  outS s p
/-! a turn -/
/-- the texts of the modules that what runs was booted with, by their slots -/
abbrev TXs : Type := Int → Int → Int
def fn9 (s : HI) (p : Int) : Int := s 95 (ai s p)
def pc9 (s : HI) (p : Int) : Int := s 96 (ai s p)
def qq9 (T : TXs) (s : HI) (p : Int) : Int := cAt (T (s 91 p)) (fn9 s p) + pc9 s p
def op9 (T : TXs) (s : HI) (p : Int) : Int := T (s 91 p) (qq9 T s p)
def ag9 (T : TXs) (s : HI) (p : Int) : Int := T (s 91 p) (qq9 T s p + 1)
/-- can it go on -/
def cgS (T : TXs) (s : HI) (p : Int) : Prop :=
  if op9 T s p = 38 then 0 < s 114 (tv s p 0) else
  if op9 T s p = 37 then (fun e => s 112 (oth e) = -1 ∨ s 114 (oth e) < 4) (tv s p (depS s p (ag9 T s p))) else True
/-- the step of a process -/
noncomputable def a1S (T : TXs) (s : HI) (p : Int) : HI := exS (T (s 91 p)) (fn9 s p) (goS s p (pc9 s p + ilen (T (s 91 p)) (qq9 T s p))) p (op9 T s p) (ag9 T s p) (qq9 T s p)
def nxS (s : HI) : HI := upI (upI s 49 53 ((s 49 53 + 1) % 12)) 49 54 0
/-- one look at the process whose turn it is: the state, and was it a step -/
noncomputable def lkS (T : TXs) (s : HI) : HI × Bool :=
  let p := s 49 53
  cif (s 89 p < 4 ∧ cgS T s p)
    ((fun s1 => if s1 49 54 = 8 ∨ op9 T s p = 41 ∨ 4 ≤ s1 89 p then nxS s1 else s1)
      (a1S T (upI (upI (upI (upI s 89 p 1) 93 p (s 93 p + 1)) 49 52 (s 49 52 + 1)) 49 54 (s 49 54 + 1)) p), true)
    (nxS (if s 89 p < 4 then upI s 89 p (if op9 T s p = 38 then 2 else 3) else s), false)
end SP0
