/-! RUNNING, the class: its memory and the state -/
section CR0
variable {T : TXs} {al0 : AL} {hi0 : HI} {hr0 : HR} {al al' : AL} {hi hi' : HI} {hr hr' : HR} {s s' : HI} {A A' : Int → Int → Int} {NN : Int → Option Nat} {E : Int → Prop} {p q m f v w : Int} {B : Int → Int} {X Y : Tst} {t t' N : Nat}
/-- sorts, as the class writes them -/
def kmp (w : Int) : Int := if w = 0 then 0 else if w = 1 then 1 else if w = 2 then 4 else if w = 3 then 5 else 7
def kmq (w : Int) : Int := if w = 4 then -1 else kmp w
/-- values: of boxes their addresses -/
def vm (A : Int → Int → Int) (p v w : Int) : Int := if w = 1 then (if v = 0 then 0 else A p v) else v
/-- cells that are a process's -/
def Zt (hr : HR) (a : Nat) : Prop := ∃ q t, 0 ≤ q ∧ q < 12 ∧ hr 27 q = some t ∧ t ≤ a ∧ a ≤ t + 6
/-- a row of cells for a heap -/
def pool (hr : HR) (a : Nat) : Prop := a = 43 ∨ ∃ q t, 0 ≤ q ∧ q < 12 ∧ hr 27 q = some t ∧ a = t + 6
def GM (al : AL) (hi : HI) (hr : HR) (N : Nat) (B : Int → Int) : Prop := ∃ n L, GC al hi hr N n B L ∧ ∀ a, N ≤ a → a < L → ¬ Zt hr a
def TkS (al : AL) (hr : HR) (t : Nat) : Prop := (119 ≤ t ∧ isK al t 9) ∧ (hr t 9 = some (t + 1) ∧ isK al (t + 1) 15 ∧ aln al (t + 1) = 16) ∧ (hr t 10 = some (t + 2) ∧ isK al (t + 2) 15 ∧ aln al (t + 2) = 16) ∧ (hr t 11 = some (t + 3) ∧ isK al (t + 3) 15 ∧ aln al (t + 3) = 16) ∧ (hr t 12 = some (t + 4) ∧ isK al (t + 4) 15 ∧ aln al (t + 4) = 416) ∧ (hr t 13 = some (t + 5) ∧ isK al (t + 5) 15 ∧ aln al (t + 5) = 416) ∧ isK al (t + 6) 15 ∧ aln al (t + 6) = 1025
/-- the processes' cells -/
def TkA (al : AL) (hr : HR) : Prop := (∀ q t, 0 ≤ q → q < 12 → hr 27 q = some t → TkS al hr t ∧ ∃ c, hr t 15 = some c ∧ pool hr c ∧ hr 26 5 ≠ some c) ∧ (∃ c, hr 26 5 = some c ∧ pool hr c) ∧ ∀ q q' t t', 0 ≤ q → q < 12 → 0 ≤ q' → q' < 12 → q ≠ q' → hr 27 q = some t → hr 27 q' = some t' → (t + 6 < t' ∨ t' + 6 < t) ∧ hr t 15 ≠ hr t' 15
/-- the heap -/
def hdr (t n : Int) : Int := if kindM t = 1 then 65536 * whichM t + (n - 1) else if kindM t = 2 then 524288 + (n - 1) else 589824 + (n - 1)
def HpC (A : Int → Int → Int) (hi : HI) (c : Nat) (fr : Int) (s : HI) (p : Int) : Prop := (1 ≤ fr ∧ fr ≤ s 92 p + 1) ∧ (∀ b, A p b ≠ 0 → (1 ≤ b ∧ b ≤ 1024) ∧ 1 ≤ s 100 (1025 * p + b) ∧ (1 ≤ A p b ∧ A p b + s 100 (1025 * p + b) ≤ fr) ∧ hi c (A p b) = hdr (s 302 (1025 * p + b)) (s 100 (1025 * p + b)) ∧ ∀ i, 0 ≤ i → i < s 100 (1025 * p + b) - 1 → hi c (A p b + 1 + i) = vm A p (s 300 (hx p b i)) (s 301 (hx p b i)) ∧ (s 301 (hx p b i) = 1 → s 300 (hx p b i) ≠ 0 → A p (s 300 (hx p b i)) ≠ 0)) ∧ (∀ b b', A p b ≠ 0 → A p b' ≠ 0 → b ≠ b' → A p b + s 100 (1025 * p + b) ≤ A p b' ∨ A p b' + s 100 (1025 * p + b') ≤ A p b) ∧ ∀ i, pl s p i → s 99 i = 1 → s 98 i ≠ 0 → A p (s 98 i) ≠ 0
/-- the class's place of a local, or of what is on the stack -/
def slt (k : Int) : Int := if k < 10 then 16 + k else k - 10
/-- a process that is there -/
def TkH (hi : HI) (s : HI) (p : Int) (t : Nat) : Prop := hi t 0 = p ∧ hi t 2 = s 91 p - 6 ∧ hi t 3 = s 92 p ∧ hi t 4 = s 89 p ∧ hi t 5 = s 90 p ∧ hi t 6 = s 93 p
/-- one that goes on -/
def TkL (A : Int → Int → Int) (hi : HI) (hr : HR) (NN : Int → Option Nat) (s : HI) (p : Int) (t : Nat) : Prop := (∃ N, NN (s 91 p) = some N ∧ hr t 1 = some N) ∧ (hi t 7 = s 94 p ∧ hi t 8 = s 94 p - 1) ∧ (∀ a, 0 ≤ a → a < s 94 p → hi (t + 1) a = s 95 (16 * p + a) ∧ hi (t + 2) a = s 96 (16 * p + a) ∧ hi (t + 3) a = s 97 (16 * p + a)) ∧ (∀ a k, 0 ≤ a → a < s 94 p → 0 ≤ k → k < 10 + s 97 (16 * p + a) → hi (t + 4) (26 * a + slt k) = kmp (s 99 (26 * (16 * p + a) + k)) ∧ hi (t + 5) (26 * a + slt k) = vm A p (s 98 (26 * (16 * p + a) + k)) (s 99 (26 * (16 * p + a) + k))) ∧ ∃ c, hr t 15 = some c ∧ HpC A hi c (hi t 16) s p
/-- blocks -/
def bcn (s : HI) : Nat → Int
  | 0 => 0
  | n + 1 => bcn s n + (if s 109 n = -1 then 0 else 1)
def BlC (hi s : HI) : Prop := (∀ b, 0 ≤ b → b < 128 → hi 30 b = (if s 109 b = -1 then 0 else s 109 b) ∧ (s 109 b ≠ -1 → hi 31 b = s 110 b ∧ ∀ j, 0 ≤ j → j < s 109 b → hi 32 (6 * b + j) = s 111 (6 * b + j))) ∧ hi 29 3 = bcn s 128 ∧ hi 29 4 = bcl s 128
/-- ends; those of E are closed, but what waits for them is still there -/
def EnC0 (T : TXs) (hi : HI) (hr : HR) (NN : Int → Option Nat) (E : Int → Prop) (s : HI) : Prop := (∀ e, E e → opn s e) ∧ (∀ e, 0 ≤ e → e < 24 → (hi 34 e = 0 ∨ hi 34 e = 1) ∧ (hi 34 e = 1 ↔ opn s e ∧ ¬ E e) ∧ hi 38 e = s 114 e ∧ (opn s e → (¬ E e → hi 35 e = s 112 e ∧ hi 36 e = s 113 e) ∧ ∀ k, 0 ≤ k → k < s 114 e → hi 39 (4 * e + k) = s 115 (4 * e + k) ∧ hi 40 (4 * e + k) = kmq (s 117 (4 * e + k)) ∧ hi 41 (4 * e + k) = s 116 (4 * e + k))) ∧ ∀ c, 0 ≤ c → c < 12 → (opn s (2 * c) ∨ opn s (2 * c + 1)) → ∃ m cc N o, NN m = some N ∧ (0 ≤ cc ∧ cc < nCtr (T m)) ∧ hr (N + 4) cc = some o ∧ hr 37 c = some o ∧ ∀ e, opn s e → e / 2 = c → Alk (T m) (T (s 118 e / 4)) cc (s 118 e % 4)
/-- how many are open -/
def opc (hi : HI) : Nat → Int
  | 0 => 0
  | n + 1 => opc hi n + (if hi 34 n = 1 then 1 else 0)
/-- the list of those to close, from its place i on -/
def ClL (i : Int) (hi : HI) (E : Int → Prop) : Prop := (0 ≤ hi 33 10 ∧ hi 33 10 + opc hi 24 ≤ 24) ∧ (∀ j, i ≤ j → j < hi 33 10 → E (hi 42 j)) ∧ (∀ j j', i ≤ j → j < j' → j' < hi 33 10 → hi 42 j ≠ hi 42 j') ∧ ∀ e, E e → ∃ j, i ≤ j ∧ j < hi 33 10 ∧ hi 42 j = e
def EnC (T : TXs) (hi : HI) (hr : HR) (NN : Int → Option Nat) (E : Int → Prop) (s : HI) : Prop := EnC0 T hi hr NN E s ∧ ClL 0 hi E
/-- the machine's scalars, and what came out -/
def MaC (hi s : HI) : Prop := hi 26 0 = 1 ∧ hi 26 8 = s 49 55 ∧ hi 26 9 = s 49 52 ∧ hi 26 10 = s 49 53 ∧ hi 26 11 = s 49 54 ∧ (∀ q, 0 ≤ q → q < 12 → hi 28 q = if q < s 49 56 then 1 else 0) ∧ ∀ i, 0 ≤ i → i < s 49 55 → hi 44 i = s 87 i ∧ hi 45 i = s 88 i
/-- what running leaves as it was -/
def Fx (al0 : AL) (hi0 : HI) (hr0 : HR) (al : AL) (hi : HI) (hr : HR) : Prop := (∃ c z, GA al0 al c z) ∧ (∀ a i, (a < 26 ∨ (49 ≤ a ∧ a < 119)) → hi a i = hi0 a i ∧ hr a i = hr0 a i) ∧ (∀ a i, 119 ≤ a → a < al0.1 → ¬ Zt hr a → hi a i = hi0 a i ∧ hr a i = hr0 a i) ∧ (∀ a, a < al0.1 → Zt hr a → Zt hr0 a) ∧ ∀ q t, 0 ≤ q → q < 12 → hr 27 q = some t → hi t 0 = q
/-- how many processes were made -/
def tcn (hr : HR) : Nat → Nat
  | 0 => 0
  | n + 1 => tcn hr n + (match hr 27 n with | none => 0 | some _ => 1)
def RoomC (al0 : AL) (hr0 : HR) (al : AL) (hr : HR) : Prop := al.1 + 7 * tcn hr0 12 ≤ al0.1 + 7 * tcn hr 12 ∧ al.2.1 + 2000 * tcn hr0 12 ≤ al0.2.1 + 2000 * tcn hr 12
/-- the whole -/
def Bs (T : TXs) (NN : Int → Option Nat) (al0 : AL) (hi0 : HI) (hr0 : HR) : Prop := (∀ m N, NN m = some N → GM al0 hi0 hr0 N (T m) ∧ N < al0.1) ∧ SA al0
def RelC (T : TXs) (NN : Int → Option Nat) (al0 : AL) (hi0 : HI) (hr0 : HR) (E : Int → Prop) (A : Int → Int → Int) (al : AL) (hi : HI) (hr : HR) (s : HI) : Prop := (SA al ∧ CR hr ∧ Fx al0 hi0 hr0 al hi hr ∧ RoomC al0 hr0 al hr) ∧ MaC hi s ∧ BlC hi s ∧ EnC T hi hr NN E s ∧ TkA al hr ∧ (∀ q, 0 ≤ q → q < 12 → q < s 49 56 → ∃ t, hr 27 q = some t ∧ TkH hi s q t) ∧ ∀ q t, 0 ≤ q → q < 12 → hr 27 q = some t → s 89 q < 4 → TkL A hi hr NN s q t
/-- without the list -/
def RelS (T : TXs) (NN : Int → Option Nat) (al0 : AL) (hi0 : HI) (hr0 : HR) (E : Int → Prop) (A : Int → Int → Int) (al : AL) (hi : HI) (hr : HR) (s : HI) : Prop := (SA al ∧ CR hr ∧ Fx al0 hi0 hr0 al hi hr ∧ RoomC al0 hr0 al hr) ∧ MaC hi s ∧ BlC hi s ∧ EnC0 T hi hr NN E s ∧ TkA al hr ∧ (∀ q, 0 ≤ q → q < 12 → q < s 49 56 → ∃ t, hr 27 q = some t ∧ TkH hi s q t) ∧ ∀ q t, 0 ≤ q → q < 12 → hr 27 q = some t → s 89 q < 4 → TkL A hi hr NN s q t
theorem RelC.rs_ (h : RelC T NN al0 hi0 hr0 E A al hi hr s) : RelS T NN al0 hi0 hr0 E A al hi hr s ∧ ClL 0 hi E := ⟨⟨h.1, h.2.1, h.2.2.1, h.2.2.2.1.1, h.2.2.2.2⟩, h.2.2.2.1.2⟩
theorem RelS.rc_ (h : RelS T NN al0 hi0 hr0 E A al hi hr s) (h2 : ClL 0 hi E) : RelC T NN al0 hi0 hr0 E A al hi hr s := ⟨h.1, h.2.1, h.2.2.1, ⟨h.2.2.2.1, h2⟩, h.2.2.2.2⟩
theorem opc_c (h : ∀ i, hi' 34 i = hi 34 i) : ∀ n, opc hi' n = opc hi n
  | 0 => rfl
  | n + 1 => by unfold opc; rw [opc_c h n, h]
end CR0
