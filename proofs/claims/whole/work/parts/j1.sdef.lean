/-! SOUNDNESS: what holds of a state that runs -/
section SD1
variable {T : TXs} {s s' : HI} {p m v w t : Int} {B : Int → Int}
/-- a module that runs -/
def Mg (T : TXs) (s : HI) (m : Int) : Prop := (6 ≤ m ∧ m < 12) ∧ GMod s m (T m) ∧ ∀ f, 0 ≤ f → f < nFn (T m) → ∃ A, LC (T m) f A
/-- a box that is there, or NIL -/
def bxV (s : HI) (p v : Int) : Prop := v = 0 ∨ ((1 ≤ v ∧ v ≤ 1024) ∧ 1 ≤ s 100 (1025 * p + v))
def bxT (s : HI) (p v t : Int) : Prop := v = 0 ∨ ((1 ≤ v ∧ v ≤ 1024) ∧ 1 ≤ s 100 (1025 * p + v) ∧ s 302 (1025 * p + v) = t)
def blT (s : HI) (B : Int → Int) (v t : Int) : Prop := (0 ≤ v ∧ v < 128) ∧ s 109 v = nFld B (whichM t) ∧ s 109 v ≠ -1
def enT (T : TXs) (s : HI) (m v t : Int) : Prop := (0 ≤ v ∧ v < 24) ∧ s 112 v = stateM t ∧ v % 2 = sideM t ∧ Alk (T (s 118 v / 4)) (T m) (s 118 v % 4) (whichM t)
/-- a value that a type tells -/
def vOk (T : TXs) (s : HI) (p m v w t : Int) : Prop := (kindM t = 0 ∧ w = 0 ∧ rng v) ∨ (kindM t = 6 ∧ w = 1 ∧ v = 0) ∨ (heapT t ∧ w = 1 ∧ bxT s p v t) ∨ (kindM t = 7 ∧ ((w = 0 ∧ rng v) ∨ (w = 1 ∧ bxV s p v) ∨ (w = 4 ∧ v = 0))) ∨ (kindM t = 4 ∧ w = 2 ∧ blT s (T m) v t) ∨ (kindM t = 5 ∧ w = 3 ∧ enT T s m v t)
theorem bxT.any (h : bxT s p v t) : bxV s p v := h.imp id (fun h => ⟨h.1, h.2.1⟩)
theorem vOk.le {t' : Int} (h : vOk T s p m v w t) (hl : leT t t') : vOk T s p m v w t' := by
  rcases hl with rfl | ⟨rfl, h1⟩
  · exact h
  · right; right; left
    rcases h with ⟨k, -⟩ | ⟨k, h2, h3⟩ | ⟨k, -⟩ | ⟨k, -⟩ | ⟨k, -⟩ | ⟨k, -⟩
    · exact absurd k (by decide)
    · exact ⟨h1, h2, Or.inl h3⟩
    · exact absurd k (by decide)
    · exact absurd k (by decide)
    · exact absurd k (by decide)
    · exact absurd k (by decide)
theorem vOk.leL {t' : Int} (h : vOk T s p m v w t) (hl : leL t t') : vOk T s p m v w t' := by
  rcases hl with hl | ⟨rfl, h1⟩
  · exact h.le hl
  · right; right; right; left
    refine ⟨rfl, ?_⟩
    rcases h with ⟨k, h2, h3⟩ | ⟨k, h2, h3⟩ | ⟨k, h2, h3⟩ | ⟨k, h2⟩ | ⟨k, h2⟩ | ⟨k, h2⟩
    · exact Or.inl ⟨h2, h3⟩
    · exact Or.inr (Or.inl ⟨h2, Or.inl h3⟩)
    · exact Or.inr (Or.inl ⟨h2, h3.any⟩)
    · exact h2
    · exact absurd (Or.inl k) h1
    · exact absurd (Or.inr k) h1
theorem vOk.k0 (h : vOk T s p m v w t) (k : kindM t = 0) : w = 0 ∧ rng v := by
  rcases h with ⟨-, h⟩ | ⟨z, -⟩ | ⟨z, -⟩ | ⟨z, -⟩ | ⟨z, -⟩ | ⟨z, -⟩
  · exact h
  all_goals omega
theorem vOk.k6 (h : vOk T s p m v w t) (k : kindM t = 6) : w = 1 ∧ v = 0 := by
  rcases h with ⟨z, -⟩ | ⟨-, h⟩ | ⟨z, -⟩ | ⟨z, -⟩ | ⟨z, -⟩ | ⟨z, -⟩
  · omega
  · exact h
  all_goals omega
theorem vOk.kh (h : vOk T s p m v w t) (k : heapT t) : w = 1 ∧ bxT s p v t := by
  rcases h with ⟨z, -⟩ | ⟨z, -⟩ | ⟨-, h⟩ | ⟨z, -⟩ | ⟨z, -⟩ | ⟨z, -⟩
  · omega
  · omega
  · exact h
  all_goals omega
theorem vOk.k4 (h : vOk T s p m v w t) (k : kindM t = 4) : w = 2 ∧ blT s (T m) v t := by
  rcases h with ⟨z, -⟩ | ⟨z, -⟩ | ⟨z, -⟩ | ⟨z, -⟩ | ⟨-, h⟩ | ⟨z, -⟩
  · omega
  · omega
  · omega
  · omega
  · exact h
  · omega
theorem vOk.k5 (h : vOk T s p m v w t) (k : kindM t = 5) : w = 3 ∧ enT T s m v t := by
  rcases h with ⟨z, -⟩ | ⟨z, -⟩ | ⟨z, -⟩ | ⟨z, -⟩ | ⟨z, -⟩ | ⟨-, h⟩
  · omega
  · omega
  · omega
  · omega
  · omega
  · exact h
/-- what its sort says of the type -/
theorem vOk.w2 (h : vOk T s p m v w t) (k : w = 2) : kindM t = 4 ∧ blT s (T m) v t := by
  rcases h with ⟨-, z, -⟩ | ⟨-, z, -⟩ | ⟨-, z, -⟩ | ⟨-, z⟩ | ⟨k, z, h⟩ | ⟨-, z, -⟩
  · omega
  · omega
  · omega
  · omega
  · exact ⟨k, h⟩
  · omega
theorem vOk.w3 (h : vOk T s p m v w t) (k : w = 3) : kindM t = 5 ∧ enT T s m v t := by
  rcases h with ⟨-, z, -⟩ | ⟨-, z, -⟩ | ⟨-, z, -⟩ | ⟨-, z⟩ | ⟨-, z, -⟩ | ⟨k, z, h⟩
  · omega
  · omega
  · omega
  · omega
  · omega
  · exact ⟨k, h⟩
theorem vOk.w1 (h : vOk T s p m v w t) (k : w = 1) : bxV s p v := by
  rcases h with ⟨-, z, -⟩ | ⟨-, -, z⟩ | ⟨-, -, z⟩ | ⟨-, z | z | z⟩ | ⟨-, z, -⟩ | ⟨-, z, h⟩
  · omega
  · exact Or.inl z
  · exact z.any
  · omega
  · exact z.2
  · omega
  · omega
  · omega
theorem vOk.w14 (h : vOk T s p m v w t) : w = 0 ∨ w = 1 ∨ w = 2 ∨ w = 3 ∨ w = 4 := by
  rcases h with ⟨-, z, -⟩ | ⟨-, z, -⟩ | ⟨-, z, -⟩ | ⟨-, z | z | z⟩ | ⟨-, z, -⟩ | ⟨-, z, -⟩ <;> omega
theorem vOk.nl (h : vOk T s p m v w t) (k : ¬ linT t) : w ≠ 2 ∧ w ≠ 3 := ⟨fun z => k (Or.inl (h.w2 z).1), fun z => k (Or.inr (h.w3 z).1)⟩
theorem vOk.rn (h : vOk T s p m v w t) (k : w = 0) : rng v := by
  rcases h with ⟨-, -, z⟩ | ⟨-, z, -⟩ | ⟨-, z, -⟩ | ⟨-, z | z | z⟩ | ⟨-, z, -⟩ | ⟨-, z, -⟩
  · exact z
  · omega
  · omega
  · exact z.2
  · omega
  · omega
  · omega
  · omega
theorem vOk.int (h : rng v) : vOk T s p m v 0 0 := Or.inl ⟨rfl, rfl, h⟩
theorem vOk.nil : vOk T s p m 0 1 6 := Or.inr (Or.inl ⟨rfl, rfl, rfl⟩)
theorem vOk.emp : vOk T s p m 0 4 7 := Or.inr (Or.inr (Or.inr (Or.inl ⟨rfl, Or.inr (Or.inr ⟨rfl, rfl⟩)⟩)))
theorem vOk.box (h : bxT s p v t) (k : heapT t) : vOk T s p m v 1 t := Or.inr (Or.inr (Or.inl ⟨k, rfl, h⟩))
theorem vOk.blk (h : blT s (T m) v t) (k : kindM t = 4) : vOk T s p m v 2 t := Or.inr (Or.inr (Or.inr (Or.inr (Or.inl ⟨k, rfl, h⟩))))
theorem vOk.end_ (h : enT T s m v t) (k : kindM t = 5) : vOk T s p m v 3 t := Or.inr (Or.inr (Or.inr (Or.inr (Or.inr ⟨k, rfl, h⟩))))
/-- it stays what it is -/
def Vt (s s' : HI) (p v w : Int) : Prop := (w = 1 → 1 ≤ v → v ≤ 1024 → 1 ≤ s 100 (1025 * p + v) → 1 ≤ s' 100 (1025 * p + v) ∧ s' 302 (1025 * p + v) = s 302 (1025 * p + v)) ∧ (w = 2 → s' 109 v = s 109 v) ∧ (w = 3 → s' 112 v = s 112 v ∧ s' 118 v = s 118 v)
theorem vOk.tr (h : vOk T s p m v w t) (hv : Vt s s' p v w) : vOk T s' p m v w t := by
  rcases h with h | h | ⟨k, hw, h⟩ | ⟨k, h⟩ | ⟨k, hw, h1, h2, h3⟩ | ⟨k, hw, h1, h2, h3, h4⟩
  · exact Or.inl h
  · exact Or.inr (Or.inl h)
  · refine Or.inr (Or.inr (Or.inl ⟨k, hw, ?_⟩))
    rcases h with h | ⟨h1, h2, h3⟩
    · exact Or.inl h
    · have := hv.1 hw h1.1 h1.2 h2
      exact Or.inr ⟨h1, this.1, this.2.trans h3⟩
  · refine Or.inr (Or.inr (Or.inr (Or.inl ⟨k, ?_⟩)))
    rcases h with h | ⟨hw, h⟩ | h
    · exact Or.inl h
    · refine Or.inr (Or.inl ⟨hw, ?_⟩)
      rcases h with h | ⟨h1, h2⟩
      · exact Or.inl h
      · exact Or.inr ⟨h1, (hv.1 hw h1.1 h1.2 h2).1⟩
    · exact Or.inr (Or.inr h)
  · have e := hv.2.1 hw
    exact Or.inr (Or.inr (Or.inr (Or.inr (Or.inl ⟨k, hw, h1, by rw [e]; exact h2, by rw [e]; exact h3⟩))))
  · obtain ⟨e1, e2⟩ := hv.2.2 hw
    exact Or.inr (Or.inr (Or.inr (Or.inr (Or.inr ⟨k, hw, h1, by rw [e1]; exact h2, h3, by rw [e2]; exact h4⟩))))
/-- the value of what is no box, no block, no end needs nothing of the state -/
theorem Vt.rf (h1 : ∀ i, s' 100 i = s 100 i) (h2 : ∀ i, s' 302 i = s 302 i) (h3 : ∀ i, s' 109 i = s 109 i) (h4 : ∀ i, s' 112 i = s 112 i) (h5 : ∀ i, s' 118 i = s 118 i) : Vt s s' p v w := ⟨fun _ _ _ h => ⟨by rw [h1]; exact h, h2 _⟩, fun _ => h3 _, fun _ => ⟨h4 _, h5 _⟩⟩
/-- a frame of those types -/
def Frm (T : TXs) (s : HI) (p m x : Int) (X : Tst) : Prop := s 97 x = X.1 ∧ (∀ k, 0 ≤ k → k < X.1 → vOk T s p m (s 98 (26 * x + 10 + k)) (s 99 (26 * x + 10 + k)) (X.2.1 k)) ∧ ∀ k, 0 ≤ k → k < 10 → vOk T s p m (s 98 (26 * x + k)) (s 99 (26 * x + k)) (X.2.2 k)
theorem Frm.le {x : Int} {X Z : Tst} (h : Frm T s p m x X) (hl : leX X Z) : Frm T s p m x Z := ⟨h.1.trans hl.1, fun k a b => (h.2.1 k a (by rw [hl.1]; exact b)).le (hl.2.1 k a (by rw [hl.1]; exact b)), fun k a b => (h.2.2 k a b).leL (hl.2.2 k a b)⟩
theorem Frm.tr {x : Int} {X : Tst} (h : Frm T s p m x X) (e7 : s' 97 x = s 97 x) (e8 : ∀ i, 26 * x ≤ i → i < 26 * x + 10 + X.1 → s' 98 i = s 98 i ∧ s' 99 i = s 99 i) (x0 : 0 ≤ X.1) (hv : ∀ i, 26 * x ≤ i → i < 26 * x + 10 + X.1 → Vt s s' p (s 98 i) (s 99 i)) : Frm T s' p m x X := by
  refine ⟨e7.trans h.1, fun k a b => ?_, fun k a b => ?_⟩
  · obtain ⟨q1, q2⟩ := e8 (26 * x + 10 + k) (by omega) (by omega)
    rw [q1, q2]; exact (h.2.1 k a b).tr (hv _ (by omega) (by omega))
  · obtain ⟨q1, q2⟩ := e8 (26 * x + k) (by omega) (by omega)
    rw [q1, q2]; exact (h.2.2 k a b).tr (hv _ (by omega) (by omega))
/-- .. of a function that called, and waits -/
def retT (B : Int → Int) (g n : Int) (Z : Tst) : Prop := (rTy B g = -1 → Z.1 = n) ∧ (rTy B g ≠ -1 → Z.1 = n + 1 ∧ leT (rTy B g) (Z.2.1 n))
def SuI (T : TXs) (s : HI) (p m x : Int) : Prop := (0 ≤ s 95 x ∧ s 95 x < nFn (T m)) ∧ ∃ A Z n, LC (T m) (s 95 x) A ∧ 0 ≤ s 96 x ∧ A (s 96 x) = some Z ∧ (0 ≤ n ∧ n ≤ 16) ∧ Frm T s p m x (n, Z.2.1, Z.2.2) ∧ retT (T m) (s 95 (x + 1)) n Z
/-- .. of the one that runs -/
def ToI (T : TXs) (s : HI) (p m x : Int) : Prop := (0 ≤ s 95 x ∧ s 95 x < nFn (T m)) ∧ ∃ A X, LC (T m) (s 95 x) A ∧ 0 ≤ s 96 x ∧ A (s 96 x) = some X ∧ Frm T s p m x X
/-- the heap -/
def tyB (B : Int → Int) (t n : Int) : Prop := (kindM t = 1 ∧ whichM t < nRec B ∧ n = nFld B (whichM t) + 1) ∨ kindM t = 2 ∨ (kindM t = 3 ∧ whichM t < nRec B)
def itT (B : Int → Int) (t i : Int) : Int := if kindM t = 1 then fTy B (whichM t) i else itm t
def HpI (T : TXs) (s : HI) (p m : Int) : Prop := ∀ b, 1 ≤ b → b ≤ 1024 → (0 ≤ s 100 (1025 * p + b) ∧ s 100 (1025 * p + b) ≤ 1024) ∧ (1 ≤ s 100 (1025 * p + b) → tyB (T m) (s 302 (1025 * p + b)) (s 100 (1025 * p + b)) ∧ ∀ i, 0 ≤ i → i < s 100 (1025 * p + b) - 1 → vOk T s p m (s 300 (hx p b i)) (s 301 (hx p b i)) (itT (T m) (s 302 (1025 * p + b)) i))
/-- places -/
def pl (s : HI) (p i : Int) : Prop := ∃ x k, 16 * p ≤ x ∧ x ≤ ai s p ∧ 0 ≤ k ∧ k < 10 + s 97 x ∧ i = 26 * x + k
def OwI (s : HI) (p : Int) : Prop := (∀ i, pl s p i → (s 99 i = 2 → s 110 (s 98 i) = p) ∧ (s 99 i = 3 → s 113 (s 98 i) = p)) ∧ ∀ i j, pl s p i → pl s p j → i ≠ j → (s 99 i = 2 ∨ s 99 i = 3) → s 99 j = s 99 i → s 98 j ≠ s 98 i
def Pb (T : TXs) (s : HI) (p m : Int) : Prop := (0 ≤ p ∧ p < 12) ∧ (1 ≤ s 94 p ∧ s 94 p ≤ 16) ∧ s 91 p = m ∧ Mg T s m ∧ (0 ≤ s 92 p ∧ s 92 p ≤ 1024) ∧ s 89 p < 4
def PO (T : TXs) (s : HI) (p : Int) : Prop := ∃ m, Pb T s p m ∧ HpI T s p m ∧ (∀ x, 16 * p ≤ x → x < ai s p → SuI T s p m x) ∧ ToI T s p m (ai s p) ∧ OwI s p
def PJ (T : TXs) (s : HI) (p m f : Int) (X : Tst) : Prop := Pb T s p m ∧ HpI T s p m ∧ (∀ x, 16 * p ≤ x → x < ai s p → SuI T s p m x) ∧ ((0 ≤ f ∧ f < nFn (T m)) ∧ s 95 (ai s p) = f) ∧ (0 ≤ X.1 ∧ X.1 ≤ 16) ∧ Frm T s p m (ai s p) X ∧ OwI s p
/-- queues -/
def wk (B : Int → Int) (c : Int) (s : HI) (e : Int) : Nat → Int
  | 0 => s 112 e
  | k + 1 => thM B c (wk B c s e k) (s 115 (4 * e + k))
def qLd (T : TXs) (s : HI) (m v w L : Int) : Prop := (L = -1 ∧ w = 4) ∨ (L ≠ -1 ∧ vOk T s 0 m v w L)
def QM (T : TXs) (s : HI) (e m c : Int) (k : Nat) : Prop := (0 ≤ wk (T m) c s e k ∧ wk (T m) c s e k < nSt (T m) c) ∧ tnS (T m) c (wk (T m) c s e k) = 2 - e % 2 ∧ (0 ≤ s 115 (4 * e + k) ∧ s 115 (4 * e + k) < nMs (T m) c (wk (T m) c s e k)) ∧ qLd T s m (s 116 (4 * e + k)) (s 117 (4 * e + k)) (ldM (T m) c (wk (T m) c s e k) (s 115 (4 * e + k))) ∧ (s 117 (4 * e + k) = 2 → s 110 (s 116 (4 * e + k)) = 100 + e) ∧ (s 117 (4 * e + k) = 3 → s 113 (s 116 (4 * e + k)) = 100 + e)
def QO (T : TXs) (s : HI) (e : Int) : Prop := ∃ m c, s 118 e = 4 * m + c ∧ (0 ≤ c ∧ c < 4) ∧ c < nCtr (T m) ∧ Mg T s m ∧ (0 ≤ s 112 e ∧ s 112 e < nSt (T m) c) ∧ (0 ≤ s 114 e ∧ s 114 e ≤ 4) ∧ (∀ k : Nat, k < s 114 e → QM T s e m c k) ∧ ∀ j k : Nat, j < k → k < s 114 e → (s 117 (4 * e + j) = 2 ∨ s 117 (4 * e + j) = 3) → s 117 (4 * e + k) = s 117 (4 * e + j) → s 116 (4 * e + k) ≠ s 116 (4 * e + j)
def eB (T : TXs) (s : HI) (e : Int) : Int → Int := T (s 118 e / 4)
def eC (s : HI) (e : Int) : Int := s 118 e % 4
def hlf (T : TXs) (s : HI) (e : Int) : Prop := s 114 (oth e) = 0 ∧ wk (eB T s e) (eC s e) s e (s 114 e).toNat = s 112 (oth e)
def LKK (T : TXs) (s : HI) (e : Int) : Prop := Alk (eB T s e) (eB T s (oth e)) (eC s e) (eC s (oth e)) ∧ (hlf T s e ∨ hlf T s (oth e))
/-- the rest -/
def Gl (s : HI) : Prop := (0 ≤ s 49 53 ∧ s 49 53 < 12) ∧ (0 ≤ s 49 54 ∧ s 49 54 ≤ 8) ∧ 0 ≤ s 49 52 ∧ (0 ≤ s 49 55 ∧ s 49 55 ≤ 500) ∧ (0 ≤ s 49 56 ∧ s 49 56 ≤ 12) ∧ (∀ q, 0 ≤ q → q < 12 → (1 ≤ s 89 q ∧ s 89 q ≤ 5) ∧ (s 89 q < 4 → 0 ≤ s 93 q ∧ s 93 q ≤ s 49 52) ∧ (s 89 q < 4 → q < s 49 56)) ∧ (∀ b, 0 ≤ b → b < 128 → s 109 b = -1 ∨ (1 ≤ s 109 b ∧ s 109 b ≤ 6)) ∧ (∀ b j, 0 ≤ b → b < 128 → s 109 b ≠ -1 → 0 ≤ j → j < 6 → rng (s 111 (6 * b + j))) ∧ ∀ e, 0 ≤ e → e < 24 → s 112 e = -1 → s 114 e = 0
def JO (T : TXs) (s : HI) (p : Int) : Prop := Gl s ∧ (∀ e, opn s e → QO T s e) ∧ (∀ e, opn s e → opn s (oth e) → LKK T s e) ∧ ∀ q, 0 ≤ q → q < 12 → q ≠ p → s 89 q < 4 → PO T s q
def INV (T : TXs) (s : HI) : Prop := s 49 54 < 8 ∧ JO T s (-1)
/-- a process's own columns -/
def ownC (p : Int) (a : Nat) (i : Int) : Prop := (((89 ≤ a ∧ a ≤ 94) ∨ a = 108) ∧ i = p) ∨ ((a = 95 ∨ a = 96 ∨ a = 97) ∧ 16 * p ≤ i ∧ i < 16 * p + 16) ∨ ((a = 98 ∨ a = 99) ∧ 416 * p ≤ i ∧ i < 416 * p + 416) ∨ ((a = 100 ∨ a = 302) ∧ 1025 * p < i ∧ i ≤ 1025 * p + 1024) ∨ ((a = 300 ∨ a = 301) ∧ hx p 1 0 ≤ i ∧ i < hx p 1025 0)
theorem oth_oth {e : Int} : oth (oth e) = e := by unfold oth; split <;> (split <;> omega)
theorem oth_ne {e : Int} : oth e ≠ e := by unfold oth; split <;> omega
theorem oth_m {e : Int} : oth e % 2 = 1 - e % 2 := by unfold oth; split <;> omega
/-- modules stay -/
def mEq (s s' : HI) : Prop := ∀ a i, 51 ≤ a → a ≤ 69 → s' a i = s a i
theorem Mg.tr (h : Mg T s m) (e : mEq s s') : Mg T s' m := ⟨h.1, ⟨h.2.1.1.fw (fun a i x y => e a i x y), h.2.1.2⟩, h.2.2⟩
theorem Pb.tr (h : Pb T s p m) (e : mEq s s') (e1 : s' 94 p = s 94 p) (e2 : s' 91 p = s 91 p) (e3 : s' 92 p = s 92 p) (e4 : s' 89 p < 4) : Pb T s' p m := ⟨h.1, by rw [e1]; exact h.2.1, e2.trans h.2.2.1, h.2.2.2.1.tr e, by rw [e3]; exact h.2.2.2.2.1, e4⟩
theorem SuI.tr {x : Int} (h : SuI T s p m x) (e5 : s' 95 x = s 95 x) (e51 : s' 95 (x + 1) = s 95 (x + 1)) (e6 : s' 96 x = s 96 x) (e7 : s' 97 x = s 97 x) (e8 : ∀ i, 26 * x ≤ i → i < 26 * x + 26 → s' 98 i = s 98 i ∧ s' 99 i = s 99 i) (hv : ∀ i, 26 * x ≤ i → i < 26 * x + 10 + s 97 x → Vt s s' p (s 98 i) (s 99 i)) : SuI T s' p m x := by
  obtain ⟨h1, A, Z, n, h2, h3, h4, h5, h6, h7⟩ := h
  have en : s 97 x = n := h6.1
  unfold SuI
  rw [e5, e6, e51]
  exact ⟨h1, A, Z, n, h2, h3, h4, h5, h6.tr e7 (fun i a b => e8 i a (by have : i < 26 * x + 10 + n := b; omega)) h5.1 (fun i a b => hv i a (by rw [en]; exact b)), h7⟩
theorem Pb.a (h : Pb T s p m) : 16 * p ≤ ai s p ∧ ai s p < 16 * p + 16 := by have := h.2.1; unfold ai; omega
theorem itT_n (hN : NV (T m)) (hS : Sh (T m)) {n i : Int} (h : tyB (T m) t n) (i0 : 0 ≤ i) (i1 : i < n - 1) : ¬ linT (itT (T m) t i) := by
  unfold itT
  rcases h with ⟨k, h1, h2⟩ | k | ⟨k, h1⟩
  · rw [if_pos k]
    have w0 : 0 ≤ whichM t := by unfold whichM; omega
    have := (hN.1 (whichM t) i w0 h1 i0 (by omega)).2
    intro z; unfold linT at z; omega
  · rw [if_neg (by omega)]; unfold itm; rw [if_pos k]; decide
  · rw [if_neg (by omega)]; unfold itm; rw [if_neg (by omega)]
    intro z; unfold linT kindM at z
    have w0 : 0 ≤ whichM t := by unfold whichM; omega
    rw [if_neg (by omega)] at z; omega
theorem HpI.tr (h : HpI T s p m) (hM : Mg T s m) (e1 : ∀ b, 1 ≤ b → b ≤ 1024 → s' 100 (1025 * p + b) = s 100 (1025 * p + b) ∧ s' 302 (1025 * p + b) = s 302 (1025 * p + b)) (e2 : ∀ b i, 1 ≤ b → b ≤ 1024 → 0 ≤ i → i < 1024 → s' 300 (hx p b i) = s 300 (hx p b i) ∧ s' 301 (hx p b i) = s 301 (hx p b i)) : HpI T s' p m := fun b b0 b1 => by
  obtain ⟨q1, q2⟩ := e1 b b0 b1
  obtain ⟨h1, h2⟩ := h b b0 b1
  rw [q1, q2]
  refine ⟨h1, fun z => ⟨(h2 z).1, fun i i0 i1 => ?_⟩⟩
  obtain ⟨q3, q4⟩ := e2 b i b0 b1 i0 (by omega)
  rw [q3, q4]
  have hv := (h2 z).2 i i0 i1
  have hn := hv.nl (itT_n hM.2.1.2.2.1 hM.2.1.2.1 (h2 z).1 i0 i1)
  exact hv.tr ⟨fun _ v0 v1 y => by rw [(e1 _ v0 v1).1, (e1 _ v0 v1).2]; exact ⟨y, rfl⟩, fun y => absurd y hn.1, fun y => absurd y hn.2⟩
end SD1
