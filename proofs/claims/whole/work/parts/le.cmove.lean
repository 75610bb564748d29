/-! RUNNING, the class: how an instruction ends; moves -/
section CM3
variable {d : Nat} {Q : QQ} {T : TXs} {al al' : AL} {hi hi' : HI} {hr hr' : HR} {s s' s2 sx sm : HI} {A A' : Int → Int → Int} {NN : Int → Option Nat} {E : Int → Prop} {p m f o q v w x n k qx cv : Int} {b B : Int → Int} {X Y : Tst} {t t' N M : Nat} {al0 : AL} {hi0 : HI} {hr0 : HR}
theorem cls_0 (h : ∀ e, ¬ E e) : clsS s E = s := by
  have hc : ∀ e, ¬ clo s E e := fun e z => z (fun _ => False) (fun x y _ => h x y) (fun _ _ y _ _ _ _ => y)
  exact clG_0 (D := clo s E) (Bk := blo s (clo s E)) hc (fun b ⟨x, k, z, _⟩ => hc x z)
def BQ (s : HI) : Prop := BkI s ∧ QB s
theorem BQ.eq (h : BQ s) (e : ∀ (a : Nat) i, a = 109 ∨ a = 112 ∨ a = 114 ∨ a = 116 ∨ a = 117 → s' a i = s a i) : BQ s' := ⟨fun b b0 b1 => by rw [e 109 b (by omega)]; exact h.1 b b0 b1, h.2.eq (fun i => e _ i (by omega)) (fun i => e _ i (by omega)) (fun i => e _ i (by omega)) (fun i => e _ i (by omega))⟩
/-- the same, but for what is dead -/
def DD (s s' : HI) : Prop := (∀ a i, ¬ (110 ≤ a ∧ a ≤ 118) → s' a i = s a i) ∧ (∀ e, s' 112 e = s 112 e) ∧ (∀ e, s' 114 e = s 114 e) ∧ (∀ b, 0 ≤ b → b < 128 → s 109 b ≠ -1 → s' 110 b = s 110 b ∧ ∀ j, 0 ≤ j → j < s 109 b → s' 111 (6 * b + j) = s 111 (6 * b + j)) ∧ ∀ e, opn s e → s' 113 e = s 113 e ∧ s' 118 e = s 118 e ∧ ∀ k, 0 ≤ k → k < s 114 e → s' 115 (4 * e + k) = s 115 (4 * e + k) ∧ s' 116 (4 * e + k) = s 116 (4 * e + k) ∧ s' 117 (4 * e + k) = s 117 (4 * e + k)
theorem DD.of (h : s = s') : DD s s' := by
  subst h
  exact ⟨fun _ _ _ => rfl, fun _ => rfl, fun _ => rfl, fun _ _ _ _ => ⟨rfl, fun _ _ _ => rfl⟩, fun _ _ => ⟨rfl, rfl, fun _ _ _ => ⟨rfl, rfl, rfl⟩⟩⟩
/-- how an instruction ends: with what number, and what is then -/
def Pf (T : TXs) (NN : Int → Option Nat) (al0 : AL) (hi0 : HI) (hr0 : HR) (p : Int) (t : Nat) (sx : HI) (v : Int) (al : AL) (hi : HI) (hr : HR) : Prop := ∃ A sm E, RelC T NN al0 hi0 hr0 E A al hi hr sm ∧ OnP hr sm p t ∧ AllP sm ∧ BQ sm ∧ ((v = 0 ∧ DD (clsS sm E) sx) ∨ ((v ≠ 0 ∧ ∀ e, ¬ E e) ∧ ∃ s2, (∀ a i, ¬ (ownC p a i ∧ 94 ≤ a) → s2 a i = sm a i) ∧ ((v = -1 ∧ sx = ovrS s2 p 4) ∨ (0 < v ∧ sx = trpS s2 p v))))
theorem Pf.ok (hR : RelC T NN al0 hi0 hr0 (fun _ => False) A al hi hr sx) (hO : OnP hr sx p t) (hP : AllP sx) (hB : BQ sx) : Pf T NN al0 hi0 hr0 p t sx 0 al hi hr := ⟨A, sx, _, hR, hO, hP, hB, Or.inl ⟨rfl, DD.of (cls_0 (fun _ => id))⟩⟩
theorem Pf.tr (hR : RelC T NN al0 hi0 hr0 (fun _ => False) A al hi hr sm) (hO : OnP hr sm p t) (hP : AllP sm) (hB : BQ sm) (hv : 0 < v) (e : sx = trpS sm p v) : Pf T NN al0 hi0 hr0 p t sx v al hi hr := ⟨A, sm, _, hR, hO, hP, hB, Or.inr ⟨⟨by omega, fun _ => id⟩, sm, fun _ _ _ => rfl, Or.inr ⟨hv, e⟩⟩⟩
theorem Pf.tr2 (hR : RelC T NN al0 hi0 hr0 (fun _ => False) A al hi hr sm) (hO : OnP hr sm p t) (hP : AllP sm) (hB : BQ sm) (hv : 0 < v) (h2 : ∀ a i, ¬ (ownC p a i ∧ 94 ≤ a) → s2 a i = sm a i) (e : sx = trpS s2 p v) : Pf T NN al0 hi0 hr0 p t sx v al hi hr := ⟨A, sm, _, hR, hO, hP, hB, Or.inr ⟨⟨by omega, fun _ => id⟩, s2, h2, Or.inr ⟨hv, e⟩⟩⟩
theorem Pf.ov (hR : RelC T NN al0 hi0 hr0 (fun _ => False) A al hi hr sm) (hO : OnP hr sm p t) (hP : AllP sm) (hB : BQ sm) (e : sx = ovrS sm p 4) : Pf T NN al0 hi0 hr0 p t sx (-1) al hi hr := ⟨A, sm, _, hR, hO, hP, hB, Or.inr ⟨⟨by omega, fun _ => id⟩, sm, fun _ _ _ => rfl, Or.inl ⟨rfl, e⟩⟩⟩
theorem exq_0 (ho : o = 0) : exS B f s p o v q = psh s p (wdS B (q + 1) 4) 0 := by unfold exS; rw [if_pos ho]
theorem exq_1 (ho : o = 1) : exS B f s p o v q = psh s p 0 1 := by unfold exS; rw [if_neg (by omega), if_pos ho]
theorem exq_2 (ho : o = 2) : exS B f s p o v q = (fun i => if s 99 i = 2 ∨ s 99 i = 3 then st2 (psh s p (s 98 i) (s 99 i)) i 0 4 else psh s p (s 98 i) (s 99 i)) (26 * ai s p + v) := by unfold exS; rw [if_neg (by omega), if_neg (by omega), if_pos ho]
theorem exq_3 (ho : o = 3) : exS B f s p o v q = st2 (pp s p 1) (26 * ai s p + v) (tv s p 0) (ts s p 0) := by unfold exS; rw [if_neg (by omega), if_neg (by omega), if_neg (by omega), if_pos ho]
theorem exq_4 (ho : o = 4) : exS B f s p o v q = pp s p 1 := by unfold exS; rw [if_neg (by omega), if_neg (by omega), if_neg (by omega), if_neg (by omega), if_pos ho]
theorem exq_5 (ho : o = 5) : exS B f s p o v q = psh s p (tv s p 0) (ts s p 0) := by unfold exS; rw [if_neg (by omega), if_neg (by omega), if_neg (by omega), if_neg (by omega), if_neg (by omega), if_pos ho]
theorem exq_6 (ho : o = 6) : exS B f s p o v q = st2 (st2 s (sk s p (hg s p - 1)) (tv s p 1) (ts s p 1)) (sk s p (hg s p - 1) - 1) (tv s p 0) (ts s p 0) := by unfold exS; rw [if_neg (by omega), if_neg (by omega), if_neg (by omega), if_neg (by omega), if_neg (by omega), if_neg (by omega), if_pos ho]
theorem exq_19 (ho : o = 19) : exS B f s p o v q = psh (pp s p 1) p (if tv s p 0 = 0 then 1 else 0) 0 := by unfold exS; rw [if_neg (by omega), if_neg (by omega), if_neg (by omega), if_neg (by omega), if_neg (by omega), if_neg (by omega), if_neg (by omega), if_pos ho]
theorem exq_7 (ho : 7 ≤ o ∧ o ≤ 18) : exS B f s p o v q = (if (o = 10 ∨ o = 11) ∧ tv s p 0 = 0 then trpS (pp s p 2) p 3 else psh (pp s p 2) p (rek o (tv s p 1) (tv s p 0)) 0) := by unfold exS; rw [if_neg (by omega), if_neg (by omega), if_neg (by omega), if_neg (by omega), if_neg (by omega), if_neg (by omega), if_neg (by omega), if_neg (by omega), if_pos (by omega)]
theorem exq_20 (ho : o = 20) : exS B f s p o v q = goS s p v := by unfold exS; rw [if_neg (by omega), if_neg (by omega), if_neg (by omega), if_neg (by omega), if_neg (by omega), if_neg (by omega), if_neg (by omega), if_neg (by omega), if_neg (by omega), if_pos ho]
theorem exq_21 (ho : o = 21) : exS B f s p o v q = (if tv s p 0 = 0 then goS (pp s p 1) p v else pp s p 1) := by unfold exS; rw [if_neg (by omega), if_neg (by omega), if_neg (by omega), if_neg (by omega), if_neg (by omega), if_neg (by omega), if_neg (by omega), if_neg (by omega), if_neg (by omega), if_neg (by omega), if_pos ho]
theorem exq_22 (ho : o = 22) : exS B f s p o v q = mkS s p (nFld B v) (1 + 8 * v) (fun i => if heapT (fTy B v i) then 1 else 0) := by unfold exS; rw [if_neg (by omega), if_neg (by omega), if_neg (by omega), if_neg (by omega), if_neg (by omega), if_neg (by omega), if_neg (by omega), if_neg (by omega), if_neg (by omega), if_neg (by omega), if_neg (by omega), if_pos ho]
theorem exq_23 (ho : o = 23) : exS B f s p o v q = (if tv s p 0 = 0 then trpS (pp s p 1) p 1 else psh (pp s p 1) p (s 300 (hx p (tv s p 0) v)) (s 301 (hx p (tv s p 0) v))) := by unfold exS; rw [if_neg (by omega), if_neg (by omega), if_neg (by omega), if_neg (by omega), if_neg (by omega), if_neg (by omega), if_neg (by omega), if_neg (by omega), if_neg (by omega), if_neg (by omega), if_neg (by omega), if_neg (by omega), if_pos ho]
theorem exq_24 (ho : o = 24) : exS B f s p o v q = (if tv s p 1 = 0 then trpS (pp s p 2) p 1 else upI (pp s p 2) 300 (hx p (tv s p 1) v) (tv s p 0)) := by unfold exS; rw [if_neg (by omega), if_neg (by omega), if_neg (by omega), if_neg (by omega), if_neg (by omega), if_neg (by omega), if_neg (by omega), if_neg (by omega), if_neg (by omega), if_neg (by omega), if_neg (by omega), if_neg (by omega), if_neg (by omega), if_pos ho]
theorem exq_25 (ho : o = 25) : exS B f s p o v q = (if tv s p 0 < 0 then trpS (pp s p 1) p 4 else mkS (pp s p 1) p (tv s p 0) 2 (fun _ => 0)) := by unfold exS; rw [if_neg (by omega), if_neg (by omega), if_neg (by omega), if_neg (by omega), if_neg (by omega), if_neg (by omega), if_neg (by omega), if_neg (by omega), if_neg (by omega), if_neg (by omega), if_neg (by omega), if_neg (by omega), if_neg (by omega), if_neg (by omega), if_pos ho]
theorem exq_26 (ho : o = 26) : exS B f s p o v q = (if tv s p 0 < 0 then trpS (pp s p 1) p 4 else mkS (pp s p 1) p (tv s p 0) (3 + 8 * v) (fun _ => 1)) := by unfold exS; rw [if_neg (by omega), if_neg (by omega), if_neg (by omega), if_neg (by omega), if_neg (by omega), if_neg (by omega), if_neg (by omega), if_neg (by omega), if_neg (by omega), if_neg (by omega), if_neg (by omega), if_neg (by omega), if_neg (by omega), if_neg (by omega), if_neg (by omega), if_pos ho]
theorem exq_27 (ho : o = 27) : exS B f s p o v q = (if tv s p 0 = 0 then trpS (pp s p 1) p 1 else psh (pp s p 1) p (s 100 (1025 * p + tv s p 0) - 1) 0) := by unfold exS; rw [if_neg (by omega), if_neg (by omega), if_neg (by omega), if_neg (by omega), if_neg (by omega), if_neg (by omega), if_neg (by omega), if_neg (by omega), if_neg (by omega), if_neg (by omega), if_neg (by omega), if_neg (by omega), if_neg (by omega), if_neg (by omega), if_neg (by omega), if_neg (by omega), if_pos ho]
theorem exq_28 (ho : o = 28) : exS B f s p o v q = (if tv s p 1 = 0 then trpS (pp s p 2) p 1 else if 0 ≤ tv s p 0 ∧ tv s p 0 < s 100 (1025 * p + tv s p 1) - 1 then psh (pp s p 2) p (s 300 (hx p (tv s p 1) (tv s p 0))) (s 301 (hx p (tv s p 1) (tv s p 0))) else trpS (pp s p 2) p 2) := by unfold exS; rw [if_neg (by omega), if_neg (by omega), if_neg (by omega), if_neg (by omega), if_neg (by omega), if_neg (by omega), if_neg (by omega), if_neg (by omega), if_neg (by omega), if_neg (by omega), if_neg (by omega), if_neg (by omega), if_neg (by omega), if_neg (by omega), if_neg (by omega), if_neg (by omega), if_neg (by omega), if_pos ho]
theorem exq_29 (ho : o = 29) : exS B f s p o v q = (if tv s p 2 = 0 then trpS (pp s p 3) p 1 else if 0 ≤ tv s p 1 ∧ tv s p 1 < s 100 (1025 * p + tv s p 2) - 1 then upI (pp s p 3) 300 (hx p (tv s p 2) (tv s p 1)) (tv s p 0) else trpS (pp s p 3) p 2) := by unfold exS; rw [if_neg (by omega), if_neg (by omega), if_neg (by omega), if_neg (by omega), if_neg (by omega), if_neg (by omega), if_neg (by omega), if_neg (by omega), if_neg (by omega), if_neg (by omega), if_neg (by omega), if_neg (by omega), if_neg (by omega), if_neg (by omega), if_neg (by omega), if_neg (by omega), if_neg (by omega), if_neg (by omega), if_pos ho]
theorem exq_30 (ho : o = 30) : exS B f s p o v q = calS s p v (nPar B v) := by unfold exS; rw [if_neg (by omega), if_neg (by omega), if_neg (by omega), if_neg (by omega), if_neg (by omega), if_neg (by omega), if_neg (by omega), if_neg (by omega), if_neg (by omega), if_neg (by omega), if_neg (by omega), if_neg (by omega), if_neg (by omega), if_neg (by omega), if_neg (by omega), if_neg (by omega), if_neg (by omega), if_neg (by omega), if_neg (by omega), if_pos ho]
theorem exq_31 (ho : o = 31) : exS B f s p o v q = bckS s p (rTy B f ≠ -1) := by unfold exS; rw [if_neg (by omega), if_neg (by omega), if_neg (by omega), if_neg (by omega), if_neg (by omega), if_neg (by omega), if_neg (by omega), if_neg (by omega), if_neg (by omega), if_neg (by omega), if_neg (by omega), if_neg (by omega), if_neg (by omega), if_neg (by omega), if_neg (by omega), if_neg (by omega), if_neg (by omega), if_neg (by omega), if_neg (by omega), if_neg (by omega), if_pos ho]
theorem exq_32 (ho : o = 32) : exS B f s p o v q = (if bcl s 128 + nFld B v + 1 > 256 then trpS s p 6 else mkbS s p (nFld B v)) := by unfold exS; rw [if_neg (by omega), if_neg (by omega), if_neg (by omega), if_neg (by omega), if_neg (by omega), if_neg (by omega), if_neg (by omega), if_neg (by omega), if_neg (by omega), if_neg (by omega), if_neg (by omega), if_neg (by omega), if_neg (by omega), if_neg (by omega), if_neg (by omega), if_neg (by omega), if_neg (by omega), if_neg (by omega), if_neg (by omega), if_neg (by omega), if_neg (by omega), if_pos ho]
theorem exq_33 (ho : o = 33) : exS B f s p o v q = psh s p (s 111 (6 * tv s p 0 + v)) 0 := by unfold exS; rw [if_neg (by omega), if_neg (by omega), if_neg (by omega), if_neg (by omega), if_neg (by omega), if_neg (by omega), if_neg (by omega), if_neg (by omega), if_neg (by omega), if_neg (by omega), if_neg (by omega), if_neg (by omega), if_neg (by omega), if_neg (by omega), if_neg (by omega), if_neg (by omega), if_neg (by omega), if_neg (by omega), if_neg (by omega), if_neg (by omega), if_neg (by omega), if_neg (by omega), if_pos ho]
theorem exq_34 (ho : o = 34) : exS B f s p o v q = upI (pp s p 1) 111 (6 * tv s p 1 + v) (tv s p 0) := by unfold exS; rw [if_neg (by omega), if_neg (by omega), if_neg (by omega), if_neg (by omega), if_neg (by omega), if_neg (by omega), if_neg (by omega), if_neg (by omega), if_neg (by omega), if_neg (by omega), if_neg (by omega), if_neg (by omega), if_neg (by omega), if_neg (by omega), if_neg (by omega), if_neg (by omega), if_neg (by omega), if_neg (by omega), if_neg (by omega), if_neg (by omega), if_neg (by omega), if_neg (by omega), if_neg (by omega), if_pos ho]
theorem exq_35 (ho : o = 35) : exS B f s p o v q = upI (pp s p 1) 109 (tv s p 0) (-1) := by unfold exS; rw [if_neg (by omega), if_neg (by omega), if_neg (by omega), if_neg (by omega), if_neg (by omega), if_neg (by omega), if_neg (by omega), if_neg (by omega), if_neg (by omega), if_neg (by omega), if_neg (by omega), if_neg (by omega), if_neg (by omega), if_neg (by omega), if_neg (by omega), if_neg (by omega), if_neg (by omega), if_neg (by omega), if_neg (by omega), if_neg (by omega), if_neg (by omega), if_neg (by omega), if_neg (by omega), if_neg (by omega), if_pos ho]
theorem exq_36 (ho : o = 36) : exS B f s p o v q = chnS s p (4 * s 91 p + v) := by unfold exS; rw [if_neg (by omega), if_neg (by omega), if_neg (by omega), if_neg (by omega), if_neg (by omega), if_neg (by omega), if_neg (by omega), if_neg (by omega), if_neg (by omega), if_neg (by omega), if_neg (by omega), if_neg (by omega), if_neg (by omega), if_neg (by omega), if_neg (by omega), if_neg (by omega), if_neg (by omega), if_neg (by omega), if_neg (by omega), if_neg (by omega), if_neg (by omega), if_neg (by omega), if_neg (by omega), if_neg (by omega), if_neg (by omega), if_pos ho]
theorem exq_37 (ho : o = 37) : exS B f s p o v q = sndS s p v := by unfold exS; rw [if_neg (by omega), if_neg (by omega), if_neg (by omega), if_neg (by omega), if_neg (by omega), if_neg (by omega), if_neg (by omega), if_neg (by omega), if_neg (by omega), if_neg (by omega), if_neg (by omega), if_neg (by omega), if_neg (by omega), if_neg (by omega), if_neg (by omega), if_neg (by omega), if_neg (by omega), if_neg (by omega), if_neg (by omega), if_neg (by omega), if_neg (by omega), if_neg (by omega), if_neg (by omega), if_neg (by omega), if_neg (by omega), if_neg (by omega), if_pos ho]
theorem exq_38 (ho : o = 38) : exS B f s p o v q = rcvS s p (fun t => B (q + 2 + t)) := by unfold exS; rw [if_neg (by omega), if_neg (by omega), if_neg (by omega), if_neg (by omega), if_neg (by omega), if_neg (by omega), if_neg (by omega), if_neg (by omega), if_neg (by omega), if_neg (by omega), if_neg (by omega), if_neg (by omega), if_neg (by omega), if_neg (by omega), if_neg (by omega), if_neg (by omega), if_neg (by omega), if_neg (by omega), if_neg (by omega), if_neg (by omega), if_neg (by omega), if_neg (by omega), if_neg (by omega), if_neg (by omega), if_neg (by omega), if_neg (by omega), if_neg (by omega), if_pos ho]
theorem exq_39 (ho : o = 39) : exS B f s p o v q = clsS (pp s p 1) (fun e => e = tv s p 0) := by unfold exS; rw [if_neg (by omega), if_neg (by omega), if_neg (by omega), if_neg (by omega), if_neg (by omega), if_neg (by omega), if_neg (by omega), if_neg (by omega), if_neg (by omega), if_neg (by omega), if_neg (by omega), if_neg (by omega), if_neg (by omega), if_neg (by omega), if_neg (by omega), if_neg (by omega), if_neg (by omega), if_neg (by omega), if_neg (by omega), if_neg (by omega), if_neg (by omega), if_neg (by omega), if_neg (by omega), if_neg (by omega), if_neg (by omega), if_neg (by omega), if_neg (by omega), if_neg (by omega), if_pos ho]
theorem exq_40 (ho : o = 40) : exS B f s p o v q = spnS s p v (nPar B v) := by unfold exS; rw [if_neg (by omega), if_neg (by omega), if_neg (by omega), if_neg (by omega), if_neg (by omega), if_neg (by omega), if_neg (by omega), if_neg (by omega), if_neg (by omega), if_neg (by omega), if_neg (by omega), if_neg (by omega), if_neg (by omega), if_neg (by omega), if_neg (by omega), if_neg (by omega), if_neg (by omega), if_neg (by omega), if_neg (by omega), if_neg (by omega), if_neg (by omega), if_neg (by omega), if_neg (by omega), if_neg (by omega), if_neg (by omega), if_neg (by omega), if_neg (by omega), if_neg (by omega), if_neg (by omega), if_pos ho]
theorem exq_41 (ho : o = 41) : exS B f s p o v q = s := by unfold exS; rw [if_neg (by omega), if_neg (by omega), if_neg (by omega), if_neg (by omega), if_neg (by omega), if_neg (by omega), if_neg (by omega), if_neg (by omega), if_neg (by omega), if_neg (by omega), if_neg (by omega), if_neg (by omega), if_neg (by omega), if_neg (by omega), if_neg (by omega), if_neg (by omega), if_neg (by omega), if_neg (by omega), if_neg (by omega), if_neg (by omega), if_neg (by omega), if_neg (by omega), if_neg (by omega), if_neg (by omega), if_neg (by omega), if_neg (by omega), if_neg (by omega), if_neg (by omega), if_neg (by omega), if_neg (by omega), if_pos ho]
theorem exq_42 (ho : o = 42) : exS B f s p o v q = ovrS s p 4 := by unfold exS; rw [if_neg (by omega), if_neg (by omega), if_neg (by omega), if_neg (by omega), if_neg (by omega), if_neg (by omega), if_neg (by omega), if_neg (by omega), if_neg (by omega), if_neg (by omega), if_neg (by omega), if_neg (by omega), if_neg (by omega), if_neg (by omega), if_neg (by omega), if_neg (by omega), if_neg (by omega), if_neg (by omega), if_neg (by omega), if_neg (by omega), if_neg (by omega), if_neg (by omega), if_neg (by omega), if_neg (by omega), if_neg (by omega), if_neg (by omega), if_neg (by omega), if_neg (by omega), if_neg (by omega), if_neg (by omega), if_neg (by omega), if_pos ho]
theorem exq_43 (ho : o = 43) : exS B f s p o v q = outS s p := by unfold exS; rw [if_neg (by omega), if_neg (by omega), if_neg (by omega), if_neg (by omega), if_neg (by omega), if_neg (by omega), if_neg (by omega), if_neg (by omega), if_neg (by omega), if_neg (by omega), if_neg (by omega), if_neg (by omega), if_neg (by omega), if_neg (by omega), if_neg (by omega), if_neg (by omega), if_neg (by omega), if_neg (by omega), if_neg (by omega), if_neg (by omega), if_neg (by omega), if_neg (by omega), if_neg (by omega), if_neg (by omega), if_neg (by omega), if_neg (by omega), if_neg (by omega), if_neg (by omega), if_neg (by omega), if_neg (by omega), if_neg (by omega), if_neg (by omega)]
theorem w4_eq (b0 b1 b2 b3 : Int) : fOr (fShl (fOr (fShl (fOr (fShl (fOr (fShl 0 8) b0) 8) b1) 8) b2) 8) b3 = fOr (fOr (fOr (fShl b0 24) (fShl b1 16)) (fShl b2 8)) b3 := by
  unfold fOr fShl
  simp only [Int32.ofInt_toInt]
  generalize Int32.ofInt b0 = x0
  generalize Int32.ofInt b1 = x1
  generalize Int32.ofInt b2 = x2
  generalize Int32.ofInt b3 = x3
  have e8 : ∀ x : Int32, x <<< (Int32.ofInt 8 &&& 31) = ⟨⟨x.toBitVec <<< 8⟩⟩ := fun x => rfl
  have e16 : ∀ x : Int32, x <<< (Int32.ofInt 16 &&& 31) = ⟨⟨x.toBitVec <<< 16⟩⟩ := fun x => rfl
  have e24 : ∀ x : Int32, x <<< (Int32.ofInt 24 &&& 31) = ⟨⟨x.toBitVec <<< 24⟩⟩ := fun x => rfl
  rw [e24, e16]
  simp only [e8]
  congr 1
  apply Int32.toBitVec_inj.mp
  simp only [Int32.toBitVec_or]
  show ((((BitVec.ofInt 32 0 <<< 8 ||| x0.toBitVec) <<< 8 ||| x1.toBitVec) <<< 8 ||| x2.toBitVec) <<< 8 ||| x3.toBitVec) = _
  simp [BitVec.shiftLeft_or_distrib, ← BitVec.shiftLeft_add]
  rfl
theorem RelC.cod (hR : RelC T NN al0 hi0 hr0 E A al hi hr s) (hO : OnP hr s p t) (hBs : Bs T NN al0 hi0 hr0) : ∃ N n M, hr t 1 = some N ∧ NN (s 91 p) = some N ∧ ModV al hi hr N n (T (s 91 p)) M ∧ TxV (T (s 91 p)) n ∧ isK al t 9 ∧ isK al N 10 := by
  obtain ⟨tS, ⟨⟨N, hNN, e1⟩, -⟩, -⟩ := hR.tf hO
  obtain ⟨⟨n, L, ⟨M, hM, hT, -⟩, -⟩, -⟩ := hR.gm hBs hNN
  exact ⟨N, n, M, e1, hNN, hM, hT, tS.1.2, hM.1.1.1⟩
theorem t_wordAt (hM : ModV al hi hr N n B M) (hT : TxV B n) (hd : 1 ≤ d) (hq : 0 ≤ qx ∧ qx ≤ 5000) (hb : ∀ k, 0 ≤ k → k < 4 → 0 ≤ B (qx + k)) (q : Q (some (some (vI (wdS B qx 4)))) al hi hr) : Ev d 146 [vR (some N), vI qx] al hi hr Q := by
  have kN := hM.1.1.1
  have b0 := bZ_p (hb 0 (by decide) (by decide))
  have b1 := bZ_p (hb 1 (by decide) (by decide))
  have b2 := bZ_p (hb 2 (by decide) (by decide))
  have b3 := bZ_p (hb 3 (by decide) (by decide))
  have e : wdS B qx 4 = fOr (fOr (fOr (fShl (bZ B (qx + 0)) 24) (fShl (bZ B (qx + 1)) 16)) (fShl (bZ B (qx + 2)) 8)) (bZ B (qx + 3)) := by
    rw [b0, b1, b2, b3, ← w4_eq]; rfl
  rw [Int.add_zero] at e
  rw [e] at q
  rw [e146]
  refine s146_0.mpr (s146_1.mpr ?_)
  refine (s146_2 (by first | decide | assumption | omega) (by first | decide | assumption | omega)).mpr ?_
  refine t_byteAt hM hT ?_
  simp only [kon, knt_some, knt_none, Option.toList_some, Option.toList_none, List.cons_append, List.nil_append]
  refine s146_5.mpr (s146_7.mpr (s146_8.mpr (s146_9.mpr (s146_10.mpr (s146_11.mpr ?_)))))
  try simp (disch := first | decide | assumption | omega) only [fAdd_id, kon, knt_some, knt_none, Option.toList_some, Option.toList_none, List.cons_append, List.nil_append]
  refine (s146_12 (by first | decide | assumption | omega) (by first | decide | assumption | omega)).mpr ?_
  refine t_byteAt hM hT ?_
  simp only [kon, knt_some, knt_none, Option.toList_some, Option.toList_none, List.cons_append, List.nil_append]
  refine s146_15.mpr (s146_17.mpr (s146_18.mpr (s146_19.mpr (s146_20.mpr (s146_21.mpr ?_)))))
  refine s146_22.mpr ?_
  try simp (disch := first | decide | assumption | omega) only [fAdd_id, kon, knt_some, knt_none, Option.toList_some, Option.toList_none, List.cons_append, List.nil_append]
  refine (s146_23 (by first | decide | assumption | omega) (by first | decide | assumption | omega)).mpr ?_
  refine t_byteAt hM hT ?_
  simp only [kon, knt_some, knt_none, Option.toList_some, Option.toList_none, List.cons_append, List.nil_append]
  refine s146_26.mpr (s146_28.mpr (s146_29.mpr (s146_30.mpr (s146_31.mpr (s146_32.mpr ?_)))))
  refine s146_33.mpr ?_
  try simp (disch := first | decide | assumption | omega) only [fAdd_id, kon, knt_some, knt_none, Option.toList_some, Option.toList_none, List.cons_append, List.nil_append]
  refine (s146_34 (by first | decide | assumption | omega) (by first | decide | assumption | omega)).mpr ?_
  refine t_byteAt hM hT ?_
  simp only [kon, knt_some, knt_none, Option.toList_some, Option.toList_none, List.cons_append, List.nil_append]
  refine s146_37.mpr ?_
  try simp (disch := first | decide | assumption | omega) only [fAdd_id, kon, knt_some, knt_none, Option.toList_some, Option.toList_none, List.cons_append, List.nil_append]
  refine (s146_38).mpr ?_
  exact q
theorem t_push0 (hR : RelC T NN al0 hi0 hr0 E A al hi hr s) (hO : OnP hr s p t) (hP : AllP s) (h0 : 0 ≤ hg s p ∧ hg s p < 16) (q : ∀ hi', RelC T NN al0 hi0 hr0 E A al hi' hr (psh s p v 0) → OnP hr (psh s p v 0) p t → AllP (psh s p v 0) → hi' t 14 = hi t 14 → Q (some none) al hi' hr) : Ev d 127 [vR (some t), vI 0, vI v] al hi hr Q := t_push (w := 0) hR hO hP h0 (fun z => absurd z (by decide)) q
/-- what is so far below the top -/
theorem t_kindAt (hR : RelC T NN al0 hi0 hr0 E A al hi hr s) (hO : OnP hr s p t) (hP : AllP s) (j0 : 0 ≤ k ∧ k < hg s p) (ex : x = hg s p - 1 - k) (q : Q (some (some (vI (kmp (ts s p k))))) al hi hr) : Ev d 130 [vR (some t), vI x] al hi hr Q := by
  have k9 := (hR.tf hO).1.1.2
  have := t_kindIn (d := d) (Q := Q) (k := 10 + (hg s p - 1 - k)) hR hO (by omega) (by omega) (by
    unfold ts sk at q
    rw [show 26 * ai s p + (10 + (hg s p - 1 - k)) = 26 * ai s p + 10 + (hg s p - 1 - k) by omega]
    exact q)
  rw [slt_s (by omega), ← ex] at this
  exact this
theorem t_numAt (hR : RelC T NN al0 hi0 hr0 E A al hi hr s) (hO : OnP hr s p t) (hP : AllP s) (j0 : 0 ≤ k ∧ k < hg s p) (ex : x = hg s p - 1 - k) (q : Q (some (some (vI (vm A p (tv s p k) (ts s p k))))) al hi hr) : Ev d 131 [vR (some t), vI x] al hi hr Q := by
  have k9 := (hR.tf hO).1.1.2
  have := t_numberIn (d := d) (Q := Q) (k := 10 + (hg s p - 1 - k)) hR hO (by omega) (by omega) (by
    unfold tv ts sk at q
    rw [show 26 * ai s p + (10 + (hg s p - 1 - k)) = 26 * ai s p + 10 + (hg s p - 1 - k) by omega]
    exact q)
  rw [slt_s (by omega), ← ex] at this
  exact this
theorem t_kindL (hR : RelC T NN al0 hi0 hr0 E A al hi hr s) (hO : OnP hr s p t) (hP : AllP s) (l0 : 0 ≤ k ∧ k < 10) (h0 : 0 ≤ hg s p) (q : Q (some (some (vI (kmp (s 99 (26 * ai s p + k)))))) al hi hr) : Ev d 130 [vR (some t), vI (16 + k)] al hi hr Q := by
  have k9 := (hR.tf hO).1.1.2
  have := t_kindIn (d := d) (Q := Q) (k := k) hR hO (by omega) (by omega) q
  rw [slt_l l0.2] at this
  exact this
theorem t_numL (hR : RelC T NN al0 hi0 hr0 E A al hi hr s) (hO : OnP hr s p t) (hP : AllP s) (l0 : 0 ≤ k ∧ k < 10) (h0 : 0 ≤ hg s p) (q : Q (some (some (vI (vm A p (s 98 (26 * ai s p + k)) (s 99 (26 * ai s p + k)))))) al hi hr) : Ev d 131 [vR (some t), vI (16 + k)] al hi hr Q := by
  have k9 := (hR.tf hO).1.1.2
  have := t_numberIn (d := d) (Q := Q) (k := k) hR hO (by omega) (by omega) q
  rw [slt_l l0.2] at this
  exact this
theorem swp_eq {v0 w0 v1 w1 : Int} : psh (psh (pp (pp s p 1) p 1) p v0 w0) p v1 w1 = st2 (st2 s (sk s p (hg s p - 1)) v1 w1) (sk s p (hg s p - 1) - 1) v0 w0 := by
  rw [pp_pp]
  funext a i
  have e1 : hg (psh (pp s p (1 + 1)) p v0 w0) p = hg s p - 1 := by rw [psh_hg, ppz_hg]; omega
  have e2 : hg (pp s p (1 + 1)) p = hg s p - 2 := by rw [ppz_hg]; omega
  have e3 : ∀ k, sk (psh (pp s p (1 + 1)) p v0 w0) p k = sk s p k := fun k => by unfold sk; rw [psh_ai, ppz_ai]
  have e4 : ∀ k, sk (pp s p (1 + 1)) p k = sk s p k := fun k => ppz_sk
  have e5 : sk s p (hg s p - 1) - 1 = sk s p (hg s p - 2) := by unfold sk; omega
  have e6 : sk s p (hg s p - 2) ≠ sk s p (hg s p - 1) := by unfold sk; omega
  by_cases c8 : a = 98
  · subst c8
    rw [psh_98, psh_98, st2_98, st2_98, e1, e2, e3, e4, e5, pp_98]
    by_cases z : i = sk s p (hg s p - 1)
    · rw [if_pos z, if_neg (by rw [z]; exact fun y => e6 y.symm), if_pos z]
    · rw [if_neg z, if_neg z]
  · by_cases c9 : a = 99
    · subst c9
      rw [psh_99, psh_99, st2_99, st2_99, e1, e2, e3, e4, e5, pp_99]
      by_cases z : i = sk s p (hg s p - 1)
      · rw [if_pos z, if_neg (by rw [z]; exact fun y => e6 y.symm), if_pos z]
      · rw [if_neg z, if_neg z]
    · rw [st2_n c8 c9, st2_n c8 c9]
      by_cases c7 : a = 97
      · subst c7
        by_cases z : i = ai s p
        · subst z
          have := psh_97 (s := psh (pp s p (1 + 1)) p v0 w0) (p := p) (v := v1) (w := w1)
          rw [psh_ai, ppz_ai, e1] at this
          rw [this]
          show hg s p - 1 + 1 = hg s p
          omega
        · have n7 : ∀ s v w, i ≠ ai s p → psh s p v w 97 i = s 97 i := fun s v w y => by unfold psh; rw [upI_i y, st2_n (by decide) (by decide)]
          rw [n7 _ _ _ (by rw [psh_ai, ppz_ai]; exact z), n7 _ _ _ (by rw [ppz_ai]; exact z)]
          unfold pp
          exact upI_i z
      · rw [psh_n ⟨c7, c8, c9⟩, psh_n ⟨c7, c8, c9⟩, ppz_n c7]
theorem kmp_lin : linC (kmp w) ↔ w = 2 ∨ w = 3 := by
  unfold linC kmp
  split
  · omega
  · split
    · omega
    · split
      · omega
      · split <;> omega
theorem mvc_0 {l6 l7 l8 l9 l10 l11} (hR : RelC T NN al0 hi0 hr0 E A al hi hr s) (hO : OnP hr s p t) (hP : AllP s) (hBs : Bs T NN al0 hi0 hr0) (hm : s 91 p = m) (ho : o = 0) (h0 : 0 ≤ hg s p ∧ hg s p < 16) (hq : 0 ≤ qx ∧ qx < 3000) (hb : ∀ k, 0 ≤ k → k < 4 → 0 ≤ T m (qx + 1 + k)) (hd : 2 ≤ d) (q : ∀ hi', RelC T NN al0 hi0 hr0 E A al hi' hr (exS (T m) f s p o v qx) → OnP hr (exS (T m) f s p o v qx) p t → AllP (exS (T m) f s p o v qx) → Q (some none) al hi' hr) : Wp d 79 48 [vR (some 26), vR (some t), vI o, vI cv, vI qx, vI (hg s p - 1), l6, l7, l8, l9, l10, l11] [] al hi hr Q := by
  have k9 := (hR.tf hO).1.1.2
  obtain ⟨N, n, M, e1, hNN, hM, hT, k9, kN⟩ := hR.cod hO hBs
  rw [hm] at hM hT
  rw [exq_0 ho] at q
  refine s79_48.mpr (s79_49.mpr (s79_50.mpr ?_))
  refine (s79_51 (by first | decide | assumption | omega)).mpr ?_
  refine s79_54.mpr (s79_56.mpr (s79_57.mpr ?_))
  try simp (disch := first | decide | assumption | omega) only [e1, fAdd_id, kon, knt_some, knt_none, Option.toList_some, Option.toList_none, List.cons_append, List.nil_append]
  refine (s79_58 (by first | decide | assumption | omega) (by first | decide | assumption | omega)).mpr ?_
  refine t_wordAt hM hT (by omega) (by omega) hb ?_
  simp only [kon, knt_some, knt_none, Option.toList_some, Option.toList_none, List.cons_append, List.nil_append]
  refine (s79_61 (by first | decide | assumption | omega) (by first | decide | assumption | omega)).mpr ?_
  refine t_push0 hR hO hP h0 (fun h3 w1 w2 w3 _ => ?_)
  simp only [kon, knt_some, knt_none, Option.toList_some, Option.toList_none, List.cons_append, List.nil_append]
  refine s79_64.mpr ?_
  refine (s79_208).mpr ?_
  exact q _ w1 w2 w3
theorem mvc_1 {l6 l7 l8 l9 l10 l11} (hR : RelC T NN al0 hi0 hr0 E A al hi hr s) (hO : OnP hr s p t) (hP : AllP s) (ho : o = 1) (h0 : 0 ≤ hg s p ∧ hg s p < 16) (hd : 2 ≤ d) (q : ∀ hi', RelC T NN al0 hi0 hr0 E A al hi' hr (exS (T m) f s p o v qx) → OnP hr (exS (T m) f s p o v qx) p t → AllP (exS (T m) f s p o v qx) → Q (some none) al hi' hr) : Wp d 79 67 [vR (some 26), vR (some t), vI o, vI cv, vI qx, vI (hg s p - 1), l6, l7, l8, l9, l10, l11] [] al hi hr Q := by
  have k9 := (hR.tf hO).1.1.2
  rw [exq_1 ho] at q
  have PU := t_push (d := d - 1) (Q := kon d 79 70 73 [vR (some 26), vR (some t), vI o, vI cv, vI qx, vI (hg s p - 1), l6, l7, l8, l9, l10, l11] [] Q) (v := 0) (w := 1) hR hO hP h0 (fun _ z => absurd rfl z) (fun h3 w1 w2 w3 _ => by
    have E0 := q _ w1 w2 w3
    simp only [kon, knt_some, knt_none, Option.toList_some, Option.toList_none, List.cons_append, List.nil_append]
    refine s79_73.mpr ?_
    refine (s79_208).mpr ?_
    exact E0
    )
  refine s79_67.mpr (s79_68.mpr (s79_69.mpr ?_))
  refine (s79_70 (by first | decide | assumption | omega) (by first | decide | assumption | omega)).mpr ?_
  exact PU
theorem mvc_2 {l6 l7 l8 l9 l10 l11} (hR : RelC T NN al0 hi0 hr0 E A al hi hr s) (hO : OnP hr s p t) (hP : AllP s) (ho : o = 2) (hv : 0 ≤ v ∧ v < 10) (hcv : cv = v) (h0 : 0 ≤ hg s p ∧ hg s p < 16) (hd : 2 ≤ d) (q : ∀ hi', RelC T NN al0 hi0 hr0 E A al hi' hr (exS (T m) f s p o v qx) → OnP hr (exS (T m) f s p o v qx) p t → AllP (exS (T m) f s p o v qx) → Q (some none) al hi' hr) : Wp d 79 76 [vR (some 26), vR (some t), vI o, vI cv, vI qx, vI (hg s p - 1), l6, l7, l8, l9, l10, l11] [] al hi hr Q := by
  have k9 := (hR.tf hO).1.1.2
  subst hcv
  rw [exq_2 ho] at q
  obtain ⟨i, hi9⟩ : ∃ i, 26 * ai s p + cv = i := ⟨_, rfl⟩
  have ni : i ≠ sk s p (hg s p) := by unfold sk; omega
  have hrt := hR.rt hO hv.1 (by omega : cv < 10 + hg s p)
  rw [hi9] at q hrt
  have q : ∀ hi', RelC T NN al0 hi0 hr0 E A al hi' hr (if s 99 i = 2 ∨ s 99 i = 3 then st2 (psh s p (s 98 i) (s 99 i)) i 0 4 else psh s p (s 98 i) (s 99 i)) → OnP hr (if s 99 i = 2 ∨ s 99 i = 3 then st2 (psh s p (s 98 i) (s 99 i)) i 0 4 else psh s p (s 98 i) (s 99 i)) p t → AllP (if s 99 i = 2 ∨ s 99 i = 3 then st2 (psh s p (s 98 i) (s 99 i)) i 0 4 else psh s p (s 98 i) (s 99 i)) → Q (some none) al hi' hr := q
  have T98 : ∀ h3, RelC T NN al0 hi0 hr0 E A al h3 hr (psh s p (s 98 i) (s 99 i)) → OnP hr (psh s p (s 98 i) (s 99 i)) p t → AllP (psh s p (s 98 i) (s 99 i)) → Wp d 79 98 [vR (some 26), vR (some t), vI o, vI cv, vI qx, vI (hg s p - 1), vI (16 + cv), l7, l8, l9, l10, l11] [] al h3 hr Q := by
    intro h3 w1 w2 w3
    have e9 : psh s p (s 98 i) (s 99 i) 99 (26 * ai (psh s p (s 98 i) (s 99 i)) p + cv) = s 99 i := by rw [psh_ai, hi9, psh_99, if_neg ni]
    have hh : 0 ≤ hg (psh s p (s 98 i) (s 99 i)) p := by rw [psh_hg]; omega
    by_cases c : s 99 i = 2 ∨ s 99 i = 3
    · rw [if_pos c] at q
      have SL := t_setLocal (d := d - 1) (Q := kon d 79 115 118 [vR (some 26), vR (some t), vI o, vI cv, vI qx, vI (hg s p - 1), vI (16 + cv), l7, l8, l9, l10, l11] [] Q) (l := cv) (v := 0) (w := 4) w1 w2 w3 hv (fun z => absurd z (by decide)) (fun h4 y1 y2 y3 _ => by
        rw [psh_ai, hi9] at y1 y2 y3
        have E0 := q _ y1 y2 y3
        simp only [kon, knt_some, knt_none, Option.toList_some, Option.toList_none, List.cons_append, List.nil_append]
        refine s79_118.mpr ?_
        refine (s79_208).mpr ?_
        exact E0
        )
      refine s79_98.mpr (s79_99.mpr ?_)
      refine (s79_101 (by first | decide | assumption | omega) (by first | decide | assumption | omega)).mpr ?_
      refine t_kindL w1 w2 w3 hv hh ?_
      simp only [kon, knt_some, knt_none, Option.toList_some, Option.toList_none, List.cons_append, List.nil_append, e9]
      refine (s79_104 (by omega)).mpr ?_
      refine c_isLinear (fun _ => ?_) (fun y => absurd (kmp_lin.mpr c) y)
      simp only [kon, knt_some, knt_none, Option.toList_some, Option.toList_none, List.cons_append, List.nil_append]
      refine s79_107.mpr (wif (fun c107 => ?_) (fun c107 => ?_))
      · skip
        exfalso; omega
      · skip
        refine s79_110.mpr (s79_111.mpr (s79_112.mpr (s79_114.mpr ?_)))
        refine (s79_115 (by first | decide | assumption | omega) (by first | decide | assumption | omega)).mpr ?_
        exact SL
    · rw [if_neg c] at q
      have E0 := q _ w1 w2 w3
      refine s79_98.mpr (s79_99.mpr ?_)
      refine (s79_101 (by first | decide | assumption | omega) (by first | decide | assumption | omega)).mpr ?_
      refine t_kindL w1 w2 w3 hv hh ?_
      simp only [kon, knt_some, knt_none, Option.toList_some, Option.toList_none, List.cons_append, List.nil_append, e9]
      refine (s79_104 (by omega)).mpr ?_
      refine c_isLinear (fun y => absurd (kmp_lin.mp y) c) (fun _ => ?_)
      simp only [kon, knt_some, knt_none, Option.toList_some, Option.toList_none, List.cons_append, List.nil_append]
      refine s79_107.mpr (wif (fun c107 => ?_) (fun c107 => ?_))
      · skip
        refine (s79_208).mpr ?_
        exact E0
      · skip
        exfalso; omega
  have PU := t_push (d := d - 1) (Q := kon d 79 95 98 [vR (some 26), vR (some t), vI o, vI cv, vI qx, vI (hg s p - 1), vI (16 + cv), l7, l8, l9, l10, l11] [] Q) (v := s 98 i) (w := s 99 i) hR hO hP h0 hrt (fun h3 w1 w2 w3 _ => by
    have Z := T98 h3 w1 w2 w3
    simp only [kon, knt_some, knt_none, Option.toList_some, Option.toList_none, List.cons_append, List.nil_append]
    exact Z)
  refine s79_76.mpr (s79_78.mpr (s79_79.mpr (s79_80.mpr (s79_82.mpr (s79_83.mpr ?_)))))
  refine s79_84.mpr ?_
  try simp (disch := first | decide | assumption | omega) only [fAdd_id, kon, knt_some, knt_none, Option.toList_some, Option.toList_none, List.cons_append, List.nil_append]
  refine (s79_86 (by first | decide | assumption | omega) (by first | decide | assumption | omega)).mpr ?_
  refine t_kindL hR hO hP hv h0.1 ?_
  simp only [kon, knt_some, knt_none, Option.toList_some, Option.toList_none, List.cons_append, List.nil_append, hi9]
  refine s79_89.mpr (s79_90.mpr ?_)
  refine (s79_92 (by first | decide | assumption | omega) (by first | decide | assumption | omega)).mpr ?_
  refine t_numL hR hO hP hv h0.1 ?_
  simp only [kon, knt_some, knt_none, Option.toList_some, Option.toList_none, List.cons_append, List.nil_append, hi9]
  refine (s79_95 (by first | decide | assumption | omega) (by first | decide | assumption | omega)).mpr ?_
  exact PU
theorem mvc_3 {l6 l7 l8 l9 l10 l11} (hR : RelC T NN al0 hi0 hr0 E A al hi hr s) (hO : OnP hr s p t) (hP : AllP s) (ho : o = 3) (hv : 0 ≤ v ∧ v < 10) (hcv : cv = v) (h1 : 1 ≤ hg s p) (hd : 2 ≤ d) (q : ∀ hi', RelC T NN al0 hi0 hr0 E A al hi' hr (exS (T m) f s p o v qx) → OnP hr (exS (T m) f s p o v qx) p t → AllP (exS (T m) f s p o v qx) → Q (some none) al hi' hr) : Wp d 79 121 [vR (some 26), vR (some t), vI o, vI cv, vI qx, vI (hg s p - 1), l6, l7, l8, l9, l10, l11] [] al hi hr Q := by
  subst hcv
  rw [exq_3 ho] at q
  have k9 := (hR.tf hO).1.1.2
  have hrt := fun z1 z2 => hR.rtv hO (k := 0) (by decide) (by omega) z1 z2
  have T125 : ∀ h3, RelC T NN al0 hi0 hr0 E A al h3 hr (pp s p 1) → OnP hr (pp s p 1) p t → AllP (pp s p 1) → h3 t 14 = kmp (ts s p 0) → Wp d 79 125 [vR (some 26), vR (some t), vI o, vI cv, vI qx, vI (hg s p - 1), l6, l7, l8, l9, l10, l11] [vI (vm A p (tv s p 0) (ts s p 0))] al h3 hr Q := by
    intro h3 w1 w2 w3 w4
    have SL := t_setLocal (d := d - 1) (Q := kon d 79 135 138 [vR (some 26), vR (some t), vI o, vI cv, vI qx, vI (hg s p - 1), l6, vI (vm A p (tv s p 0) (ts s p 0)), l8, l9, l10, l11] [] Q) (l := cv) (v := tv s p 0) (w := ts s p 0) w1 w2 w3 hv hrt (fun h4 y1 y2 y3 _ => by
      rw [ppz_ai] at y1 y2 y3
      have E0 := q _ y1 y2 y3
      simp only [kon, knt_some, knt_none, Option.toList_some, Option.toList_none, List.cons_append, List.nil_append]
      refine s79_138.mpr ?_
      refine (s79_208).mpr ?_
      exact E0
      )
    refine s79_125.mpr (s79_127.mpr (s79_128.mpr (s79_129.mpr ?_)))
    refine (s79_130 (by first | decide | assumption | omega)).mpr ?_
    refine s79_133.mpr ?_
    try simp (disch := first | decide | assumption | omega) only [w4]
    refine (s79_135 (by first | decide | assumption | omega) (by first | decide | assumption | omega)).mpr ?_
    exact SL
  have PO := t_pop (d := d - 1) (Q := kon d 79 122 125 [vR (some 26), vR (some t), vI o, vI cv, vI qx, vI (hg s p - 1), l6, l7, l8, l9, l10, l11] [] Q) hR hO hP h1 (fun h3 w1 w2 w3 w4 => by
    have Z := T125 h3 w1 w2 w3 w4
    simp only [kon, knt_some, knt_none, Option.toList_some, Option.toList_none, List.cons_append, List.nil_append]
    exact Z)
  refine s79_121.mpr ?_
  refine (s79_122 (by first | decide | assumption | omega) (by first | decide | assumption | omega)).mpr ?_
  exact PO
theorem mvc_4 {l6 l7 l8 l9 l10 l11} (hR : RelC T NN al0 hi0 hr0 E A al hi hr s) (hO : OnP hr s p t) (hP : AllP s) (ho : o = 4) (h1 : 1 ≤ hg s p) (hd : 2 ≤ d) (q : ∀ hi', RelC T NN al0 hi0 hr0 E A al hi' hr (exS (T m) f s p o v qx) → OnP hr (exS (T m) f s p o v qx) p t → AllP (exS (T m) f s p o v qx) → Q (some none) al hi' hr) : Wp d 79 141 [vR (some 26), vR (some t), vI o, vI cv, vI qx, vI (hg s p - 1), l6, l7, l8, l9, l10, l11] [] al hi hr Q := by
  have k9 := (hR.tf hO).1.1.2
  rw [exq_4 ho] at q
  refine s79_141.mpr ?_
  refine (s79_142 (by first | decide | assumption | omega) (by first | decide | assumption | omega)).mpr ?_
  refine t_pop hR hO hP h1 (fun h3 w1 w2 w3 w4 => ?_)
  simp only [kon, knt_some, knt_none, Option.toList_some, Option.toList_none, List.cons_append, List.nil_append]
  refine s79_145.mpr (s79_146.mpr ?_)
  refine (s79_208).mpr ?_
  exact q _ w1 w2 w3
theorem mvc_5 {l6 l7 l8 l9 l10 l11} (hR : RelC T NN al0 hi0 hr0 E A al hi hr s) (hO : OnP hr s p t) (hP : AllP s) (ho : o = 5) (h1 : 1 ≤ hg s p ∧ hg s p < 16) (hd : 2 ≤ d) (q : ∀ hi', RelC T NN al0 hi0 hr0 E A al hi' hr (exS (T m) f s p o v qx) → OnP hr (exS (T m) f s p o v qx) p t → AllP (exS (T m) f s p o v qx) → Q (some none) al hi' hr) : Wp d 79 149 [vR (some 26), vR (some t), vI o, vI cv, vI qx, vI (hg s p - 1), l6, l7, l8, l9, l10, l11] [] al hi hr Q := by
  have k9 := (hR.tf hO).1.1.2
  rw [exq_5 ho] at q
  have hrt := fun z1 z2 => hR.rtv hO (k := 0) (by decide) (by omega) z1 z2
  have PU := t_push (d := d - 1) (Q := kon d 79 162 165 [vR (some 26), vR (some t), vI o, vI cv, vI qx, vI (hg s p - 1), l6, l7, l8, l9, l10, l11] [] Q) (v := tv s p 0) (w := ts s p 0) hR hO hP (by omega) hrt (fun h3 w1 w2 w3 _ => by
    have E0 := q _ w1 w2 w3
    simp only [kon, knt_some, knt_none, Option.toList_some, Option.toList_none, List.cons_append, List.nil_append]
    refine s79_165.mpr ?_
    refine (s79_208).mpr ?_
    exact E0
    )
  refine s79_149.mpr (s79_150.mpr (s79_151.mpr ?_))
  refine (s79_153 (by first | decide | assumption | omega) (by first | decide | assumption | omega)).mpr ?_
  refine t_kindAt (k := 0) hR hO hP (by omega) (by omega) ?_
  simp only [kon, knt_some, knt_none, Option.toList_some, Option.toList_none, List.cons_append, List.nil_append]
  refine s79_156.mpr (s79_157.mpr ?_)
  refine (s79_159 (by first | decide | assumption | omega) (by first | decide | assumption | omega)).mpr ?_
  refine t_numAt (k := 0) hR hO hP (by omega) (by omega) ?_
  simp only [kon, knt_some, knt_none, Option.toList_some, Option.toList_none, List.cons_append, List.nil_append]
  refine (s79_162 (by first | decide | assumption | omega) (by first | decide | assumption | omega)).mpr ?_
  exact PU
theorem mvc_6 {l6 l7 l8 l9 l10 l11} (hR : RelC T NN al0 hi0 hr0 E A al hi hr s) (hO : OnP hr s p t) (hP : AllP s) (ho : o = 6) (h1 : 2 ≤ hg s p) (hd : 2 ≤ d) (q : ∀ hi', RelC T NN al0 hi0 hr0 E A al hi' hr (exS (T m) f s p o v qx) → OnP hr (exS (T m) f s p o v qx) p t → AllP (exS (T m) f s p o v qx) → Q (some none) al hi' hr) : Wp d 79 168 [vR (some 26), vR (some t), vI o, vI cv, vI qx, vI (hg s p - 1), l6, l7, l8, l9, l10, l11] [] al hi hr Q := by
  rw [exq_6 ho] at q
  obtain ⟨⟨p0, p1⟩, ht, h89, ⟨a1, a16⟩, ⟨r0, r1⟩, h97, h56⟩ := id hO
  have hg16 := h97 _ (by unfold ai; omega) (Int.le_refl _)
  have hg16 : 0 ≤ hg s p ∧ hg s p ≤ 16 := hg16
  have k9 := (hR.tf hO).1.1.2
  have hrt0 := fun z1 z2 => hR.rtv hO (k := 0) (by decide) (by omega) z1 z2
  have hrt1 := fun z1 z2 => hR.rtv hO (k := 1) (by decide) (by omega) z1 z2
  have q : ∀ hi', RelC T NN al0 hi0 hr0 E A al hi' hr (psh (psh (pp (pp s p 1) p 1) p (tv s p 0) (ts s p 0)) p (tv s p 1) (ts s p 1)) → OnP hr (psh (psh (pp (pp s p 1) p 1) p (tv s p 0) (ts s p 0)) p (tv s p 1) (ts s p 1)) p t → AllP (psh (psh (pp (pp s p 1) p 1) p (tv s p 0) (ts s p 0)) p (tv s p 1) (ts s p 1)) → Q (some none) al hi' hr := by rw [swp_eq]; exact q
  have T184 : ∀ h3, RelC T NN al0 hi0 hr0 E A al h3 hr (pp (pp s p 1) p 1) → OnP hr (pp (pp s p 1) p 1) p t → AllP (pp (pp s p 1) p 1) → h3 t 14 = kmp (ts s p 1) → Wp d 79 184 [vR (some 26), vR (some t), vI o, vI cv, vI qx, vI (hg s p - 1), l6, l7, vI (vm A p (tv s p 0) (ts s p 0)), vI (kmp (ts s p 0)), l10, l11] [vI (vm A p (tv s p 1) (ts s p 1))] al h3 hr Q := by
    intro h3 w1 w2 w3 w4
    have T200 : ∀ h4, RelC T NN al0 hi0 hr0 E A al h4 hr (psh (pp (pp s p 1) p 1) p (tv s p 0) (ts s p 0)) → OnP hr (psh (pp (pp s p 1) p 1) p (tv s p 0) (ts s p 0)) p t → AllP (psh (pp (pp s p 1) p 1) p (tv s p 0) (ts s p 0)) → Wp d 79 200 [vR (some 26), vR (some t), vI o, vI cv, vI qx, vI (hg s p - 1), l6, l7, vI (vm A p (tv s p 0) (ts s p 0)), vI (kmp (ts s p 0)), vI (vm A p (tv s p 1) (ts s p 1)), vI (kmp (ts s p 1))] [] al h4 hr Q := by
      intro h4 y1 y2 y3
      have PU := t_push (d := d - 1) (Q := kon d 79 205 208 [vR (some 26), vR (some t), vI o, vI cv, vI qx, vI (hg s p - 1), l6, l7, vI (vm A p (tv s p 0) (ts s p 0)), vI (kmp (ts s p 0)), vI (vm A p (tv s p 1) (ts s p 1)), vI (kmp (ts s p 1))] [] Q) (v := tv s p 1) (w := ts s p 1) y1 y2 y3 (by rw [psh_hg, ppz_hg, ppz_hg]; omega) hrt1 (fun h5 x1 x2 x3 _ => by
        have E0 := q _ x1 x2 x3
        simp only [kon, knt_some, knt_none, Option.toList_some, Option.toList_none, List.cons_append, List.nil_append]
        refine (s79_208).mpr ?_
        exact E0
        )
      refine s79_200.mpr (s79_201.mpr (s79_203.mpr ?_))
      refine (s79_205 (by first | decide | assumption | omega) (by first | decide | assumption | omega)).mpr ?_
      exact PU
    have PU := t_push (d := d - 1) (Q := kon d 79 197 200 [vR (some 26), vR (some t), vI o, vI cv, vI qx, vI (hg s p - 1), l6, l7, vI (vm A p (tv s p 0) (ts s p 0)), vI (kmp (ts s p 0)), vI (vm A p (tv s p 1) (ts s p 1)), vI (kmp (ts s p 1))] [] Q) (v := tv s p 0) (w := ts s p 0) w1 w2 w3 (by rw [ppz_hg, ppz_hg]; omega) hrt0 (fun h5 x1 x2 x3 _ => by
      have Z := T200 _ x1 x2 x3
      simp only [kon, knt_some, knt_none, Option.toList_some, Option.toList_none, List.cons_append, List.nil_append]
      exact Z)
    refine s79_184.mpr (s79_186.mpr ?_)
    refine (s79_187 (by first | decide | assumption | omega)).mpr ?_
    refine s79_190.mpr (s79_192.mpr (s79_193.mpr (s79_195.mpr ?_)))
    try simp (disch := first | decide | assumption | omega) only [w4]
    refine (s79_197 (by first | decide | assumption | omega) (by first | decide | assumption | omega)).mpr ?_
    exact PU
  have T172 : ∀ h3, RelC T NN al0 hi0 hr0 E A al h3 hr (pp s p 1) → OnP hr (pp s p 1) p t → AllP (pp s p 1) → h3 t 14 = kmp (ts s p 0) → Wp d 79 172 [vR (some 26), vR (some t), vI o, vI cv, vI qx, vI (hg s p - 1), l6, l7, l8, l9, l10, l11] [vI (vm A p (tv s p 0) (ts s p 0))] al h3 hr Q := by
    intro h3 w1 w2 w3 w4
    have PO := t_pop (d := d - 1) (Q := kon d 79 181 184 [vR (some 26), vR (some t), vI o, vI cv, vI qx, vI (hg s p - 1), l6, l7, vI (vm A p (tv s p 0) (ts s p 0)), vI (kmp (ts s p 0)), l10, l11] [] Q) w1 w2 w3 (by rw [ppz_hg]; omega) (fun h4 y1 y2 y3 y4 => by
      rw [ts_pp, show (0 : Int) + 1 = 1 by rfl] at y4
      have Z := T184 h4 y1 y2 y3 y4
      simp only [kon, knt_some, knt_none, Option.toList_some, Option.toList_none, List.cons_append, List.nil_append, tv_pp, ts_pp]
      exact Z)
    refine s79_172.mpr (s79_174.mpr ?_)
    refine (s79_175 (by first | decide | assumption | omega)).mpr ?_
    refine s79_178.mpr (s79_180.mpr ?_)
    try simp (disch := first | decide | assumption | omega) only [w4]
    refine (s79_181 (by first | decide | assumption | omega) (by first | decide | assumption | omega)).mpr ?_
    exact PO
  have PO := t_pop (d := d - 1) (Q := kon d 79 169 172 [vR (some 26), vR (some t), vI o, vI cv, vI qx, vI (hg s p - 1), l6, l7, l8, l9, l10, l11] [] Q) hR hO hP (by omega) (fun h3 w1 w2 w3 w4 => by
    have Z := T172 h3 w1 w2 w3 w4
    simp only [kon, knt_some, knt_none, Option.toList_some, Option.toList_none, List.cons_append, List.nil_append]
    exact Z)
  refine s79_168.mpr ?_
  refine (s79_169 (by first | decide | assumption | omega) (by first | decide | assumption | omega)).mpr ?_
  exact PO
/-- moves -/
theorem x5_move (hR : RelC T NN al0 hi0 hr0 E A al hi hr s) (hO : OnP hr s p t) (hP : AllP s) (hBs : Bs T NN al0 hi0 hr0) (hm : s 91 p = m) (ho : 0 ≤ o ∧ o ≤ 6) (hq : 0 ≤ qx ∧ qx < 3000) (hb : o = 0 → ∀ k, 0 ≤ k → k < 4 → 0 ≤ T m (qx + 1 + k)) (hcv : o = 2 ∨ o = 3 → (0 ≤ v ∧ v < 10) ∧ cv = v) (k1 : o = 0 ∨ o = 1 ∨ o = 2 ∨ o = 5 → hg s p < 16) (k2 : o = 3 ∨ o = 4 ∨ o = 5 → 1 ≤ hg s p) (k3 : o = 6 → 2 ≤ hg s p) (hd : 3 ≤ d) (q : ∀ hi', RelC T NN al0 hi0 hr0 E A al hi' hr (exS (T m) f s p o v qx) → OnP hr (exS (T m) f s p o v qx) p t → AllP (exS (T m) f s p o v qx) → Q (some none) al hi' hr) : Ev d 79 [vR (some 26), vR (some t), vI o, vI cv, vI qx] al hi hr Q := by
  have k9 := (hR.tf hO).1.1.2
  obtain ⟨⟨p0, p1⟩, ht, h89, ⟨a1, a16⟩, ⟨r0, r1⟩, h97, h56⟩ := id hO
  have hg16 := h97 _ (by unfold ai; omega) (Int.le_refl _)
  have hg16 : 0 ≤ hg s p ∧ hg s p ≤ 16 := hg16
  rw [e79]
  refine s79_0.mpr ?_
  refine (s79_1 (by first | decide | assumption | omega) (by first | decide | assumption | omega)).mpr ?_
  refine t_height hR hO ?_
  simp only [kon, knt_some, knt_none, Option.toList_some, Option.toList_none, List.cons_append, List.nil_append]
  refine s79_4.mpr (s79_5.mpr (s79_6.mpr (s79_8.mpr ?_)))
  try simp (disch := first | decide | assumption | omega) only [fSub_id, kon, knt_some, knt_none, Option.toList_some, Option.toList_none, List.cons_append, List.nil_append]
  refine g79_9 (fun c9 => ?_) (fun c9 => ?_) (fun c9 => ?_) (fun c9 => ?_) (fun c9 => ?_) (fun c9 => ?_) (fun c9 => ?_)
  · skip
    have c9 := List.mem_singleton.mp c9
    exact mvc_0 hR hO hP hBs hm c9 ⟨hg16.1, k1 (by omega)⟩ hq (hb c9) (by omega) q
  · skip
    have c9 := List.mem_singleton.mp c9
    exact mvc_1 hR hO hP c9 ⟨hg16.1, k1 (by omega)⟩ (by omega) q
  · skip
    have c9 := List.mem_singleton.mp c9
    exact mvc_2 hR hO hP c9 (hcv (by omega)).1 (hcv (by omega)).2 ⟨hg16.1, k1 (by omega)⟩ (by omega) q
  · skip
    have c9 := List.mem_singleton.mp c9
    exact mvc_3 hR hO hP c9 (hcv (by omega)).1 (hcv (by omega)).2 (k2 (by omega)) (by omega) q
  · skip
    have c9 := List.mem_singleton.mp c9
    exact mvc_4 hR hO hP c9 (k2 (by omega)) (by omega) q
  · skip
    have c9 := List.mem_singleton.mp c9
    exact mvc_5 hR hO hP c9 ⟨k2 (by omega), k1 (by omega)⟩ (by omega) q
  · skip
    simp only [List.mem_cons, List.not_mem_nil, or_false, not_or] at c9; exact mvc_6 hR hO hP (by omega) (k3 (by omega)) (by omega) q
end CM3
