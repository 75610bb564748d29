/-! THE LAW: what holds between calls -/
section LW0
variable {d : Nat} {T : TXs} {al al' : AL} {hi hi' : HI} {hr hr' : HR} {s s' : HI} {g : Int → Int} {c1 : Nat × Nat} {b1 b2 k : Nat} {S : Int → Option (Int → Int)} {b : Int → Int} {N t : Nat} {x y : Int}
/-- the class's shelf, its processes' cells -/
def CL (al : AL) (hi : HI) (hr : HR) (S : Int → Option (Int → Int)) : Prop := SA al ∧ CR hr ∧ OPS al hi ∧ TkA al hr ∧ (∀ q t, 0 ≤ q → q < 12 → hr 27 q = some t → hi t 0 = q) ∧ hi 33 10 = 0 ∧ (∀ m b, S m = some b → (0 ≤ m ∧ m < 6) ∧ ∃ N, hr 4 m = some N ∧ GM al hi hr N b ∧ N < al.1) ∧ ∀ m, 0 ≤ m → m < 6 → S m = none → hr 4 m = none
/-- the reference's -/
def RfI (hi : HI) (S : Int → Option (Int → Int)) : Prop := MSh hi S ∧ (∀ m, 0 ≤ m → m < 6 → hi 56 m = 0 ∨ hi 56 m = 1) ∧ (∀ m b, S m = some b → 0 ≤ hi 52 m) ∧ (∀ q, 240 ≤ q → hi 71 q ≠ 1) ∧ (0 ≤ hi 49 2 ∧ hi 49 2 ≤ 2000) ∧ (hi 49 51 = 0 ∨ hi 49 51 = 1)
/-- tape and fault -/
def CT (hi : HI) : Prop := hi 2 1 = hi 49 2 ∧ (∀ j, 0 ≤ j → j < hi 49 2 → hi 3 j = hi 50 j % 256) ∧ ((hi 49 24 = 0 ∧ hi 2 3 = -1 ∧ hi 2 4 = -1) ∨ (hi 49 24 = 1 ∧ hi 2 3 = hi 49 22 ∧ hi 2 4 = hi 49 23))
/-- nothing was booted -/
def UnB (hi : HI) : Prop := hi 26 0 = 0 ∧ (∀ q, 0 ≤ q → q < 12 → hi 28 q = 0) ∧ (∀ b, 0 ≤ b → b < 128 → hi 30 b = 0) ∧ ∀ e, 0 ≤ e → e < 24 → hi 34 e = 0
/-- what was booted -/
def BtD (T : TXs) (al : AL) (hi : HI) (hr : HR) (s : HI) (x : Int) : Prop := ∃ NN A, RelC T NN al hi hr (fun _ => False) A al hi hr s ∧ Bs T NN al hi hr ∧ INV T s ∧ AllP s ∧ R91 s ∧ s 49 52 ≤ x
def RN (al : AL) (hi : HI) (hr : HR) (s : HI) (x : Int) : Prop := RelR hi s ∧ Z90 s ∧ ((hi 49 51 = 1 ∧ ∃ T, BtD T al hi hr s x) ∨ (hi 49 51 = 0 ∧ UnB hi))
def RmB (b1 b2 k : Nat) (al : AL) (hr : HR) : Prop := al.1 ≤ b1 + 127 * k + 7 * tcn hr 12 ∧ al.2.1 ≤ b2 + 73568 * k + 2000 * tcn hr 12
def LW (g : Int → Int) (c1 : Nat × Nat) (b1 b2 k : Nat) (al : AL) (hi : HI) (hr : HR) : Prop := (MR hr ∧ (∀ i, hi 1 i = g i) ∧ al.2.2 1 = c1 ∧ RmB b1 b2 k al hr) ∧ ∃ S s, CL al hi hr S ∧ RfI hi S ∧ CT hi ∧ RN al hi hr s (200000 * k)
theorem tcn_b : ∀ n, tcn hr n ≤ n
  | 0 => Nat.le_refl _
  | n + 1 => by
    have := tcn_b n
    unfold tcn
    split <;> omega
/-- the reference's cells stay -/
def eqR (hi hi' : HI) : Prop := ∀ a i, 49 ≤ a → a < 119 → hi' a i = hi a i
theorem RfI.eq (h : RfI hi S) (e : eqR hi hi') : RfI hi' S := by
  obtain ⟨a1, a2, a3, a4, a5, a6⟩ := h
  refine ⟨a1.fr (fun a i z1 z2 => e a i (by omega) (by omega)), fun m m0 m1 => by rw [e 56 m (by decide) (by decide)]; exact a2 m m0 m1, fun m b h => by rw [e 52 m (by decide) (by decide)]; exact a3 m b h, fun q hq => by rw [e 71 q (by decide) (by decide)]; exact a4 q hq, by rw [e 49 2 (by decide) (by decide)]; exact a5, by rw [e 49 51 (by decide) (by decide)]; exact a6⟩
theorem RelR.eq (h : RelR hi s) (e : ∀ a i, ((51 ≤ a ∧ a ≤ 69) ∨ (87 ≤ a ∧ a ≤ 101) ∨ a = 103 ∨ a = 104 ∨ (109 ≤ a ∧ a ≤ 118) ∨ (a = 49 ∧ 51 ≤ i ∧ i ≤ 56)) → hi' a i = hi a i) : RelR hi' s := by
  refine ⟨fun a i z => ?_, fun p p0 p1 => ?_⟩
  · rw [e a i (by omega)]; exact h.1 a i z
  · have := h.2 p p0 p1
    have e1 : ∀ i, hi' 101 i = hi 101 i := fun i => e 101 i (by omega)
    have e3 : ∀ i, hi' 103 i = hi 103 i := fun i => e 103 i (by omega)
    have e4 : ∀ i, hi' 104 i = hi 104 i := fun i => e 104 i (by omega)
    unfold LR at this ⊢
    simp only [e1, e3, e4]
    exact this
theorem OPS.ex (h : OPS al hi) (hA : SA al) (hE : XC al hi hr al' hi' hr') (h0 : ∀ i, hi' 0 i = hi 0 i) : OPS al' hi' := by
  obtain ⟨⟨c, z, g⟩, -⟩ := hE
  have := hA.1
  exact ⟨by rw [g.2.2.2 0 (by omega)]; exact h.1, fun k a b => (h0 k).trans (h.2 k a b)⟩
theorem CL.ex (h : CL al hi hr S) (hE : XC al hi hr al' hi' hr') (hC : CR hr') (h0 : ∀ i, hi' 0 i = hi 0 i) (h4 : ∀ m, hr' 4 m = hr 4 m) : CL al' hi' hr' S := by
  obtain ⟨a1, a2, a3, a4, a5, a6, a7, a8⟩ := h
  obtain ⟨⟨c, z, g⟩, e⟩ := id hE
  refine ⟨g.sa a1, hC, a3.ex a1 hE h0, a4.ex hE, fun q t q0 q1 et => ?_, by rw [(e 33 10 (Or.inl (by decide))).1]; exact a6, fun m b hb => ?_, fun m m0 m1 hm => (h4 m).trans (a8 m m0 m1 hm)⟩
  · rw [(e 27 q (Or.inl (by decide))).2] at et
    obtain ⟨w1, -⟩ := a4.1 q t q0 q1 et
    rw [(e t 0 (Or.inr ⟨w1.1.1, w1.1.2.2.1⟩)).1]
    exact a5 q t q0 q1 et
  · obtain ⟨y1, N, y2, y3, y4⟩ := a7 m b hb
    exact ⟨y1, N, (h4 m).trans y2, y3.ex hE h0, Nat.lt_of_lt_of_le y4 g.1⟩
theorem UnB.ex (h : UnB hi) (hE : XC al hi hr al' hi' hr') : UnB hi' := by
  have e : ∀ (a : Nat) i, 26 ≤ a → a < 49 → hi' a i = hi a i := fun a i z1 z2 => (hE.2 a i (Or.inl ⟨z1, z2⟩)).1
  obtain ⟨u1, u2, u3, u4⟩ := h
  exact ⟨(e 26 0 (by decide) (by decide)).trans u1, fun q a b => (e 28 q (by decide) (by decide)).trans (u2 q a b), fun q a b => (e 30 q (by decide) (by decide)).trans (u3 q a b), fun q a b => (e 34 q (by decide) (by decide)).trans (u4 q a b)⟩
theorem BtD.ex (h : BtD T al hi hr s x) (hE : XC al hi hr al' hi' hr') (hC : CR hr') (h0 : ∀ i, hi' 0 i = hi 0 i) (hxy : x ≤ y) : BtD T al' hi' hr' s y := by
  obtain ⟨NN, A, h1, h2, h3, h4, h5, h6⟩ := h
  obtain ⟨r1, r2⟩ := h1.ex h2 h4 hE hC h0
  exact ⟨NN, A, r1, r2, h3, h4, h5, Int.le_trans h6 hxy⟩
theorem RN.ex (h : RN al hi hr s x) (hE : XC al hi hr al' hi' hr') (hC : CR hr') (h0 : ∀ i, hi' 0 i = hi 0 i) (hxy : x ≤ y) (e : ∀ a i, ((51 ≤ a ∧ a ≤ 69) ∨ (87 ≤ a ∧ a ≤ 101) ∨ a = 103 ∨ a = 104 ∨ (109 ≤ a ∧ a ≤ 118) ∨ (a = 49 ∧ 51 ≤ i ∧ i ≤ 56)) → hi' a i = hi a i) : RN al' hi' hr' s y := by
  obtain ⟨h1, h2, h3⟩ := h
  refine ⟨h1.eq e, h2, ?_⟩
  rw [e 49 51 (by omega)]
  rcases h3 with ⟨z, T, hB⟩ | ⟨z, hU⟩
  · exact Or.inl ⟨z, T, hB.ex hE hC h0 hxy⟩
  · exact Or.inr ⟨z, hU.ex hE⟩
/-- class's cells that a call that leaves the processes changes -/
theorem XC.rf (hw : ∀ a i, ((26 ≤ a ∧ a < 49) ∨ (119 ≤ a ∧ a < al.1)) → hi' a i = hi a i) (hrw : ∀ a i, ((26 ≤ a ∧ a < 49) ∨ (119 ≤ a ∧ a < al.1)) → hr' a i = hr a i) : XC al hi hr al hi' hr' := ⟨⟨0, 0, GA.rf⟩, fun a i z => ⟨hw a i z, hrw a i z⟩⟩
theorem RmB.sc (h : RmB b1 b2 k al hr) : RmB b1 b2 (k + 1) al hr := by unfold RmB at h ⊢; omega
/-- a call that changes neither shelf nor state: class's part, then the reference's -/
theorem LW.same (h1 : MR hr') (h2 : ∀ i, hi' 1 i = g i) (h3 : al.2.2 1 = c1) (h4 : RmB b1 b2 (k + 1) al hr') (hL : CL al hi hr S) (hI : RfI hi' S) (hT : CT hi') (hN : RN al hi hr s (200000 * k)) (hC : CR hr') (h0 : ∀ i, hi' 0 i = hi 0 i) (hr4 : ∀ m, hr' 4 m = hr 4 m) (hE : XC al hi hr al hi' hr') (e : ∀ a i, ((51 ≤ a ∧ a ≤ 69) ∨ (87 ≤ a ∧ a ≤ 101) ∨ a = 103 ∨ a = 104 ∨ (109 ≤ a ∧ a ≤ 118) ∨ (a = 49 ∧ 51 ≤ i ∧ i ≤ 56)) → hi' a i = hi a i) : LW g c1 b1 b2 (k + 1) al hi' hr' :=
  ⟨⟨h1, h2, h3, h4⟩, S, s, hL.ex hE hC h0 hr4, hI, hT, hN.ex hE hC h0 (by omega) e⟩
/-- .. where the reference alone changes, and only what it throws -/
def wTh (a : Nat) (i : Int) : Prop := (a = 49 ∧ (i = 0 ∨ (35 ≤ i ∧ i ≤ 38))) ∨ (a = 71 ∧ 0 ≤ i ∧ i < 240) ∨ (72 ≤ a ∧ a ≤ 76) ∨ a = 102 ∨ a = 107
theorem RfI.th (hI : RfI hi S) (w : FW wTh hi hi') : RfI hi' S := by
  obtain ⟨i1, i2, i3, i4, i5, i6⟩ := hI
  exact ⟨i1.fr (fun a i z1 z2 => w a i (by unfold wTh; omega)), fun m m0 m1 => by rw [w 56 m (by unfold wTh; omega)]; exact i2 m m0 m1, fun m b h => by rw [w 52 m (by unfold wTh; omega)]; exact i3 m b h, fun q hq => by rw [w 71 q (by unfold wTh; omega)]; exact i4 q hq, by rw [w 49 2 (by unfold wTh; omega)]; exact i5, by rw [w 49 51 (by unfold wTh; omega)]; exact i6⟩
theorem CT.th (hT : CT hi) (w : FW wTh hi hi') : CT hi' := by
  obtain ⟨t1, t2, t3⟩ := hT
  unfold CT
  rw [w 2 1 (by unfold wTh; omega), w 49 2 (by unfold wTh; omega), w 49 24 (by unfold wTh; omega), w 2 3 (by unfold wTh; omega), w 2 4 (by unfold wTh; omega), w 49 22 (by unfold wTh; omega), w 49 23 (by unfold wTh; omega)]
  exact ⟨t1, fun j a b => by rw [w 3 j (by unfold wTh; omega), w 50 j (by unfold wTh; omega)]; exact t2 j a b, t3⟩
theorem LW.th (H : (MR hr ∧ (∀ i, hi 1 i = g i) ∧ al.2.2 1 = c1 ∧ RmB b1 b2 k al hr)) (hL : CL al hi hr S) (hI : RfI hi S) (hT : CT hi) (hN : RN al hi hr s (200000 * k)) (w : FW wTh hi hi') : LW g c1 b1 b2 (k + 1) al hi' hr := by
  obtain ⟨a1, a2, a3, a4⟩ := H
  exact LW.same a1 (fun i => (w 1 i (by unfold wTh; omega)).trans (a2 i)) a3 a4.sc hL (hI.th w) (hT.th w) hN hL.2.1 (fun i => w 0 i (by unfold wTh; omega)) (fun _ => rfl) (XC.rf (fun a i z => w a i (by unfold wTh; omega)) (fun _ _ _ => rfl)) (fun a i z => w a i (by unfold wTh; omega))
theorem wTh_0 : FW wTh hi (upI hi 49 0 0) := FW.rf.up (Or.inl ⟨rfl, Or.inl rfl⟩)
theorem wTh_T (w : FW (fun a i => wT a i ∨ (a = 49 ∧ i = 0)) hi hi') : FW wTh hi hi' := w.mn (fun a i z => by unfold wT wS wFl at z; unfold wTh; omega)
/-- .. and the class's processes, which a collection moves -/
theorem RN.co {NN : Int → Option Nat} {A' : Int → Int → Int} (hN : RN al hi hr s x) (h1 : hi 49 51 = 1) (hB : Bs T NN al hi hr) (hR : RelC T NN al hi hr (fun _ => False) A' al' hi' hr' s) (hI : INV T s) (hP : AllP s) (h91 : R91 s) (h52 : s 49 52 ≤ x) (e : eqR hi hi') : RN al' hi' hr' s x := by
  obtain ⟨r1, r2⟩ := hR.rb hB
  exact ⟨hN.1.eq (fun a i z => e a i (by omega) (by omega)), hN.2.1, Or.inl ⟨(e 49 51 (by decide) (by decide)).trans h1, T, NN, A', r1, r2, hI, hP, h91, h52⟩⟩
theorem RelC.eqR_ {NN : Int → Option Nat} {A' : Int → Int → Int} {al0 : AL} {hi0 : HI} {hr0 : HR} {E : Int → Prop} (hR : RelC T NN al0 hi0 hr0 E A' al' hi' hr' s) : eqR hi0 hi' ∧ (∀ i, hr' 49 i = hr0 49 i) := ⟨fun a i z1 z2 => (hR.1.2.2.1.2.1 a i (Or.inr ⟨z1, z2⟩)).1, fun i => (hR.1.2.2.1.2.1 49 i (Or.inr (by decide))).2⟩
theorem MR.eq (h : MR hr) (e : ∀ i, hr' 49 i = hr 49 i) : MR hr' := fun p hp => (e p.1).trans (h p hp)
/-- class's shelf behind a run -/
theorem CL.rc {NN : Int → Option Nat} {A' : Int → Int → Int} (h : CL al hi hr S) (hR : RelC T NN al hi hr (fun _ => False) A' al' hi' hr' s) : CL al' hi' hr' S := by
  obtain ⟨a1, a2, a3, a4, a5, a6, a7, a8⟩ := h
  obtain ⟨⟨b1, b2, ⟨⟨c, z, g⟩, f2, f3, f4, f5⟩, -⟩, -, -, ⟨-, cl⟩, bT, -⟩ := id hR
  have h0 : ∀ i, hi' 0 i = hi 0 i := fun i => (f2 0 i (Or.inl (by decide))).1
  have := a1.1
  refine ⟨b1, b2, ⟨by rw [g.2.2.2 0 (by omega)]; exact a3.1, fun k a b => (h0 k).trans (a3.2 k a b)⟩, bT, f5, ?_, fun m b hb => ?_, fun m m0 m1 hm => ((f2 4 m (Or.inl (by decide))).2).trans (a8 m m0 m1 hm)⟩
  · obtain ⟨⟨c1, c2⟩, c3, -⟩ := cl
    apply Classical.byContradiction
    intro z
    exact c3 0 (Int.le_refl _) (by omega)
  · obtain ⟨y1, N, y2, y3, y4⟩ := a7 m b hb
    exact ⟨y1, N, ((f2 4 m (Or.inl (by decide))).2).trans y2, y3.fx hR, Nat.lt_of_lt_of_le y4 g.1⟩
theorem RmB.rc {NN : Int → Option Nat} {A' : Int → Int → Int} {hi0 : HI} {hr0 : HR} (h : RmB b1 b2 k al hr) (hR : RelC T NN al hi0 hr0 (fun _ => False) A' al' hi' hr' s) (e : ∀ i, hr0 27 i = hr 27 i) : RmB b1 b2 k al' hr' := by
  obtain ⟨r1, r2⟩ := hR.1.2.2.2
  rw [tcn_cg e] at r1 r2
  unfold RmB at h ⊢
  omega
theorem CT.eq (h : CT hi) (e : eqR hi hi') (e2 : ∀ a i, a < 26 → hi' a i = hi a i) : CT hi' := by
  obtain ⟨t1, t2, t3⟩ := h
  unfold CT
  rw [e2 2 1 (by decide), e 49 2 (by decide) (by decide), e 49 24 (by decide) (by decide), e2 2 3 (by decide), e2 2 4 (by decide), e 49 22 (by decide) (by decide), e 49 23 (by decide) (by decide)]
  exact ⟨t1, fun j a b => by rw [e2 3 j (by decide), e 50 j (by decide) (by decide)]; exact t2 j a b, t3⟩
end LW0
