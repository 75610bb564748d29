/-! RUNNING, the class: the trap of a process that goes on is 0 -/
section CQ0
variable {T : TXs} {s s' s1 s2 S : HI} {p q m f v w x y n k g i e fr ty t o c : Int} {B : Int → Int} {has : Prop}
/-- what it was of status and trap -/
def Sa (s s' : HI) : Prop := ∀ (a : Nat) i, a = 89 ∨ a = 90 → s' a i = s a i
theorem Sa.rf : Sa s s := fun _ _ _ => rfl
theorem Sa.psh_ (h : Sa s s1) : Sa s (psh s1 p v w) := fun a i z => (psh_n (by omega)).trans (h a i z)
theorem Sa.pp_ (h : Sa s s1) : Sa s (pp s1 p n) := fun a i z => (ppz_n (by omega)).trans (h a i z)
theorem Sa.st_ (h : Sa s s1) : Sa s (st2 s1 i v w) := fun a i z => (st2_n (by omega) (by omega)).trans (h a i z)
theorem Sa.go_ (h : Sa s s1) : Sa s (goS s1 p v) := fun a i z => (goS_n (by omega)).trans (h a i z)
theorem Sa.up_ {a : Nat} (h : Sa s s1) (ha : a ≠ 89 ∧ a ≠ 90) : Sa s (upI s1 a i x) := fun b j z => (upI_a (by omega)).trans (h b j z)
theorem Sa.ow_ (h : Sa s s1) : Sa s (ownS s1 v w x) := fun a i z => (ownS_n (by omega)).trans (h a i z)
theorem Sa.cl_ {E : Int → Prop} (h : Sa s s1) : Sa s (clsS s1 E) := fun a i z => (clG_o (D := clo s1 E) (Bk := blo s1 (clo s1 E)) (by omega) (by omega) (by omega)).trans (h a i z)
theorem Sa.lo_ (h : Sa s s1) : Sa s (losS s1 v w) := by
  unfold losS
  split
  · exact h.up_ (by decide)
  · split
    · exact h.cl_
    · exact h
/-- what may have become of them -/
def Rn (s s' : HI) : Prop := ∀ q, (s' 90 q = s 90 q ∧ (s' 89 q = s 89 q ∨ s' 89 q = 4)) ∨ s' 89 q = 5 ∨ s' 90 q = 0
theorem Sa.rn (h : Sa s s1) : Rn s s1 := fun q => Or.inl ⟨h 90 q (by decide), Or.inl (h 89 q (by decide))⟩
theorem frb9 : Sa s (frbS s p) := fun a i z => frb_n (by omega)
theorem Sa.tp (h : Sa s s1) : Rn s (trpS s1 p w) := fun q => by
  have e : ∀ (a : Nat) i, a = 89 ∨ a = 90 → trpS s1 p w a i = upI (upI s1 90 p w) 89 p 5 a i := fun a i z => by
    unfold trpS ovrS
    rw [Sa.cl_ Sa.rf a i z]
    exact frb9 a i z
  rw [e 89 q (by decide), e 90 q (by decide)]
  by_cases c : q = p
  · subst c; exact Or.inr (Or.inl upI_eq)
  · left
    rw [upI_a (by decide), upI_i c, upI_i c, upI_a (by decide)]
    exact ⟨h 90 q (by decide), Or.inl (h 89 q (by decide))⟩
theorem Sa.ov (h : Sa s s1) : Rn s (ovrS s1 p 4) := fun q => by
  have e : ∀ (a : Nat) i, a = 89 ∨ a = 90 → ovrS s1 p 4 a i = upI s1 89 p 4 a i := fun a i z => by
    unfold ovrS
    rw [Sa.cl_ Sa.rf a i z]
    exact frb9 a i z
  rw [e 89 q (by decide), e 90 q (by decide), upI_a (by decide)]
  left
  refine ⟨h 90 q (by decide), ?_⟩
  by_cases c : q = p
  · subst c; exact Or.inr upI_eq
  · rw [upI_i c]; exact Or.inl (h 89 q (by decide))
theorem Sa.mk (h : Sa s s1) {ws : Int → Int} : Rn s (mkS s1 p n ty ws) := by
  unfold mkS
  by_cases c : mkF s1 p n
  · rw [cif_y c]
    refine (Sa.psh_ (fun a i z => ?_)).rn
    rw [newB_o (by omega), gcS_CE (by omega)]; exact h a i z
  · rw [cif_n c]; exact h.tp
theorem hnd_n {n9 : Int} {a : Nat} {j : Int} (h : a ≠ 98 ∧ a ≠ 99 ∧ a ≠ 110 ∧ a ≠ 113) : ∀ k, hndS S fr i n9 k a j = S a j
  | 0 => rfl
  | k + 1 => by unfold hndS; rw [ownS_n (by omega), st2_n (by omega) (by omega), hnd_n h k]
theorem Rn.ifp {c : Prop} [Decidable c] (h1 : c → Rn s s1) (h2 : ¬ c → Rn s s2) : Rn s (if c then s1 else s2) := by
  split
  · exact h1 ‹_›
  · exact h2 ‹_›
set_option maxRecDepth 4000 in
theorem ex_9 (p0 : 0 ≤ p ∧ p < 12) (ho : 0 ≤ o ∧ o ≤ 43) : Rn s (exS B f s p o v q) := by
  by_cases z : o = 0
  · rw [exq_0 z]; exact Sa.rf.psh_.rn
  by_cases z : o = 1
  · rw [exq_1 z]; exact Sa.rf.psh_.rn
  by_cases z : o = 2
  · rw [exq_2 z]
    simp only []
    exact Rn.ifp (fun _ => Sa.rf.psh_.st_.rn) (fun _ => Sa.rf.psh_.rn)
  by_cases z : o = 3
  · rw [exq_3 z]; exact Sa.rf.pp_.st_.rn
  by_cases z : o = 4
  · rw [exq_4 z]; exact Sa.rf.pp_.rn
  by_cases z : o = 5
  · rw [exq_5 z]; exact Sa.rf.psh_.rn
  by_cases z : o = 6
  · rw [exq_6 z]; exact Sa.rf.st_.st_.rn
  by_cases z : 7 ≤ o ∧ o ≤ 18
  · rw [exq_7 z]; exact Rn.ifp (fun _ => Sa.rf.pp_.tp) (fun _ => Sa.rf.pp_.psh_.rn)
  by_cases z : o = 19
  · rw [exq_19 z]; exact Sa.rf.pp_.psh_.rn
  by_cases z : o = 20
  · rw [exq_20 z]; exact Sa.rf.go_.rn
  by_cases z : o = 21
  · rw [exq_21 z]; exact Rn.ifp (fun _ => Sa.rf.pp_.go_.rn) (fun _ => Sa.rf.pp_.rn)
  by_cases z : o = 22
  · rw [exq_22 z]; exact Sa.rf.mk
  by_cases z : o = 23
  · rw [exq_23 z]; exact Rn.ifp (fun _ => Sa.rf.pp_.tp) (fun _ => Sa.rf.pp_.psh_.rn)
  by_cases z : o = 24
  · rw [exq_24 z]; exact Rn.ifp (fun _ => Sa.rf.pp_.tp) (fun _ => (Sa.rf.pp_.up_ (by decide)).rn)
  by_cases z : o = 25
  · rw [exq_25 z]; exact Rn.ifp (fun _ => Sa.rf.pp_.tp) (fun _ => Sa.rf.pp_.mk)
  by_cases z : o = 26
  · rw [exq_26 z]; exact Rn.ifp (fun _ => Sa.rf.pp_.tp) (fun _ => Sa.rf.pp_.mk)
  by_cases z : o = 27
  · rw [exq_27 z]; exact Rn.ifp (fun _ => Sa.rf.pp_.tp) (fun _ => Sa.rf.pp_.psh_.rn)
  by_cases z : o = 28
  · rw [exq_28 z]; exact Rn.ifp (fun _ => Sa.rf.pp_.tp) (fun _ => Rn.ifp (fun _ => Sa.rf.pp_.psh_.rn) (fun _ => Sa.rf.pp_.tp))
  by_cases z : o = 29
  · rw [exq_29 z]; exact Rn.ifp (fun _ => Sa.rf.pp_.tp) (fun _ => Rn.ifp (fun _ => (Sa.rf.pp_.up_ (by decide)).rn) (fun _ => Sa.rf.pp_.tp))
  by_cases z : o = 30
  · rw [exq_30 z]
    unfold calS
    exact Rn.ifp (fun _ => Sa.rf.tp) (fun _ => Sa.rn (fun a i z => by rw [mvS_n (by omega), actS_n (by omega), ppz_n (by omega)]))
  by_cases z : o = 31
  · rw [exq_31 z]
    unfold bckS
    simp only []
    by_cases c : rTy B f ≠ -1
    · rw [cif_y c, cif_y c]
      exact Rn.ifp (fun _ => Sa.rf.pp_.ov) (fun _ => (Sa.rf.pp_.up_ (by decide)).psh_.rn)
    · rw [cif_n c, cif_n c]
      exact Rn.ifp (fun _ => Sa.rf.ov) (fun _ => (Sa.rf.up_ (by decide)).rn)
  by_cases z : o = 32
  · rw [exq_32 z]
    refine Rn.ifp (fun _ => Sa.rf.tp) (fun _ => ?_)
    refine Sa.rn (fun a i z => ?_)
    show psh (nbS s _ (nFld B v) p) p _ 2 a i = s a i
    rw [psh_n (by omega), nbS_n (by omega)]
  by_cases z : o = 33
  · rw [exq_33 z]; exact Sa.rf.psh_.rn
  by_cases z : o = 34
  · rw [exq_34 z]; exact (Sa.rf.pp_.up_ (by decide)).rn
  by_cases z : o = 35
  · rw [exq_35 z]; exact (Sa.rf.pp_.up_ (by decide)).rn
  by_cases z : o = 36
  · rw [exq_36 z]
    unfold chnS opE
    simp only []
    exact Rn.ifp (fun _ => Sa.rf.tp) (fun _ => (((((((((Sa.rf.up_ (by decide)).up_ (by decide)).up_ (by decide)).up_ (by decide)).psh_).up_ (by decide)).up_ (by decide)).up_ (by decide)).up_ (by decide)).psh_.rn)
  by_cases z : o = 37
  · rw [exq_37 z]
    have key : ∀ {s1 : HI} {v' w'}, Sa s s1 → Rn s (sndT s1 p v' w' v) := fun h => by
      unfold sndT
      exact Rn.ifp (fun _ => (h.up_ (by decide)).lo_.rn) (fun _ => Sa.rn (fun a i z => by rw [ownS_n (by omega), putS_n (by omega), upI_a (by omega)]; exact h a i z))
    rcases dep01 (s := s) (p := p) (v := v) with c | c
    · rw [snd_0 c]; exact key Sa.rf
    · rw [snd_1 c]; exact key Sa.rf.pp_
  by_cases z : o = 38
  · rw [exq_38 z]
    unfold rcvS
    simp only []
    refine Sa.rn (Sa.go_ (fun a i z => ?_))
    split
    · rw [ownS_n (by omega), psh_n (by omega), upI_a (by omega), shfS_n (by omega)]
    · rw [upI_a (by omega), shfS_n (by omega)]
  by_cases z : o = 39
  · rw [exq_39 z]; exact Sa.rf.pp_.cl_.rn
  by_cases z : o = 40
  · rw [exq_40 z]
    unfold spnS
    simp only []
    refine Rn.ifp (fun _ => Sa.rf.tp) (fun _ q => ?_)
    have e : ∀ (a : Nat), a = 89 ∨ a = 90 → upI (hndS (staS (pp s p (nPar B v)) (frP s) (s 91 p) v (s 92 p)) (sk s p (hg s p - nPar B v)) (26 * (16 * frP s)) (frP s) (nPar B v).toNat) 49 56 (if s 49 56 < frP s + 1 then frP s + 1 else s 49 56) a q = staS (pp s p (nPar B v)) (frP s) (s 91 p) v (s 92 p) a q := fun a z => by rw [upI_a (by omega), hnd_n (by omega)]
    rw [e 89 (by decide), e 90 (by decide)]
    by_cases c : q = frP s
    · right; right; rw [c]; exact sta_s.2.1
    · left
      rw [sta_o (by unfold ownC; omega), sta_o (by unfold ownC; omega), ppz_n (by decide), ppz_n (by decide)]
      exact ⟨rfl, Or.inl rfl⟩
  by_cases z : o = 41
  · rw [exq_41 z]; exact Sa.rf.rn
  by_cases z : o = 42
  · rw [exq_42 z]; exact Sa.rf.ov
  rw [exq_43 (by omega)]
  unfold outS
  exact Rn.ifp (fun _ => Sa.rf.pp_.tp) (fun _ => (((Sa.rf.pp_.up_ (by decide)).up_ (by decide)).up_ (by decide)).rn)
/-- a process that goes on has no trap -/
def Z90 (s : HI) : Prop := ∀ q, s 89 q < 4 → s 90 q = 0
theorem Z90.rn (h : Z90 s) (hR : Rn s s') : Z90 s' := fun q hq => by
  rcases hR q with ⟨h1, h2 | h2⟩ | h1 | h1
  · rw [h1]; exact h q (by omega)
  · omega
  · omega
  · exact h1
end CQ0
