/-! RUNNING: where a process is from stays in range -/
section CQ9
variable {T : TXs} {s s' s1 s2 S : HI} {p q m f v w x y n k g i e fr ty t o c : Int} {B : Int → Int} {has : Prop}
/-- the module it is of, and how many are known -/
def Sb (s s' : HI) : Prop := ∀ (a : Nat) i, a = 91 ∨ (a = 49 ∧ i = 56) → s' a i = s a i
theorem Sb.rf : Sb s s := fun _ _ _ => rfl
theorem Sb.psh_ (h : Sb s s1) : Sb s (psh s1 p v w) := fun a i z => (psh_n (by omega)).trans (h a i z)
theorem Sb.pp_ (h : Sb s s1) : Sb s (pp s1 p n) := fun a i z => (ppz_n (by omega)).trans (h a i z)
theorem Sb.st_ (h : Sb s s1) : Sb s (st2 s1 i v w) := fun a i z => (st2_n (by omega) (by omega)).trans (h a i z)
theorem Sb.go_ (h : Sb s s1) : Sb s (goS s1 p v) := fun a i z => (goS_n (by omega)).trans (h a i z)
theorem Sb.up_ {a : Nat} (h : Sb s s1) (ha : ¬ (a = 91 ∨ (a = 49 ∧ i = 56))) : Sb s (upI s1 a i x) := fun b j z => (upI_ne (by omega)).trans (h b j z)
theorem Sb.ow_ (h : Sb s s1) : Sb s (ownS s1 v w x) := fun a i z => (ownS_n (by omega)).trans (h a i z)
theorem Sb.cl_ {E : Int → Prop} (h : Sb s s1) : Sb s (clsS s1 E) := fun a i z => (clG_o (D := clo s1 E) (Bk := blo s1 (clo s1 E)) (by omega) (by omega) (by omega)).trans (h a i z)
theorem Sb.lo_ (h : Sb s s1) : Sb s (losS s1 v w) := by
  unfold losS
  split
  · exact h.up_ (by omega)
  · split
    · exact h.cl_
    · exact h
theorem frb91 : Sb s (frbS s p) := fun a i z => frb_n (by omega)
theorem Sb.ov {y : Int} (h : Sb s s1) : Sb s (ovrS s1 p y) := fun a i z => by
  unfold ovrS
  rw [Sb.cl_ Sb.rf a i z, frb91 a i z, upI_a (by omega)]
  exact h a i z
theorem Sb.tp (h : Sb s s1) : Sb s (trpS s1 p w) := by
  unfold trpS
  exact (h.up_ (by omega)).ov
theorem Sb.mk (h : Sb s s1) {ws : Int → Int} : Sb s (mkS s1 p n ty ws) := by
  unfold mkS
  by_cases c : mkF s1 p n
  · rw [cif_y c]
    refine (Sb.psh_ (fun a i z => ?_))
    rw [newB_o (by omega), gcS_CE (by omega)]; exact h a i z
  · rw [cif_n c]; exact h.tp
theorem Sb.ifp {c : Prop} [Decidable c] (h1 : c → Sb s s1) (h2 : ¬ c → Sb s s2) : Sb s (if c then s1 else s2) := by
  split
  · exact h1 ‹_›
  · exact h2 ‹_›
set_option maxRecDepth 4000 in
theorem ex_91 (ho : 0 ≤ o ∧ o ≤ 43) (n40 : o ≠ 40) : Sb s (exS B f s p o v q) := by
  by_cases z : o = 0
  · rw [exq_0 z]; exact Sb.rf.psh_
  by_cases z : o = 1
  · rw [exq_1 z]; exact Sb.rf.psh_
  by_cases z : o = 2
  · rw [exq_2 z]
    simp only []
    exact Sb.ifp (fun _ => Sb.rf.psh_.st_) (fun _ => Sb.rf.psh_)
  by_cases z : o = 3
  · rw [exq_3 z]; exact Sb.rf.pp_.st_
  by_cases z : o = 4
  · rw [exq_4 z]; exact Sb.rf.pp_
  by_cases z : o = 5
  · rw [exq_5 z]; exact Sb.rf.psh_
  by_cases z : o = 6
  · rw [exq_6 z]; exact Sb.rf.st_.st_
  by_cases z : 7 ≤ o ∧ o ≤ 18
  · rw [exq_7 z]; exact Sb.ifp (fun _ => Sb.rf.pp_.tp) (fun _ => Sb.rf.pp_.psh_)
  by_cases z : o = 19
  · rw [exq_19 z]; exact Sb.rf.pp_.psh_
  by_cases z : o = 20
  · rw [exq_20 z]; exact Sb.rf.go_
  by_cases z : o = 21
  · rw [exq_21 z]; exact Sb.ifp (fun _ => Sb.rf.pp_.go_) (fun _ => Sb.rf.pp_)
  by_cases z : o = 22
  · rw [exq_22 z]; exact Sb.rf.mk
  by_cases z : o = 23
  · rw [exq_23 z]; exact Sb.ifp (fun _ => Sb.rf.pp_.tp) (fun _ => Sb.rf.pp_.psh_)
  by_cases z : o = 24
  · rw [exq_24 z]; exact Sb.ifp (fun _ => Sb.rf.pp_.tp) (fun _ => (Sb.rf.pp_.up_ (by omega)))
  by_cases z : o = 25
  · rw [exq_25 z]; exact Sb.ifp (fun _ => Sb.rf.pp_.tp) (fun _ => Sb.rf.pp_.mk)
  by_cases z : o = 26
  · rw [exq_26 z]; exact Sb.ifp (fun _ => Sb.rf.pp_.tp) (fun _ => Sb.rf.pp_.mk)
  by_cases z : o = 27
  · rw [exq_27 z]; exact Sb.ifp (fun _ => Sb.rf.pp_.tp) (fun _ => Sb.rf.pp_.psh_)
  by_cases z : o = 28
  · rw [exq_28 z]; exact Sb.ifp (fun _ => Sb.rf.pp_.tp) (fun _ => Sb.ifp (fun _ => Sb.rf.pp_.psh_) (fun _ => Sb.rf.pp_.tp))
  by_cases z : o = 29
  · rw [exq_29 z]; exact Sb.ifp (fun _ => Sb.rf.pp_.tp) (fun _ => Sb.ifp (fun _ => (Sb.rf.pp_.up_ (by omega))) (fun _ => Sb.rf.pp_.tp))
  by_cases z : o = 30
  · rw [exq_30 z]
    unfold calS
    exact Sb.ifp (fun _ => Sb.rf.tp) (fun _ => (fun a i z => by rw [mvS_n (by omega), actS_n (by omega), ppz_n (by omega)]))
  by_cases z : o = 31
  · rw [exq_31 z]
    unfold bckS
    simp only []
    by_cases c : rTy B f ≠ -1
    · rw [cif_y c, cif_y c]
      exact Sb.ifp (fun _ => Sb.rf.pp_.ov) (fun _ => (Sb.rf.pp_.up_ (by omega)).psh_)
    · rw [cif_n c, cif_n c]
      exact Sb.ifp (fun _ => Sb.rf.ov) (fun _ => (Sb.rf.up_ (by omega)))
  by_cases z : o = 32
  · rw [exq_32 z]
    refine Sb.ifp (fun _ => Sb.rf.tp) (fun _ => ?_)
    refine (fun a i z => ?_)
    show psh (nbS s _ (nFld B v) p) p _ 2 a i = s a i
    rw [psh_n (by omega), nbS_n (by omega)]
  by_cases z : o = 33
  · rw [exq_33 z]; exact Sb.rf.psh_
  by_cases z : o = 34
  · rw [exq_34 z]; exact (Sb.rf.pp_.up_ (by omega))
  by_cases z : o = 35
  · rw [exq_35 z]; exact (Sb.rf.pp_.up_ (by omega))
  by_cases z : o = 36
  · rw [exq_36 z]
    unfold chnS opE
    simp only []
    exact Sb.ifp (fun _ => Sb.rf.tp) (fun _ => (((((((((Sb.rf.up_ (by omega)).up_ (by omega)).up_ (by omega)).up_ (by omega)).psh_).up_ (by omega)).up_ (by omega)).up_ (by omega)).up_ (by omega)).psh_)
  by_cases z : o = 37
  · rw [exq_37 z]
    have key : ∀ {s1 : HI} {v' w'}, Sb s s1 → Sb s (sndT s1 p v' w' v) := fun h => by
      unfold sndT
      exact Sb.ifp (fun _ => (h.up_ (by omega)).lo_) (fun _ => (fun a i z => by rw [ownS_n (by omega), putS_n (by omega), upI_a (by omega)]; exact h a i z))
    rcases dep01 (s := s) (p := p) (v := v) with c | c
    · rw [snd_0 c]; exact key Sb.rf
    · rw [snd_1 c]; exact key Sb.rf.pp_
  by_cases z : o = 38
  · rw [exq_38 z]
    unfold rcvS
    simp only []
    refine Sb.go_ (fun a i z => ?_)
    split
    · rw [ownS_n (by omega), psh_n (by omega), upI_a (by omega), shfS_n (by omega)]
    · rw [upI_a (by omega), shfS_n (by omega)]
  by_cases z : o = 39
  · rw [exq_39 z]; exact Sb.rf.pp_.cl_
  by_cases z : o = 41
  · rw [exq_41 z]; exact Sb.rf
  by_cases z : o = 42
  · rw [exq_42 z]; exact Sb.rf.ov
  rw [exq_43 (by omega)]
  unfold outS
  exact Sb.ifp (fun _ => Sb.rf.pp_.tp) (fun _ => (((Sb.rf.pp_.up_ (by omega)).up_ (by omega)).up_ (by omega)))
def R91 (s : HI) : Prop := ∀ q, 0 ≤ q → q < s 49 56 → 6 ≤ s 91 q ∧ s 91 q < 12
theorem R91.sb (h : R91 s) (hb : Sb s s') : R91 s' := fun q q0 q1 => by
  rw [hb 91 q (Or.inl rfl)]
  rw [hb 49 56 (Or.inr ⟨rfl, rfl⟩)] at q1
  exact h q q0 q1
theorem frP_n (h : ∀ q, 0 ≤ q → q < 12 → s 89 q < 4 → q < n) (n0 : 0 ≤ n) : frP s ≤ n := by
  unfold frP
  by_cases c : n < 12
  · exact (frL_bb 12 0 n n0 (by omega) (decide_eq_false (fun z => by have := h n n0 c z; omega))).1.2
  · have := (frL_b (g := fun k => decide (s 89 k < 4)) 12 0).2
    omega
theorem ex_40 (h : R91 s) (hn : frP s ≤ s 49 56) (hm : 6 ≤ s 91 p ∧ s 91 p < 12) (ho : o = 40) : R91 (exS B f s p o v q) := by
  rw [exq_40 ho]
  unfold spnS
  simp only []
  obtain ⟨n, hN⟩ : ∃ n, frP s = n := ⟨_, rfl⟩
  rw [hN] at hn
  rw [hN]
  split
  · exact h.sb Sb.rf.tp
  · intro q q0 q1
    rw [upI_eq] at q1
    rw [upI_a (by decide), hnd_n (by omega)]
    by_cases c : q = n
    · rw [c, sta_s.2.2.2.1]; exact hm
    · rw [sta_o (by unfold ownC; omega), ppz_n (by decide)]
      refine h q q0 ?_
      split at q1 <;> omega
theorem lk_91 (hI : INV T s) (h : R91 s) : R91 (lkS T s).1 := by
  obtain ⟨p, hp⟩ : ∃ p, s 49 53 = p := ⟨_, rfl⟩
  have nx : ∀ s : HI, Sb s (nxS s) := fun s => by unfold nxS; exact (Sb.rf.up_ (by omega)).up_ (by omega)
  by_cases c : s 89 p < 4 ∧ cgS T s p
  · have p0 : 0 ≤ p ∧ p < 12 := by rw [← hp]; exact hI.2.1.1
    rw [lk_step hp c.1 c.2]
    obtain ⟨m, f, X, pc, fl, o, v, L⟩ := lk_of hI hp c.1
    obtain ⟨s2, hs2⟩ : ∃ s2, goS (ups s p) p (pc + ilen (T m) (cAt (T m) f + pc)) = s2 := ⟨_, rfl⟩
    have b2 : Sb s s2 := by
      rw [← hs2]
      refine Sb.go_ ?_
      unfold ups
      exact (((Sb.rf.up_ (by omega)).up_ (by omega)).up_ (by omega)).up_ (by omega)
    have K : R91 (a1S T (ups s p) p) := by
      rw [lk_a1 L, hs2]
      by_cases z : o = 40
      · have e89 : ∀ q, q ≠ p → s2 89 q = s 89 q := fun q zq => by
          rw [← hs2, goS_n (by decide)]; unfold ups
          rw [upI_a (by decide), upI_a (by decide), upI_a (by decide), upI_i zq]
        have g6 := hI.2.1.2.2.2.2.2.1
        have g5 := hI.2.1.2.2.2.2.1
        refine ex_40 (h.sb b2) (frP_n (fun q q0 q1 z1 => ?_) ?_) ?_ z
        · rw [b2 49 56 (Or.inr ⟨rfl, rfl⟩)]
          by_cases y : q = p
          · rw [y]; exact (g6 p p0.1 p0.2).2.2 c.1
          · rw [e89 q y] at z1; exact (g6 q q0 q1).2.2 z1
        · rw [b2 49 56 (Or.inr ⟨rfl, rfl⟩)]; exact g5.1
        · rw [b2 91 p (Or.inl rfl)]
          exact h p p0.1 ((g6 p p0.1 p0.2).2.2 c.1)
      · exact (h.sb b2).sb (ex_91 L.2.2.2.2.2.2.1.1 z)
    show R91 (if _ then _ else _)
    split
    · exact K.sb (nx _)
    · exact K
  · rw [lk_wait hp c]
    refine R91.sb ?_ (nx _)
    split
    · exact h.sb (Sb.rf.up_ (by omega))
    · exact h
end CQ9
