/-! THE CLASS'S VERIFIER: a module -/
section EV2
variable {d : Nat} {al : AL} {hi : HI} {hr : HR} {Q : QQ} {B : Int → Int} {N : Nat} {n : Int}
/-- what a routine's verifying left -/
def RtV (al : AL) (hi : HI) (hr : HR) (B : Int → Int) (f : Int) (t H C : Nat) (A : Asg) : Prop := RV al hr t H C (cLen B f) ∧ MC A hi t H C (cLen B f) ∧ LC B f A
/-- functions below k are verified -/
def VdB (al : AL) (hi : HI) (hr : HR) (B : Int → Int) (N M : Nat) (k : Int) : Prop := ∀ g, 0 ≤ g → g < k → ∃ t H C A, hr (N + 5) g = some (t + 1) ∧ M ≤ H ∧ H < al.1 ∧ M ≤ C ∧ C < al.1 ∧ N + 6 < t ∧ t + 2 < M ∧ RtV al hi hr B g t H C A
def wVy (N : Nat) (a : Nat) (_ : Int) : Prop := a = 8 ∨ a = 9 ∨ a = 11 ∨ a = 12 ∨ a = 13 ∨ N ≤ a
def rVy (N : Nat) (a : Nat) (i : Int) : Prop := (a = 8 ∧ (i = 7 ∨ i = 8)) ∨ a = 9 ∨ N ≤ a
theorem RV.fr {al' : AL} {hr' : HR} {x s t H C : Nat} {l : Int} (h : RV al hr t H C l) (hG : GA al al' x s) (h8 : hr' (t + 1) 8 = hr (t + 1) 8) (h9 : hr' (t + 1) 9 = hr (t + 1) 9) : RV al' hr' t H C l := by
  obtain ⟨k, ⟨a1, a2, a3⟩, ⟨b1, b2, b3⟩, c⟩ := h
  exact ⟨hG.k k, ⟨h8.trans a1, hG.k a2, by rw [hG.l a2.2.1]; exact a3⟩, ⟨h9.trans b1, hG.k b2, by rw [hG.l b2.2.1]; exact b3⟩, c⟩
theorem VdB.fr {al' : AL} {hi' : HI} {hr' : HR} {x s M : Nat} {k : Int} (h : VdB al hi hr B N M k) (hG : GA al al' x s) (h5 : ∀ g, 0 ≤ g → g < k → hr' (N + 5) g = hr (N + 5) g) (hf : ∀ a i, M ≤ a → a < al.1 → hi' a i = hi a i) (ht : ∀ g t, 0 ≤ g → g < k → hr (N + 5) g = some (t + 1) → hi' (t + 1) 6 = hi (t + 1) 6 ∧ hr' (t + 1) 8 = hr (t + 1) 8 ∧ hr' (t + 1) 9 = hr (t + 1) 9) : VdB al' hi' hr' B N M k := fun g g0 g1 => by
  obtain ⟨t, H, C, A, e1, e2, e3, e4, e5, e6, e7, r1, r2, r3⟩ := h g g0 g1
  obtain ⟨q1, q2, q3⟩ := ht g t g0 g1 e1
  have := hG.1
  exact ⟨t, H, C, A, (h5 g g0 g1).trans e1, e2, by omega, e4, by omega, e6, e7, r1.fr hG q2 q3, r2.fr (fun i => hf _ _ e2 e3) (fun i => hf _ _ e4 e5) q1, r3⟩
set_option maxRecDepth 8000 in
theorem v_verify {M : Nat} (hA : SA al) (hc : CR hr) (hd : 10 ≤ d) (hM : ModV al hi hr N n B M) (hT : TxV B n) (hMt : M = al.1) (hn : n = aln al (N + 6)) (hRn : ∀ f t, 0 ≤ f → f < nFn B → hr (N + 5) f = some (t + 1) → RoutN hi hr t) (hdj : ∀ f g, 0 ≤ f → f < g → g < nFn B → hr (N + 5) f ≠ hr (N + 5) g)
    (ok : ∀ al' hi' hr', GA al al' 20 64800 → FW (wVy N) hi hi' → RW (rVy N) hr hr' → ModV al' hi' hr' N n B M → VdB al' hi' hr' B N M (nFn B) → hi' 9 4 = 0 → hi' 9 5 = -1 → Q (some (some (vR (some 9)))) al' hi' hr')
    (no : ∀ f al' hi' hr', 0 ≤ f → f < nFn B → (∀ g, 0 ≤ g → g < f → ∃ W, Clo B g W) → (∀ W, ¬ Clo B f W) → GA al al' 20 64800 → FW (wVy N) hi hi' → RW (rVy N) hr hr' → hi' 9 4 = 2 → hi' 9 5 = cAt B f → Q (some (some (vR (some 9)))) al' hi' hr') : Ev d 159 [vR (some 8), vR (some N)] al hi hr Q := by
  have k8 : isK al 8 11 := hA.k (by decide) (by decide) rfl
  have k9 : isK al 9 2 := hA.k (by decide) (by decide) rfl
  have kN := hM.1.1.1
  have eb := hM.1.1.2.2.2.2.2.2.1
  have kb := hM.1.1.2.2.2.2.2.2.2
  have N119 := hM.1.2.1
  have e80 := cr_8_0 hc
  have n0 : 0 ≤ n := hT.1.2.1
  have f10 : nFn B ≤ 10 := hT.2.1.2.2.2.2.2.2.2.2.2.1
  have f1 : 1 ≤ nFn B := hT.2.1.2.2.2.2.2.2.2.2.1
  let hi0 := upI (upI (upI (upI (upI hi 9 1 n) 9 2 n) 9 3 0) 9 4 0) 9 5 (-1)
  let hr0 := upR (upR hr 9 0 (some (N + 6))) 8 7 (some N)
  have u0 : ∀ a i, a ≠ 9 → hi0 a i = hi a i := fun a i z => by
    show upI (upI (upI (upI (upI hi 9 1 n) 9 2 n) 9 3 0) 9 4 0) 9 5 (-1) a i = _
    rw [upI_a z, upI_a z, upI_a z, upI_a z, upI_a z]
  have w0 : ∀ a i, a ≠ 9 → ¬ (a = 8 ∧ i = 7) → hr0 a i = hr a i := fun a i z z2 => by
    show upR (upR hr 9 0 (some (N + 6))) 8 7 (some N) a i = _
    unfold upR
    rw [if_neg z2, if_neg (fun q => z q.1)]
  -- the end
  have E84 : ∀ al1 hi1 hr1 l2, GA al al1 20 64800 → hr1 8 0 = some 9 → (∀ hr2, RW (fun a i => a = 8 ∧ (i = 7 ∨ i = 8)) hr1 hr2 → Q (some (some (vR (some 9)))) al1 hi1 hr2) → Wp d 159 84 [vR (some 8), vR (some N), l2] [] al1 hi1 hr1 Q := by
    intro al1 hi1 hr1 l2 hG e0 hQ
    have k8' := hG.k k8
    have e0' : (upR (upR hr1 8 7 none) 8 8 none) 8 0 = some 9 := by rw [upR_i (by decide), upR_i (by decide)]; exact e0
    refine s159_84.mpr (s159_85.mpr ?_)
    refine (s159_86 (by first | decide | assumption | omega)).mpr ?_
    refine s159_89.mpr (s159_90.mpr ?_)
    refine (s159_91 (by first | decide | assumption | omega)).mpr ?_
    refine s159_94.mpr ?_
    refine (s159_95 (by first | decide | assumption | omega)).mpr ?_
    try simp (disch := first | decide | assumption | omega) only [e0']
    refine (s159_98).mpr ?_
    exact hQ _ ((RW.rf.up ⟨rfl, Or.inl rfl⟩).up ⟨rfl, Or.inr rfl⟩)
  have T22 : ∀ (m : Nat) (k : Int) al1 hi1 hr1, 0 ≤ k → k + m = nFn B → GA al al1 (2 * k.toNat) (6480 * k.toNat) → FW (wVy N) hi hi1 → RW (rVy N) hr hr1 → ModV al1 hi1 hr1 N n B M → hr1 8 7 = some N → hi1 9 4 = 0 → hi1 9 5 = -1 → VdB al1 hi1 hr1 B N M k → (∀ f t, k ≤ f → f < nFn B → hr1 (N + 5) f = some (t + 1) → RoutN hi1 hr1 t) → (∀ f, hr1 (N + 5) f = hr (N + 5) f) → (∀ f t, 0 ≤ f → f < nFn B → hr1 (N + 5) f = some (t + 1) → isK al1 (t + 1) 8) → Wp d 159 22 [vR (some 8), vR (some N), vI k] [] al1 hi1 hr1 Q := by
    intro m
    induction m with
    | zero =>
      intro k al1 hi1 hr1 k0 hm hG g1 g2 hM1 e87 e4 e5 hV hRn1 h55 hk8
      have kN' := hG.k kN
      have e8 := hM1.2.2.1.2.2
      have e80 : hr1 8 0 = some 9 := (g2 8 0 (by unfold rVy; omega)).trans e80
      have ek : k = nFn B := by omega
      refine s159_22.mpr (s159_23.mpr ?_)
      refine (s159_24 (by first | decide | assumption | omega)).mpr ?_
      try simp (disch := first | decide | assumption | omega) only [e8]
      refine s159_27.mpr (wif (fun c27 => ?_) (fun c27 => ?_))
      · skip
        exfalso; omega
      · skip
        refine E84 al1 hi1 hr1 _ (hG.mn (by omega) (by omega)) e80 (fun hr2 z => ?_)
        subst ek
        have zz : ∀ a i, a ≠ 8 → hr2 a i = hr1 a i := fun a i y => z a i (fun q => y q.1)
        refine ok al1 hi1 hr2 (hG.mn (by omega) (by omega)) g1 (g2.tr (z.mn (fun a i q => Or.inl q))) (hM1.fr GA.rf (fun _ => rfl) (fun _ _ _ _ _ => rfl) (fun a i y _ _ => zz a i (by omega))) (hV.fr GA.rf (fun g _ _ => zz _ _ (by omega)) (fun _ _ _ _ => rfl) (fun g t y0 y1 y2 => ?_)) e4 e5
        have kt := hk8 g t y0 y1 y2
        have : t + 1 ≠ 8 := by
          obtain ⟨t', _, _, _, q1, -, -, -, -, q2, -⟩ := hV g y0 y1
          rw [y2] at q1; cases q1; omega
        exact ⟨rfl, zz _ _ this, zz _ _ this⟩
    | succ m ih =>
      intro k al1 hi1 hr1 k0 hm hG g1 g2 hM1 e87 e4 e5 hV hRn1 h55 hk8
      have kN' := hG.k kN
      have k8' := hG.k k8
      have k9' := hG.k k9
      have hA1 := hG.sa hA
      have e8 := hM1.2.2.1.2.2
      have e80' : hr1 8 0 = some 9 := (g2 8 0 (by unfold rVy; omega)).trans e80
      obtain ⟨t, t1, t2, t3, hR⟩ := hM1.2.2.2.2.2.1 k k0 (by omega)
      have kT := hR.1.1
      have hRn9 := hRn1 k t (Int.le_refl _) (by omega) t1
      have hVR : VR al1 (upR hr1 8 8 (some (t + 1))) := ⟨hA1, by rw [upR_i (by decide)]; exact e80', by rw [upR_i (by decide)]; exact (g2 8 1 (by unfold rVy; omega)).trans (cr_8_1 hc), by rw [upR_i (by decide)]; exact (g2 8 2 (by unfold rVy; omega)).trans (cr_8_2 hc), by rw [upR_i (by decide)]; exact (g2 8 3 (by unfold rVy; omega)).trans (cr_8_3 hc)⟩
      have hr9 : ∀ a i, a ≠ 8 → (upR hr1 8 8 (some (t + 1))) a i = hr1 a i := fun a i z => upR_a z
      have hM2 : ModV al1 hi1 (upR hr1 8 8 (some (t + 1))) N n B M := hM1.fr GA.rf (fun _ => rfl) (fun _ _ _ _ _ => rfl) (fun a i y _ _ => hr9 a i (by omega))
      have hR2 : RoutOK al1 hi1 (upR hr1 8 8 (some (t + 1))) B k t := hR.fr GA.rf (fun _ _ _ _ _ => rfl) (fun i _ => hr9 _ _ (by omega))
      have ero : roA hi1 hr1 N k = some (t + 1) := by unfold roA; rw [if_pos ⟨k0, by rw [e8]; omega, by omega⟩]; exact t1
      have hal : al.1 ≤ al1.1 := hG.1
      have R1 : Ev (d - 1) 160 [vR (some 8)] al1 hi1 (upR hr1 8 8 (some (t + 1))) (kon d 159 57 60 [vR (some 8), vR (some N), vI k] [] Q) := by
        refine v_isRoutineRight (f := k) (t := t) hVR (by omega) hM2 hT (by rw [upR_i (by decide)]; exact e87) upR_eq hR2 ⟨hRn9.1, by rw [hr9 _ _ (by omega)]; exact hRn9.2.1, by rw [hr9 _ _ (by omega)]; exact hRn9.2.2⟩ (by omega) t3 k0 (by omega) (fun A al2 hi2 hr2 y1 y2 y3 y4 y5 y6 y7 => ?_) (fun al2 hi2 hr2 y1 y2 y6 y7 => ?_)
        · simp only [kon, knt_some, knt_none, Option.toList_some, Option.toList_none, List.cons_append, List.nil_append]
          have z1 : FW (wVy N) hi1 hi2 := y6.mn (fun a i q => by unfold wVt at q; unfold wVy; omega)
          have z2 : RW (rVy N) hr1 hr2 := (RW.rf.up (Or.inl ⟨rfl, Or.inr rfl⟩)).tr (y7.mn (fun a i q => by unfold rVt at q; unfold rVy; omega))
          have z3 : ∀ a i, a ≠ 8 → a < al1.1 → ¬ (a = t + 1 ∧ (i = 8 ∨ i = 9)) → hr2 a i = hr1 a i := fun a i q1 q2 q3 => (y7 a i (by unfold rVt; omega)).trans (hr9 a i q1)
          have hM3 : ModV al2 hi2 hr2 N n B M := hM1.fr y2 (fun i => y6 0 i (by unfold wVt; omega)) (fun a i q1 q2 q3 => y6 a i (by
            unfold wVt
            rintro (q | q | q | q | ⟨q, q4⟩ | q)
            · omega
            · omega
            · omega
            · omega
            · subst q q4; exact q3 rfl kT
            · omega)) (fun a i q1 q2 q3 => z3 a i (by omega) (by omega) (fun q => q3 q.2 (by rw [q.1]; exact kT)))
          have h552 : ∀ f, hr2 (N + 5) f = hr1 (N + 5) f := fun f => z3 _ _ (by omega) (by omega) (fun q => by omega)
          have hne : ∀ g t', 0 ≤ g → g < nFn B → g ≠ k → hr1 (N + 5) g = some (t' + 1) → t' ≠ t := by
            intro g t' q0 q1 q2 q3 q4
            subst q4
            by_cases c : g < k
            · exact hdj g k q0 c (by omega) (by rw [← h55, ← h55, q3, t1])
            · exact hdj k g k0 (by omega) q1 (by rw [← h55, ← h55, q3, t1])
          have tlt : ∀ g t', 0 ≤ g → g < nFn B → hr1 (N + 5) g = some (t' + 1) → N + 6 < t' ∧ t' + 2 < M := by
            intro g t' q0 q1 q3
            obtain ⟨t9, w1, w2, w3, -⟩ := hM1.2.2.2.2.2.1 g q0 q1
            rw [q3] at w1; cases w1; exact ⟨w2, w3⟩
          have hV3 : VdB al2 hi2 hr2 B N M (k + 1) := by
            intro g q0 q1
            by_cases c : g = k
            · subst c
              exact ⟨t, al1.1, al1.1 + 1, A, (h552 _).trans t1, by omega, by omega, by omega, by omega, t2, t3, y4, y5, y1⟩
            · have hV2 : VdB al2 hi2 hr2 B N M k := hV.fr y2 (fun g _ _ => h552 g) (fun a i q2 q3 => y6 a i (by unfold wVt; omega)) (fun g t' q0 q1 q3 => by
                have w1 := hne g t' q0 (by omega) (by omega) q3
                have w2 := tlt g t' q0 (by omega) q3
                exact ⟨y6 _ _ (by unfold wVt; omega), z3 _ _ (by omega) (by omega) (by omega), z3 _ _ (by omega) (by omega) (by omega)⟩)
              exact hV2 g q0 (by omega)
          have e94 : hi2 9 4 = 0 := (y6 9 4 (by unfold wVt; omega)).trans e4
          have NX : Wp d 159 22 [vR (some 8), vR (some N), vI (k + 1)] [] al2 hi2 hr2 Q := by
            refine ih (k + 1) al2 hi2 hr2 (by omega) (by omega) ?_ (g1.tr z1) (g2.tr z2) hM3 ?_ e94 ((y6 9 5 (by unfold wVt; omega)).trans e5) hV3 ?_ (fun f => (h552 f).trans (h55 f)) ?_
            · exact (hG.tr y2).mn (by omega) (by omega)
            · rw [y7 8 7 (by unfold rVt; omega), upR_i (by decide)]; exact e87
            · intro f t' q0 q1 q3
              rw [h552] at q3
              have w1 := hne f t' (by omega) q1 (by omega) q3
              have w2 := tlt f t' (by omega) q1 q3
              have w3 := hRn1 f t' (by omega) q1 q3
              exact ⟨(y6 _ _ (by unfold wVt; omega)).trans w3.1, (z3 _ _ (by omega) (by omega) (by omega)).trans w3.2.1, (z3 _ _ (by omega) (by omega) (by omega)).trans w3.2.2⟩
            · intro f t' q0 q1 q3
              rw [h552] at q3
              exact y2.k (hk8 f t' q0 q1 q3)
          refine s159_60.mpr (wif (fun c60 => ?_) (fun c60 => ?_))
          · skip
            exact absurd ‹(1 : Int) = 0› (by decide)
          · skip
            refine s159_78.mpr (s159_81.mpr ?_)
            try simp (disch := first | decide | assumption | omega) only [fAdd_id]
            exact NX
        · simp only [kon, knt_some, knt_none, Option.toList_some, Option.toList_none, List.cons_append, List.nil_append]
          have z1 : FW (wVy N) hi1 hi2 := y6.mn (fun a i q => by unfold wVt at q; unfold wVy; omega)
          have z2 : RW (rVy N) hr1 hr2 := (RW.rf.up (Or.inl ⟨rfl, Or.inr rfl⟩)).tr (y7.mn (fun a i q => by unfold rVt at q; unfold rVy; omega))
          have k82 := y2.k k8'
          have k92 := y2.k k9'
          have kT2 := y2.k kT
          have kN2 := y2.k kN'
          have e802 : hr2 8 0 = some 9 := (y7 8 0 (by unfold rVt; omega)).trans hVR.2.1
          have e88 : hr2 8 8 = some (t + 1) := (y7 8 8 (by unfold rVt; omega)).trans upR_eq
          have e94 : hi2 9 4 = 0 := (y6 9 4 (by unfold wVt; omega)).trans e4
          have et5 : hi2 (t + 1) 5 = cAt B k := (y6 _ _ (by unfold wVt; omega)).trans hR.2.2.2.2.2.2.2.1
          have eN8 : ∀ x, (upI (upI hi2 9 4 2) 9 5 x) N 8 = nFn B := fun x => by rw [upI_a (by omega), upI_a (by omega), y6 _ _ (by unfold wVt; omega)]; exact e8
          have hG2 : GA al al2 20 64800 := (hG.tr y2).mn (by omega) (by omega)
          have K84 : ∀ l2, Wp d 159 84 [vR (some 8), vR (some N), l2] [] al2 (upI (upI hi2 9 4 2) 9 5 (cAt B k)) hr2 Q := fun l2 => by
            refine E84 al2 _ hr2 _ hG2 e802 (fun hr3 z => ?_)
            exact no k al2 _ hr3 k0 (by omega) (fun g q0 q1 => by
              obtain ⟨_, _, _, A, -, -, -, -, -, -, -, -, -, w⟩ := hV g q0 q1
              exact ⟨A, w.1⟩) y1 hG2 (((g1.tr z1).up (Or.inr (Or.inl rfl))).up (Or.inr (Or.inl rfl))) ((g2.tr z2).tr (z.mn (fun a i q => Or.inl q))) (by rw [upI_i (by decide), upI_eq]) upI_eq
          have W78 : Wp d 159 78 [vR (some 8), vR (some N), vI k] [] al2 (upI (upI hi2 9 4 2) 9 5 (cAt B k)) hr2 Q := by
            refine s159_78.mpr (s159_81.mpr (s159_22.mpr (s159_23.mpr ?_)))
            try simp (disch := first | decide | assumption | omega) only [fAdd_id, e802, eN8]
            refine (s159_24 (by first | decide | assumption | omega)).mpr ?_
            try simp (disch := first | decide | assumption | omega) only [fAdd_id, e802, eN8]
            refine s159_27.mpr (wif (fun c27 => ?_) (fun c27 => ?_))
            · skip
              refine s159_30.mpr ?_
              refine (s159_31 (by first | decide | assumption | omega)).mpr ?_
              try simp (disch := first | decide | assumption | omega) only [fAdd_id, e802, eN8]
              refine (s159_34 (by first | decide | assumption | omega) (by first | decide | assumption | omega)).mpr ?_
              refine b_isRight k92 (fun q => absurd q (by rw [upI_i (by decide), upI_eq]; decide)) (fun _ => ?_)
              simp only [kon, knt_some, knt_none, Option.toList_some, Option.toList_none, List.cons_append, List.nil_append]
              refine s159_37.mpr (wif (fun c37 => ?_) (fun c37 => ?_))
              · skip
                exact K84 _
              · skip
                exact absurd ‹¬ (0 : Int) = 0› (by decide)
            · skip
              exact K84 _
          refine s159_60.mpr (wif (fun c60 => ?_) (fun c60 => ?_))
          · skip
            refine s159_63.mpr ?_
            refine (s159_64 (by first | decide | assumption | omega)).mpr ?_
            refine s159_67.mpr (s159_68.mpr ?_)
            try simp (disch := first | decide | assumption | omega) only [fAdd_id, e802, e88, et5]
            refine (s159_69 (by first | decide | assumption | omega)).mpr ?_
            try simp (disch := first | decide | assumption | omega) only [fAdd_id, e802, e88, et5]
            refine (s159_72 (by first | decide | assumption | omega)).mpr ?_
            try simp (disch := first | decide | assumption | omega) only [fAdd_id, e802, e88, et5]
            refine (s159_75 (by first | decide | assumption | omega) (by first | decide | assumption | omega)).mpr ?_
            refine b_fail k92 (fun _ => ?_) (fun q => absurd e94 q)
            simp only [kon, knt_some, knt_none, Option.toList_some, Option.toList_none, List.cons_append, List.nil_append]
            first | exact W78 | (exfalso; omega)
          · skip
            first | exact W78 | (exfalso; omega)
      refine s159_22.mpr (s159_23.mpr ?_)
      refine (s159_24 (by first | decide | assumption | omega)).mpr ?_
      try simp (disch := first | decide | assumption | omega) only [kon, knt_some, knt_none, Option.toList_some, Option.toList_none, List.cons_append, List.nil_append, e8, e80', upR_eq]
      refine s159_27.mpr (wif (fun c27 => ?_) (fun c27 => ?_))
      · skip
        refine s159_30.mpr ?_
        refine (s159_31 (by first | decide | assumption | omega)).mpr ?_
        try simp (disch := first | decide | assumption | omega) only [kon, knt_some, knt_none, Option.toList_some, Option.toList_none, List.cons_append, List.nil_append, e8, e80', upR_eq]
        refine (s159_34 (by first | decide | assumption | omega) (by first | decide | assumption | omega)).mpr ?_
        refine b_isRight k9' (fun _ => ?_) (fun q => absurd e4 q)
        simp only [kon, knt_some, knt_none, Option.toList_some, Option.toList_none, List.cons_append, List.nil_append]
        refine s159_37.mpr (wif (fun c37 => ?_) (fun c37 => ?_))
        · skip
          first | (exfalso; omega) | exact absurd ‹(1 : Int) = 0› (by decide)
        · skip
          refine s159_40.mpr (s159_41.mpr (s159_42.mpr ?_))
          refine (s159_43 (by first | decide | assumption | omega) (by first | decide | assumption | omega)).mpr ?_
          refine t_routineAt hM1.1.1 ?_
          simp only [kon, knt_some, knt_none, Option.toList_some, Option.toList_none, List.cons_append, List.nil_append, ero]
          refine (s159_46 (by first | decide | assumption | omega)).mpr ?_
          refine s159_49.mpr ?_
          refine (s159_50 (by first | decide | assumption | omega)).mpr ?_
          try simp (disch := first | decide | assumption | omega) only [kon, knt_some, knt_none, Option.toList_some, Option.toList_none, List.cons_append, List.nil_append, e8, e80', upR_eq]
          refine s159_53.mpr (wif (fun c53 => ?_) (fun c53 => ?_))
          · skip
            cases ‹some (t + 1) = none›
          · skip
            refine s159_56.mpr ?_
            refine (s159_57 (by first | decide | assumption | omega) (by first | decide | assumption | omega)).mpr ?_
            exact R1
      · skip
        first | (exfalso; omega) | exact absurd ‹(1 : Int) = 0› (by decide)
  rw [e159]
  refine s159_0.mpr ?_
  refine (s159_1 (by first | decide | assumption | omega)).mpr ?_
  refine s159_4.mpr ?_
  try simp (disch := first | decide | assumption | omega) only [kon, knt_some, knt_none, Option.toList_some, Option.toList_none, List.cons_append, List.nil_append, e80, eb, hM.2.1.1]
  refine (s159_5 (by first | decide | assumption | omega)).mpr ?_
  refine s159_8.mpr ?_
  try simp (disch := first | decide | assumption | omega) only [kon, knt_some, knt_none, Option.toList_some, Option.toList_none, List.cons_append, List.nil_append, e80, eb, hM.2.1.1]
  refine (s159_9 (by first | decide | assumption | omega)).mpr ?_
  try simp (disch := first | decide | assumption | omega) only [kon, knt_some, knt_none, Option.toList_some, Option.toList_none, List.cons_append, List.nil_append, e80, eb, hM.2.1.1]
  refine (s159_12 (by first | decide | assumption | omega) (by first | decide | assumption | omega)).mpr ?_
  refine b_startOver k9 kb n0 (by omega) ?_
  refine s159_15.mpr (s159_16.mpr ?_)
  refine (s159_17 (by first | decide | assumption | omega)).mpr ?_
  refine s159_20.mpr (s159_21.mpr ?_)
  refine T22 (nFn B).toNat 0 al hi0 hr0 (Int.le_refl _) (by omega) (GA.rf.mn (by omega) (by omega)) (fun a i q => u0 a i (fun z => q (by unfold wVy; omega))) (fun a i q => w0 a i (fun z => q (by unfold rVy; omega)) (fun z => q (by unfold rVy; omega))) (hM.fr GA.rf (fun i => u0 0 i (by decide)) (fun a i z _ _ => u0 a i (by omega)) (fun a i z _ _ => w0 a i (by omega) (by omega))) upR_eq (by show upI _ _ _ _ _ _ = _; rw [upI_i (by decide), upI_eq]) upI_eq (fun g g0 g1 => absurd g1 (by omega)) (fun f t q0 q1 q2 => ?_) (fun f => w0 _ _ (by omega) (by omega)) (fun f t q0 q1 q2 => ?_)
  · have q3 : hr (N + 5) f = some (t + 1) := (w0 _ _ (by omega) (by omega)).symm.trans q2
    have q4 := hRn f t q0 q1 q3
    obtain ⟨t9, x1, x2, x3, -⟩ := hM.2.2.2.2.2.1 f q0 q1
    rw [q3] at x1; cases x1
    exact ⟨(u0 _ _ (by omega)).trans q4.1, (w0 _ _ (by omega) (by omega)).trans q4.2.1, (w0 _ _ (by omega) (by omega)).trans q4.2.2⟩
  · have q3 : hr (N + 5) f = some (t + 1) := (w0 _ _ (by omega) (by omega)).symm.trans q2
    obtain ⟨t9, x1, x2, x3, x4⟩ := hM.2.2.2.2.2.1 f q0 q1
    rw [q3] at x1; cases x1
    exact x4.1.1
end EV2
