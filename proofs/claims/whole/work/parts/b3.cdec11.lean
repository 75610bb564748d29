section CD11
variable {d : Nat} {al : AL} {hi : HI} {hr : HR} {Q : QQ} {B : Int → Int} {N : Nat} {n nm : Int}
set_option maxHeartbeats 1000000 in
theorem d_walkFunction {f p : Int} (h : DC al hi hr N n B nm) (hO : OPS al hi) (hF : nm = 1 → NF al hi hr N B) (hd : 7 ≤ d) (f0 : 0 ≤ f) (f10 : f < 10) (hfn : f < hi N 8)
    (hR1 : nm = 1 → ∃ t, hr (N + 5) f = some (t + 1) ∧ N + 6 < t ∧ RoutOK al hi hr B f t ∧ ShF B f) (hpf : p = pFn B f)
    (hp : hi 6 3 = p) (h0 : 0 ≤ p) (hl : hi 6 2 = n) (h4 : hi 6 4 = 0)
    (ok : ∀ p' al' hi' hr' t, fnD nm B p = .ok p' → GA al al' 3 300 → FW (wG al.1) hi hi' → RW (wH (N + 5) f al.1) hr hr' → (nm = 1 → ∀ a i, a < al.1 → hr' a i = hr a i) → DC al' hi' hr' N n B nm → hi' 6 3 = p' → 0 ≤ p' → hi' 6 2 = n → hi' 6 4 = 0 → hr' (N + 5) f = some (t + 1) → N + 6 < t → RoutOK al' hi' hr' B f t → (nm = 0 → RoutN hi' hr' t ∧ al.1 ≤ t) → Q (some none) al' hi' hr')
    (er : ∀ q al' hi' hr', fnD nm B p = .error q → GA al al' 3 300 → FW (wG N) hi hi' → RW (wH (N + 5) f al.1) hr hr' → DC al' hi' hr' N n B nm → hi' 6 4 = 1 → hi' 6 5 = q → 0 ≤ hi' 6 3 → Q (some none) al' hi' hr') : Ev d 33 [vR (some 5), vR (some N), vI f] al hi hr Q := by
  have h' := h
  obtain ⟨hA, a2, a3, a4, a5, a6, a7, a8, a9⟩ := h
  have k6 : isK al 6 2 := hA.k (by decide) (by decide) rfl
  have k5 : isK al 5 4 := hA.k (by decide) (by decide) rfl
  have kN := a6.1
  have lN6 : N + 6 < al.1 := a6.2.2.2.2.2.2.2.2.1
  have hx := a5.tx
  have hn2 : n ≤ 2000 := a5.2.2.2.2.2.2.2.2
  have l119 := hA.1
  have hB : ∀ k, -1 ≤ B k ∧ B k ≤ 255 := fun k => (hx k).1
  have hSh : nm = 1 → ShF B f := fun e => by obtain ⟨t, -, -, -, z⟩ := hR1 e; exact z
  have w51 : ∀ m, 5 < m → ¬ wG m 5 1 := fun m hm => wG_a hm (by decide)
  -- behind a fault: the limit, no instruction
  have F133 : ∀ al1 hi1 hr1 q x3 x4 x5 x6 x7 t0, 1 ≤ x7 → isK al1 t0 8 → fnD nm B p = .error q → GA al al1 3 300 → FW (wG N) hi hi1 → RW (wH (N + 5) f al.1) hr hr1 → DC al1 hi1 hr1 N n B nm → hi1 6 4 = 1 → hi1 6 5 = q → 0 ≤ hi1 6 3 → Wp d 33 133 [vR (some 5), vR (some N), vI f, vI x3, x4, vI x5, vI x6, vI x7, vR (some t0), none] [] al1 hi1 hr1 Q := by
    intro al1 hi1 hr1 q x3 x4 x5 x6 x7 t0 h7 kT eD hG hf hR hD e4 e5 e3
    have a2' := hD.2.1
    have k6' := hD.2.2.2.2.1.1
    have k5' : isK al1 5 4 := hG.k k5
    have E : ∀ y z, Q (some none) al1 (upI (upI hi1 6 2 y) 6 2 z) hr1 := fun y z => er q al1 _ hr1 eD hG ((hf.up (by unfold wG; omega)).up (by unfold wG; omega)) hR hD.u2.u2 (by rw [upI_i (by decide), upI_i (by decide)]; exact e4) (by rw [upI_i (by decide), upI_i (by decide)]; exact e5) (by rw [upI_i (by decide), upI_i (by decide)]; exact e3)
    have e4' : ∀ y, (upI hi1 6 2 y) 6 4 = 1 := fun y => by rw [upI_i (by decide)]; exact e4
    refine s33_133.mpr ?_
    refine (s33_134 (by first | decide | assumption | omega)).mpr ?_
    refine s33_137.mpr ?_
    try simp (disch := first | decide | assumption | omega) only [kon, knt_some, knt_none, Option.toList_some, Option.toList_none, List.cons_append, List.nil_append, a2']
    refine (s33_139 (by first | decide | assumption | omega)).mpr ?_
    refine s33_142.mpr ?_
    try simp (disch := first | decide | assumption | omega) only [kon, knt_some, knt_none, Option.toList_some, Option.toList_none, List.cons_append, List.nil_append, a2']
    refine (s33_144 (by first | decide | assumption | omega)).mpr ?_
    refine s33_147.mpr ?_
    try simp (disch := first | decide | assumption | omega) only [kon, knt_some, knt_none, Option.toList_some, Option.toList_none, List.cons_append, List.nil_append, a2']
    refine (s33_148 (by first | decide | assumption | omega)).mpr ?_
    refine s33_151.mpr (s33_152.mpr (s33_154.mpr (s33_156.mpr ?_)))
    try simp (disch := first | decide | assumption | omega) only [kon, knt_some, knt_none, Option.toList_some, Option.toList_none, List.cons_append, List.nil_append, a2']
    refine s33_158.mpr (wif (fun c158 => ?_) (fun c158 => ?_))
    · first
      | (exfalso; omega)
      | skip
        refine s33_161.mpr ?_
        refine (s33_162 (by first | decide | assumption | omega)).mpr ?_
        try simp (disch := first | decide | assumption | omega) only [kon, knt_some, knt_none, Option.toList_some, Option.toList_none, List.cons_append, List.nil_append, a2']
        refine (s33_165 (by first | decide | assumption | omega) (by first | decide | assumption | omega)).mpr ?_
        refine b_isRight k6' (fun q => absurd q (by rw [e4']; decide)) (fun _ => ?_)
        refine s33_168.mpr (wif (fun c168 => ?_) (fun c168 => ?_))
        · first
          | (exfalso; omega)
          | skip
            refine s33_201.mpr ?_
            refine (s33_202 (by first | decide | assumption | omega)).mpr ?_
            refine s33_205.mpr ?_
            try simp (disch := first | decide | assumption | omega) only [kon, knt_some, knt_none, Option.toList_some, Option.toList_none, List.cons_append, List.nil_append, a2']
            refine (s33_206 (by first | decide | assumption | omega)).mpr ?_
            try simp (disch := first | decide | assumption | omega) only [kon, knt_some, knt_none, Option.toList_some, Option.toList_none, List.cons_append, List.nil_append, a2']
            refine (s33_209 (by first | decide | assumption | omega)).mpr ?_
            try simp (disch := first | decide | assumption | omega) only [kon, knt_some, knt_none, Option.toList_some, Option.toList_none, List.cons_append, List.nil_append, a2']
            refine (s33_212 (by first | decide | assumption | omega)).mpr ?_
            try simp (disch := first | decide | assumption | omega) only [kon, knt_some, knt_none, Option.toList_some, Option.toList_none, List.cons_append, List.nil_append, a2']
            refine (s33_215).mpr ?_
            exact E _ _
        · first
          | (exfalso; omega)
          | skip
            exact absurd (by assumption) (by decide)
    · first
      | (exfalso; omega)
      | skip
        refine s33_201.mpr ?_
        refine (s33_202 (by first | decide | assumption | omega)).mpr ?_
        refine s33_205.mpr ?_
        try simp (disch := first | decide | assumption | omega) only [kon, knt_some, knt_none, Option.toList_some, Option.toList_none, List.cons_append, List.nil_append, a2']
        refine (s33_206 (by first | decide | assumption | omega)).mpr ?_
        try simp (disch := first | decide | assumption | omega) only [kon, knt_some, knt_none, Option.toList_some, Option.toList_none, List.cons_append, List.nil_append, a2']
        refine (s33_209 (by first | decide | assumption | omega)).mpr ?_
        try simp (disch := first | decide | assumption | omega) only [kon, knt_some, knt_none, Option.toList_some, Option.toList_none, List.cons_append, List.nil_append, a2']
        refine (s33_212 (by first | decide | assumption | omega)).mpr ?_
        try simp (disch := first | decide | assumption | omega) only [kon, knt_some, knt_none, Option.toList_some, Option.toList_none, List.cons_append, List.nil_append, a2']
        refine (s33_215).mpr ?_
        exact E _ _
  -- a new routine
  have N93 : nm = 0 → ∀ al1 hi1 x3 x5 x6 x7, 1 ≤ x7 → x7 ≤ 240 → DC al1 hi1 (zeR hr al.1) N n B nm → GA al al1 1 4 → al1.1 = al.1 + 1 → isK al1 al.1 15 →
      (∀ al2 hi2 hr2, DC al2 hi2 hr2 N n B nm → GA al al2 3 300 → (∀ a i, a ≤ al.1 → hi2 a i = hi1 a i) → RW (wH (N + 5) f al.1) hr hr2 → RtS al2 hr2 al.1 → aln al2 al.1 = aln al1 al.1 → aln al2 (al.1 + 2) = x7.toNat → (hi2 (al.1 + 1) 0 = (aln al1 al.1 : Int) ∧ hi2 (al.1 + 1) 2 = x5 ∧ hi2 (al.1 + 1) 3 = x6 ∧ hi2 (al.1 + 1) 4 = x7 ∧ hi2 (al.1 + 1) 5 = hi1 6 3 ∧ RoutN hi2 hr2 al.1) → (∀ i, hi2 (al.1 + 2) i = 0) → hr2 (N + 5) f = some (al.1 + 1) → al2.1 = al.1 + 3 → Wp d 33 120 [vR (some 5), vR (some N), vI f, vI x3, vR (some al.1), vI x5, vI x6, vI x7, none, none] [] al2 hi2 hr2 Q) → Wp d 33 93 [vR (some 5), vR (some N), vI f, vI x3, vR (some al.1), vI x5, vI x6, vI x7, none, none] [] al1 hi1 (zeR hr al.1) Q := by
    intro n0 al1 hi1 x3 x5 x6 x7 h71 h72 hD hG1 e1 kt W
    have a2' := hD.2.1
    have k6' : isK (nwA al1 8 0 10) 6 2 := isK_nw hD.2.2.2.2.1.1
    have k5' : isK (nwA al1 8 0 10) 5 4 := isK_nw (hG1.k k5)
    have hz5 : zeR (zeR hr al.1) al1.1 5 0 = some 6 := by rw [zeR_a (by omega)]; exact a2'
    have hK1 : isK (nwA al1 8 0 10) (al.1 + 1) 8 := isK_n (by omega) (by omega)
    have ez : zeI hi1 al1.1 6 3 = hi1 6 3 := zeI_a (by omega)
    rw [show al1.1 = al.1 + 1 from e1] at hz5 ez
    have ln1 : aln (nwA al1 8 0 10) al.1 = aln al1 al.1 := aln_nw (by omega)
    refine s33_93.mpr (s33_94.mpr (s33_95.mpr (s33_98.mpr (s33_99.mpr (s33_101.mpr ?_)))))
    refine s33_103.mpr (s33_105.mpr (s33_107.mpr ?_))
    refine (s33_108 (by first | decide | assumption | omega)).mpr ?_
    try simp (disch := first | decide | assumption | omega) only [kon, knt_some, knt_none, Option.toList_some, Option.toList_none, List.cons_append, List.nil_append, e1, hz5, ez]
    refine (s33_111 (by first | decide | assumption | omega)).mpr ?_
    try simp (disch := first | decide | assumption | omega) only [kon, knt_some, knt_none, Option.toList_some, Option.toList_none, List.cons_append, List.nil_append, e1, hz5, ez]
    refine (s33_114 (by omega)).mpr ?_
    refine r_init (t := al.1) hK1 (isK_nw kt) (by show al1.1 + 1 = _; omega) (by omega) h72 (fun al2 hi2 hr2 g1 g2 g3 g4 g5 g6 g7 g8 => ?_)
    have hG2 : GA al al2 3 300 := (hG1.tr ((GA.rf.nw).tr g1)).mn (by decide) (by decide)
    have hG3 : GA al1 al2 2 300 := (GA.rf.nw.tr g1).mn (by decide) (by decide)
    have hi9 : ∀ a i, a ≤ al.1 → hi2 a i = hi1 a i := fun a i ha => (g6 a i (by omega)).trans (zeI_a (by omega))
    have hr9 : ∀ a i, a ≤ al.1 → hr2 a i = zeR hr al.1 a i := fun a i ha => (g7 a i (by omega)).trans (zeR_a (by omega))
    have hFW : FW (wG al1.1) hi1 hi2 := fun a i q => hi9 a i (by unfold wG at q; omega)
    have hRW : RW (wH (N + 5) f al1.1) (zeR hr al.1) hr2 := fun a i q => hr9 a i (by unfold wH at q; omega)
    have hD2 : DC al2 hi2 hr2 N n B nm := hD.ga hG3 hFW (w51 _ (by omega)) (wG_61 (by omega)) (fun k => wG_a (by omega) (by omega)) (hD.2.2.2.2.2.2.2.1.fw hFW (fun i => wG_a (by omega) (by omega))) hRW (Or.inr rfl) (fun c' o c0 c1 e => hG3.k (hD.2.2.2.2.2.2.2.2 c' o c0 c1 (by rw [← hr9 (N + 4) c' (by omega)]; exact e)))
    have kN2 := hD2.2.2.2.2.2.1.1
    refine (s33_117 (by first | decide | assumption | omega) (by first | decide | assumption | omega)).mpr ?_
    refine t_setRoutine hD2.2.2.2.2.2.1 f0 f10 g2.1 ?_
    refine W al2 hi2 (upR hr2 (N + 5) f (some (al.1 + 1))) ?_ hG2 hi9 ?_ ?_ ?_ g3 ?_ g5 upR_eq g8
    · refine hD2.ga (GA.mn GA.rf (Nat.zero_le 0) (Nat.zero_le 0)) (w := fun _ _ => False) FW.rf id id (fun _ => id) hD2.2.2.2.2.2.2.2.1 (X := N + 5) (z := f) (RW.up RW.rf (Or.inl ⟨rfl, rfl⟩)) (Or.inr rfl) (fun c' o y0 y1 e => ?_)
      rw [upR_a (by omega)] at e; exact hD2.2.2.2.2.2.2.2.2 c' o y0 y1 e
    · refine RW.up (fun a i q => ?_) (Or.inl ⟨rfl, rfl⟩)
      rw [hr9 a i (by unfold wH at q; omega)]; exact zeR_a (by unfold wH at q; omega)
    · exact g2.fr GA.rf (fun i _ => upR_a (by omega))
    · rw [g1.l (by show al.1 < al1.1 + 1; omega)]; exact ln1
    · obtain ⟨y1, y2, y3, y4, y5, y6, y7, y8⟩ := g4
      rw [ln1] at y1
      exact ⟨y1, y2, y3, y4, y5, y6, (upR_a (by omega)).trans y7, (upR_a (by omega)).trans y8⟩
  -- behind a fault: from the head's end
  have F86 : ∀ al1 hi1 q x3 x5 x6 x7, 1 ≤ x7 → x7 ≤ 240 → fnD nm B p = .error q → GA al al1 1 4 → FW (wG al.1) hi hi1 → DC al1 hi1 (zeR hr al.1) N n B nm → al1.1 = al.1 + 1 → isK al1 al.1 15 → hi1 6 4 = 1 → hi1 6 5 = q → 0 ≤ hi1 6 3 → Wp d 33 86 [vR (some 5), vR (some N), vI f, vI x3, vR (some al.1), vI x5, vI x6, vI x7, none, none] [] al1 hi1 (zeR hr al.1) Q := by
    intro al1 hi1 q x3 x5 x6 x7 h71 h72 eD hG hf hD e1 kt e4 e5 e3
    have a3' := hD.2.2.1
    have k5' : isK al1 5 4 := hG.k k5
    have G : ∀ al2 hi2 hr2 t0, DC al2 hi2 hr2 N n B nm → GA al al2 3 300 → FW (wG N) hi hi2 → RW (wH (N + 5) f al.1) hr hr2 → isK al2 t0 8 → hr2 (N + 5) f = some t0 → hi2 6 4 = 1 → hi2 6 5 = q → 0 ≤ hi2 6 3 → hi2 N 8 = hi N 8 → Wp d 33 120 [vR (some 5), vR (some N), vI f, vI x3, vR (some al.1), vI x5, vI x6, vI x7, none, none] [] al2 hi2 hr2 Q := by
      intro al2 hi2 hr2 t0 hD2 hG2 hf2 hR2 kt2 er2 y4 y5 y3 y8
      have ec : roA hi2 hr2 N f = some t0 := by unfold roA; rw [if_pos ⟨f0, by rw [y8]; exact hfn, f10⟩, er2]
      have kN' := hD2.2.2.2.2.2.1.1
      refine s33_120.mpr (s33_121.mpr ?_)
      refine (s33_122 (by first | decide | assumption | omega) (by first | decide | assumption | omega)).mpr ?_
      refine t_routineAt hD2.2.2.2.2.2.1 ?_
      simp only [kon, knt_some, knt_none, Option.toList_some, Option.toList_none, List.cons_append, List.nil_append, ec]
      refine s33_125.mpr (s33_127.mpr ?_)
      refine s33_129.mpr (wif (fun c129 => ?_) (fun c129 => ?_))
      · skip
        cases c129
      · skip
        exact F133 al2 hi2 hr2 q _ _ _ _ _ t0 h71 kt2 eD hG2 hf2 hR2 hD2 y4 y5 y3
    refine s33_86.mpr ?_
    refine (s33_87 (by first | decide | assumption | omega)).mpr ?_
    try simp (disch := first | decide | assumption | omega) only [kon, knt_some, knt_none, Option.toList_some, Option.toList_none, List.cons_append, List.nil_append, a3']
    refine s33_90.mpr (wif (fun c90 => ?_) (fun c90 => ?_))
    · skip
      exact N93 (by omega) al1 hi1 _ _ _ _ h71 h72 hD hG e1 kt (fun al2 hi2 hr2 z1 z2 z3 z4 z5 z6 z7 z8 z9 z10 z11 => G al2 hi2 hr2 (al.1 + 1) z1 z2 (fun a i w => by rw [z3 a i (by unfold wG at w; omega)]; exact hf a i (fun y => w (by unfold wG at y ⊢; omega))) z4 z5.1 z10 (by rw [z3 6 4 (by omega)]; exact e4) (by rw [z3 6 5 (by omega)]; exact e5) (by rw [z3 6 3 (by omega)]; exact e3) (by rw [z3 N 8 (by omega)]; exact hf N 8 (wG_a (by omega) (by omega))))
    · skip
      skip
      obtain ⟨t, z1, z2, z3, z4⟩ := hR1 (by omega)
      exact G al1 hi1 _ (t + 1) hD (hG.mn (by decide) (by decide)) (wG_le hf (by omega)) (fun a i w => zeR_a (by unfold wH at w; omega)) (hG.k z3.1.1) ((zeR_a (by omega)).trans z1) e4 e5 e3 (hf N 8 (wG_a (by omega) (by omega)))
  have F84 : ∀ al1 hi1 q (x3 : Int) x5 x6 x7, 1 ≤ x7 → x7 ≤ 240 → fnD nm B p = .error q → GA al al1 1 4 → FW (wG al.1) hi hi1 → DC al1 hi1 (zeR hr al.1) N n B nm → al1.1 = al.1 + 1 → isK al1 al.1 15 → hi1 6 4 = 1 → hi1 6 5 = q → 0 ≤ hi1 6 3 → Wp d 33 84 [vR (some 5), vR (some N), vI f, vI x3, vR (some al.1), vI x5, vI x6, none, none, none] [vI x7] al1 hi1 (zeR hr al.1) Q := by
    intro al1 hi1 q x3 x5 x6 x7 h71 h72 eD hG hf hD e1 kt e4 e5 e3
    refine s33_84.mpr ?_
    exact F86 al1 hi1 q _ _ _ _ h71 h72 eD hG hf hD e1 kt e4 e5 e3
  have F71 : ∀ al1 hi1 q (x3 : Int) x5 x6, fnD nm B p = .error q → GA al al1 1 4 → FW (wG al.1) hi hi1 → DC al1 hi1 (zeR hr al.1) N n B nm → al1.1 = al.1 + 1 → isK al1 al.1 15 → hi1 6 4 = 1 → hi1 6 5 = q → 0 ≤ hi1 6 3 → Wp d 33 71 [vR (some 5), vR (some N), vI f, vI x3, vR (some al.1), vI x5, none, none, none, none] [vI x6] al1 hi1 (zeR hr al.1) Q := by
    intro al1 hi1 q x3 x5 x6 eD hG hf hD e1 kt e4 e5 e3
    have a2' := hD.2.1
    have k6' := hD.2.2.2.2.1.1
    have k5' : isK al1 5 4 := hG.k k5
    have n4 : hi1 6 4 ≠ 0 := by rw [e4]; decide
    refine s33_71.mpr (s33_73.mpr ?_)
    refine (s33_74 (by first | decide | assumption | omega)).mpr ?_
    refine s33_77.mpr (s33_78.mpr ?_)
    try simp (disch := first | decide | assumption | omega) only [kon, knt_some, knt_none, Option.toList_some, Option.toList_none, List.cons_append, List.nil_append, a2']
    refine (s33_81 (by first | decide | assumption | omega) (by first | decide | assumption | omega)).mpr ?_
    refine b_within hD.2.2.2.2.1 (by omega) e3 (fun _ x81 y81 => ?_) (fun z => absurd z n4)
    exact F84 al1 hi1 q _ _ _ _ (y81 (by decide)).1 (y81 (by decide)).2 eD hG hf hD e1 kt e4 e5 e3
  have F59 : ∀ al1 hi1 q (x3 : Int) x5 l5, fnD nm B p = .error q → GA al al1 1 4 → FW (wG al.1) hi hi1 → DC al1 hi1 (zeR hr al.1) N n B nm → al1.1 = al.1 + 1 → isK al1 al.1 15 → hi1 6 4 = 1 → hi1 6 5 = q → 0 ≤ hi1 6 3 → Wp d 33 59 [vR (some 5), vR (some N), vI f, vI x3, vR (some al.1), l5, none, none, none, none] [vI x5] al1 hi1 (zeR hr al.1) Q := by
    intro al1 hi1 q x3 x5 l5 eD hG hf hD e1 kt e4 e5 e3
    have a2' := hD.2.1
    have k6' := hD.2.2.2.2.1.1
    have k5' : isK al1 5 4 := hG.k k5
    have n4 : hi1 6 4 ≠ 0 := by rw [e4]; decide
    refine s33_59.mpr (s33_61.mpr ?_)
    refine (s33_62 (by first | decide | assumption | omega)).mpr ?_
    refine s33_65.mpr (s33_66.mpr ?_)
    try simp (disch := first | decide | assumption | omega) only [kon, knt_some, knt_none, Option.toList_some, Option.toList_none, List.cons_append, List.nil_append, a2']
    refine (s33_68 (by first | decide | assumption | omega) (by first | decide | assumption | omega)).mpr ?_
    refine b_within hD.2.2.2.2.1 (by omega) e3 (fun _ x68 y68 => ?_) (fun z => absurd z n4)
    exact F71 al1 hi1 q _ _ _ eD hG hf hD e1 kt e4 e5 e3
  have F52 : ∀ al1 hi1 q (x3 : Int) x5, fnD nm B p = .error q → GA al al1 1 4 → FW (wG al.1) hi hi1 → DC al1 hi1 (zeR hr al.1) N n B nm → al1.1 = al.1 + 1 → isK al1 al.1 15 → hi1 6 2 = n → hi1 6 4 = 1 → hi1 6 5 = q → 0 ≤ hi1 6 3 → Wp d 33 52 [vR (some 5), vR (some N), vI f, vI x3, vR (some al.1), x5, none, none, none, none] [] al1 hi1 (zeR hr al.1) Q := by
    intro al1 hi1 q x3 x5 eD hG hf hD e1 kt e2 e4 e5 e3
    have kN' := hD.2.2.2.2.2.1.1
    have k5' : isK al1 5 4 := hG.k k5
    have n4 : hi1 6 4 ≠ 0 := by rw [e4]; decide
    have hFF : nm = 1 → NF al1 hi1 (zeR hr al.1) N B := fun z => (hF z).ga hA a6 a7 hG hf (fun i => zeR_a (by omega))
    refine s33_52.mpr (s33_53.mpr (s33_54.mpr ?_))
    refine (s33_56 (by first | decide | assumption | omega) (by first | decide | assumption | omega)).mpr ?_
    refine d_takeType (ks := 63) (no := 1) hD hFF (by omega) rfl e3 e2 (Or.inr (Or.inr (Or.inr ⟨rfl, rfl, rfl⟩))) (fun _ z => absurd z n4) (fun _ x56 => ?_) (fun z => absurd z n4)
    exact F59 al1 hi1 q _ _ _ eD hG hf hD e1 kt e4 e5 e3
  have F18 : ∀ al1 hi1 q (x3 : Int) x5, fnD nm B p = .error q → GA al al1 1 4 → FW (wG al.1) hi hi1 → DC al1 hi1 (zeR hr al.1) N n B nm → al1.1 = al.1 + 1 → isK al1 al.1 15 → hi1 6 2 = n → hi1 6 4 = 1 → hi1 6 5 = q → 0 ≤ hi1 6 3 → Wp d 33 18 [vR (some 5), vR (some N), vI f, vI x3, vR (some al.1), vI x5, none, none, none, none] [] al1 hi1 (zeR hr al.1) Q := by
    intro al1 hi1 q x3 x5 eD hG hf hD e1 kt e2 e4 e5 e3
    have a2' := hD.2.1
    have k6' := hD.2.2.2.2.1.1
    have k5' : isK al1 5 4 := hG.k k5
    refine s33_18.mpr (s33_20.mpr ?_)
    refine s33_21.mpr (wif (fun c21 => ?_) (fun c21 => ?_))
    · skip
      refine s33_24.mpr ?_
      refine (s33_25 (by first | decide | assumption | omega)).mpr ?_
      try simp (disch := first | decide | assumption | omega) only [kon, knt_some, knt_none, Option.toList_some, Option.toList_none, List.cons_append, List.nil_append, a2']
      refine (s33_28 (by first | decide | assumption | omega) (by first | decide | assumption | omega)).mpr ?_
      refine b_isRight k6' (fun q => absurd q (by rw [e4]; decide)) (fun _ => ?_)
      refine s33_31.mpr (wif (fun c31 => ?_) (fun c31 => ?_))
      · skip
        exact F52 al1 hi1 q _ _ eD hG hf hD e1 kt e2 e4 e5 e3
      · skip
        exact absurd (by assumption) (by decide)
    · skip
      exact F52 al1 hi1 q _ _ eD hG hf hD e1 kt e2 e4 e5 e3
  -- the head as the text has it
  have eP : B p = nPar B f := by rw [hpf]; rfl
  have eR : fR_ B p = pRes B f := by rw [hpf]; rfl
  have eC : fL_ B p + 2 = cAt B f := by rw [hpf]; rfl
  have eLo : B (fL_ B p) = nLoc B f := by rw [hpf]; rfl
  have eLe : B (fL_ B p + 1) = cLen B f := by rw [hpf]; rfl
  have G120 : ∀ al2 hi2 hr2 t x3 x4 x5, fnD nm B p = cdC nm B (cAt B f + cLen B f) (nLoc B f) (cAt B f) (cLen B f) (cLen B f).toNat (cAt B f) → (0 ≤ nLoc B f ∧ nLoc B f ≤ 10) → (0 ≤ cAt B f ∧ cAt B f ≤ 3000) → (1 ≤ cLen B f ∧ cLen B f ≤ 240) → DC al2 hi2 hr2 N n B nm → GA al al2 3 300 → FW (wG al.1) hi hi2 → RW (wH (N + 5) f al.1) hr hr2 → (nm = 1 → ∀ a i, a < al.1 → hr2 a i = hr a i) → N + 6 < t → (nm = 0 → al.1 ≤ t) → RtS al2 hr2 t → (aln al2 t : Int) = nPar B f → (∀ k, 0 ≤ k → k < nPar B f → hi2 t k = tyC B (pPar B f k)) → hi2 (t + 1) 0 = nPar B f → hi2 (t + 1) 2 = tyC B (pRes B f) → hi2 (t + 1) 3 = nLoc B f → hi2 (t + 1) 4 = cLen B f → hi2 (t + 1) 5 = cAt B f → (aln al2 (t + 2) : Int) = cLen B f → (nm = 0 → ∀ q, hi2 (t + 2) q = 0) → (nm = 1 → ∀ q, bgA al2 hi2 t q ↔ bgn B (cAt B f) (cLen B f) q) → (∀ q, hi2 (t + 2) q = 0 ∨ hi2 (t + 2) q = 1) → (nm = 0 → RoutN hi2 hr2 t) → hr2 (N + 5) f = some (t + 1) → hi2 6 3 = cAt B f → hi2 6 4 = 0 → Wp d 33 120 [vR (some 5), vR (some N), vI f, vI x3, x4, vI x5, vI (nLoc B f), vI (cLen B f), none, none] [] al2 hi2 hr2 Q := by
    intro al2 hi2 hr2 t x3 x4 x5 eD L0 c0 l0 hD hG hf hR h1 ht ht0 hT i1 i2 i3 i4 i5 i6 i7 i8 i9 i10 i11 i12 er2 e3 e4
    have y8 : hi2 N 8 = hi N 8 := hf N 8 (wG_a (by omega) (by omega))
    have ec : roA hi2 hr2 N f = some (t + 1) := by unfold roA; rw [if_pos ⟨f0, by rw [y8]; exact hfn, f10⟩, er2]
    have kN' := hD.2.2.2.2.2.1.1
    have hO2 : OPS al2 hi2 := hO.fr hG (by omega) (fun i => hf 0 i (wG_a (by omega) (by decide)))
    have hF2 : nm = 1 → NF al2 hi2 hr2 N B := fun z => (hF z).ga hA a6 a7 hG hf (fun i => h1 z _ _ (by omega))
    have tl : nm = 1 → t + 2 < al.1 := fun z => by
      obtain ⟨t', z1, z2, z3, z4⟩ := hR1 z
      have := (h1 z (N + 5) f (by omega)).symm.trans er2
      rw [z1] at this
      cases this
      exact z3.1.2.2.2.2.1
    refine s33_120.mpr (s33_121.mpr ?_)
    refine (s33_122 (by first | decide | assumption | omega) (by first | decide | assumption | omega)).mpr ?_
    refine t_routineAt hD.2.2.2.2.2.1 ?_
    simp only [kon, knt_some, knt_none, Option.toList_some, Option.toList_none, List.cons_append, List.nil_append, ec]
    refine s33_125.mpr (s33_127.mpr ?_)
    refine s33_129.mpr (wif (fun c129 => ?_) (fun c129 => ?_))
    · skip
      cases c129
    · skip
      refine d_code (p0 := 0) (c := cAt B f) (e := cAt B f + cLen B f) hD hO2 hF2 hT (by omega) ht (by omega) i7 i5 L0 c0 rfl i8 l0 i6 i9 i10 i11 (fun z => (hSh z).2.2.2.2.2.2.2.2.2.2.2.2.1) e3 e4 (fun p' hi' eT hf3 g3 g0 g2 g4 gB gb => ?_) (fun q hi' eT hf3 g4 g5 g3 => ?_)
      · have hf4 : FW (wG al.1) hi hi' := hf.tr (hf3.mn (fun a i q => by
           rcases q with q | ⟨q0, q⟩
           · unfold wG; omega
           · have := ht0 q0; unfold wG; omega))
        refine ok p' al2 hi' hr2 t (eD.trans eT) hG hf4 hR h1 (hD.fr hf3 (by omega) (by omega) (fun k => by omega) (hD.2.2.2.2.2.2.2.1.fw hf3 (fun i => by omega))) g3 g0 g2 g4 er2 ht ⟨hT, i1, fun k k0 k1 => ?_, ?_, ?_, ?_, ?_, ?_, i8, gB, gb⟩ (fun z => ?_)
        · rw [hf3 t k (by omega)]; exact i2 k k0 k1
        · rw [hf3 _ _ (by omega)]; exact i3
        · rw [hf3 _ _ (by omega)]; exact i4
        · rw [hf3 _ _ (by omega)]; exact i5
        · rw [hf3 _ _ (by omega)]; exact i6
        · rw [hf3 _ _ (by omega)]; exact i7
        · have y := ht0 z; have z := i12 z; exact ⟨⟨(hf3 _ _ (by omega)).trans z.1, z.2⟩, y⟩
      · have hf4 : FW (wG N) hi hi' := (wG_le hf (by omega)).tr (hf3.mn (fun a i q => by unfold wG; omega))
        exact er q al2 hi' hr2 (eD.trans eT) hG hf4 hR (hD.fr hf3 (by omega) (by omega) (fun k => by omega) (hD.2.2.2.2.2.2.2.1.fw hf3 (fun i => by omega))) g4 g5 g3
  have T86 : ∀ al1 hi1, fnD nm B p = cdC nm B (cAt B f + cLen B f) (nLoc B f) (cAt B f) (cLen B f) (cLen B f).toNat (cAt B f) → (0 ≤ nLoc B f ∧ nLoc B f ≤ 10) → (0 ≤ cAt B f ∧ cAt B f ≤ 3000) → (1 ≤ cLen B f ∧ cLen B f ≤ 240) → GA al al1 1 4 → FW (wG al.1) hi hi1 → DC al1 hi1 (zeR hr al.1) N n B nm → al1.1 = al.1 + 1 → isK al1 al.1 15 → (aln al1 al.1 : Int) = nPar B f → (∀ k, 0 ≤ k → k < nPar B f → hi1 al.1 k = tyC B (pPar B f k)) → hi1 6 3 = cAt B f → hi1 6 4 = 0 → Wp d 33 86 [vR (some 5), vR (some N), vI f, vI (nPar B f), vR (some al.1), vI (tyC B (pRes B f)), vI (nLoc B f), vI (cLen B f), none, none] [] al1 hi1 (zeR hr al.1) Q := by
    intro al1 hi1 eD L0 c0 l0 hG hf hD e1 kt ek eT e3 e4
    have a3' := hD.2.2.1
    have k5' : isK al1 5 4 := hG.k k5
    refine s33_86.mpr ?_
    refine (s33_87 (by first | decide | assumption | omega)).mpr ?_
    try simp (disch := first | decide | assumption | omega) only [kon, knt_some, knt_none, Option.toList_some, Option.toList_none, List.cons_append, List.nil_append, a3']
    refine s33_90.mpr (wif (fun c90 => ?_) (fun c90 => ?_))
    · skip
      refine N93 (by omega) al1 hi1 _ _ _ _ l0.1 l0.2 hD hG e1 kt (fun al2 hi2 hr2 z1 z2 z3 z4 z5 z6 z7 z8 z9 z10 z11 => ?_)
      obtain ⟨y1, y2, y3, y4, y5, y6⟩ := z8
      refine G120 al2 hi2 hr2 al.1 _ _ _ eD L0 c0 l0 z1 z2 (fun a i w => by rw [z3 a i (by unfold wG at w; omega)]; exact hf a i w) z4 (fun z => absurd z (by omega)) (by omega) (fun _ => Nat.le_refl _) z5 (by rw [z6]; exact ek) (fun k k0 k1 => by rw [z3 _ _ (Nat.le_refl _)]; exact eT k k0 k1) (by rw [y1]; exact ek) y2 y3 y4 (by rw [y5]; exact e3) (by rw [z7]; omega) (fun _ => z9) (fun z => absurd z (by omega)) (fun q => Or.inl (z9 q)) (fun _ => y6) z10 (by rw [z3 6 3 (by omega)]; exact e3) (by rw [z3 6 4 (by omega)]; exact e4)
    · skip
      skip
      obtain ⟨t, z1, z2, z3, z4⟩ := hR1 (by omega)
      have tl := z3.1.2.2.2.2.1
      have z5 : RoutOK al1 hi1 (zeR hr al.1) B f t := z3.fr hG (fun a i y1 y2 y3 => hf a i (wG_a (by omega) (by omega))) (fun i _ => zeR_a (by omega))
      obtain ⟨b1, b2, b3, b4, b5, b6, b7, b8, b9, b10, b11⟩ := z5
      exact G120 al1 hi1 _ t _ _ _ eD L0 c0 l0 hD (hG.mn (by decide) (by decide)) hf (fun a i w => zeR_a (by unfold wH at w; omega)) (fun _ a i w => zeR_a (by omega)) z2 (fun z => absurd z (by omega)) b1 b2 b3 b4 b5 b6 b7 b8 b9 (fun z => absurd z (by omega)) (fun _ => b10) b11 (fun z => absurd z (by omega)) ((zeR_a (by omega)).trans z1) e3 e4
  have prn : ∀ lo hg q, 0 ≤ lo → prL B n lo hg q = nmb B lo hg q := fun lo hg q z => prL_n hx z
  have T71 : ∀ al1 hb, (0 ≤ nPar B f ∧ nPar B f ≤ nLoc B f ∧ nLoc B f ≤ 10) → fnD nm B p = (if nm = 0 then nmb B 1 240 (fL_ B p + 1) else .ok (fL_ B p + 1 + 1)).bind (fun q4 => cdC nm B (q4 + B (fL_ B p + 1)) (B (fL_ B p)) q4 (B (fL_ B p + 1)) (B (fL_ B p + 1)).toNat q4) → GA al al1 1 4 → FW (wG al.1) hi hb → DC al1 hb (zeR hr al.1) N n B nm → al1.1 = al.1 + 1 → isK al1 al.1 15 → (aln al1 al.1 : Int) = nPar B f → (∀ k, 0 ≤ k → k < nPar B f → hb al.1 k = tyC B (pPar B f k)) → 0 ≤ fL_ B p → hb 6 2 = n → hb 6 4 = 0 → hb 6 3 = fL_ B p + 1 → Wp d 33 71 [vR (some 5), vR (some N), vI f, vI (nPar B f), vR (some al.1), vI (tyC B (pRes B f)), none, none, none, none] [vI (nLoc B f)] al1 hb (zeR hr al.1) Q := by
    intro al1 hb L0 eD hG hf hD e1 kt ek eT fl0 e2 e4 e3
    have a2' := hD.2.1
    have k6' := hD.2.2.2.2.1.1
    have k5' : isK al1 5 4 := hG.k k5
    have h1n : nm = 1 → nmb B 1 240 (fL_ B p + 1) = .ok (fL_ B p + 1 + 1) := fun z => by
      have y := hSh z
      exact nmb_y (by rw [eLe]; exact y.2.2.2.2.2.2.2.2.2.1) (by rw [eLe]; exact y.2.2.2.2.2.2.2.2.2.2.1)
    refine s33_71.mpr (s33_73.mpr ?_)
    refine (s33_74 (by first | decide | assumption | omega)).mpr ?_
    refine s33_77.mpr (s33_78.mpr ?_)
    try simp (disch := first | decide | assumption | omega) only [kon, knt_some, knt_none, Option.toList_some, Option.toList_none, List.cons_append, List.nil_append, a2']
    refine (s33_81 (by first | decide | assumption | omega) (by first | decide | assumption | omega)).mpr ?_
    refine b_within hD.2.2.2.2.1 (by omega) (by omega) (fun z => absurd e4 z) (fun _ => ?_)
    rw [e3, e2, prn 1 240 _ (by decide)]
    refine kEx_of (fun qE eE => ?_) (fun qE eE => ?_)
    rotate_left
    intro xE hE yE zE v1 v2 v3
    · skip
      first
      | (have n0 : nm = 0 := by
           rcases a4 with z | z
           · exact z
           · rw [h1n z] at eE; cases eE
         refine F84 al1 hE qE _ _ _ _ (yE (by decide)).1 (yE (by decide)).2 (by rw [eD, if_pos n0, eE]; rfl) hG (hf.tr (wG_Y zE)) (hD.fw zE) e1 kt v1 v2 v3)
      | (obtain ⟨u0, u1, u2⟩ := nmb_ok eE
         have u3 := (hx (fL_ B p + 1)).2 (by omega)
         subst u0
         refine s33_84.mpr ?_
         rw [eLe] at u1 u2 ⊢
         refine T86 al1 _ ?_ ⟨by omega, L0.2.2⟩ ⟨by omega, by omega⟩ ⟨u1, u2⟩ hG (hf.up (by unfold wG; omega)) hD.u3 e1 kt ek (fun k k0 k1 => by rw [upI_a (by omega)]; exact eT k k0 k1) (by rw [upI_eq]; omega) (by rw [upI_i (by decide)]; exact e4)
         rw [eD, show (if nm = 0 then nmb B 1 240 (fL_ B p + 1) else .ok (fL_ B p + 1 + 1)) = .ok (fL_ B p + 1 + 1) by (split; exact eE; rfl), bnd_ok, show fL_ B p + 1 + 1 = cAt B f by omega, eLe, eLo])
    · skip
      first
      | (have n0 : nm = 0 := by
           rcases a4 with z | z
           · exact z
           · rw [h1n z] at eE; cases eE
         refine F84 al1 hE qE _ _ _ _ (yE (by decide)).1 (yE (by decide)).2 (by rw [eD, if_pos n0, eE]; rfl) hG (hf.tr (wG_Y zE)) (hD.fw zE) e1 kt v1 v2 v3)
      | (obtain ⟨u0, u1, u2⟩ := nmb_ok eE
         have u3 := (hx (fL_ B p + 1)).2 (by omega)
         subst u0
         refine s33_84.mpr ?_
         rw [eLe] at u1 u2 ⊢
         refine T86 al1 _ ?_ ⟨by omega, L0.2.2⟩ ⟨by omega, by omega⟩ ⟨u1, u2⟩ hG (hf.up (by unfold wG; omega)) hD.u3 e1 kt ek (fun k k0 k1 => by rw [upI_a (by omega)]; exact eT k k0 k1) (by rw [upI_eq]; omega) (by rw [upI_i (by decide)]; exact e4)
         rw [eD, show (if nm = 0 then nmb B 1 240 (fL_ B p + 1) else .ok (fL_ B p + 1 + 1)) = .ok (fL_ B p + 1 + 1) by (split; exact eE; rfl), bnd_ok, show fL_ B p + 1 + 1 = cAt B f by omega, eLe, eLo])
  have T59 : ∀ al1 hb l5, (0 ≤ nPar B f ∧ nPar B f ≤ 4) → fnD nm B p = (if nm = 0 then nmb B (B p) 10 (fL_ B p) else .ok (fL_ B p + 1)).bind (fun q3 => (if nm = 0 then nmb B 1 240 q3 else .ok (q3 + 1)).bind fun q4 => cdC nm B (q4 + B q3) (B (fL_ B p)) q4 (B q3) (B q3).toNat q4) → GA al al1 1 4 → FW (wG al.1) hi hb → DC al1 hb (zeR hr al.1) N n B nm → al1.1 = al.1 + 1 → isK al1 al.1 15 → (aln al1 al.1 : Int) = nPar B f → (∀ k, 0 ≤ k → k < nPar B f → hb al.1 k = tyC B (pPar B f k)) → 0 ≤ fL_ B p → hb 6 2 = n → hb 6 4 = 0 → hb 6 3 = fL_ B p → Wp d 33 59 [vR (some 5), vR (some N), vI f, vI (nPar B f), vR (some al.1), l5, none, none, none, none] [vI (tyC B (pRes B f))] al1 hb (zeR hr al.1) Q := by
    intro al1 hb l5 P0 eD hG hf hD e1 kt ek eT fl0 e2 e4 e3
    have a2' := hD.2.1
    have k6' := hD.2.2.2.2.1.1
    have k5' : isK al1 5 4 := hG.k k5
    have h1n : nm = 1 → nmb B (B p) 10 (fL_ B p) = .ok (fL_ B p + 1) := fun z => by
      have y := hSh z
      exact nmb_y (by rw [eLo, eP]; exact y.2.2.2.2.2.2.2.1) (by rw [eLo]; exact y.2.2.2.2.2.2.2.2.1)
    refine s33_59.mpr (s33_61.mpr ?_)
    refine (s33_62 (by first | decide | assumption | omega)).mpr ?_
    refine s33_65.mpr (s33_66.mpr ?_)
    try simp (disch := first | decide | assumption | omega) only [kon, knt_some, knt_none, Option.toList_some, Option.toList_none, List.cons_append, List.nil_append, a2']
    refine (s33_68 (by first | decide | assumption | omega) (by first | decide | assumption | omega)).mpr ?_
    refine b_within hD.2.2.2.2.1 (by omega) (by omega) (fun z => absurd e4 z) (fun _ => ?_)
    rw [e3, e2, prn _ 10 _ P0.1]
    refine kEx_of (fun qE eE => ?_) (fun qE eE => ?_)
    rotate_left
    intro xE hE yE zE v1 v2 v3
    · skip
      first
      | (have n0 : nm = 0 := by
           rcases a4 with z | z
           · exact z
           · rw [← eP, h1n z] at eE; cases eE
         exact F71 al1 hE qE _ _ _ (by rw [eD, if_pos n0, eP, eE]; rfl) hG (hf.tr (wG_Y zE)) (hD.fw zE) e1 kt v1 v2 v3)
      | (obtain ⟨u0, u1, u2⟩ := nmb_ok eE
         subst u0
         rw [eLo] at u1 u2 ⊢
         refine T71 al1 _ ⟨P0.1, u1, u2⟩ ?_ hG (hf.up (by unfold wG; omega)) hD.u3 e1 kt ek (fun k k0 k1 => by rw [upI_a (by omega)]; exact eT k k0 k1) fl0 (by rw [upI_i (by decide)]; exact e2) (by rw [upI_i (by decide)]; exact e4) upI_eq
         rw [eD, show (if nm = 0 then nmb B (B p) 10 (fL_ B p) else .ok (fL_ B p + 1)) = .ok (fL_ B p + 1) by (rw [eP]; split; exact eE; rfl), bnd_ok])
    · skip
      first
      | (have n0 : nm = 0 := by
           rcases a4 with z | z
           · exact z
           · rw [← eP, h1n z] at eE; cases eE
         exact F71 al1 hE qE _ _ _ (by rw [eD, if_pos n0, eP, eE]; rfl) hG (hf.tr (wG_Y zE)) (hD.fw zE) e1 kt v1 v2 v3)
      | (obtain ⟨u0, u1, u2⟩ := nmb_ok eE
         subst u0
         rw [eLo] at u1 u2 ⊢
         refine T71 al1 _ ⟨P0.1, u1, u2⟩ ?_ hG (hf.up (by unfold wG; omega)) hD.u3 e1 kt ek (fun k k0 k1 => by rw [upI_a (by omega)]; exact eT k k0 k1) fl0 (by rw [upI_i (by decide)]; exact e2) (by rw [upI_i (by decide)]; exact e4) upI_eq
         rw [eD, show (if nm = 0 then nmb B (B p) 10 (fL_ B p) else .ok (fL_ B p + 1)) = .ok (fL_ B p + 1) by (rw [eP]; split; exact eE; rfl), bnd_ok])
  have T52 : ∀ al1 hb l5, (0 ≤ nPar B f ∧ nPar B f ≤ 4) → fnD nm B p = (tyD nm B 63 1 (fR_ B p)).bind (fun q2 => (if nm = 0 then nmb B (B p) 10 q2 else .ok (q2 + 1)).bind fun q3 => (if nm = 0 then nmb B 1 240 q3 else .ok (q3 + 1)).bind fun q4 => cdC nm B (q4 + B q3) (B q2) q4 (B q3) (B q3).toNat q4) → GA al al1 1 4 → FW (wG al.1) hi hb → DC al1 hb (zeR hr al.1) N n B nm → al1.1 = al.1 + 1 → isK al1 al.1 15 → (aln al1 al.1 : Int) = nPar B f → (∀ k, 0 ≤ k → k < nPar B f → hb al.1 k = tyC B (pPar B f k)) → 0 ≤ fR_ B p → hb 6 2 = n → hb 6 4 = 0 → hb 6 3 = fR_ B p → Wp d 33 52 [vR (some 5), vR (some N), vI f, vI (nPar B f), vR (some al.1), l5, none, none, none, none] [] al1 hb (zeR hr al.1) Q := by
    intro al1 hb l5 P0 eD hG hf hD e1 kt ek eT fl0 e2 e4 e3
    have kN' := hD.2.2.2.2.2.1.1
    have k5' : isK al1 5 4 := hG.k k5
    have hFF : nm = 1 → NF al1 hb (zeR hr al.1) N B := fun z => (hF z).ga hA a6 a7 hG hf (fun i => zeR_a (by omega))
    have hTy : nm = 1 → ∃ q, tyP B 63 1 (fR_ B p) = .ok q := fun z => ⟨_, by rw [eR]; exact (hSh z).2.2.2.2.2.2.1⟩
    refine s33_52.mpr (s33_53.mpr (s33_54.mpr ?_))
    refine (s33_56 (by first | decide | assumption | omega) (by first | decide | assumption | omega)).mpr ?_
    refine d_takeType (ks := 63) (no := 1) hD hFF (by omega) e3 fl0 e2 (Or.inr (Or.inr (Or.inr ⟨rfl, rfl, rfl⟩))) (fun e _ => hTy e) (fun z => absurd e4 z) (fun _ => ?_)
    refine kEx_of (fun qE eE => ?_) (fun qE eE => ?_)
    rotate_left
    intro xE hE vE
    · skip
      first
      | exact F59 al1 hE qE _ _ _ (by rw [eD, eE]; rfl) hG (hf.tr (wG_Y vE.1)) (hD.fw vE.1) e1 kt vE.2.1 vE.2.2.1 vE.2.2.2
      | (obtain ⟨u0, u1⟩ := tyD_ok a4 hTy eE
         have u2 : qE = fL_ B p := u0
         subst u2
         rw [eR]
         exact T59 al1 _ _ P0 (by rw [eD, eE]; rfl) hG (hf.up (by unfold wG; omega)) hD.u3 e1 kt ek (fun k k0 k1 => by rw [upI_a (by omega)]; exact eT k k0 k1) (by omega) (by rw [upI_i (by decide)]; exact e2) (by rw [upI_i (by decide)]; exact e4) upI_eq)
    · skip
      first
      | exact F59 al1 hE qE _ _ _ (by rw [eD, eE]; rfl) hG (hf.tr (wG_Y vE.1)) (hD.fw vE.1) e1 kt vE.2.1 vE.2.2.1 vE.2.2.2
      | (obtain ⟨u0, u1⟩ := tyD_ok a4 hTy eE
         have u2 : qE = fL_ B p := u0
         subst u2
         rw [eR]
         exact T59 al1 _ _ P0 (by rw [eD, eE]; rfl) hG (hf.up (by unfold wG; omega)) hD.u3 e1 kt ek (fun k k0 k1 => by rw [upI_a (by omega)]; exact eT k k0 k1) (by omega) (by rw [upI_i (by decide)]; exact e2) (by rw [upI_i (by decide)]; exact e4) upI_eq)
  have T18 : ∀ al1 hb, (0 ≤ nPar B f ∧ nPar B f ≤ 4) → fnD nm B p = (lpE (tyD nm B 63 0) (B p).toNat (p + 1)).bind (fun q1 => (tyD nm B 63 1 q1).bind (fun q2 => (if nm = 0 then nmb B (B p) 10 q2 else .ok (q2 + 1)).bind fun q3 => (if nm = 0 then nmb B 1 240 q3 else .ok (q3 + 1)).bind fun q4 => cdC nm B (q4 + B q3) (B q2) q4 (B q3) (B q3).toNat q4)) → GA al al1 1 4 → FW (wG al.1) hi hb → DC al1 hb (zeR hr al.1) N n B nm → al1.1 = al.1 + 1 → isK al1 al.1 15 → (aln al1 al.1 : Int) = nPar B f → hb 6 2 = n → hb 6 4 = 0 → hb 6 3 = p + 1 → Wp d 33 18 [vR (some 5), vR (some N), vI f, vI (nPar B f), vR (some al.1), vI 0, none, none, none, none] [] al1 hb (zeR hr al.1) Q := by
    intro al1 hb P0 eD hG hf hD e1 kt ek e2 e4 e3
    have kN' := hD.2.2.2.2.2.1.1
    have a2' := hD.2.1
    have k6' := hD.2.2.2.2.1.1
    have k5' : isK al1 5 4 := hG.k k5
    refine wp_lpE (N := (B p).toNat) (f := tyD nm B 63 0) (p0 := p + 1) (fun i p' ls h2 => ls = [vR (some 5), vR (some N), vI f, vI (nPar B f), vR (some al.1), vI i, none, none, none, none] ∧ FW (fun a i => wY 6 a i ∨ a = al.1) hb h2 ∧ h2 6 3 = p' ∧ 0 ≤ p' ∧ p' = pPar B f i ∧ h2 6 4 = 0 ∧ (∀ k : Int, 0 ≤ k → k < i → h2 al.1 k = tyC B (pPar B f k))) ?_ ?_ _ _ ⟨rfl, FW.rf, e3, by omega, by rw [hpf]; rfl, e4, fun k k0 k1 => absurd k1 (by omega)⟩
    · rintro i p' ls h2 hi6 hok ⟨rfl, hf2, f3, f0', fp, f4, ff⟩ nx er2
      have qw : ∀ a i, a ≠ 6 → a < al.1 → ¬ (wY 6 a i ∨ a = al.1) := fun a i z1 z2 z => by unfold wY at z; omega
      have q62 : ¬ (wY 6 6 2 ∨ 6 = al.1) := fun z => by unfold wY at z; omega
      have q61 : ¬ (wY 6 6 1 ∨ 6 = al.1) := fun z => by unfold wY at z; omega
      have hs : DC al1 h2 (zeR hr al.1) N n B nm := hD.fr hf2 (qw 5 1 (by decide) (by omega)) q61 (fun k => qw _ _ (by omega) (by omega)) (hD.2.2.2.2.2.2.2.1.fw hf2 (fun i => qw _ _ (by omega) (by omega)))
      have hf3 : FW (wG al.1) hi h2 := hf.tr (hf2.mn (fun a i q => by unfold wY at q; unfold wG; omega))
      have hFs : nm = 1 → NF al1 h2 (zeR hr al.1) N B := fun z => (hF z).ga hA a6 a7 hG hf3 (fun i => zeR_a (by omega))
      have hTy : nm = 1 → ∃ q, tyP B 63 0 p' = .ok q := fun e => ⟨_, by rw [fp]; exact ((hSh e).2.2.2.1 i (by omega) (by rw [← eP]; omega)).1⟩
      have hl2 : h2 6 2 = n := (hf2 6 2 q62).trans e2
      refine s33_18.mpr (s33_20.mpr ?_)
      refine s33_21.mpr (wif (fun c21 => ?_) (fun c21 => ?_))
      · first
        | (exfalso; omega)
        | skip
          refine s33_24.mpr ?_
          refine (s33_25 (by first | decide | assumption | omega)).mpr ?_
          try simp (disch := first | decide | assumption | omega) only [kon, knt_some, knt_none, Option.toList_some, Option.toList_none, List.cons_append, List.nil_append, a2', fAdd_id]
          refine (s33_28 (by first | decide | assumption | omega) (by first | decide | assumption | omega)).mpr ?_
          refine b_isRight k6' (fun _ => ?_) (fun q => absurd f4 q)
          refine s33_31.mpr (wif (fun c31 => ?_) (fun c31 => ?_))
          · first
            | (exfalso; omega)
            | skip
              exact absurd (by assumption) (by decide)
          · first
            | (exfalso; omega)
            | skip
              refine s33_34.mpr (s33_36.mpr (s33_38.mpr (s33_39.mpr (s33_40.mpr ?_))))
              refine (s33_42 (by first | decide | assumption | omega) (by first | decide | assumption | omega)).mpr ?_
              refine d_takeType (ks := 63) (no := 0) hs hFs (by omega) f3 f0' hl2 (Or.inr (Or.inl ⟨rfl, rfl, rfl⟩)) (fun e _ => hTy e) (fun q => absurd f4 q) (fun _ => ?_)
              refine kEx_of (fun qE eE => ?_) (fun qE eE => ?_)
              rotate_left
              intro xE hE vE
              · skip
                refine (s33_45 (by first | decide | assumption | omega) (by first | decide | assumption | omega) (by first | decide | assumption | omega)).mpr ?_
                refine s33_46.mpr (s33_49.mpr ?_)
                try simp (disch := first | decide | assumption | omega) only [kon, knt_some, knt_none, Option.toList_some, Option.toList_none, List.cons_append, List.nil_append, a2', fAdd_id]
                first
                | (refine F18 al1 _ qE _ _ (by rw [eD, er2 _ eE]; rfl) hG ((hf3.tr (wG_Y vE.1)).up (by unfold wG; omega)) ?_ e1 kt ?_ ?_ ?_ ?_
                   · have hs2 := hs.fw vE.1
                     exact hs2.fr (w := fun a i => a = al.1) (FW.up FW.rf rfl) (by omega) (by omega) (fun k => by omega) (hs2.2.2.2.2.2.2.2.1.up (fun q => by omega))
                   · rw [upI_a (by omega), vE.1 6 2 (wY_i (by decide))]; exact hl2
                   · rw [upI_a (by omega)]; exact vE.2.1
                   · rw [upI_a (by omega)]; exact vE.2.2.1
                   · rw [upI_a (by omega)]; exact vE.2.2.2)
                | (have hk := tyD_ok a4 hTy eE
                   refine nx _ _ _ eE ⟨rfl, (hf2.up (Or.inl ⟨rfl, by omega⟩)).up (Or.inr rfl), ?_, by omega, ?_, ?_, fun k k0 k1 => ?_⟩
                   · rw [upI_a (by omega), upI_eq]
                   · rw [hk.1, fp]; show _ = itr (skT B) ((i : Int) + 1).toNat _; rw [itr_t _ _ (by omega)]; rfl
                   · rw [upI_a (by omega), upI_i (by decide)]; exact f4
                   · by_cases e : k = i
                     · subst e; rw [upI_eq, fp]
                     · rw [upI_i (by omega), upI_a (by omega)]; exact ff k k0 (by omega))
              · skip
                refine (s33_45 (by first | decide | assumption | omega) (by first | decide | assumption | omega) (by first | decide | assumption | omega)).mpr ?_
                refine s33_46.mpr (s33_49.mpr ?_)
                try simp (disch := first | decide | assumption | omega) only [kon, knt_some, knt_none, Option.toList_some, Option.toList_none, List.cons_append, List.nil_append, a2', fAdd_id]
                first
                | (refine F18 al1 _ qE _ _ (by rw [eD, er2 _ eE]; rfl) hG ((hf3.tr (wG_Y vE.1)).up (by unfold wG; omega)) ?_ e1 kt ?_ ?_ ?_ ?_
                   · have hs2 := hs.fw vE.1
                     exact hs2.fr (w := fun a i => a = al.1) (FW.up FW.rf rfl) (by omega) (by omega) (fun k => by omega) (hs2.2.2.2.2.2.2.2.1.up (fun q => by omega))
                   · rw [upI_a (by omega), vE.1 6 2 (wY_i (by decide))]; exact hl2
                   · rw [upI_a (by omega)]; exact vE.2.1
                   · rw [upI_a (by omega)]; exact vE.2.2.1
                   · rw [upI_a (by omega)]; exact vE.2.2.2)
                | (have hk := tyD_ok a4 hTy eE
                   refine nx _ _ _ eE ⟨rfl, (hf2.up (Or.inl ⟨rfl, by omega⟩)).up (Or.inr rfl), ?_, by omega, ?_, ?_, fun k k0 k1 => ?_⟩
                   · rw [upI_a (by omega), upI_eq]
                   · rw [hk.1, fp]; show _ = itr (skT B) ((i : Int) + 1).toNat _; rw [itr_t _ _ (by omega)]; rfl
                   · rw [upI_a (by omega), upI_i (by decide)]; exact f4
                   · by_cases e : k = i
                     · subst e; rw [upI_eq, fp]
                     · rw [upI_i (by omega), upI_a (by omega)]; exact ff k k0 (by omega))
      · first
        | (exfalso; omega)
        | skip
          exact absurd (by assumption) (by decide)
    · rintro p' ls h2 hok ⟨rfl, hf2, f3, f0', fp, f4, ff⟩
      have qw : ∀ a i, a ≠ 6 → a < al.1 → ¬ (wY 6 a i ∨ a = al.1) := fun a i z1 z2 z => by unfold wY at z; omega
      have q62 : ¬ (wY 6 6 2 ∨ 6 = al.1) := fun z => by unfold wY at z; omega
      have q61 : ¬ (wY 6 6 1 ∨ 6 = al.1) := fun z => by unfold wY at z; omega
      have hs : DC al1 h2 (zeR hr al.1) N n B nm := hD.fr hf2 (qw 5 1 (by decide) (by omega)) q61 (fun k => qw _ _ (by omega) (by omega)) (hD.2.2.2.2.2.2.2.1.fw hf2 (fun i => qw _ _ (by omega) (by omega)))
      have hf3 : FW (wG al.1) hi h2 := hf.tr (hf2.mn (fun a i q => by unfold wY at q; unfold wG; omega))
      have ep' : p' = fR_ B p := by rw [fp, hpf, show (((B (pFn B f)).toNat : Nat) : Int) = nPar B f from by rw [← hpf, eP]; omega]; rfl
      have E := T52 al1 h2 (vI ((B p).toNat : Int)) P0 (by rw [eD, hok, ep']; rfl) hG hf3 hs e1 kt ek (fun k k0 k1 => ff k k0 (by omega)) (by omega) ((hf2 6 2 q62).trans e2) f4 (f3.trans ep')
      refine s33_18.mpr (s33_20.mpr ?_)
      refine s33_21.mpr (wif (fun c21 => ?_) (fun c21 => ?_))
      · skip
        exfalso; omega
      · skip
        exact E
  have hGA : ∀ k : Nat, k ≤ 4 → GA al (nwA al 15 k k) 1 4 := fun k hk => (GA.rf.nw).mn (by decide) (by omega)
  have hDN : ∀ hi1 (k : Nat), k ≤ 4 → DC al hi1 hr N n B nm → DC (nwA al 15 k k) (zeI hi1 al.1) (zeR hr al.1) N n B nm := fun hi1 k hk hD => hD.ga (hGA k hk) (w := wG al.1) (fun a i q => zeI_a (by unfold wG at q; omega)) (w51 _ (by omega)) (wG_61 (by omega)) (fun k => wG_a (by omega) (by omega)) (fun r r0 r1 => by rw [zeI_a (by omega)]; exact hD.2.2.2.2.2.2.2.1 r r0 r1) (X := N + 4) (z := 0) (fun a i q => zeR_a (by unfold wH at q; omega)) (Or.inl rfl) (fun c' o c0 c1 e => isK_nw (hD.2.2.2.2.2.2.2.2 c' o c0 c1 (by rw [zeR_a (by omega)] at e; exact e)))
  have F9 : ∀ hi1 q x, 0 ≤ x → x ≤ 4 → fnD nm B p = .error q → EF hi hi1 q → Wp d 33 9 [vR (some 5), vR (some N), vI f, none, none, none, none, none, none, none] [vI x] al hi1 hr Q := by
    intro hi1 q x x0 x4 eD hE
    refine s33_9.mpr (s33_10.mpr ?_)
    refine (s33_11 (by first | assumption | omega) (by first | assumption | omega)).mpr ?_
    refine s33_13.mpr (s33_15.mpr (s33_16.mpr ?_))
    refine F18 _ _ q _ _ eD (hGA _ (by omega)) (fun a i w => (zeI_a (by unfold wG at w; omega)).trans (wG_Y hE.1 a i w)) (hDN _ _ (by omega) (h'.fw hE.1)) rfl (isK_new (by omega)) ?_ ?_ ?_ ?_
    · rw [zeI_a (by omega), hE.1 6 2 (wY_i (by decide))]; exact hl
    · rw [zeI_a (by omega)]; exact hE.2.1
    · rw [zeI_a (by omega)]; exact hE.2.2.1
    · rw [zeI_a (by omega)]; exact hE.2.2.2
  have T9 : nmb B 0 4 p = .ok (p + 1) → Wp d 33 9 [vR (some 5), vR (some N), vI f, none, none, none, none, none, none, none] [vI (B p)] al (upI hi 6 3 (p + 1)) hr Q := by
    intro eE
    obtain ⟨-, u1, u2⟩ := nmb_ok eE
    rw [eP] at u1 u2
    rw [eP]
    have eD : fnD nm B p = (lpE (tyD nm B 63 0) (B p).toNat (p + 1)).bind (fun q1 => (tyD nm B 63 1 q1).bind (fun q2 => (if nm = 0 then nmb B (B p) 10 q2 else .ok (q2 + 1)).bind fun q3 => (if nm = 0 then nmb B 1 240 q3 else .ok (q3 + 1)).bind fun q4 => cdC nm B (q4 + B q3) (B q2) q4 (B q3) (B q3).toNat q4)) := by
      unfold fnD
      rw [show (if nm = 0 then nmb B 0 4 p else .ok (p + 1)) = .ok (p + 1) by (split; exact eE; rfl), bnd_ok]
    refine s33_9.mpr (s33_10.mpr ?_)
    refine (s33_11 (by first | assumption | omega) (by first | assumption | omega)).mpr ?_
    refine s33_13.mpr (s33_15.mpr (s33_16.mpr ?_))
    refine T18 _ _ ⟨u1, u2⟩ eD (hGA _ (by omega)) (fun a i w => (zeI_a (by unfold wG at w; omega)).trans (wG_Y (FW.up FW.rf ⟨rfl, by omega⟩) a i w)) (hDN _ _ (by omega) h'.u3) rfl (isK_new (by omega)) ?_ ?_ ?_ ?_
    · rw [aln_new]; omega
    · rw [zeI_a (by omega), upI_i (by decide)]; exact hl
    · rw [zeI_a (by omega), upI_i (by decide)]; exact h4
    · rw [zeI_a (by omega), upI_eq]
  rw [e33]
  refine s33_0.mpr ?_
  refine (s33_1 (by first | decide | assumption | omega)).mpr ?_
  refine s33_4.mpr (s33_5.mpr ?_)
  try simp (disch := first | decide | assumption | omega) only [kon, knt_some, knt_none, Option.toList_some, Option.toList_none, List.cons_append, List.nil_append, a2]
  refine (s33_6 (by first | decide | assumption | omega) (by first | decide | assumption | omega)).mpr ?_
  refine b_within a5 (by omega) (by omega) (fun q => absurd h4 q) (fun _ => ?_)
  rw [hp, hl, prn 0 4 _ (by decide)]
  refine kEx_of (fun qE eE => ?_) (fun qE eE => ?_)
  rotate_left
  intro xE hE yE zE v1 v2 v3
  · skip
    first
    | (have n0 : nm = 0 := by
         rcases a4 with z | z
         · exact z
         · have y := hSh z
           have z9 : nmb B 0 4 (pFn B f) = .ok (pFn B f + 1) := nmb_y y.1 y.2.1
           rw [hpf, z9] at eE; cases eE
       exact F9 hE qE _ (yE (by decide)).1 (yE (by decide)).2 (by unfold fnD; rw [if_pos n0, eE]; rfl) ⟨zE, v1, v2, v3⟩)
    | (have e9 := (nmb_ok eE).1
       subst e9
       exact T9 eE)
  · skip
    first
    | (have n0 : nm = 0 := by
         rcases a4 with z | z
         · exact z
         · have y := hSh z
           have z9 : nmb B 0 4 (pFn B f) = .ok (pFn B f + 1) := nmb_y y.1 y.2.1
           rw [hpf, z9] at eE; cases eE
       exact F9 hE qE _ (yE (by decide)).1 (yE (by decide)).2 (by unfold fnD; rw [if_pos n0, eE]; rfl) ⟨zE, v1, v2, v3⟩)
    | (have e9 := (nmb_ok eE).1
       subst e9
       exact T9 eE)
end CD11
