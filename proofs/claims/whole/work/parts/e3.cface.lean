/-! THE CLASS: a new module, the shelf, the tape, what was told -/
section CF0
variable {d : Nat} {al : AL} {hi : HI} {hr : HR} {Q : QQ} {B : Int → Int} {N : Nat} {n : Int}
theorem t_init {T : Nat} (hN : isK al N 10) (e : al.1 = N + 1) (hT : isK al T 15) (hTN : T < N) (n0 : 0 ≤ n) (n1 : n ≤ aln al T) (n2 : n ≤ 2000)
    (q : ∀ al' hi' hr', GA al al' 6 (78 + n.toNat) → al'.1 = N + 7 → MS al' hr' N → hi' N 1 = n → aln al' (N + 6) = n.toNat → (∀ k, 0 ≤ k → k < n → hi' (N + 6) k = hi T k) → (∀ r, hi' (N + 3) r = 0) → (∀ r, hi' (N + 1) r = 0) → (∀ c, hr' (N + 4) c = none) → (∀ a i, a < N → hi' a i = hi a i) → (∀ a i, a < N → hr' a i = hr a i) → Q (some none) al' hi' hr') : Ev d 144 [vR (some N), vR (some T), vI n] al hi hr Q := by
  have N2 : 2 ≤ N := hN.1
  have T86 : ∀ al6 h0 hr6, GA al al6 6 (78 + n.toNat) → al6.1 = N + 7 → MS al6 hr6 N → h0 N 1 = n → aln al6 (N + 6) = n.toNat → (∀ r, h0 (N + 3) r = 0) → (∀ r, h0 (N + 1) r = 0) → (∀ c, hr6 (N + 4) c = none) → (∀ a i, a < N → h0 a i = hi a i) → (∀ a i, a < N → hr6 a i = hr a i) → Wp d 144 86 [vR (some N), vR (some T), vI n, vI 0] [] al6 h0 hr6 Q := by
    intro al6 h0 hr6 g1 g2 g3 g4 g5 g6 g7 g8 g9 g10
    have kN := g3.1
    obtain ⟨eb, kb⟩ := g3.2.2.2.2.2.2
    have kT := g1.k hT
    have lT := g1.l (a := T) (by omega)
    refine wp_cnt (N := n.toNat) (fun i ls h3 => ls = [vR (some N), vR (some T), vI n, vI i] ∧ FW (fun a _ => a = N + 6) h0 h3 ∧ ∀ k : Int, 0 ≤ k → k < i → h3 (N + 6) k = hi T k) ?_ ?_ _ _ ⟨rfl, FW.rf, fun k a b => absurd b (by omega)⟩
    · rintro i ls h3 hi9 ⟨rfl, w3, a3⟩ nx
      have e1 : h3 N 1 = n := (w3 N 1 (by omega)).trans g4
      have eT : h3 T i = hi T i := (w3 T i (by omega)).trans (g9 T i (by omega))
      refine s144_86.mpr (s144_87.mpr ?_)
      refine (s144_88 (by first | decide | assumption | omega)).mpr ?_
      try simp (disch := first | decide | assumption | omega) only [e1, eb, fAdd_id]
      refine s144_91.mpr (wif (fun c91 => ?_) (fun c91 => ?_))
      · skip
        refine s144_94.mpr ?_
        refine (s144_95 (by first | decide | assumption | omega)).mpr ?_
        refine s144_98.mpr (s144_99.mpr (s144_100.mpr ?_))
        try simp (disch := first | decide | assumption | omega) only [e1, eb, fAdd_id]
        refine (s144_101 (by first | decide | assumption | omega) (by first | decide | assumption | omega) (by first | decide | assumption | omega)).mpr ?_
        try simp (disch := first | decide | assumption | omega) only [e1, eb, fAdd_id]
        refine (s144_102 (by first | decide | assumption | omega) (by first | decide | assumption | omega) (by first | decide | assumption | omega)).mpr ?_
        refine s144_103.mpr (s144_106.mpr ?_)
        try simp (disch := first | decide | assumption | omega) only [e1, eb, fAdd_id]
        refine nx _ _ ⟨by rw [cast1], w3.up rfl, fun j a b => ?_⟩
        by_cases e : j = i
        · subst e; rw [upI_eq]; exact eT
        · rw [upI_i e]; exact a3 j a (by omega)
      · skip
        refine (s144_109).mpr ?_
        exfalso; omega
    · rintro ls h3 ⟨rfl, w3, a3⟩
      have e1 : h3 N 1 = n := (w3 N 1 (by omega)).trans g4
      have E := q al6 h3 hr6 g1 g2 g3 e1 g5 (fun k k0 k1 => a3 k k0 (by omega)) (fun r => (w3 _ _ (by omega)).trans (g6 r)) (fun r => (w3 _ _ (by omega)).trans (g7 r)) g8 (fun a i z => (w3 a i (by omega)).trans (g9 a i z)) g10
      refine s144_86.mpr (s144_87.mpr ?_)
      refine (s144_88 (by first | decide | assumption | omega)).mpr ?_
      try simp (disch := first | decide | assumption | omega) only [e1]
      refine s144_91.mpr (wif (fun c91 => ?_) (fun c91 => ?_))
      · skip
        exfalso; omega
      · skip
        refine (s144_109).mpr ?_
        exact E
  have T60 : ∀ al5 h5 hr5, GA al al5 5 78 → al5.1 = N + 6 → isK al5 N 10 → (hr5 N 3 = some (N + 1) ∧ isK al5 (N + 1) 15 ∧ aln al5 (N + 1) = 8) → (hr5 N 4 = some (N + 2) ∧ isK al5 (N + 2) 15 ∧ aln al5 (N + 2) = 48) → (hr5 N 5 = some (N + 3) ∧ isK al5 (N + 3) 15 ∧ aln al5 (N + 3) = 8) → (hr5 N 7 = some (N + 4) ∧ isK al5 (N + 4) 17 ∧ aln al5 (N + 4) = 4) → (hr5 N 9 = some (N + 5) ∧ isK al5 (N + 5) 18 ∧ aln al5 (N + 5) = 10) → (∀ r, h5 (N + 3) r = 0) → (∀ r, h5 (N + 1) r = 0) → (∀ c, hr5 (N + 4) c = none) → (∀ a i, a < N → h5 a i = hi a i) → (∀ a i, a < N → hr5 a i = hr a i) → Wp d 144 60 [vR (some N), vR (some T), vI n, none] [] al5 h5 hr5 Q := by
    intro al5 h5 hr5 g1 g2 g3 p1 p2 p3 p4 p5 g6 g7 g8 g9 g10
    have kT := g1.k hT
    have lT := g1.l (a := T) (by omega)
    have rT : isR al5 T = true := isR_of kT (by decide) (by decide)
    have eM : fMax 0 (fMin n (aln al T)) = n := by unfold fMax fMin; split <;> split <;> omega
    have kN1 : isK (nwA al5 15 n.toNat n.toNat) N 10 := isK_nw g3
    have uz : ∀ x, (upI h5 N 1 x) N 1 = x := fun x => upI_eq
    refine s144_60.mpr (s144_61.mpr (s144_62.mpr (s144_63.mpr ?_)))
    refine (s144_64 (by first | decide | assumption | omega)).mpr ?_
    refine s144_65.mpr (s144_68.mpr ?_)
    try simp (disch := first | decide | assumption | omega) only [lT, eM, uz]
    refine (s144_71 (by first | decide | assumption | omega)).mpr ?_
    refine s144_74.mpr (s144_75.mpr ?_)
    try simp (disch := first | decide | assumption | omega) only [lT, eM, uz]
    refine (s144_76 (by first | decide | assumption | omega)).mpr ?_
    try simp (disch := first | decide | assumption | omega) only [lT, eM, uz]
    refine (s144_79 (by first | assumption | omega) (by first | assumption | omega)).mpr ?_
    refine (s144_81 (by first | decide | assumption | omega)).mpr ?_
    refine s144_84.mpr (s144_85.mpr ?_)
    refine T86 _ _ _ ?_ (by simp only [nw_1, g2]) ⟨kN1, ⟨?_, isK_nw p1.2.1, ?_⟩, ⟨?_, isK_nw p2.2.1, ?_⟩, ⟨?_, isK_nw p3.2.1, ?_⟩, ⟨?_, isK_nw p4.2.1, ?_⟩, ⟨?_, isK_nw p5.2.1, ?_⟩, ?_, isK_n (by omega) (by omega)⟩ (by rw [zeI_a (by omega), upI_eq]) (aln_n (by omega)) (fun r => by rw [zeI_a (by omega), upI_a (by omega)]; exact g6 r) (fun r => by rw [zeI_a (by omega), upI_a (by omega)]; exact g7 r) (fun c => by rw [upR_a (by omega), zeR_a (by omega)]; exact g8 c) (fun a i z => by rw [zeI_a (by omega), upI_a (by omega)]; exact g9 a i z) (fun a i z => by rw [upR_a (by omega), zeR_a (by omega)]; exact g10 a i z)
    · exact (g1.nw).mn (by decide) (Nat.le_refl _)
    · rw [upR_i (by decide), zeR_a (by omega)]; exact p1.1
    · rw [aln_nw (by omega)]; exact p1.2.2
    · rw [upR_i (by decide), zeR_a (by omega)]; exact p2.1
    · rw [aln_nw (by omega)]; exact p2.2.2
    · rw [upR_i (by decide), zeR_a (by omega)]; exact p3.1
    · rw [aln_nw (by omega)]; exact p3.2.2
    · rw [upR_i (by decide), zeR_a (by omega)]; exact p4.1
    · rw [aln_nw (by omega)]; exact p4.2.2
    · rw [upR_i (by decide), zeR_a (by omega)]; exact p5.1
    · rw [aln_nw (by omega)]; exact p5.2.2
    · rw [upR_eq, g2]
  have k1 : isK (nwA al 15 8 8) N 10 := isK_nw hN
  have k2 : isK (nwA (nwA al 15 8 8) 15 48 48) N 10 := isK_nw k1
  have k3 : isK (nwA (nwA (nwA al 15 8 8) 15 48 48) 15 8 8) N 10 := isK_nw k2
  have k4 : isK (nwA (nwA (nwA (nwA al 15 8 8) 15 48 48) 15 8 8) 17 4 4) N 10 := isK_nw k3
  have k5 : isK (nwA (nwA (nwA (nwA (nwA al 15 8 8) 15 48 48) 15 8 8) 17 4 4) 18 10 10) N 10 := isK_nw k4
  rw [e144]
  refine s144_0.mpr (s144_1.mpr (s144_4.mpr (s144_5.mpr ?_)))
  refine (s144_6 (by first | decide | assumption | omega)).mpr ?_
  refine s144_9.mpr (s144_10.mpr ?_)
  refine (s144_12 (by first | assumption | omega) (by first | assumption | omega)).mpr ?_
  refine (s144_14 (by first | decide | assumption | omega)).mpr ?_
  refine s144_17.mpr (s144_18.mpr ?_)
  refine (s144_20 (by first | assumption | omega) (by first | assumption | omega)).mpr ?_
  refine (s144_22 (by first | decide | assumption | omega)).mpr ?_
  refine s144_25.mpr (s144_26.mpr ?_)
  refine (s144_28 (by first | assumption | omega) (by first | assumption | omega)).mpr ?_
  refine (s144_30 (by first | decide | assumption | omega)).mpr ?_
  refine s144_33.mpr (s144_34.mpr ?_)
  refine (s144_35 (by first | decide | assumption | omega)).mpr ?_
  refine s144_38.mpr (s144_39.mpr ?_)
  refine (s144_40 (by first | assumption | omega) (by first | assumption | omega)).mpr ?_
  refine (s144_43 (by first | decide | assumption | omega)).mpr ?_
  refine s144_46.mpr (s144_47.mpr ?_)
  refine (s144_48 (by first | decide | assumption | omega)).mpr ?_
  refine s144_51.mpr (s144_52.mpr ?_)
  refine (s144_54 (by first | assumption | omega) (by first | assumption | omega)).mpr ?_
  refine (s144_57 (by first | decide | assumption | omega)).mpr ?_
  refine T60 _ _ _ (GA.mn ((((GA.rf.nw).nw).nw).nw).nw (by decide) (by decide)) ?_ k5 ⟨?_, ?_, ?_⟩ ⟨?_, ?_, ?_⟩ ⟨?_, ?_, ?_⟩ ⟨?_, ?_, ?_⟩ ⟨?_, ?_, ?_⟩ (fun r => ?_) (fun r => ?_) (fun c => ?_) (fun a i z => ?_) (fun a i z => ?_)
  all_goals (try simp only [nw_1, e])
  · rw [upR_i (by decide), zeR_a (by omega), upR_i (by decide), zeR_a (by omega), upR_i (by decide), zeR_a (by omega), upR_i (by decide), zeR_a (by omega), upR_eq]
  · exact isK_nw (isK_nw (isK_nw (isK_nw (isK_n (by omega) (by omega)))))
  · rw [aln_nw (by simp only [nw_1]; omega), aln_nw (by simp only [nw_1]; omega), aln_nw (by simp only [nw_1]; omega), aln_nw (by simp only [nw_1]; omega), aln_n (by omega)]; rfl
  · rw [upR_i (by decide), zeR_a (by omega), upR_i (by decide), zeR_a (by omega), upR_i (by decide), zeR_a (by omega), upR_eq]
  · exact isK_nw (isK_nw (isK_nw (isK_n (by simp only [nw_1]; omega) (by simp only [nw_1]; omega))))
  · rw [aln_nw (by simp only [nw_1]; omega), aln_nw (by simp only [nw_1]; omega), aln_nw (by simp only [nw_1]; omega), aln_n (by simp only [nw_1]; omega)]; rfl
  · rw [upR_i (by decide), zeR_a (by omega), upR_i (by decide), zeR_a (by omega), upR_eq]
  · exact isK_nw (isK_nw (isK_n (by simp only [nw_1]; omega) (by simp only [nw_1]; omega)))
  · rw [aln_nw (by simp only [nw_1]; omega), aln_nw (by simp only [nw_1]; omega), aln_n (by simp only [nw_1]; omega)]; rfl
  · rw [upR_i (by decide), zeR_a (by omega), upR_eq]
  · exact isK_nw (isK_n (by simp only [nw_1]; omega) (by simp only [nw_1]; omega))
  · rw [aln_nw (by simp only [nw_1]; omega), aln_n (by simp only [nw_1]; omega)]; rfl
  · rw [upR_eq]
  · exact isK_n (by simp only [nw_1]; omega) (by simp only [nw_1]; omega)
  · rw [aln_n (by simp only [nw_1]; omega)]; rfl
  · rw [zeI_a (by omega), upI_a (by omega), zeI_a (by omega), upI_a (by omega), zeI_eq]
  · rw [zeI_a (by omega), upI_a (by omega), zeI_a (by omega), upI_a (by omega), zeI_a (by omega), zeI_a (by omega), zeI_eq]
  · rw [upR_a (by omega), zeR_a (by omega), upR_a (by omega), zeR_eq]
  · rw [zeI_a (by omega), upI_a (by omega), zeI_a (by omega), upI_a (by omega), zeI_a (by omega), zeI_a (by omega), zeI_a (by omega), upI_a (by omega)]
  · rw [upR_a (by omega), zeR_a (by omega), upR_a (by omega), zeR_a (by omega), upR_a (by omega), zeR_a (by omega), upR_a (by omega), zeR_a (by omega), upR_a (by omega), zeR_a (by omega)]
theorem x_tell {y : Nat} (hA : SA al) (hy : isK al y 2) (q : Q (some none) al (upI (upI hi 2 3 (hi y 4)) 2 4 (hi y 5)) hr) : Ev d 201 [vR (some 2), vR (some y)] al hi hr Q := by
  have k2 : isK al 2 12 := hA.k (by decide) (by decide) rfl
  have ne : y ≠ 2 := by rintro rfl; exact absurd (k2.2.2.symm.trans hy.2.2) (by decide)
  have u5 : ∀ x, (upI hi 2 3 x) y 5 = hi y 5 := fun x => upI_a ne
  rw [e201]
  refine s201_0.mpr (s201_1.mpr ?_)
  refine (s201_2 (by first | decide | assumption | omega)).mpr ?_
  try simp (disch := first | decide | assumption | omega) only [u5]
  refine (s201_5 (by first | decide | assumption | omega)).mpr ?_
  refine s201_8.mpr (s201_9.mpr ?_)
  try simp (disch := first | decide | assumption | omega) only [u5]
  refine (s201_10 (by first | decide | assumption | omega)).mpr ?_
  try simp (disch := first | decide | assumption | omega) only [u5]
  refine (s201_13 (by first | decide | assumption | omega)).mpr ?_
  try simp (disch := first | decide | assumption | omega) only [u5]
  refine (s201_16).mpr ?_
  exact q
theorem x_onShelf {m : Int} (hA : SA al) (hc : CR hr) (q : Q (some (some (vR (if 0 ≤ m ∧ m < 6 then hr 4 m else none)))) al hi hr) : Ev d 202 [vR (some 2), vI m] al hi hr Q := by
  have k2 : isK al 2 12 := hA.k (by decide) (by decide) rfl
  have Q4 : isQ al 4 = true := hA.q (by decide) (by decide) (by decide)
  have l4 : aln al 4 = 6 := hA.len (by decide) (by decide) rfl
  have e4 := cr_2_2 hc
  rw [e202]
  refine s202_0.mpr ?_
  refine s202_1.mpr (wif (fun c1 => ?_) (fun c1 => ?_))
  · skip
    refine s202_10.mpr (s202_11.mpr ?_)
    refine (s202_20).mpr ?_
    first | (rw [if_pos (by omega)] at q; exact q) | (rw [if_neg (by omega)] at q; exact q)
  · skip
    refine s202_4.mpr (s202_5.mpr ?_)
    refine s202_7.mpr (wif (fun c7 => ?_) (fun c7 => ?_))
    · skip
      refine s202_14.mpr ?_
      refine (s202_15 (by first | decide | assumption | omega)).mpr ?_
      refine s202_18.mpr ?_
      try simp (disch := first | decide | assumption | omega) only [e4]
      refine (s202_19 (by first | decide | assumption | omega) (by first | decide | assumption | omega) (by first | decide | assumption | omega)).mpr ?_
      refine (s202_20).mpr ?_
      first | (rw [if_pos (by omega)] at q; exact q) | (rw [if_neg (by omega)] at q; exact q)
    · skip
      refine s202_10.mpr (s202_11.mpr ?_)
      refine (s202_20).mpr ?_
      first | (rw [if_pos (by omega)] at q; exact q) | (rw [if_neg (by omega)] at q; exact q)
theorem x_discard {m : Int} (hA : SA al) (hc : CR hr) (hd : 1 ≤ d) (yes : ∀ N, 0 ≤ m → m < 6 → hr 4 m = some N → Q (some (some (vI 1))) al hi (upR hr 4 m none)) (no : ¬ (0 ≤ m ∧ m < 6 ∧ hr 4 m ≠ none) → Q (some (some (vI 0))) al hi hr) : Ev d 189 [vR (some 2), vI m] al hi hr Q := by
  have k2 : isK al 2 12 := hA.k (by decide) (by decide) rfl
  have Q4 : isQ al 4 = true := hA.q (by decide) (by decide) (by decide)
  have l4 : aln al 4 = 6 := hA.len (by decide) (by decide) rfl
  have e4 := cr_2_2 hc
  rw [e189]
  by_cases c : 0 ≤ m ∧ m < 6
  · cases e : hr 4 m with
    | none =>
      have er : (if 0 ≤ m ∧ m < 6 then hr 4 m else none) = none := by rw [if_pos c]; exact e
      refine s189_0.mpr (s189_1.mpr ?_)
      refine (s189_2 (by first | decide | assumption | omega) (by first | decide | assumption | omega)).mpr ?_
      refine x_onShelf hA hc ?_
      simp only [kon, knt_some, knt_none, Option.toList_some, Option.toList_none, List.cons_append, List.nil_append, er]
      refine s189_5.mpr (wif (fun c5 => ?_) (fun c5 => ?_))
      · skip
        refine s189_8.mpr ?_
        refine (s189_9 (by first | assumption | omega)).mpr ?_
        exact no (fun z => z.2.2 e)
      · skip
        exact absurd rfl ‹¬ (none : Option Nat) = none›
    | some N =>
      have er : (if 0 ≤ m ∧ m < 6 then hr 4 m else none) = some N := by rw [if_pos c]; exact e
      refine s189_0.mpr (s189_1.mpr ?_)
      refine (s189_2 (by first | decide | assumption | omega) (by first | decide | assumption | omega)).mpr ?_
      refine x_onShelf hA hc ?_
      simp only [kon, knt_some, knt_none, Option.toList_some, Option.toList_none, List.cons_append, List.nil_append, er]
      refine s189_5.mpr (wif (fun c5 => ?_) (fun c5 => ?_))
      · skip
        cases ‹some N = none›
      · skip
        refine s189_10.mpr ?_
        refine (s189_11 (by first | decide | assumption | omega)).mpr ?_
        refine s189_14.mpr (s189_15.mpr ?_)
        try simp (disch := first | decide | assumption | omega) only [kon, knt_some, knt_none, Option.toList_some, Option.toList_none, List.cons_append, List.nil_append, e4]
        refine (s189_16N Q4 c.1 (by omega)).mpr ?_
        refine s189_17.mpr ?_
        refine (s189_18 (by decide)).mpr ?_
        exact yes N c.1 c.2 e
  · have er : (if 0 ≤ m ∧ m < 6 then hr 4 m else none) = none := if_neg c
    refine s189_0.mpr (s189_1.mpr ?_)
    refine (s189_2 (by first | decide | assumption | omega) (by first | decide | assumption | omega)).mpr ?_
    refine x_onShelf hA hc ?_
    simp only [kon, knt_some, knt_none, Option.toList_some, Option.toList_none, List.cons_append, List.nil_append, er]
    refine s189_5.mpr (wif (fun c5 => ?_) (fun c5 => ?_))
    · skip
      refine s189_8.mpr ?_
      refine (s189_9 (by first | assumption | omega)).mpr ?_
      exact no (fun z => c ⟨z.1, z.2.1⟩)
    · skip
      exact absurd rfl ‹¬ (none : Option Nat) = none›
theorem x_fault {w : Int} (hA : SA al) (q : Q (some (some (vI (if w = 0 then hi 2 3 else if w = 1 then hi 2 4 else -1)))) al hi hr) : Ev d 188 [vR (some 2), vI w] al hi hr Q := by
  have k2 : isK al 2 12 := hA.k (by decide) (by decide) rfl
  rw [e188]
  refine s188_0.mpr ?_
  refine s188_1.mpr (wif (fun c1 => ?_) (fun c1 => ?_))
  · skip
    refine s188_4.mpr ?_
    refine (s188_5 (by first | decide | assumption | omega)).mpr ?_
    refine (s188_8).mpr ?_
    first | (rw [if_pos (by omega)] at q; exact q) | (rw [if_neg (by omega), if_pos (by omega)] at q; exact q) | (rw [if_neg (by omega), if_neg (by omega)] at q; exact q)
  · skip
    refine s188_9.mpr (s188_10.mpr ?_)
    refine s188_11.mpr (wif (fun c11 => ?_) (fun c11 => ?_))
    · skip
      refine s188_14.mpr ?_
      refine (s188_15 (by first | decide | assumption | omega)).mpr ?_
      refine s188_18.mpr ?_
      refine (s188_22).mpr ?_
      first | (rw [if_pos (by omega)] at q; exact q) | (rw [if_neg (by omega), if_pos (by omega)] at q; exact q) | (rw [if_neg (by omega), if_neg (by omega)] at q; exact q)
    · skip
      refine s188_21.mpr ?_
      refine (s188_22).mpr ?_
      first | (rw [if_pos (by omega)] at q; exact q) | (rw [if_neg (by omega), if_pos (by omega)] at q; exact q) | (rw [if_neg (by omega), if_neg (by omega)] at q; exact q)
theorem x_tapeNumber {x t : Int} (hA : SA al) (hc : CR hr) (ht : hi 2 1 = t) (t0 : 0 ≤ t) (t1 : t + 4 ≤ 2000)
    (q : ∀ hi', FW (fun a i => (a = 2 ∧ i = 1) ∨ (a = 3 ∧ t ≤ i ∧ i < t + 4)) hi hi' → hi' 2 1 = t + 4 → (∀ k : Int, 0 ≤ k → k < 4 → hi' 3 (t + k) = fShr x (24 - 8 * k) % 256) → Q (some none) al hi' hr) : Ev d 200 [vR (some 2), vI x] al hi hr Q := by
  have k2 : isK al 2 12 := hA.k (by decide) (by decide) rfl
  have k3 : isK al 3 15 := hA.k (by decide) (by decide) rfl
  have l3 : aln al 3 = 2000 := hA.len (by decide) (by decide) rfl
  have e3 := cr_2_0 hc
  have T3 : ∀ (s : Int) (h : HI), s = 24 → h = hi → Wp d 200 3 [vR (some 2), vI x, vI s] [] al h hr Q := by
    intro s h es eh
    have J := wp_cnt (d := d) (k := 200) (h := 3) (al := al) (hr := hr) (Q := Q) (N := 4) (fun k ls h3 => ls = [vR (some 2), vI x, vI (24 - 8 * (k : Int))] ∧ FW (fun a i => (a = 2 ∧ i = 1) ∨ (a = 3 ∧ t ≤ i ∧ i < t + 4)) hi h3 ∧ h3 2 1 = t + k ∧ ∀ j : Int, 0 ≤ j → j < k → h3 3 (t + j) = fShr x (24 - 8 * j) % 256) ?_ ?_
    · subst es eh
      exact J _ _ ⟨rfl, FW.rf, by rw [ht]; omega, fun j a b => absurd b (by omega)⟩
    · rintro k ls h3 hk ⟨rfl, w3, e1, a3⟩ nx
      refine s200_3.mpr ?_
      refine s200_4.mpr (wif (fun c4 => ?_) (fun c4 => ?_))
      · first
        | (exfalso; omega)
        | skip
          exfalso; omega
      · first
        | (exfalso; omega)
        | skip
          refine s200_7.mpr ?_
          refine (s200_8 (by first | decide | assumption | omega)).mpr ?_
          refine s200_11.mpr ?_
          try simp (disch := first | decide | assumption | omega) only [e3, e1, fAnd_255, fAdd_id, upI_a]
          refine s200_14.mpr (wif (fun c14 => ?_) (fun c14 => ?_))
          · first
            | (exfalso; omega)
            | skip
              refine s200_17.mpr ?_
              refine (s200_18 (by first | decide | assumption | omega)).mpr ?_
              refine s200_21.mpr ?_
              try simp (disch := first | decide | assumption | omega) only [e3, e1, fAnd_255, fAdd_id, upI_a]
              refine (s200_22 (by first | decide | assumption | omega)).mpr ?_
              refine s200_25.mpr (s200_26.mpr (s200_27.mpr (s200_28.mpr (s200_31.mpr ?_))))
              try simp (disch := first | decide | assumption | omega) only [e3, e1, fAnd_255, fAdd_id, upI_a]
              refine (s200_32 (by first | decide | assumption | omega) (by first | decide | assumption | omega) (by first | decide | assumption | omega)).mpr ?_
              refine s200_33.mpr (s200_34.mpr ?_)
              try simp (disch := first | decide | assumption | omega) only [e3, e1, fAnd_255, fAdd_id, upI_a]
              refine (s200_35 (by first | decide | assumption | omega)).mpr ?_
              refine s200_38.mpr (s200_39.mpr ?_)
              try simp (disch := first | decide | assumption | omega) only [e3, e1, fAnd_255, fAdd_id, upI_a]
              refine (s200_40 (by first | decide | assumption | omega)).mpr ?_
              refine s200_43.mpr (s200_46.mpr ?_)
              try simp (disch := first | decide | assumption | omega) only [e3, e1, fAnd_255, fAdd_id, upI_a]
              refine nx _ _ ⟨?_, (w3.up (Or.inr ⟨rfl, by omega, by omega⟩)).up (Or.inl ⟨rfl, rfl⟩), by rw [upI_eq]; omega, fun j a b => ?_⟩
              · rw [cast1]; congr 3; simp only [vI, Option.some.injEq, Sum.inl.injEq, List.cons.injEq, and_true]; omega
              · rw [upI_a (by decide)]
                by_cases e : j = k
                · subst e; rw [upI_eq]
                · rw [upI_i (by omega)]; exact a3 j a (by omega)
          · first
            | (exfalso; omega)
            | skip
              refine s200_43.mpr (s200_46.mpr ?_)
              try simp (disch := first | decide | assumption | omega) only [e3, e1, fAnd_255, fAdd_id, upI_a]
              refine nx _ _ ⟨?_, (w3.up (Or.inr ⟨rfl, by omega, by omega⟩)).up (Or.inl ⟨rfl, rfl⟩), by rw [upI_eq]; omega, fun j a b => ?_⟩
              · rw [cast1]; congr 3; simp only [vI, Option.some.injEq, Sum.inl.injEq, List.cons.injEq, and_true]; omega
              · rw [upI_a (by decide)]
                by_cases e : j = k
                · subst e; rw [upI_eq]
                · rw [upI_i (by omega)]; exact a3 j a (by omega)
    · rintro ls h3 ⟨rfl, w3, e1, a3⟩
      refine s200_3.mpr ?_
      refine s200_4.mpr (wif (fun c4 => ?_) (fun c4 => ?_))
      · skip
        refine (s200_49).mpr ?_
        exact q h3 w3 e1 (fun k k0 k1 => a3 k k0 (by omega))
      · skip
        exfalso; omega
  rw [e200]
  refine s200_0.mpr (s200_2.mpr ?_)
  exact T3 _ _ rfl rfl
end CF0
