/-! RUNNING, the reference: channels, activations -/
section RH0
variable {d : Nat} {al : AL} {hi : HI} {hr : HR} {Q : QQ}
theorem psh_n {s : HI} {p v w : Int} {a : Nat} {j : Int} (h : a ≠ 97 ∧ a ≠ 98 ∧ a ≠ 99) : psh s p v w a j = s a j := by
  unfold psh; rw [upI_a h.1, st2_n h.2.1 h.2.2]
theorem psh_ai {s : HI} {p v w p' : Int} : ai (psh s p v w) p' = ai s p' := by unfold ai; rw [psh_n (by decide)]
theorem psh_hg {s : HI} {p v w : Int} : hg (psh s p v w) p = hg s p + 1 := by
  unfold hg; rw [psh_ai]; unfold psh; rw [upI_eq]; rfl
theorem AP.n {s s' : HI} {p : Int} (h : AP s p) (e : s' 94 p = s 94 p) : AP s' p := by unfold AP; rw [e]; exact h
theorem hg_n {s s' : HI} {p : Int} (e : s' 94 p = s 94 p) (e2 : ∀ i, s' 97 i = s 97 i) : hg s' p = hg s p := by unfold hg ai; rw [e, e2]
theorem r_isChannel {k : Int} (hA : SA al) (hR : MR hr) (k0 : 0 ≤ k ∧ k < 12) (q : ∀ b, (b = 0 ∨ b = 1) → (b = 1 ↔ decide (hi 112 (2 * k) ≠ -1 ∨ hi 112 (2 * k + 1) ≠ -1) = true) → Q (some (some (vI b))) al hi hr) : Ev d 294 [vR (some 49), vI k] al hi hr Q := by
  have kM : isK al 49 13 := hA.k (by decide) (by decide) rfl
  have l112 := SA.len (a := 112) (n := 24) hA (by decide) (by decide) rfl
  rw [e294]
  by_cases c : hi 112 (2 * k) = -1
  · by_cases c' : hi 112 (2 * k + 1) = -1
    · have E := q 0 (Or.inl rfl) (by rw [c, c']; decide)
      refine s294_0.mpr ((s294_1 kM).mpr ?_)
      rw [mr_82 hR]
      refine s294_4.mpr (s294_5.mpr (s294_6.mpr ?_))
      try simp (disch := first | decide | assumption | omega) only [c, c', fAdd_id, fMul_id]
      refine (s294_7 (hA.k (by decide) (by decide) rfl) (by first | assumption | omega) (by first | assumption | omega)).mpr ?_
      refine s294_8.mpr ?_
      try simp (disch := first | decide | assumption | omega) only [c, c', fAdd_id, fMul_id]
      refine s294_9.mpr (wif (fun c9 => ?_) (fun c9 => ?_))
      · skip
        refine s294_12.mpr ((s294_13 kM).mpr ?_)
        rw [mr_82 hR]
        refine s294_16.mpr (s294_17.mpr (s294_18.mpr (s294_19.mpr (s294_20.mpr ?_))))
        try simp (disch := first | decide | assumption | omega) only [c, c', fAdd_id, fMul_id]
        refine (s294_21 (hA.k (by decide) (by decide) rfl) (by first | assumption | omega) (by first | assumption | omega)).mpr ?_
        refine s294_22.mpr ?_
        try simp (disch := first | decide | assumption | omega) only [c, c', fAdd_id, fMul_id]
        refine s294_23.mpr (wif (fun c23 => ?_) (fun c23 => ?_))
        · skip
          refine s294_30.mpr ?_
          refine (s294_31 (by first | assumption | omega)).mpr ?_
          exact E
        · skip
          exact absurd rfl (by assumption)
      · skip
        exact absurd rfl (by assumption)
    · have E := q 1 (Or.inr rfl) (by simp only [true_iff]; exact decide_eq_true (Or.inr c'))
      refine s294_0.mpr ((s294_1 kM).mpr ?_)
      rw [mr_82 hR]
      refine s294_4.mpr (s294_5.mpr (s294_6.mpr ?_))
      try simp (disch := first | decide | assumption | omega) only [c, fAdd_id, fMul_id]
      refine (s294_7 (hA.k (by decide) (by decide) rfl) (by first | assumption | omega) (by first | assumption | omega)).mpr ?_
      refine s294_8.mpr ?_
      try simp (disch := first | decide | assumption | omega) only [c, fAdd_id, fMul_id]
      refine s294_9.mpr (wif (fun c9 => ?_) (fun c9 => ?_))
      · skip
        refine s294_12.mpr ((s294_13 kM).mpr ?_)
        rw [mr_82 hR]
        refine s294_16.mpr (s294_17.mpr (s294_18.mpr (s294_19.mpr (s294_20.mpr ?_))))
        try simp (disch := first | decide | assumption | omega) only [c, fAdd_id, fMul_id]
        refine (s294_21 (hA.k (by decide) (by decide) rfl) (by first | assumption | omega) (by first | assumption | omega)).mpr ?_
        refine s294_22.mpr ?_
        try simp (disch := first | decide | assumption | omega) only [c, fAdd_id, fMul_id]
        refine s294_23.mpr (wif (fun c23 => ?_) (fun c23 => ?_))
        · skip
          exact absurd ‹_› c'
        · skip
          refine s294_26.mpr (s294_27.mpr ?_)
          refine (s294_31 (by first | assumption | omega)).mpr ?_
          exact E
      · skip
        refine s294_26.mpr (s294_27.mpr ?_)
        refine (s294_31 (by first | assumption | omega)).mpr ?_
        exact E
  · have E := q 1 (Or.inr rfl) (by simp only [true_iff]; exact decide_eq_true (Or.inl c))
    refine s294_0.mpr ((s294_1 kM).mpr ?_)
    rw [mr_82 hR]
    refine s294_4.mpr (s294_5.mpr (s294_6.mpr ?_))
    try simp (disch := first | decide | assumption | omega) only [fAdd_id, fMul_id]
    refine (s294_7 (hA.k (by decide) (by decide) rfl) (by first | assumption | omega) (by first | assumption | omega)).mpr ?_
    refine s294_8.mpr ?_
    try simp (disch := first | decide | assumption | omega) only [fAdd_id, fMul_id]
    refine s294_9.mpr (wif (fun c9 => ?_) (fun c9 => ?_))
    · skip
      exact absurd ‹_› c
    · skip
      refine s294_26.mpr (s294_27.mpr ?_)
      refine (s294_31 (by first | assumption | omega)).mpr ?_
      exact E
theorem r_channel {p v : Int} (hA : SA al) (hR : MR hr) (hd : 54 ≤ d) (hp : AP hi p) (h0 : 0 ≤ hg hi p ∧ hg hi p < 15) (hq : QB hi) (hh : 0 ≤ hi 91 p ∧ hi 91 p < 12) (v0 : 0 ≤ v ∧ v < 256)
    (q : Q (some none) al (chnS hi p (4 * hi 91 p + v)) hr) : Ev d 318 [vR (some 49), vI p, vI v] al hi hr Q := by
  have kM : isK al 49 13 := hA.k (by decide) (by decide) rfl
  obtain ⟨⟨p0, p1⟩, a0, a1⟩ := id hp
  have l112 := SA.len (a := 112) (n := 24) hA (by decide) (by decide) rfl
  have l113 := SA.len (a := 113) (n := 24) hA (by decide) (by decide) rfl
  have l114 := SA.len (a := 114) (n := 24) hA (by decide) (by decide) rfl
  have l118 := SA.len (a := 118) (n := 24) hA (by decide) (by decide) rfl
  have l91 := SA.len (a := 91) (n := 12) hA (by decide) (by decide) rfl
  obtain ⟨m, hm⟩ : ∃ m, hi 91 p = m := ⟨_, rfl⟩
  rw [hm] at hh q
  unfold chnS at q
  obtain ⟨k, hk⟩ : ∃ k, frCh hi = k := ⟨_, rfl⟩
  simp only [hk] at q
  have T2 : ∀ (j9 : Nat) (i : Int), i + j9 = 12 → 0 ≤ i → frL (fun k => decide (hi 112 (2 * k) ≠ -1 ∨ hi 112 (2 * k + 1) ≠ -1)) j9 i = k → (0 ≤ k ∧ k ≤ 12 → Wp d 318 22 [vR (some 49), vI p, vI v, vI k, none] [] al hi hr Q) → Wp d 318 2 [vR (some 49), vI p, vI v, vI i, none] [] al hi hr Q := by
    intro j9
    induction j9 with
    | zero =>
      intro i hj i0 hi9 NX
      have e : i = k := hi9
      subst e
      refine s318_2.mpr (s318_3.mpr ?_)
      refine s318_5.mpr (wif (fun c5 => ?_) (fun c5 => ?_))
      · skip
        exfalso; omega
      · skip
        exact NX ⟨by omega, by omega⟩
    | succ j9 ih =>
      intro i hj i0 hi9 NX
      have R10 : Ev (d - 1) 294 [vR (some 49), vI i] al hi hr (kon d 318 10 13 [vR (some 49), vI p, vI v, vI i, none] [] Q) := by
        refine r_isChannel hA hR ⟨i0, by omega⟩ (fun b b01 hb => ?_)
        simp only [kon, knt_some, knt_none, Option.toList_some, Option.toList_none, List.cons_append, List.nil_append]
        by_cases c : b = 1
        · have NX2 := ih (i + 1) (by omega) (by omega) (by rw [← hi9, frL_y (hb.mp c)]) NX
          subst c
          refine s318_13.mpr (wif (fun c13 => ?_) (fun c13 => ?_))
          · skip
            exact absurd ‹(1 : Int) = 0› (by decide)
          · skip
            refine s318_16.mpr (s318_19.mpr ?_)
            try simp (disch := first | decide | assumption | omega) only [fAdd_id]
            exact NX2
        · have e : i = k := by rw [← hi9, frL_n (Bool.eq_false_iff.mpr (fun z => c (hb.mpr z)))]
          subst e
          have b0 : b = 0 := by omega
          subst b0
          have NX2 := NX ⟨by omega, by omega⟩
          refine s318_13.mpr (wif (fun c13 => ?_) (fun c13 => ?_))
          · skip
            exact NX2
          · skip
            exact absurd rfl (by assumption)
      refine s318_2.mpr (s318_3.mpr ?_)
      refine s318_5.mpr (wif (fun c5 => ?_) (fun c5 => ?_))
      · skip
        refine s318_8.mpr (s318_9.mpr ?_)
        refine (s318_10 (by omega) kM).mpr ?_
        exact R10
      · skip
        exfalso; omega
  have T22 : 0 ≤ k ∧ k ≤ 12 → Wp d 318 22 [vR (some 49), vI p, vI v, vI k, none] [] al hi hr Q := by
    intro hk2
    by_cases c : k = 12
    · rw [if_pos c] at q
      refine s318_22.mpr (s318_23.mpr ?_)
      refine s318_25.mpr (wif (fun c25 => ?_) (fun c25 => ?_))
      · skip
        refine s318_28.mpr (s318_29.mpr (s318_30.mpr ?_))
        refine (s318_32 (by omega) kM).mpr ?_
        refine r_trap hA hR (by omega) hq hp.1 ?_
        refine (s318_35).mpr ?_
        exact q
      · skip
        exfalso; omega
    · rw [if_neg c] at q
      have STEP : ∀ (h : HI) (e : Int), AP h p → (0 ≤ hg h p ∧ hg h p < 16) → h 91 p = m → 0 ≤ e → e < 24 → e < 2 * k + 2 → Wp d 318 41 [vR (some 49), vI p, vI v, vI k, vI (e + 1)] [] al (opE h p e (4 * m + v)) hr Q → Wp d 318 41 [vR (some 49), vI p, vI v, vI k, vI e] [] al h hr Q := by
        intro h e hp9 hg9 h91 e0 e1 e2 NX
        unfold opE at NX
        obtain ⟨g, hg1⟩ : ∃ g, upI (upI (upI h 112 e 0) 113 e p) 114 e 0 = g := ⟨_, rfl⟩
        have g91 : g 91 p = m := by rw [← hg1, upI_a (by decide), upI_a (by decide), upI_a (by decide)]; exact h91
        rw [hg1] at NX
        obtain ⟨g2, hg2⟩ : ∃ g2, upI g 118 e (4 * m + v) = g2 := ⟨_, rfl⟩
        rw [hg2] at NX
        have ho : ∀ a i, a ≠ 112 → a ≠ 113 → a ≠ 114 → a ≠ 118 → g2 a i = h a i := fun a i z1 z2 z3 z4 => by rw [← hg2, upI_a z4, ← hg1, upI_a z3, upI_a z2, upI_a z1]
        have hp2 : AP g2 p := hp9.n (ho 94 p (by decide) (by decide) (by decide) (by decide))
        have hh2 : hg g2 p = hg h p := hg_n (ho 94 p (by decide) (by decide) (by decide) (by decide)) (fun i => ho 97 i (by decide) (by decide) (by decide) (by decide))
        refine s318_41.mpr (s318_43.mpr (s318_44.mpr (s318_45.mpr (s318_46.mpr (s318_47.mpr ?_)))))
        try simp (disch := first | decide | assumption | omega) only [kon, knt_some, knt_none, Option.toList_some, Option.toList_none, List.cons_append, List.nil_append, hg1, g91, hg2, fAdd_id, fMul_id]
        refine s318_48.mpr (wif (fun c48 => ?_) (fun c48 => ?_))
        · skip
          refine s318_51.mpr ((s318_52 kM).mpr ?_)
          rw [mr_82 hR]
          refine s318_55.mpr (s318_57.mpr ?_)
          refine (s318_58 (hA.k (by decide) (by decide) rfl) (by first | assumption | omega) (by first | assumption | omega)).mpr ?_
          refine s318_59.mpr ((s318_60 kM).mpr ?_)
          rw [mr_83 hR]
          refine s318_63.mpr (s318_65.mpr ?_)
          try simp (disch := first | decide | assumption | omega) only [kon, knt_some, knt_none, Option.toList_some, Option.toList_none, List.cons_append, List.nil_append, hg1, g91, hg2, fAdd_id, fMul_id]
          refine (s318_66 (hA.k (by decide) (by decide) rfl) (by first | assumption | omega) (by first | assumption | omega)).mpr ?_
          refine s318_67.mpr ((s318_68 kM).mpr ?_)
          rw [mr_84 hR]
          refine s318_71.mpr (s318_73.mpr ?_)
          try simp (disch := first | decide | assumption | omega) only [kon, knt_some, knt_none, Option.toList_some, Option.toList_none, List.cons_append, List.nil_append, hg1, g91, hg2, fAdd_id, fMul_id]
          refine (s318_74 (hA.k (by decide) (by decide) rfl) (by first | assumption | omega) (by first | assumption | omega)).mpr ?_
          refine s318_75.mpr ((s318_76 kM).mpr ?_)
          rw [mr_88 hR]
          refine s318_79.mpr (s318_81.mpr (s318_82.mpr ((s318_83 kM).mpr ?_)))
          rw [mr_61 hR]
          refine s318_86.mpr ?_
          try simp (disch := first | decide | assumption | omega) only [kon, knt_some, knt_none, Option.toList_some, Option.toList_none, List.cons_append, List.nil_append, hg1, g91, hg2, fAdd_id, fMul_id]
          refine (s318_87 (hA.k (by decide) (by decide) rfl) (by first | assumption | omega) (by first | assumption | omega)).mpr ?_
          refine s318_88.mpr (s318_89.mpr (s318_90.mpr ?_))
          try simp (disch := first | decide | assumption | omega) only [kon, knt_some, knt_none, Option.toList_some, Option.toList_none, List.cons_append, List.nil_append, hg1, g91, hg2, fAdd_id, fMul_id]
          refine (s318_91 (hA.k (by decide) (by decide) rfl) (by first | assumption | omega) (by first | assumption | omega)).mpr ?_
          refine s318_92.mpr (s318_93.mpr (s318_94.mpr (s318_96.mpr ?_)))
          try simp (disch := first | decide | assumption | omega) only [kon, knt_some, knt_none, Option.toList_some, Option.toList_none, List.cons_append, List.nil_append, hg1, g91, hg2, fAdd_id, fMul_id]
          refine (s318_97 (by omega) kM).mpr ?_
          refine r_push hA hR (by omega) hp2 (by rw [hh2]; exact hg9) ?_
          refine s318_100.mpr (s318_103.mpr ?_)
          try simp (disch := first | decide | assumption | omega) only [kon, knt_some, knt_none, Option.toList_some, Option.toList_none, List.cons_append, List.nil_append, hg1, g91, hg2, fAdd_id, fMul_id]
          exact NX
        · skip
          exfalso; omega
      have NX : Wp d 318 41 [vR (some 49), vI p, vI v, vI k, vI (2 * k)] [] al hi hr Q := by
        refine STEP hi (2 * k) hp ⟨h0.1, by omega⟩ hm (by omega) (by omega) (by omega) ?_
        have o : ∀ a i, a ≠ 97 ∧ a ≠ 98 ∧ a ≠ 99 → a ≠ 112 → a ≠ 113 → a ≠ 114 → a ≠ 118 → opE hi p (2 * k) (4 * m + v) a i = hi a i := fun a i z z1 z2 z3 z4 => by
          unfold opE; rw [psh_n z, upI_a z4, upI_a z3, upI_a z2, upI_a z1]
        have o97 : hg (opE hi p (2 * k) (4 * m + v)) p = hg hi p + 1 := by
          unfold opE; rw [psh_hg]
          rw [hg_n (s := hi)]
          · rw [upI_a (by decide), upI_a (by decide), upI_a (by decide), upI_a (by decide)]
          · intro i; rw [upI_a (by decide), upI_a (by decide), upI_a (by decide), upI_a (by decide)]
        refine STEP _ (2 * k + 1) (hp.n (o 94 p (by decide) (by decide) (by decide) (by decide) (by decide))) (by rw [o97]; omega) ((o 91 p (by decide) (by decide) (by decide) (by decide) (by decide)).trans hm) (by omega) (by omega) (by omega) ?_
        rw [show 2 * k + 1 + 1 = 2 * k + 2 by omega]
        refine s318_41.mpr (s318_43.mpr (s318_44.mpr (s318_45.mpr (s318_46.mpr (s318_47.mpr ?_)))))
        try simp (disch := first | decide | assumption | omega) only [fAdd_id, fMul_id]
        refine s318_48.mpr (wif (fun c48 => ?_) (fun c48 => ?_))
        · skip
          exfalso; omega
        · skip
          refine (s318_106).mpr ?_
          exact q
      refine s318_22.mpr (s318_23.mpr ?_)
      refine s318_25.mpr (wif (fun c25 => ?_) (fun c25 => ?_))
      · skip
        exfalso; omega
      · skip
        refine s318_36.mpr (s318_37.mpr (s318_38.mpr (s318_39.mpr ?_)))
        try simp (disch := first | decide | assumption | omega) only [fMul_id]
        exact NX
  have NX := T2 12 0 (by decide) (Int.le_refl _) hk T22
  rw [e318]
  refine s318_0.mpr (s318_1.mpr ?_)
  exact NX
end RH0
