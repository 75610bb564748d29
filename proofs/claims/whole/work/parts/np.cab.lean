/-! FACES: about; the class -/
section FB0
variable {d : Nat} {Q : QQ} {T : TXs} {al : AL} {hi : HI} {hr : HR} {s : HI} {A : Int → Int → Int} {NN : Int → Option Nat} {p w v i b c e : Int} {t : Nat} {al0 : AL} {hi0 : HI} {hr0 : HR}
theorem x5_isStill (hR : RelC T NN al0 hi0 hr0 (fun _ => False) A al hi hr s) (hP : AllP s) (hBs : Bs T NN al0 hi0 hr0) (hI : INV T s) (hd : 9 ≤ d) (q1 : noG T s 12 → Q (some (some (vI 1))) al hi hr) (q0 : ¬ noG T s 12 → Q (some (some (vI 0))) al hi hr) : Ev d 70 [vR (some 26)] al hi hr Q := by
  have hA := hR.1.1
  have k26 : isK al 26 6 := hA.k (by decide) (by decide) rfl
  have T2 : ∀ (j : Nat) (k : Int) l2, k + j = 12 → 0 ≤ k → noG T s k → Wp d 70 2 [vR (some 26), vI k, l2] [] al hi hr Q := by
    intro j
    induction j with
    | zero =>
      intro k l2 hk k0 hN
      have ek : k = 12 := by omega
      subst ek
      have E0 := q1 hN
      refine s70_2.mpr (s70_3.mpr ?_)
      refine s70_5.mpr (wif (fun c5 => ?_) (fun c5 => ?_))
      · skip
        exfalso; omega
      · skip
        refine s70_35.mpr ?_
        refine (s70_36 (by first | assumption | omega)).mpr ?_
        exact E0
    | succ j ih =>
      intro k l2 hk k0 hN
      have NX : ∀ l2, noG T s (k + 1) → Wp d 70 29 [vR (some 26), vI k, l2] [] al hi hr Q := fun l2 z => by
        have Z := ih (k + 1) l2 (by omega) (by omega) z
        refine s70_29.mpr (s70_32.mpr ?_)
        try simp (disch := first | decide | assumption | omega) only [fAdd_id]
        exact Z
      have LV : Ev (d - 1) 68 [vR (some 26), vI k] al hi hr (kon d 70 10 13 [vR (some 26), vI k, l2] [] Q) := by
        refine x5_livingAt hR hP ⟨k0, by omega⟩ (by omega) (fun t h4 hO => ?_) (fun h4 => ?_)
        · obtain ⟨m, f, X, pc, fl, L, -⟩ := lkp_of hI ⟨k0, by omega⟩ h4
          have OU : Ev (d - 1) 74 [vR (some 26), vR (some t)] al hi hr (kon d 70 20 23 [vR (some 26), vI k, vR (some t)] [] Q) := by
            have NG : ¬ cgO s k (opA (T m) f pc) (agA (T m) f pc) → noG T s (k + 1) := fun z p z1 z2 z3 => by
              by_cases y : p = k
              · subst y; exact z (L.cg.mp z3.2)
              · exact hN p z1 (by omega) z3
            refine x5_outlook hR hO hP hBs L (by omega) (fun cg => ?_) (fun cg _ => ?_) (fun cg _ => ?_)
            · have E0 := q0 (fun z => z k k0 (by omega) ⟨h4, L.cg.mpr cg⟩)
              simp only [kon, knt_some, knt_none, Option.toList_some, Option.toList_none, List.cons_append, List.nil_append]
              refine s70_23.mpr ?_
              refine s70_24.mpr (wif (fun c24 => ?_) (fun c24 => ?_))
              · skip
                refine s70_27.mpr ?_
                refine (s70_28 (by first | assumption | omega)).mpr ?_
                exact E0
              · skip
                exact absurd rfl (by assumption)
            · have Z := NX (vR (some t)) (NG cg)
              simp only [kon, knt_some, knt_none, Option.toList_some, Option.toList_none, List.cons_append, List.nil_append]
              refine s70_23.mpr ?_
              refine s70_24.mpr (wif (fun c24 => ?_) (fun c24 => ?_))
              · skip
                exfalso; omega
              · skip
                exact Z
            · have Z := NX (vR (some t)) (NG cg)
              simp only [kon, knt_some, knt_none, Option.toList_some, Option.toList_none, List.cons_append, List.nil_append]
              refine s70_23.mpr ?_
              refine s70_24.mpr (wif (fun c24 => ?_) (fun c24 => ?_))
              · skip
                exfalso; omega
              · skip
                exact Z
          simp only [kon, knt_some, knt_none, Option.toList_some, Option.toList_none, List.cons_append, List.nil_append]
          refine s70_13.mpr (s70_14.mpr ?_)
          refine s70_15.mpr (wif (fun c15 => ?_) (fun c15 => ?_))
          · skip
            exfalso; simp at c15
          · skip
            refine s70_18.mpr (s70_19.mpr ?_)
            refine (s70_20 (by first | decide | assumption | omega) (by first | decide | assumption | omega)).mpr ?_
            exact OU
        · have Z := NX (vR none) (fun p z1 z2 z3 => by
            by_cases y : p = k
            · subst y; omega
            · exact hN p z1 (by omega) z3)
          simp only [kon, knt_some, knt_none, Option.toList_some, Option.toList_none, List.cons_append, List.nil_append]
          refine s70_13.mpr (s70_14.mpr ?_)
          refine s70_15.mpr (wif (fun c15 => ?_) (fun c15 => ?_))
          · skip
            exact Z
          · skip
            exact absurd rfl (by assumption)
      refine s70_2.mpr (s70_3.mpr ?_)
      refine s70_5.mpr (wif (fun c5 => ?_) (fun c5 => ?_))
      · first
        | (exfalso; omega)
        | skip
          refine s70_8.mpr (s70_9.mpr ?_)
          refine (s70_10 (by first | decide | assumption | omega) (by first | decide | assumption | omega)).mpr ?_
          exact LV
      · first
        | (exfalso; omega)
        | skip
          exfalso; omega
  rw [e70]
  have Z := T2 12 0 none (by decide) (by decide) (fun p z1 z2 => by omega)
  refine s70_0.mpr (s70_1.mpr ?_)
  exact Z
theorem x5_living (hR : RelC T NN al0 hi0 hr0 (fun _ => False) A al hi hr s) (hP : AllP s) (hBs : Bs T NN al0 hi0 hr0) (hI : INV T s) (hd : 3 ≤ d) (q : Q (some (some (vI (lvn s 12)))) al hi hr) : Ev d 69 [vR (some 26)] al hi hr Q := by
  have hA := hR.1.1
  have k26 : isK al 26 6 := hA.k (by decide) (by decide) rfl
  have T4 : ∀ (j : Nat) (k : Int) (K : Nat) (Y : Int), k = K → k + j = 12 → lvn s K = Y → Wp d 69 4 [vR (some 26), vI Y, vI k] [] al hi hr Q := by
    intro j
    induction j with
    | zero =>
      intro k K Y hk hj hY
      have ek : K = 12 := by omega
      subst ek
      rw [hY] at q
      refine s69_4.mpr (s69_5.mpr ?_)
      refine s69_7.mpr (wif (fun c7 => ?_) (fun c7 => ?_))
      · skip
        exfalso; omega
      · skip
        refine s69_27.mpr ?_
        refine (s69_28).mpr ?_
        exact q
    | succ j ih =>
      intro k K Y hk hj hY
      have NX := ih (k + 1) (K + 1) _ (by omega) (by omega) rfl
      have e2 : lvn s (K + 1) = Y + (if s 89 k < 4 then 1 else 0) := by rw [← hY, hk]; rfl
      have bY := lvn_b (s := s) K
      rw [hY] at bY
      rw [e2] at NX
      have LV : Ev (d - 1) 68 [vR (some 26), vI k] al hi hr (kon d 69 12 15 [vR (some 26), vI Y, vI k] [] Q) := by
        refine x5_livingAt hR hP ⟨by omega, by omega⟩ (by omega) (fun t h4 hO => ?_) (fun h4 => ?_)
        · rw [if_pos h4] at NX
          have T21 : Wp d 69 21 [vR (some 26), vI (Y + 1), vI k] [] al hi hr Q := by
            refine s69_21.mpr (s69_24.mpr ?_)
            try simp (disch := first | decide | assumption | omega) only [fAdd_id]
            exact NX
          simp only [kon, knt_some, knt_none, Option.toList_some, Option.toList_none, List.cons_append, List.nil_append]
          refine s69_15.mpr (wif (fun c15 => ?_) (fun c15 => ?_))
          · skip
            first | exact T21 | (cases ‹some t = none›)
          · skip
            refine s69_18.mpr ?_
            try simp (disch := first | decide | assumption | omega) only [fAdd_id]
            first | exact T21 | (cases ‹some t = none›)
        · rw [if_neg (by omega), Int.add_zero] at NX
          simp only [kon, knt_some, knt_none, Option.toList_some, Option.toList_none, List.cons_append, List.nil_append]
          refine s69_15.mpr (wif (fun c15 => ?_) (fun c15 => ?_))
          · skip
            refine s69_21.mpr (s69_24.mpr ?_)
            try simp (disch := first | decide | assumption | omega) only [fAdd_id]
            exact NX
          · skip
            exact absurd rfl (by assumption)
      refine s69_4.mpr (s69_5.mpr ?_)
      refine s69_7.mpr (wif (fun c7 => ?_) (fun c7 => ?_))
      · first
        | (exfalso; omega)
        | skip
          refine s69_10.mpr (s69_11.mpr ?_)
          refine (s69_12 (by first | decide | assumption | omega) (by first | decide | assumption | omega)).mpr ?_
          exact LV
      · first
        | (exfalso; omega)
        | skip
          exfalso; omega
  rw [e69]
  have Z := T4 12 0 0 0 rfl (by decide) rfl
  refine s69_0.mpr (s69_1.mpr (s69_2.mpr (s69_3.mpr ?_)))
  exact Z
theorem x4_channels (hR : RelC T NN al0 hi0 hr0 (fun _ => False) A al hi hr s) (hP : AllP s) (hBs : Bs T NN al0 hi0 hr0) (hI : INV T s) (q : Q (some (some (vI (chn s 12)))) al hi hr) : Ev d 42 [vR (some 33)] al hi hr Q := by
  have hA := hR.1.1
  have hC := hR.1.2.1
  have k33 : isK al 33 5 := hA.k (by decide) (by decide) rfl
  have K34 : isK al 34 16 := hA.k (by decide) (by decide) rfl
  have R34 : isR al 34 = true := hA.r (by decide) (by decide) (by decide)
  have l34 := SA.len (a := 34) (n := 24) hA (by decide) (by decide) rfl
  have g34 := cr_33_1 hC
  have O : ∀ e, 0 ≤ e → e < 24 → (hi 34 e = 0 ∨ hi 34 e = 1) ∧ (hi 34 e = 1 ↔ s 112 e ≠ -1) := fun e e0 e1 => by
    obtain ⟨z1, z2, -⟩ := hR.2.2.2.1.1.2.1 e e0 e1
    exact ⟨z1, fun y => (z2.mp y).1.2.2, fun y => z2.mpr ⟨⟨e0, e1, y⟩, id⟩⟩
  have T4 : ∀ (j : Nat) (k : Int) (K : Nat) (Y : Int), k = K → k + j = 12 → chn s K = Y → Wp d 42 4 [vR (some 33), vI Y, vI k] [] al hi hr Q := by
    intro j
    induction j with
    | zero =>
      intro k K Y hk hj hY
      have ek : K = 12 := by omega
      subst ek
      rw [hY] at q
      refine s42_4.mpr (s42_5.mpr ?_)
      refine s42_7.mpr (wif (fun c7 => ?_) (fun c7 => ?_))
      · skip
        exfalso; omega
      · skip
        refine s42_43.mpr ?_
        refine (s42_44).mpr ?_
        exact q
    | succ j ih =>
      intro k K Y hk hj hY
      have NX := ih (k + 1) (K + 1) _ (by omega) (by omega) rfl
      have e2 : chn s (K + 1) = Y + (if s 112 (2 * k) ≠ -1 ∨ s 112 (2 * k + 1) ≠ -1 then 1 else 0) := by rw [← hY, hk]; rfl
      have bY := chn_b (s := s) K
      rw [hY] at bY
      rw [e2] at NX
      obtain ⟨o1, o2⟩ := O (2 * k) (by omega) (by omega)
      obtain ⟨o3, o4⟩ := O (2 * k + 1) (by omega) (by omega)
      obtain ⟨x, hx⟩ : ∃ x, hi 34 (2 * k) = x := ⟨_, rfl⟩
      obtain ⟨y, hy⟩ : ∃ y, hi 34 (2 * k + 1) = y := ⟨_, rfl⟩
      rw [hx] at o1 o2
      rw [hy] at o3 o4
      have c2 : fMul 2 k = 2 * k := fMul_id (by omega) (by omega)
      have c3 : fAdd (2 * k) 1 = 2 * k + 1 := fAdd_id (by omega) (by omega)
      by_cases c : s 112 (2 * k) ≠ -1 ∨ s 112 (2 * k + 1) ≠ -1
      · rw [if_pos c] at NX
        have xy : x = 1 ∨ y = 1 := c.imp o2.mpr o4.mpr
        clear o2 o4 c ih
        have Z34 : Wp d 42 34 [vR (some 33), vI Y, vI k] [] al hi hr Q := by
          refine s42_34.mpr (s42_37.mpr (s42_40.mpr ?_))
          try simp (disch := first | decide | assumption | omega) only [fAdd_id]
          exact NX
        refine s42_4.mpr (s42_5.mpr ?_)
        refine s42_7.mpr (wif (fun c7 => ?_) (fun c7 => ?_))
        · first
          | (exfalso; omega)
          | skip
            refine s42_10.mpr ?_
            refine (s42_11 (by first | decide | assumption | omega)).mpr ?_
            refine s42_14.mpr (s42_15.mpr (s42_16.mpr ?_))
            try simp (disch := first | decide | assumption | omega) only [g34, c2, c3, hx, hy]
            refine (s42_17Z (by first | decide | assumption | omega) (by first | decide | assumption | omega) (by first | decide | assumption | omega)).mpr ?_
            try simp (disch := first | decide | assumption | omega) only [g34, c2, c3, hx, hy]
            refine s42_18.mpr (wif (fun c18 => ?_) (fun c18 => ?_))
            · first
              | (exfalso; omega)
              | skip
                refine s42_21.mpr ?_
                refine (s42_22 (by first | decide | assumption | omega)).mpr ?_
                refine s42_25.mpr (s42_26.mpr (s42_27.mpr (s42_28.mpr (s42_29.mpr ?_))))
                try simp (disch := first | decide | assumption | omega) only [g34, c2, c3, hx, hy]
                refine (s42_30Z (by first | decide | assumption | omega) (by first | decide | assumption | omega) (by first | decide | assumption | omega)).mpr ?_
                try simp (disch := first | decide | assumption | omega) only [g34, c2, c3, hx, hy]
                refine s42_31.mpr (wif (fun c31 => ?_) (fun c31 => ?_))
                · first
                  | (exfalso; omega)
                  | skip
                    exfalso; omega
                · first
                  | (exfalso; omega)
                  | skip
                    exact Z34
            · first
              | (exfalso; omega)
              | skip
                exact Z34
        · first
          | (exfalso; omega)
          | skip
            exfalso; omega
      · rw [if_neg c, Int.add_zero] at NX
        have xy : x = 0 ∧ y = 0 := by
          refine ⟨?_, ?_⟩
          · rcases o1 with z | z
            · exact z
            · exact absurd (Or.inl (o2.mp z)) c
          · rcases o3 with z | z
            · exact z
            · exact absurd (Or.inr (o4.mp z)) c
        clear o2 o4 c ih o1 o3
        refine s42_4.mpr (s42_5.mpr ?_)
        refine s42_7.mpr (wif (fun c7 => ?_) (fun c7 => ?_))
        · first
          | (exfalso; omega)
          | skip
            refine s42_10.mpr ?_
            refine (s42_11 (by first | decide | assumption | omega)).mpr ?_
            refine s42_14.mpr (s42_15.mpr (s42_16.mpr ?_))
            try simp (disch := first | decide | assumption | omega) only [g34, c2, c3, hx, hy, fAdd_id]
            refine (s42_17Z (by first | decide | assumption | omega) (by first | decide | assumption | omega) (by first | decide | assumption | omega)).mpr ?_
            try simp (disch := first | decide | assumption | omega) only [g34, c2, c3, hx, hy, fAdd_id]
            refine s42_18.mpr (wif (fun c18 => ?_) (fun c18 => ?_))
            · first
              | (exfalso; omega)
              | skip
                refine s42_21.mpr ?_
                refine (s42_22 (by first | decide | assumption | omega)).mpr ?_
                refine s42_25.mpr (s42_26.mpr (s42_27.mpr (s42_28.mpr (s42_29.mpr ?_))))
                try simp (disch := first | decide | assumption | omega) only [g34, c2, c3, hx, hy, fAdd_id]
                refine (s42_30Z (by first | decide | assumption | omega) (by first | decide | assumption | omega) (by first | decide | assumption | omega)).mpr ?_
                try simp (disch := first | decide | assumption | omega) only [g34, c2, c3, hx, hy, fAdd_id]
                refine s42_31.mpr (wif (fun c31 => ?_) (fun c31 => ?_))
                · first
                  | (exfalso; omega)
                  | skip
                    refine s42_37.mpr (s42_40.mpr ?_)
                    try simp (disch := first | decide | assumption | omega) only [g34, c2, c3, hx, hy, fAdd_id]
                    exact NX
                · first
                  | (exfalso; omega)
                  | skip
                    exfalso; omega
            · first
              | (exfalso; omega)
              | skip
                exfalso; omega
        · first
          | (exfalso; omega)
          | skip
            exfalso; omega
  rw [e42]
  have Z := T4 12 0 0 0 rfl (by decide) rfl
  refine s42_0.mpr (s42_1.mpr (s42_2.mpr (s42_3.mpr ?_)))
  exact Z
theorem x_about (hR : RelC T NN al0 hi0 hr0 (fun _ => False) A al hi hr s) (hP : AllP s) (hBs : Bs T NN al0 hi0 hr0) (hI : INV T s) (hd : 10 ≤ d) (q : ∀ v, AbA T s w v → Q (some (some (vI v))) al hi hr) : Ev d 194 [vR (some 2), vI w] al hi hr Q := by
  have hA := hR.1.1
  have hC := hR.1.2.1
  have k2 : isK al 2 12 := hA.k (by decide) (by decide) rfl
  have k26 : isK al 26 6 := hA.k (by decide) (by decide) rfl
  have k29 : isK al 29 1 := hA.k (by decide) (by decide) rfl
  have k33 : isK al 33 5 := hA.k (by decide) (by decide) rfl
  have g8 := cr_2_8 hC
  have g3 := cr_26_3 hC
  have g4 := cr_26_4 hC
  have m0 : hi 26 0 = 1 := hR.2.1.1
  have m8 : hi 26 8 = s 49 55 := hR.2.1.2.1
  have m9 : hi 26 9 = s 49 52 := hR.2.1.2.2.1
  have b3 : hi 29 3 = bcn s 128 := hR.2.2.1.2.1
  have b4 : hi 29 4 = bcl s 128 := hR.2.2.1.2.2
  obtain ⟨y4, hy4⟩ : ∃ y, bcn s 128 = y := ⟨_, rfl⟩
  obtain ⟨y5, hy5⟩ : ∃ y, bcl s 128 = y := ⟨_, rfl⟩
  rw [hy4] at b3
  rw [hy5] at b4
  have Q4 : w = 4 → AbA T s w y4 := fun z => by rw [← hy4]; exact AbA_4 z
  have Q5 : w = 5 → AbA T s w y5 := fun z => by rw [← hy5]; exact AbA_5 z
  have IS : w = 1 → Ev (d - 1) 70 [vR (some 26)] al hi hr (kon d 194 68 71 [vR (some 2), vI w] [] Q) := fun hw => by
    refine x5_isStill hR hP hBs hI (by omega) (fun z => ?_) (fun z => ?_)
    · have E0 := q 1 (AbA_1 hw z)
      simp only [kon, knt_some, knt_none, Option.toList_some, Option.toList_none, List.cons_append, List.nil_append]
      refine s194_71.mpr (wif (fun c71 => ?_) (fun c71 => ?_))
      · skip
        exact absurd ‹(1 : Int) = 0› (by decide)
      · skip
        refine s194_74.mpr (s194_75.mpr ?_)
        refine (s194_79).mpr ?_
        exact E0
    · have E0 := q 0 (AbA_1n hw z)
      simp only [kon, knt_some, knt_none, Option.toList_some, Option.toList_none, List.cons_append, List.nil_append]
      refine s194_71.mpr (wif (fun c71 => ?_) (fun c71 => ?_))
      · skip
        refine s194_78.mpr ?_
        refine (s194_79).mpr ?_
        exact E0
      · skip
        exact absurd rfl (by assumption)
  have LI : w = 2 → Ev (d - 1) 69 [vR (some 26)] al hi hr (kon d 194 84 87 [vR (some 2), vI w] [] Q) := fun hw => by
    refine x5_living hR hP hBs hI (by omega) ?_
    have E0 := q _ (AbA_2 (T := T) (s := s) hw)
    simp only [kon, knt_some, knt_none, Option.toList_some, Option.toList_none, List.cons_append, List.nil_append]
    refine (s194_87).mpr ?_
    exact E0
  have CH : w = 3 → Ev (d - 1) 42 [vR (some 33)] al hi hr (kon d 194 95 98 [vR (some 2), vI w] [] Q) := fun hw => by
    refine x4_channels hR hP hBs hI ?_
    have E0 := q _ (AbA_3 (T := T) (s := s) hw)
    simp only [kon, knt_some, knt_none, Option.toList_some, Option.toList_none, List.cons_append, List.nil_append]
    refine (s194_98).mpr ?_
    exact E0
  rw [e194]
  refine s194_0.mpr ?_
  refine (s194_1 (by first | decide | assumption | omega)).mpr ?_
  try simp (disch := first | decide | assumption | omega) only [g8, g3, g4, m0, m8, m9, b3, b4]
  refine (s194_4 (by first | decide | assumption | omega)).mpr ?_
  try simp (disch := first | decide | assumption | omega) only [g8, g3, g4, m0, m8, m9, b3, b4]
  refine s194_7.mpr (wif (fun c7 => ?_) (fun c7 => ?_))
  · skip
    exact absurd ‹(1 : Int) = 0› (by decide)
  · skip
    refine s194_12.mpr ?_
    refine g194_13 (fun c13 => ?_) (fun c13 => ?_) (fun c13 => ?_) (fun c13 => ?_) (fun c13 => ?_) (fun c13 => ?_) (fun c13 => ?_) (fun c13 => ?_)
    · skip
      have c13 := List.mem_singleton.mp c13
      refine s194_56.mpr ?_
      refine (s194_57 (by first | decide | assumption | omega)).mpr ?_
      try simp (disch := first | decide | assumption | omega) only [g8, g3, g4, m0, m8, m9, b3, b4]
      refine (s194_60 (by first | decide | assumption | omega)).mpr ?_
      try simp (disch := first | decide | assumption | omega) only [g8, g3, g4, m0, m8, m9, b3, b4]
      refine (s194_63).mpr ?_
      first | exact q _ (AbA_0 c13) | exact q _ (Q4 c13) | exact q _ (Q5 c13) | exact q _ (AbA_6 c13) | exact q _ (AbA_n c13)
    · skip
      have c13 := List.mem_singleton.mp c13
      refine s194_64.mpr ?_
      refine (s194_65 (by first | decide | assumption | omega)).mpr ?_
      try simp (disch := first | decide | assumption | omega) only [g8, g3, g4, m0, m8, m9, b3, b4]
      refine (s194_68 (by first | decide | assumption | omega) (by first | decide | assumption | omega)).mpr ?_
      exact IS c13
    · skip
      have c13 := List.mem_singleton.mp c13
      refine s194_80.mpr ?_
      refine (s194_81 (by first | decide | assumption | omega)).mpr ?_
      try simp (disch := first | decide | assumption | omega) only [g8, g3, g4, m0, m8, m9, b3, b4]
      refine (s194_84 (by first | decide | assumption | omega) (by first | decide | assumption | omega)).mpr ?_
      exact LI c13
    · skip
      have c13 := List.mem_singleton.mp c13
      refine s194_88.mpr ?_
      refine (s194_89 (by first | decide | assumption | omega)).mpr ?_
      try simp (disch := first | decide | assumption | omega) only [g8, g3, g4, m0, m8, m9, b3, b4]
      refine (s194_92 (by first | decide | assumption | omega)).mpr ?_
      try simp (disch := first | decide | assumption | omega) only [g8, g3, g4, m0, m8, m9, b3, b4]
      refine (s194_95 (by first | decide | assumption | omega) (by first | decide | assumption | omega)).mpr ?_
      exact CH c13
    · skip
      have c13 := List.mem_singleton.mp c13
      refine s194_99.mpr ?_
      refine (s194_100 (by first | decide | assumption | omega)).mpr ?_
      try simp (disch := first | decide | assumption | omega) only [g8, g3, g4, m0, m8, m9, b3, b4]
      refine (s194_103 (by first | decide | assumption | omega)).mpr ?_
      try simp (disch := first | decide | assumption | omega) only [g8, g3, g4, m0, m8, m9, b3, b4]
      refine (s194_106 (by first | decide | assumption | omega)).mpr ?_
      try simp (disch := first | decide | assumption | omega) only [g8, g3, g4, m0, m8, m9, b3, b4]
      refine (s194_109).mpr ?_
      first | exact q _ (AbA_0 c13) | exact q _ (Q4 c13) | exact q _ (Q5 c13) | exact q _ (AbA_6 c13) | exact q _ (AbA_n c13)
    · skip
      have c13 := List.mem_singleton.mp c13
      refine s194_110.mpr ?_
      refine (s194_111 (by first | decide | assumption | omega)).mpr ?_
      try simp (disch := first | decide | assumption | omega) only [g8, g3, g4, m0, m8, m9, b3, b4]
      refine (s194_114 (by first | decide | assumption | omega)).mpr ?_
      try simp (disch := first | decide | assumption | omega) only [g8, g3, g4, m0, m8, m9, b3, b4]
      refine (s194_117 (by first | decide | assumption | omega)).mpr ?_
      try simp (disch := first | decide | assumption | omega) only [g8, g3, g4, m0, m8, m9, b3, b4]
      refine (s194_120).mpr ?_
      first | exact q _ (AbA_0 c13) | exact q _ (Q4 c13) | exact q _ (Q5 c13) | exact q _ (AbA_6 c13) | exact q _ (AbA_n c13)
    · skip
      have c13 := List.mem_singleton.mp c13
      refine s194_121.mpr ?_
      refine (s194_122 (by first | decide | assumption | omega)).mpr ?_
      try simp (disch := first | decide | assumption | omega) only [g8, g3, g4, m0, m8, m9, b3, b4]
      refine (s194_125 (by first | decide | assumption | omega)).mpr ?_
      try simp (disch := first | decide | assumption | omega) only [g8, g3, g4, m0, m8, m9, b3, b4]
      refine (s194_128).mpr ?_
      first | exact q _ (AbA_0 c13) | exact q _ (Q4 c13) | exact q _ (Q5 c13) | exact q _ (AbA_6 c13) | exact q _ (AbA_n c13)
    · skip
      refine s194_129.mpr ?_
      refine (s194_130).mpr ?_
      first | exact q _ (AbA_0 c13) | exact q _ (Q4 c13) | exact q _ (Q5 c13) | exact q _ (AbA_6 c13) | exact q _ (AbA_n c13)
theorem x_aboutU (hA : SA al) (hC : CR hr) (m0 : hi 26 0 = 0) (q : Q (some (some (vI (-1)))) al hi hr) : Ev d 194 [vR (some 2), vI w] al hi hr Q := by
  have k2 : isK al 2 12 := hA.k (by decide) (by decide) rfl
  have k26 : isK al 26 6 := hA.k (by decide) (by decide) rfl
  have g8 := cr_2_8 hC
  rw [e194]
  refine s194_0.mpr ?_
  refine (s194_1 (by first | decide | assumption | omega)).mpr ?_
  try simp (disch := first | decide | assumption | omega) only [g8, m0]
  refine (s194_4 (by first | decide | assumption | omega)).mpr ?_
  try simp (disch := first | decide | assumption | omega) only [g8, m0]
  refine s194_7.mpr (wif (fun c7 => ?_) (fun c7 => ?_))
  · skip
    refine s194_10.mpr ?_
    refine (s194_11).mpr ?_
    exact q
  · skip
    exact absurd rfl (by assumption)
/-- output -/
theorem x_output (hR : RelC T NN al0 hi0 hr0 (fun _ => False) A al hi hr s) (hP : AllP s) (hBs : Bs T NN al0 hi0 hr0) (hI : INV T s) (q : Q (some (some (vI (ouF s i w)))) al hi hr) : Ev d 199 [vR (some 2), vI i, vI w] al hi hr Q := by
  have hA := hR.1.1
  have hC := hR.1.2.1
  have k2 : isK al 2 12 := hA.k (by decide) (by decide) rfl
  have k26 : isK al 26 6 := hA.k (by decide) (by decide) rfl
  have R44 : isR al 44 = true := hA.r (by decide) (by decide) (by decide)
  have R45 : isR al 45 = true := hA.r (by decide) (by decide) (by decide)
  have K44 : isK al 44 15 := hA.k (by decide) (by decide) rfl
  have K45 : isK al 45 15 := hA.k (by decide) (by decide) rfl
  have l44 := SA.len (a := 44) (n := 500) hA (by decide) (by decide) rfl
  have l45 := SA.len (a := 45) (n := 500) hA (by decide) (by decide) rfl
  have g8 := cr_2_8 hC
  have g6 := cr_26_6 hC
  have g7 := cr_26_7 hC
  have m0 : hi 26 0 = 1 := hR.2.1.1
  have m8 : hi 26 8 = s 49 55 := hR.2.1.2.1
  have g5 := hI.2.1.2.2.2.1
  unfold ouF at q
  rw [e199]
  by_cases k : 0 ≤ i ∧ i < s 49 55
  case neg =>
    rw [if_pos k] at q
    refine s199_0.mpr ?_
    refine (s199_1 (by first | decide | assumption | omega)).mpr ?_
    try simp (disch := first | decide | assumption | omega) only [g8, m0, m8]
    refine (s199_4 (by first | decide | assumption | omega)).mpr ?_
    try simp (disch := first | decide | assumption | omega) only [g8, m0, m8]
    refine s199_7.mpr (wif (fun c7 => ?_) (fun c7 => ?_))
    · first
      | (exfalso; omega)
      | skip
        refine s199_25.mpr ?_
        refine (s199_26).mpr ?_
        exact q
    · first
      | (exfalso; omega)
      | skip
        refine s199_10.mpr ?_
        refine s199_11.mpr (wif (fun c11 => ?_) (fun c11 => ?_))
        · first
          | (exfalso; omega)
          | skip
            refine s199_25.mpr ?_
            refine (s199_26).mpr ?_
            exact q
        · first
          | (exfalso; omega)
          | skip
            refine s199_14.mpr (s199_15.mpr ?_)
            refine (s199_16 (by first | decide | assumption | omega)).mpr ?_
            try simp (disch := first | decide | assumption | omega) only [g8, m0, m8]
            refine (s199_19 (by first | decide | assumption | omega)).mpr ?_
            try simp (disch := first | decide | assumption | omega) only [g8, m0, m8]
            refine s199_22.mpr (wif (fun c22 => ?_) (fun c22 => ?_))
            · first
              | (exfalso; omega)
              | skip
                exfalso; omega
            · first
              | (exfalso; omega)
              | skip
                refine s199_25.mpr ?_
                refine (s199_26).mpr ?_
                exact q
  rw [if_neg (fun z => z k)] at q
  obtain ⟨e1, e2⟩ := hR.2.1.2.2.2.2.2.2 i k.1 k.2
  by_cases w0 : w = 0
  · rw [if_pos w0] at q
    refine s199_0.mpr ?_
    refine (s199_1 (by first | decide | assumption | omega)).mpr ?_
    try simp (disch := first | decide | assumption | omega) only [g8, g6, m0, m8, e1]
    refine (s199_4 (by first | decide | assumption | omega)).mpr ?_
    try simp (disch := first | decide | assumption | omega) only [g8, g6, m0, m8, e1]
    refine s199_7.mpr (wif (fun c7 => ?_) (fun c7 => ?_))
    · first
      | (exfalso; omega)
      | skip
        exfalso; omega
    · first
      | (exfalso; omega)
      | skip
        refine s199_10.mpr ?_
        refine s199_11.mpr (wif (fun c11 => ?_) (fun c11 => ?_))
        · first
          | (exfalso; omega)
          | skip
            exfalso; omega
        · first
          | (exfalso; omega)
          | skip
            refine s199_14.mpr (s199_15.mpr ?_)
            refine (s199_16 (by first | decide | assumption | omega)).mpr ?_
            try simp (disch := first | decide | assumption | omega) only [g8, g6, m0, m8, e1]
            refine (s199_19 (by first | decide | assumption | omega)).mpr ?_
            try simp (disch := first | decide | assumption | omega) only [g8, g6, m0, m8, e1]
            refine s199_22.mpr (wif (fun c22 => ?_) (fun c22 => ?_))
            · first
              | (exfalso; omega)
              | skip
                refine s199_27.mpr ?_
                refine s199_28.mpr (wif (fun c28 => ?_) (fun c28 => ?_))
                · first
                  | (exfalso; omega)
                  | skip
                    refine s199_31.mpr ?_
                    refine (s199_32 (by first | decide | assumption | omega)).mpr ?_
                    try simp (disch := first | decide | assumption | omega) only [g8, g6, m0, m8, e1]
                    refine (s199_35 (by first | decide | assumption | omega)).mpr ?_
                    refine s199_38.mpr ?_
                    try simp (disch := first | decide | assumption | omega) only [g8, g6, m0, m8, e1]
                    refine (s199_39 (by first | decide | assumption | omega) (by first | decide | assumption | omega) (by first | decide | assumption | omega)).mpr ?_
                    try simp (disch := first | decide | assumption | omega) only [g8, g6, m0, m8, e1]
                    refine (s199_40).mpr ?_
                    exact q
                · first
                  | (exfalso; omega)
                  | skip
                    exfalso; omega
            · first
              | (exfalso; omega)
              | skip
                exfalso; omega
  rw [if_neg w0] at q
  by_cases w1 : w = 1
  · rw [if_pos w1] at q
    refine s199_0.mpr ?_
    refine (s199_1 (by first | decide | assumption | omega)).mpr ?_
    try simp (disch := first | decide | assumption | omega) only [g8, g7, m0, m8, e2]
    refine (s199_4 (by first | decide | assumption | omega)).mpr ?_
    try simp (disch := first | decide | assumption | omega) only [g8, g7, m0, m8, e2]
    refine s199_7.mpr (wif (fun c7 => ?_) (fun c7 => ?_))
    · first
      | (exfalso; omega)
      | skip
        exfalso; omega
    · first
      | (exfalso; omega)
      | skip
        refine s199_10.mpr ?_
        refine s199_11.mpr (wif (fun c11 => ?_) (fun c11 => ?_))
        · first
          | (exfalso; omega)
          | skip
            exfalso; omega
        · first
          | (exfalso; omega)
          | skip
            refine s199_14.mpr (s199_15.mpr ?_)
            refine (s199_16 (by first | decide | assumption | omega)).mpr ?_
            try simp (disch := first | decide | assumption | omega) only [g8, g7, m0, m8, e2]
            refine (s199_19 (by first | decide | assumption | omega)).mpr ?_
            try simp (disch := first | decide | assumption | omega) only [g8, g7, m0, m8, e2]
            refine s199_22.mpr (wif (fun c22 => ?_) (fun c22 => ?_))
            · first
              | (exfalso; omega)
              | skip
                refine s199_27.mpr ?_
                refine s199_28.mpr (wif (fun c28 => ?_) (fun c28 => ?_))
                · first
                  | (exfalso; omega)
                  | skip
                    exfalso; omega
                · first
                  | (exfalso; omega)
                  | skip
                    refine s199_41.mpr (s199_42.mpr ?_)
                    refine s199_43.mpr (wif (fun c43 => ?_) (fun c43 => ?_))
                    · first
                      | (exfalso; omega)
                      | skip
                        refine s199_46.mpr ?_
                        refine (s199_47 (by first | decide | assumption | omega)).mpr ?_
                        try simp (disch := first | decide | assumption | omega) only [g8, g7, m0, m8, e2]
                        refine (s199_50 (by first | decide | assumption | omega)).mpr ?_
                        refine s199_53.mpr ?_
                        try simp (disch := first | decide | assumption | omega) only [g8, g7, m0, m8, e2]
                        refine (s199_54 (by first | decide | assumption | omega) (by first | decide | assumption | omega) (by first | decide | assumption | omega)).mpr ?_
                        refine s199_55.mpr ?_
                        try simp (disch := first | decide | assumption | omega) only [g8, g7, m0, m8, e2]
                        refine (s199_59).mpr ?_
                        exact q
                    · first
                      | (exfalso; omega)
                      | skip
                        exfalso; omega
            · first
              | (exfalso; omega)
              | skip
                exfalso; omega
  · rw [if_neg w1] at q
    refine s199_0.mpr ?_
    refine (s199_1 (by first | decide | assumption | omega)).mpr ?_
    try simp (disch := first | decide | assumption | omega) only [g8, m0, m8]
    refine (s199_4 (by first | decide | assumption | omega)).mpr ?_
    try simp (disch := first | decide | assumption | omega) only [g8, m0, m8]
    refine s199_7.mpr (wif (fun c7 => ?_) (fun c7 => ?_))
    · first
      | (exfalso; omega)
      | skip
        exfalso; omega
    · first
      | (exfalso; omega)
      | skip
        refine s199_10.mpr ?_
        refine s199_11.mpr (wif (fun c11 => ?_) (fun c11 => ?_))
        · first
          | (exfalso; omega)
          | skip
            exfalso; omega
        · first
          | (exfalso; omega)
          | skip
            refine s199_14.mpr (s199_15.mpr ?_)
            refine (s199_16 (by first | decide | assumption | omega)).mpr ?_
            try simp (disch := first | decide | assumption | omega) only [g8, m0, m8]
            refine (s199_19 (by first | decide | assumption | omega)).mpr ?_
            try simp (disch := first | decide | assumption | omega) only [g8, m0, m8]
            refine s199_22.mpr (wif (fun c22 => ?_) (fun c22 => ?_))
            · first
              | (exfalso; omega)
              | skip
                refine s199_27.mpr ?_
                refine s199_28.mpr (wif (fun c28 => ?_) (fun c28 => ?_))
                · first
                  | (exfalso; omega)
                  | skip
                    exfalso; omega
                · first
                  | (exfalso; omega)
                  | skip
                    refine s199_41.mpr (s199_42.mpr ?_)
                    refine s199_43.mpr (wif (fun c43 => ?_) (fun c43 => ?_))
                    · first
                      | (exfalso; omega)
                      | skip
                        exfalso; omega
                    · first
                      | (exfalso; omega)
                      | skip
                        refine s199_58.mpr ?_
                        refine (s199_59).mpr ?_
                        exact q
            · first
              | (exfalso; omega)
              | skip
                exfalso; omega
theorem x_outputU (hA : SA al) (hC : CR hr) (m0 : hi 26 0 = 0) (q : Q (some (some (vI (-1)))) al hi hr) : Ev d 199 [vR (some 2), vI i, vI w] al hi hr Q := by
  have k2 : isK al 2 12 := hA.k (by decide) (by decide) rfl
  have k26 : isK al 26 6 := hA.k (by decide) (by decide) rfl
  have g8 := cr_2_8 hC
  rw [e199]
  refine s199_0.mpr ?_
  refine (s199_1 (by first | decide | assumption | omega)).mpr ?_
  try simp (disch := first | decide | assumption | omega) only [g8, m0]
  refine (s199_4 (by first | decide | assumption | omega)).mpr ?_
  try simp (disch := first | decide | assumption | omega) only [g8, m0]
  refine s199_7.mpr (wif (fun c7 => ?_) (fun c7 => ?_))
  · skip
    refine s199_25.mpr ?_
    refine (s199_26).mpr ?_
    exact q
  · skip
    exact absurd rfl (by assumption)
end FB0
