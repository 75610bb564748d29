/-! FACES: block, channel; the class -/
section FB2
variable {d : Nat} {Q : QQ} {T : TXs} {al : AL} {hi : HI} {hr : HR} {s : HI} {A : Int → Int → Int} {NN : Int → Option Nat} {p m f w v i b c e n x : Int} {t : Nat} {al0 : AL} {hi0 : HI} {hr0 : HR} {E : Int → Prop} {X : Tst}
theorem b_sizeOf0 (hA : SA al) (hC : CR hr) (h0 : 0 ≤ b → b < 128 → hi 30 b = 0) (q : Q (some (some (vI 0))) al hi hr) : Ev d 3 [vR (some 29), vI b] al hi hr Q := by
  have k29 : isK al 29 1 := hA.k (by decide) (by decide) rfl; have R30 : isR al 30 = true := hA.r (by decide) (by decide) (by decide); have R31 : isR al 31 = true := hA.r (by decide) (by decide) (by decide); have K31 : isK al 31 15 := hA.k (by decide) (by decide) rfl; have g30 := cr_29_0 hC; have g31 := cr_29_1 hC
  have K30 : isK al 30 15 := hA.k (by decide) (by decide) rfl
  have l30 := SA.len (a := 30) (n := 128) hA (by decide) (by decide) rfl
  rw [e3]
  by_cases c : 0 ≤ b ∧ b < 128
  · have h0 := h0 c.1 c.2
    refine s3_0.mpr ?_
    refine s3_1.mpr (wif (fun c1 => ?_) (fun c1 => ?_))
    · skip
      exfalso; omega
    · skip
      refine s3_4.mpr (s3_5.mpr ?_)
      refine s3_8.mpr (wif (fun c8 => ?_) (fun c8 => ?_))
      · skip
        refine s3_15.mpr ?_
        refine (s3_16 (by first | decide | assumption | omega)).mpr ?_
        refine s3_19.mpr ?_
        try simp (disch := first | decide | assumption | omega) only [g30, h0]
        refine (s3_20 (by first | decide | assumption | omega) (by first | decide | assumption | omega) (by first | decide | assumption | omega)).mpr ?_
        try simp (disch := first | decide | assumption | omega) only [g30, h0]
        refine (s3_21).mpr ?_
        exact q
      · skip
        exfalso; omega
  · skip
    refine s3_0.mpr ?_
    refine s3_1.mpr (wif (fun c1 => ?_) (fun c1 => ?_))
    · skip
      refine s3_11.mpr (s3_12.mpr ?_)
      refine (s3_21).mpr ?_
      exact q
    · skip
      refine s3_4.mpr (s3_5.mpr ?_)
      refine s3_8.mpr (wif (fun c8 => ?_) (fun c8 => ?_))
      · skip
        exfalso; omega
      · skip
        refine s3_11.mpr (s3_12.mpr ?_)
        refine (s3_21).mpr ?_
        exact q
theorem x_block0 (hA : SA al) (hC : CR hr) (hd : 1 ≤ d) (h0 : 0 ≤ b → b < 128 → hi 30 b = 0) (q : Q (some (some (vI (-1)))) al hi hr) : Ev d 197 [vR (some 2), vI b, vI w] al hi hr Q := by
  have k2 : isK al 2 12 := hA.k (by decide) (by decide) rfl
  have k26 : isK al 26 6 := hA.k (by decide) (by decide) rfl
  have k29 : isK al 29 1 := hA.k (by decide) (by decide) rfl
  have g8 := cr_2_8 hC
  have g3 := cr_26_3 hC
  rw [e197]
  refine s197_0.mpr ?_
  refine (s197_1 (by first | decide | assumption | omega)).mpr ?_
  try simp (disch := first | decide | assumption | omega) only [g8, g3]
  refine (s197_4 (by first | decide | assumption | omega)).mpr ?_
  refine s197_7.mpr ?_
  try simp (disch := first | decide | assumption | omega) only [g8, g3]
  refine (s197_8 (by first | decide | assumption | omega) (by first | decide | assumption | omega)).mpr ?_
  refine b_sizeOf0 hA hC h0 ?_
  simp only [kon, knt_some, knt_none, Option.toList_some, Option.toList_none, List.cons_append, List.nil_append]
  refine s197_11.mpr (s197_12.mpr ?_)
  refine s197_13.mpr (wif (fun c13 => ?_) (fun c13 => ?_))
  · skip
    refine s197_16.mpr ?_
    refine (s197_17).mpr ?_
    exact q
  · skip
    exact absurd rfl (by assumption)
theorem x_block (hR : RelC T NN al0 hi0 hr0 (fun _ => False) A al hi hr s) (hP : AllP s) (hBs : Bs T NN al0 hi0 hr0) (hI : INV T s) (hd : 3 ≤ d) (hw : w ≤ 2147483647) (q : Q (some (some (vI (blF s b w)))) al hi hr) : Ev d 197 [vR (some 2), vI b, vI w] al hi hr Q := by
  have hA := hR.1.1
  have hC := hR.1.2.1
  have k2 : isK al 2 12 := hA.k (by decide) (by decide) rfl
  have k26 : isK al 26 6 := hA.k (by decide) (by decide) rfl
  have g8 := cr_2_8 hC
  have g3 := cr_26_3 hC
  have k29 : isK al 29 1 := hA.k (by decide) (by decide) rfl; have R30 : isR al 30 = true := hA.r (by decide) (by decide) (by decide); have R31 : isR al 31 = true := hA.r (by decide) (by decide) (by decide); have K31 : isK al 31 15 := hA.k (by decide) (by decide) rfl; have g30 := cr_29_0 hC; have g31 := cr_29_1 hC
  have l31 := SA.len (a := 31) (n := 128) hA (by decide) (by decide) rfl
  unfold blF at q
  by_cases c : (0 ≤ b ∧ b < 128) ∧ s 109 b ≠ -1
  case neg =>
    rw [if_pos c] at q
    refine x_block0 hA hC (by omega) (fun b0 b1 => ?_) q
    rw [(hR.2.2.1.1 b b0 b1).1, if_pos]
    apply Classical.byContradiction
    intro z; exact c ⟨⟨b0, b1⟩, z⟩
  rw [if_neg (fun z => z c)] at q
  obtain ⟨⟨b0, b1⟩, c9⟩ := c
  have g := hI.2.1.2.2.2.2.2.2.1 b b0 b1
  obtain ⟨e1, e2⟩ := hR.2.2.1.1 b b0 b1
  rw [if_neg c9] at e1
  obtain ⟨e2, e3⟩ := e2 c9
  have g : 1 ≤ s 109 b ∧ s 109 b ≤ 6 := by omega
  have SZ : ∀ (d : Nat) (Q' : QQ), Q' (some (some (vI (s 109 b)))) al hi hr → Ev d 3 [vR (some 29), vI b] al hi hr Q' := fun d Q' z => b_sizeOf hA hC ⟨b0, b1⟩ (by rw [e1]; exact z)
  rw [e197]
  by_cases w0 : w = 0
  · rw [if_pos w0] at q
    refine s197_0.mpr ?_
    refine (s197_1 (by first | decide | assumption | omega)).mpr ?_
    try simp (disch := first | decide | assumption | omega) only [g8, g3]
    refine (s197_4 (by first | decide | assumption | omega)).mpr ?_
    refine s197_7.mpr ?_
    try simp (disch := first | decide | assumption | omega) only [g8, g3]
    refine (s197_8 (by first | decide | assumption | omega) (by first | decide | assumption | omega)).mpr ?_
    refine SZ _ _ ?_
    simp only [kon, knt_some, knt_none, Option.toList_some, Option.toList_none, List.cons_append, List.nil_append]
    refine s197_11.mpr (s197_12.mpr ?_)
    refine s197_13.mpr (wif (fun c13 => ?_) (fun c13 => ?_))
    · skip
      exfalso; omega
    · skip
      refine s197_18.mpr ?_
      refine s197_19.mpr (wif (fun c19 => ?_) (fun c19 => ?_))
      · skip
        refine s197_22.mpr ?_
        refine (s197_23).mpr ?_
        exact q
      · skip
        exfalso; omega
  rw [if_neg w0] at q
  by_cases w1 : w = 1
  · rw [if_pos w1] at q
    have OW : ∀ Q' : QQ, Q' (some (some (vI (s 110 b)))) al hi hr → Ev (d - 1) 4 [vR (some 29), vI b] al hi hr Q' := fun Q' z => by
      rw [e4]
      refine s4_0.mpr (s4_1.mpr ?_)
      refine (s4_2 (by first | decide | assumption | omega) (by first | decide | assumption | omega)).mpr ?_
      refine SZ _ _ ?_
      simp only [kon, knt_some, knt_none, Option.toList_some, Option.toList_none, List.cons_append, List.nil_append]
      refine s4_5.mpr (wif (fun c5 => ?_) (fun c5 => ?_))
      · skip
        exfalso; omega
      · skip
        refine s4_12.mpr ?_
        refine (s4_13 (by first | decide | assumption | omega)).mpr ?_
        refine s4_16.mpr ?_
        try simp (disch := first | decide | assumption | omega) only [g31, e2]
        refine (s4_17 (by first | decide | assumption | omega) (by first | decide | assumption | omega) (by first | decide | assumption | omega)).mpr ?_
        try simp (disch := first | decide | assumption | omega) only [g31, e2]
        refine (s4_18).mpr ?_
        exact z
    refine s197_0.mpr ?_
    refine (s197_1 (by first | decide | assumption | omega)).mpr ?_
    try simp (disch := first | decide | assumption | omega) only [g8, g3]
    refine (s197_4 (by first | decide | assumption | omega)).mpr ?_
    refine s197_7.mpr ?_
    try simp (disch := first | decide | assumption | omega) only [g8, g3]
    refine (s197_8 (by first | decide | assumption | omega) (by first | decide | assumption | omega)).mpr ?_
    refine SZ _ _ ?_
    simp only [kon, knt_some, knt_none, Option.toList_some, Option.toList_none, List.cons_append, List.nil_append]
    refine s197_11.mpr (s197_12.mpr ?_)
    refine s197_13.mpr (wif (fun c13 => ?_) (fun c13 => ?_))
    · skip
      exfalso; omega
    · skip
      refine s197_18.mpr ?_
      refine s197_19.mpr (wif (fun c19 => ?_) (fun c19 => ?_))
      · skip
        exfalso; omega
      · skip
        refine s197_24.mpr (s197_25.mpr ?_)
        refine s197_26.mpr (wif (fun c26 => ?_) (fun c26 => ?_))
        · skip
          refine s197_29.mpr ?_
          refine (s197_30 (by first | decide | assumption | omega)).mpr ?_
          try simp (disch := first | decide | assumption | omega) only [g8, g3]
          refine (s197_33 (by first | decide | assumption | omega)).mpr ?_
          refine s197_36.mpr ?_
          try simp (disch := first | decide | assumption | omega) only [g8, g3]
          refine (s197_37 (by first | decide | assumption | omega) (by first | decide | assumption | omega)).mpr ?_
          refine OW _ ?_
          simp only [kon, knt_some, knt_none, Option.toList_some, Option.toList_none, List.cons_append, List.nil_append]
          refine (s197_40).mpr ?_
          exact q
        · skip
          exfalso; omega
  rw [if_neg w1] at q
  by_cases cw : 10 ≤ w ∧ w < 10 + s 109 b
  · rw [if_pos cw] at q
    have fe : fSub w 10 = w - 10 := fSub_id (by omega) (by omega)
    have SE : ∀ Q' : QQ, Q' (some (some (vI (s 111 (6 * b + (w - 10)))))) al hi hr → Ev (d - 1) 6 [vR (some 29), vI b, vI (w - 10)] al hi hr Q' := fun Q' z => b_see hA hC ⟨b0, b1⟩ (by omega) (by omega) (by omega) (by rw [e3 (w - 10) (by omega) (by omega)]; exact z)
    refine s197_0.mpr ?_
    refine (s197_1 (by first | decide | assumption | omega)).mpr ?_
    try simp (disch := first | decide | assumption | omega) only [g8, g3, fe]
    refine (s197_4 (by first | decide | assumption | omega)).mpr ?_
    refine s197_7.mpr ?_
    try simp (disch := first | decide | assumption | omega) only [g8, g3, fe]
    refine (s197_8 (by first | decide | assumption | omega) (by first | decide | assumption | omega)).mpr ?_
    refine SZ _ _ ?_
    simp only [kon, knt_some, knt_none, Option.toList_some, Option.toList_none, List.cons_append, List.nil_append]
    refine s197_11.mpr (s197_12.mpr ?_)
    refine s197_13.mpr (wif (fun c13 => ?_) (fun c13 => ?_))
    · skip
      exfalso; omega
    · skip
      refine s197_18.mpr ?_
      refine s197_19.mpr (wif (fun c19 => ?_) (fun c19 => ?_))
      · skip
        exfalso; omega
      · skip
        refine s197_24.mpr (s197_25.mpr ?_)
        refine s197_26.mpr (wif (fun c26 => ?_) (fun c26 => ?_))
        · skip
          exfalso; omega
        · skip
          refine s197_41.mpr (s197_42.mpr ?_)
          refine s197_44.mpr (wif (fun c44 => ?_) (fun c44 => ?_))
          · skip
            exfalso; omega
          · skip
            refine s197_47.mpr (s197_48.mpr (s197_50.mpr (s197_51.mpr ?_)))
            try simp (disch := first | decide | assumption | omega) only [g8, g3, fe]
            refine s197_52.mpr (wif (fun c52 => ?_) (fun c52 => ?_))
            · skip
              refine s197_55.mpr ?_
              refine (s197_56 (by first | decide | assumption | omega)).mpr ?_
              try simp (disch := first | decide | assumption | omega) only [g8, g3, fe]
              refine (s197_59 (by first | decide | assumption | omega)).mpr ?_
              refine s197_62.mpr (s197_63.mpr (s197_64.mpr (s197_66.mpr ?_)))
              try simp (disch := first | decide | assumption | omega) only [g8, g3, fe]
              refine (s197_67 (by first | decide | assumption | omega) (by first | decide | assumption | omega)).mpr ?_
              refine SE _ ?_
              simp only [kon, knt_some, knt_none, Option.toList_some, Option.toList_none, List.cons_append, List.nil_append]
              refine s197_70.mpr ?_
              refine (s197_74).mpr ?_
              exact q
            · skip
              exfalso; omega
  · rw [if_neg cw] at q
    by_cases w10 : 10 ≤ w
    · have fe : fSub w 10 = w - 10 := fSub_id (by omega) (by omega)
      refine s197_0.mpr ?_
      refine (s197_1 (by first | decide | assumption | omega)).mpr ?_
      try simp (disch := first | decide | assumption | omega) only [g8, g3, fe]
      refine (s197_4 (by first | decide | assumption | omega)).mpr ?_
      refine s197_7.mpr ?_
      try simp (disch := first | decide | assumption | omega) only [g8, g3, fe]
      refine (s197_8 (by first | decide | assumption | omega) (by first | decide | assumption | omega)).mpr ?_
      refine SZ _ _ ?_
      simp only [kon, knt_some, knt_none, Option.toList_some, Option.toList_none, List.cons_append, List.nil_append]
      refine s197_11.mpr (s197_12.mpr ?_)
      refine s197_13.mpr (wif (fun c13 => ?_) (fun c13 => ?_))
      · skip
        exfalso; omega
      · skip
        refine s197_18.mpr ?_
        refine s197_19.mpr (wif (fun c19 => ?_) (fun c19 => ?_))
        · skip
          exfalso; omega
        · skip
          refine s197_24.mpr (s197_25.mpr ?_)
          refine s197_26.mpr (wif (fun c26 => ?_) (fun c26 => ?_))
          · skip
            exfalso; omega
          · skip
            refine s197_41.mpr (s197_42.mpr ?_)
            refine s197_44.mpr (wif (fun c44 => ?_) (fun c44 => ?_))
            · skip
              refine s197_73.mpr ?_
              refine (s197_74).mpr ?_
              exact q
            · skip
              refine s197_47.mpr (s197_48.mpr (s197_50.mpr (s197_51.mpr ?_)))
              try simp (disch := first | decide | assumption | omega) only [g8, g3, fe]
              refine s197_52.mpr (wif (fun c52 => ?_) (fun c52 => ?_))
              · skip
                exfalso; omega
              · skip
                refine s197_73.mpr ?_
                refine (s197_74).mpr ?_
                exact q
    · skip
      refine s197_0.mpr ?_
      refine (s197_1 (by first | decide | assumption | omega)).mpr ?_
      try simp (disch := first | decide | assumption | omega) only [g8, g3]
      refine (s197_4 (by first | decide | assumption | omega)).mpr ?_
      refine s197_7.mpr ?_
      try simp (disch := first | decide | assumption | omega) only [g8, g3]
      refine (s197_8 (by first | decide | assumption | omega) (by first | decide | assumption | omega)).mpr ?_
      refine SZ _ _ ?_
      simp only [kon, knt_some, knt_none, Option.toList_some, Option.toList_none, List.cons_append, List.nil_append]
      refine s197_11.mpr (s197_12.mpr ?_)
      refine s197_13.mpr (wif (fun c13 => ?_) (fun c13 => ?_))
      · skip
        exfalso; omega
      · skip
        refine s197_18.mpr ?_
        refine s197_19.mpr (wif (fun c19 => ?_) (fun c19 => ?_))
        · skip
          exfalso; omega
        · skip
          refine s197_24.mpr (s197_25.mpr ?_)
          refine s197_26.mpr (wif (fun c26 => ?_) (fun c26 => ?_))
          · skip
            exfalso; omega
          · skip
            refine s197_41.mpr (s197_42.mpr ?_)
            refine s197_44.mpr (wif (fun c44 => ?_) (fun c44 => ?_))
            · skip
              refine s197_73.mpr ?_
              refine (s197_74).mpr ?_
              exact q
            · skip
              exfalso; omega
/-- channel -/
theorem x_channel0 (hA : SA al) (hC : CR hr) (hd : 1 ≤ d) (h0 : (0 ≤ c ∧ c < 12) → (e = 0 ∨ e = 1) → hi 34 (2 * c + e) = 0) (q : Q (some (some (vI (-1)))) al hi hr) : Ev d 198 [vR (some 2), vI c, vI e, vI w] al hi hr Q := by
  have k2 : isK al 2 12 := hA.k (by decide) (by decide) rfl
  have k26 : isK al 26 6 := hA.k (by decide) (by decide) rfl
  have k33 : isK al 33 5 := hA.k (by decide) (by decide) rfl
  have g8 := cr_2_8 hC
  have g4 := cr_26_4 hC
  rw [e198]
  by_cases k : (0 ≤ c ∧ c < 12) ∧ (e = 0 ∨ e = 1)
  case neg =>
    refine s198_0.mpr ?_
    refine s198_1.mpr (wif (fun c1 => ?_) (fun c1 => ?_))
    · first
      | (exfalso; omega)
      | skip
        refine s198_19.mpr ?_
        refine (s198_20).mpr ?_
        exact q
    · first
      | (exfalso; omega)
      | skip
        refine s198_4.mpr (s198_5.mpr ?_)
        refine s198_7.mpr (wif (fun c7 => ?_) (fun c7 => ?_))
        · first
          | (exfalso; omega)
          | skip
            refine s198_10.mpr ?_
            refine s198_11.mpr (wif (fun c11 => ?_) (fun c11 => ?_))
            · first
              | (exfalso; omega)
              | skip
                refine s198_19.mpr ?_
                refine (s198_20).mpr ?_
                exact q
            · first
              | (exfalso; omega)
              | skip
                refine s198_14.mpr (s198_15.mpr ?_)
                refine s198_16.mpr (wif (fun c16 => ?_) (fun c16 => ?_))
                · first
                  | (exfalso; omega)
                  | skip
                    refine s198_19.mpr ?_
                    refine (s198_20).mpr ?_
                    exact q
                · first
                  | (exfalso; omega)
                  | skip
                    exfalso; omega
        · first
          | (exfalso; omega)
          | skip
            refine s198_19.mpr ?_
            refine (s198_20).mpr ?_
            exact q
  have h0 := h0 k.1 k.2
  obtain ⟨⟨c0, c1⟩, k1⟩ := k
  have fe : fAdd (fMul 2 c) e = 2 * c + e := by rw [fMul_id (by omega) (by omega), fAdd_id (by omega) (by omega)]
  obtain ⟨x, hx⟩ : ∃ x, 2 * c + e = x := ⟨_, rfl⟩
  rw [hx] at fe h0
  refine s198_0.mpr ?_
  refine s198_1.mpr (wif (fun c1 => ?_) (fun c1 => ?_))
  · first
    | (exfalso; omega)
    | skip
      exfalso; omega
  · first
    | (exfalso; omega)
    | skip
      refine s198_4.mpr (s198_5.mpr ?_)
      refine s198_7.mpr (wif (fun c7 => ?_) (fun c7 => ?_))
      · first
        | (exfalso; omega)
        | skip
          refine s198_10.mpr ?_
          refine s198_11.mpr (wif (fun c11 => ?_) (fun c11 => ?_))
          · first
            | (exfalso; omega)
            | skip
              exfalso; omega
          · first
            | (exfalso; omega)
            | skip
              refine s198_14.mpr (s198_15.mpr ?_)
              refine s198_16.mpr (wif (fun c16 => ?_) (fun c16 => ?_))
              · first
                | (exfalso; omega)
                | skip
                  exfalso; omega
              · first
                | (exfalso; omega)
                | skip
                  refine s198_21.mpr (s198_22.mpr (s198_23.mpr (s198_24.mpr (s198_25.mpr (s198_26.mpr ?_)))))
                  refine s198_28.mpr ?_
                  try simp (disch := first | decide | assumption | omega) only [g8, g4, fe]
                  refine (s198_29 (by first | decide | assumption | omega)).mpr ?_
                  try simp (disch := first | decide | assumption | omega) only [g8, g4, fe]
                  refine (s198_32 (by first | decide | assumption | omega)).mpr ?_
                  refine s198_35.mpr ?_
                  try simp (disch := first | decide | assumption | omega) only [g8, g4, fe]
                  refine (s198_37 (by first | decide | assumption | omega) (by first | decide | assumption | omega)).mpr ?_
                  refine e_isOpen hA hC (fun _ _ z => absurd h0 z) (fun _ => ?_)
                  simp only [kon, knt_some, knt_none, Option.toList_some, Option.toList_none, List.cons_append, List.nil_append]
                  refine s198_40.mpr (wif (fun c40 => ?_) (fun c40 => ?_))
                  · first
                    | (exfalso; omega)
                    | skip
                      refine s198_43.mpr ?_
                      refine (s198_44).mpr ?_
                      exact q
                  · first
                    | (exfalso; omega)
                    | skip
                      exact absurd rfl (by assumption)
      · first
        | (exfalso; omega)
        | skip
          exfalso; omega
theorem x_channel (hR : RelC T NN al0 hi0 hr0 (fun _ => False) A al hi hr s) (hP : AllP s) (hBs : Bs T NN al0 hi0 hr0) (hI : INV T s) (hd : 4 ≤ d) (q : Q (some (some (vI (ceF s c e w)))) al hi hr) : Ev d 198 [vR (some 2), vI c, vI e, vI w] al hi hr Q := by
  have hA := hR.1.1
  have hC := hR.1.2.1
  have k2 : isK al 2 12 := hA.k (by decide) (by decide) rfl
  have k26 : isK al 26 6 := hA.k (by decide) (by decide) rfl
  have g8 := cr_2_8 hC
  have g4 := cr_26_4 hC
  have k33 : isK al 33 5 := hA.k (by decide) (by decide) rfl; have R35 : isR al 35 = true := hA.r (by decide) (by decide) (by decide); have R36 : isR al 36 = true := hA.r (by decide) (by decide) (by decide); have K35 : isK al 35 15 := hA.k (by decide) (by decide) rfl; have K36 : isK al 36 15 := hA.k (by decide) (by decide) rfl; have g35 := cr_33_2 hC; have g36 := cr_33_3 hC
  have l35 := SA.len (a := 35) (n := 24) hA (by decide) (by decide) rfl
  have l36 := SA.len (a := 36) (n := 24) hA (by decide) (by decide) rfl
  unfold ceF at q
  by_cases k : (0 ≤ c ∧ c < 12) ∧ (e = 0 ∨ e = 1) ∧ s 112 (2 * c + e) ≠ -1
  case neg =>
    rw [if_pos k] at q
    refine x_channel0 hA hC (by omega) (fun z1 z2 => ?_) q
    obtain ⟨y1, y2, -⟩ := hR.2.2.2.1.1.2.1 (2 * c + e) (by omega) (by omega)
    rcases y1 with y | y
    · exact y
    · exact absurd ⟨z1, z2, (y2.mp y).1.2.2⟩ k
  rw [if_neg (fun z => z k)] at q
  obtain ⟨⟨c0, c1⟩, k1, k2'⟩ := k
  have fe : fAdd (fMul 2 c) e = 2 * c + e := by rw [fMul_id (by omega) (by omega), fAdd_id (by omega) (by omega)]
  obtain ⟨x, hx⟩ : ∃ x, 2 * c + e = x := ⟨_, rfl⟩
  have xb : 0 ≤ x ∧ x < 24 := by omega
  rw [hx] at fe q k2'
  obtain ⟨y1, y2, y3, y4⟩ := hR.2.2.2.1.1.2.1 x xb.1 xb.2
  have ho : opn s x := ⟨xb.1, xb.2, k2'⟩
  have h34 : hi 34 x = 1 := y2.mpr ⟨ho, id⟩
  obtain ⟨e35, e36⟩ := (y4 ho).1 id
  have OP : ∀ (d : Nat) (Q' : QQ), Q' (some (some (vI 1))) al hi hr → Ev d 41 [vR (some 33), vI x] al hi hr Q' := fun d Q' z => e_isOpen hA hC (fun _ _ _ => z) (fun y => absurd ⟨xb.1, xb.2, by omega⟩ y)
  have ST : ∀ Q' : QQ, Q' (some (some (vI (s 112 x)))) al hi hr → Ev (d - 1) 45 [vR (some 33), vI x] al hi hr Q' := fun Q' z => by
    rw [e45]
    refine s45_0.mpr (s45_1.mpr ?_)
    refine (s45_2 (by first | decide | assumption | omega) (by first | decide | assumption | omega)).mpr ?_
    refine OP _ _ ?_
    simp only [kon, knt_some, knt_none, Option.toList_some, Option.toList_none, List.cons_append, List.nil_append]
    refine s45_5.mpr (wif (fun c5 => ?_) (fun c5 => ?_))
    · skip
      exact absurd ‹(1 : Int) = 0› (by decide)
    · skip
      refine s45_8.mpr ?_
      refine (s45_9 (by first | decide | assumption | omega)).mpr ?_
      refine s45_12.mpr ?_
      try simp (disch := first | decide | assumption | omega) only [g35, e35]
      refine (s45_13 (by first | decide | assumption | omega) (by first | decide | assumption | omega) (by first | decide | assumption | omega)).mpr ?_
      refine s45_14.mpr ?_
      try simp (disch := first | decide | assumption | omega) only [g35, e35]
      refine (s45_18).mpr ?_
      exact z
  have OW : ∀ Q' : QQ, Q' (some (some (vI (s 113 x)))) al hi hr → Ev (d - 1) 46 [vR (some 33), vI x] al hi hr Q' := fun Q' z => by
    rw [e46]
    refine s46_0.mpr (s46_1.mpr ?_)
    refine (s46_2 (by first | decide | assumption | omega) (by first | decide | assumption | omega)).mpr ?_
    refine OP _ _ ?_
    simp only [kon, knt_some, knt_none, Option.toList_some, Option.toList_none, List.cons_append, List.nil_append]
    refine s46_5.mpr (wif (fun c5 => ?_) (fun c5 => ?_))
    · skip
      exact absurd ‹(1 : Int) = 0› (by decide)
    · skip
      refine s46_8.mpr ?_
      refine (s46_9 (by first | decide | assumption | omega)).mpr ?_
      refine s46_12.mpr ?_
      try simp (disch := first | decide | assumption | omega) only [g36, e36]
      refine (s46_13 (by first | decide | assumption | omega) (by first | decide | assumption | omega) (by first | decide | assumption | omega)).mpr ?_
      refine s46_14.mpr ?_
      try simp (disch := first | decide | assumption | omega) only [g36, e36]
      refine (s46_18).mpr ?_
      exact z
  have WF : ∀ Q' : QQ, Q' (some (some (vI (s 114 x)))) al hi hr → Ev (d - 1) 48 [vR (some 33), vI x] al hi hr Q' := fun Q' z => e_waitingFor hA hC (by rw [if_pos ⟨xb.1, xb.2, by omega⟩, y3]; exact z) (by omega)
  rw [e198]
  refine s198_0.mpr ?_
  refine s198_1.mpr (wif (fun c1 => ?_) (fun c1 => ?_))
  · first
    | (exfalso; omega)
    | skip
      exfalso; omega
  · first
    | (exfalso; omega)
    | skip
      refine s198_4.mpr (s198_5.mpr ?_)
      refine s198_7.mpr (wif (fun c7 => ?_) (fun c7 => ?_))
      · first
        | (exfalso; omega)
        | skip
          refine s198_10.mpr ?_
          refine s198_11.mpr (wif (fun c11 => ?_) (fun c11 => ?_))
          · first
            | (exfalso; omega)
            | skip
              exfalso; omega
          · first
            | (exfalso; omega)
            | skip
              refine s198_14.mpr (s198_15.mpr ?_)
              refine s198_16.mpr (wif (fun c16 => ?_) (fun c16 => ?_))
              · first
                | (exfalso; omega)
                | skip
                  exfalso; omega
              · first
                | (exfalso; omega)
                | skip
                  refine s198_21.mpr (s198_22.mpr (s198_23.mpr (s198_24.mpr (s198_25.mpr (s198_26.mpr ?_)))))
                  refine s198_28.mpr ?_
                  try simp (disch := first | decide | assumption | omega) only [g8, g4, fe]
                  refine (s198_29 (by first | decide | assumption | omega)).mpr ?_
                  try simp (disch := first | decide | assumption | omega) only [g8, g4, fe]
                  refine (s198_32 (by first | decide | assumption | omega)).mpr ?_
                  refine s198_35.mpr ?_
                  try simp (disch := first | decide | assumption | omega) only [g8, g4, fe]
                  refine (s198_37 (by first | decide | assumption | omega) (by first | decide | assumption | omega)).mpr ?_
                  refine OP _ _ ?_
                  simp only [kon, knt_some, knt_none, Option.toList_some, Option.toList_none, List.cons_append, List.nil_append]
                  refine s198_40.mpr (wif (fun c40 => ?_) (fun c40 => ?_))
                  · first
                    | (exfalso; omega)
                    | skip
                      exact absurd ‹(1 : Int) = 0› (by decide)
                  · first
                    | (exfalso; omega)
                    | skip
                      refine s198_45.mpr ?_
                      refine g198_46 (fun c46 => ?_) (fun c46 => ?_) (fun c46 => ?_) (fun c46 => ?_)
                      · skip
                        have c46 := List.mem_singleton.mp c46
                        refine s198_72.mpr ?_
                        refine (s198_73 (by first | decide | assumption | omega)).mpr ?_
                        try simp (disch := first | decide | assumption | omega) only [g8, g4, fe]
                        refine (s198_76 (by first | decide | assumption | omega)).mpr ?_
                        refine s198_79.mpr ?_
                        try simp (disch := first | decide | assumption | omega) only [g8, g4, fe]
                        refine (s198_81 (by first | decide | assumption | omega) (by first | decide | assumption | omega)).mpr ?_
                        refine ST _ ?_
                        simp only [kon, knt_some, knt_none, Option.toList_some, Option.toList_none, List.cons_append, List.nil_append]
                        refine (s198_84).mpr ?_
                        first | (rw [if_pos (by assumption)] at q; exact q) | (rw [if_neg (by omega), if_pos (by assumption)] at q; exact q) | (rw [if_neg (by omega), if_neg (by omega), if_pos (by assumption)] at q; exact q) | (simp only [List.mem_cons, List.not_mem_nil, or_false, not_or] at c46; rw [if_neg (by omega), if_neg (by omega), if_neg (by omega)] at q; exact q)
                      · skip
                        have c46 := List.mem_singleton.mp c46
                        refine s198_85.mpr ?_
                        refine (s198_86 (by first | decide | assumption | omega)).mpr ?_
                        try simp (disch := first | decide | assumption | omega) only [g8, g4, fe]
                        refine (s198_89 (by first | decide | assumption | omega)).mpr ?_
                        refine s198_92.mpr ?_
                        try simp (disch := first | decide | assumption | omega) only [g8, g4, fe]
                        refine (s198_94 (by first | decide | assumption | omega) (by first | decide | assumption | omega)).mpr ?_
                        refine OW _ ?_
                        simp only [kon, knt_some, knt_none, Option.toList_some, Option.toList_none, List.cons_append, List.nil_append]
                        refine (s198_97).mpr ?_
                        first | (rw [if_pos (by assumption)] at q; exact q) | (rw [if_neg (by omega), if_pos (by assumption)] at q; exact q) | (rw [if_neg (by omega), if_neg (by omega), if_pos (by assumption)] at q; exact q) | (simp only [List.mem_cons, List.not_mem_nil, or_false, not_or] at c46; rw [if_neg (by omega), if_neg (by omega), if_neg (by omega)] at q; exact q)
                      · skip
                        have c46 := List.mem_singleton.mp c46
                        refine s198_98.mpr ?_
                        refine (s198_99 (by first | decide | assumption | omega)).mpr ?_
                        try simp (disch := first | decide | assumption | omega) only [g8, g4, fe]
                        refine (s198_102 (by first | decide | assumption | omega)).mpr ?_
                        refine s198_105.mpr ?_
                        try simp (disch := first | decide | assumption | omega) only [g8, g4, fe]
                        refine (s198_107 (by first | decide | assumption | omega) (by first | decide | assumption | omega)).mpr ?_
                        refine WF _ ?_
                        simp only [kon, knt_some, knt_none, Option.toList_some, Option.toList_none, List.cons_append, List.nil_append]
                        refine (s198_110).mpr ?_
                        first | (rw [if_pos (by assumption)] at q; exact q) | (rw [if_neg (by omega), if_pos (by assumption)] at q; exact q) | (rw [if_neg (by omega), if_neg (by omega), if_pos (by assumption)] at q; exact q) | (simp only [List.mem_cons, List.not_mem_nil, or_false, not_or] at c46; rw [if_neg (by omega), if_neg (by omega), if_neg (by omega)] at q; exact q)
                      · skip
                        refine s198_111.mpr ?_
                        refine (s198_112).mpr ?_
                        first | (rw [if_pos (by assumption)] at q; exact q) | (rw [if_neg (by omega), if_pos (by assumption)] at q; exact q) | (rw [if_neg (by omega), if_neg (by omega), if_pos (by assumption)] at q; exact q) | (simp only [List.mem_cons, List.not_mem_nil, or_false, not_or] at c46; rw [if_neg (by omega), if_neg (by omega), if_neg (by omega)] at q; exact q)
      · first
        | (exfalso; omega)
        | skip
          exfalso; omega
end FB2
