/-! THE REFERENCE: typeAt -/
section MF3
variable {d : Nat} {al : AL} {hi : HI} {hr : HR} {Q : QQ} {B : Int → Int}
theorem m_typeAt {m f p w i : Int} (hA : SA al) (hR : MR hr) (hd : 10 ≤ d) (hsh : ∀ m, 0 ≤ m → m < 6 → hi 56 m = 0 ∨ hi 56 m = 1) (hC : ∀ q, 240 ≤ q → hi 71 q ≠ 1) (hG : isM hi m → GMod hi m B)
    (no : (isM hi m → ¬ ((0 ≤ f ∧ f < nFn B) ∧ (0 ≤ p ∧ p < cLen B f) ∧ 0 ≤ i ∧ (w = 0 ∨ w = 1))) → Q (some (some (vI (-1)))) al (upI hi 49 0 0) hr)
    (ok : isM hi m → (0 ≤ f ∧ f < nFn B) → (0 ≤ p ∧ p < cLen B f) → 0 ≤ i → (w = 0 ∨ w = 1) → ∀ v hi', FW (fun a i => wT a i ∨ (a = 49 ∧ i = 0)) hi hi' → TA B f p w i v → Q (some (some (vI v))) al hi' hr) : Ev d 272 [vR (some 49), vI m, vI f, vI p, vI w, vI i] al hi hr Q := by
  have kM : isK al 49 13 := hA.k (by decide) (by decide) rfl
  have hsh' : ∀ m, 0 ≤ m → m < 6 → (upI hi 49 0 0) 56 m = 0 ∨ (upI hi 49 0 0) 56 m = 1 := fun m a b => by rw [upI_a (by decide)]; exact hsh m a b
  rw [e272]
  by_cases c : isM hi m
  case neg =>
    refine s272_0.mpr (s272_1.mpr ?_)
    refine (s272_2 kM).mpr ?_
    refine s272_5.mpr (s272_6.mpr ?_)
    try simp (disch := first | decide | assumption | omega) only [kon, knt_some, knt_none, Option.toList_some, Option.toList_none, List.cons_append, List.nil_append, upI_eq, upI_a, upI_i, upR_eq, upR_a, upR_i]
    refine (s272_7 (by omega) kM).mpr ?_
    refine m_isModule hA hR hsh' (fun h => absurd (by unfold isM at h ⊢; rw [upI_a (by decide)] at h; exact h) c) (fun _ => ?_)
    refine s272_10.mpr (wif (fun c10 => ?_) (fun c10 => ?_))
    · first
      | (exfalso; omega)
      | skip
        refine s272_62.mpr ?_
        refine (s272_63).mpr ?_
        exact no (fun h => absurd h c)
    · first
      | (exfalso; omega)
      | skip
        exfalso; omega
  have hG := hG c
  obtain ⟨c0, c1, c2⟩ := id c
  have ok := ok c
  have no : ¬ ((0 ≤ f ∧ f < nFn B) ∧ (0 ≤ p ∧ p < cLen B f) ∧ 0 ≤ i ∧ (w = 0 ∨ w = 1)) → _ := fun h => no (fun _ => h)
  have w0 : FW (fun a i => wT a i ∨ (a = 49 ∧ i = 0)) hi (upI hi 49 0 0) := FW.up FW.rf (Or.inr ⟨rfl, rfl⟩)
  have hM' : MB (upI hi 49 0 0) m B := hG.1.fw (fun a i h1 h2 => upI_a (by omega))
  obtain ⟨hM, hS, hN, hW⟩ := id hG
  obtain ⟨hm0, hm1, h52, hB, hMD⟩ := id hM
  have f1 : nFn B ≤ 10 := hS.2.2.2.2.2.2.2.2.2.1
  have e55 : hi 55 m = nFn B := hMD.2.2.2.2.1
  have l55 := SA.len (a := 55) (n := 13) hA (by decide) (by decide) rfl
  have l68 := SA.len (a := 68) (n := 130) hA (by decide) (by decide) rfl
  have l71 := SA.len (a := 71) (n := 240) hA (by decide) (by decide) rfl
  have l72 := SA.len (a := 72) (n := 240) hA (by decide) (by decide) rfl
  have l73 := SA.len (a := 73) (n := 4080) hA (by decide) (by decide) rfl
  have l67 := SA.len (a := 67) (n := 130) hA (by decide) (by decide) rfl
  have l74 := SA.len (a := 74) (n := 2400) hA (by decide) (by decide) rfl
  by_cases cf : 0 ≤ f ∧ f < nFn B
  case neg =>
    refine s272_0.mpr (s272_1.mpr ?_)
    refine (s272_2 kM).mpr ?_
    refine s272_5.mpr (s272_6.mpr ?_)
    try simp (disch := first | decide | assumption | omega) only [kon, knt_some, knt_none, Option.toList_some, Option.toList_none, List.cons_append, List.nil_append, upI_eq, upI_a, upI_i, upR_eq, upR_a, upR_i, e55]
    refine (s272_7 (by omega) kM).mpr ?_
    refine m_isModule hA hR hsh' (fun _ => ?_) (fun h => absurd (show isM (upI hi 49 0 0) m from by unfold isM at c ⊢; rw [upI_a (by decide)]; exact c) h)
    refine s272_10.mpr (wif (fun c10 => ?_) (fun c10 => ?_))
    · first
      | (exfalso; omega)
      | skip
        refine s272_62.mpr ?_
        refine (s272_63).mpr ?_
        exact no (fun h => cf h.1)
    · first
      | (exfalso; omega)
      | skip
        refine s272_13.mpr ?_
        refine s272_14.mpr (wif (fun c14 => ?_) (fun c14 => ?_))
        · first
          | (exfalso; omega)
          | skip
            refine s272_62.mpr ?_
            refine (s272_63).mpr ?_
            exact no (fun h => cf h.1)
        · first
          | (exfalso; omega)
          | skip
            refine s272_17.mpr (s272_18.mpr ((s272_19 kM).mpr ?_))
            rw [mr_7 hR]
            refine s272_22.mpr ?_
            refine (s272_23 (hA.k (by decide) (by decide) rfl) (by first | assumption | omega) (by first | assumption | omega)).mpr ?_
            try simp (disch := first | decide | assumption | omega) only [kon, knt_some, knt_none, Option.toList_some, Option.toList_none, List.cons_append, List.nil_append, upI_eq, upI_a, upI_i, upR_eq, upR_a, upR_i, e55]
            refine s272_24.mpr (wif (fun c24 => ?_) (fun c24 => ?_))
            · first
              | (exfalso; omega)
              | skip
                exfalso; omega
            · first
              | (exfalso; omega)
              | skip
                refine s272_62.mpr ?_
                refine (s272_63).mpr ?_
                exact no (fun h => cf h.1)
  obtain ⟨d1, d2, d3, d4, d5, d6⟩ := hMD.2.2.2.2.2 f cf.1 cf.2
  have e68 : hi 68 (10 * m + f) = cLen B f := d5
  have e67 : hi 67 (10 * m + f) = nLoc B f := d4
  clear d1 d2 d3 d4 d5 d6
  obtain ⟨s1, s2, s3, s4, s5, s6, s7, s8, s9, s10, s11, s12, s13, s14⟩ := hS.2.2.2.2.2.2.2.2.2.2 f cf.1 cf.2
  by_cases cp : (0 ≤ p ∧ p < cLen B f) ∧ 0 ≤ i ∧ (w = 0 ∨ w = 1)
  case neg =>
    refine s272_0.mpr (s272_1.mpr ?_)
    refine (s272_2 kM).mpr ?_
    refine s272_5.mpr (s272_6.mpr ?_)
    try simp (disch := first | decide | assumption | omega) only [kon, knt_some, knt_none, Option.toList_some, Option.toList_none, List.cons_append, List.nil_append, upI_eq, upI_a, upI_i, upR_eq, upR_a, upR_i, e55, e68, fAdd_id, fMul_id]
    refine (s272_7 (by omega) kM).mpr ?_
    refine m_isModule hA hR hsh' (fun _ => ?_) (fun h => absurd (show isM (upI hi 49 0 0) m from by unfold isM at c ⊢; rw [upI_a (by decide)]; exact c) h)
    refine s272_10.mpr (wif (fun c10 => ?_) (fun c10 => ?_))
    · first
      | (exfalso; omega)
      | skip
        refine s272_62.mpr ?_
        refine (s272_63).mpr ?_
        exact no (fun h => cp h.2)
    · first
      | (exfalso; omega)
      | skip
        refine s272_13.mpr ?_
        refine s272_14.mpr (wif (fun c14 => ?_) (fun c14 => ?_))
        · first
          | (exfalso; omega)
          | skip
            refine s272_62.mpr ?_
            refine (s272_63).mpr ?_
            exact no (fun h => cp h.2)
        · first
          | (exfalso; omega)
          | skip
            refine s272_17.mpr (s272_18.mpr ((s272_19 kM).mpr ?_))
            rw [mr_7 hR]
            refine s272_22.mpr ?_
            refine (s272_23 (hA.k (by decide) (by decide) rfl) (by first | assumption | omega) (by first | assumption | omega)).mpr ?_
            try simp (disch := first | decide | assumption | omega) only [kon, knt_some, knt_none, Option.toList_some, Option.toList_none, List.cons_append, List.nil_append, upI_eq, upI_a, upI_i, upR_eq, upR_a, upR_i, e55, e68, fAdd_id, fMul_id]
            refine s272_24.mpr (wif (fun c24 => ?_) (fun c24 => ?_))
            · first
              | (exfalso; omega)
              | skip
                refine s272_27.mpr ?_
                refine s272_28.mpr (wif (fun c28 => ?_) (fun c28 => ?_))
                · first
                  | (exfalso; omega)
                  | skip
                    refine s272_62.mpr ?_
                    refine (s272_63).mpr ?_
                    exact no (fun h => cp h.2)
                · first
                  | (exfalso; omega)
                  | skip
                    refine s272_31.mpr (s272_32.mpr ((s272_33 kM).mpr ?_))
                    rw [mr_20 hR]
                    refine s272_36.mpr (s272_38.mpr (s272_39.mpr (s272_40.mpr (s272_41.mpr ?_))))
                    try simp (disch := first | decide | assumption | omega) only [kon, knt_some, knt_none, Option.toList_some, Option.toList_none, List.cons_append, List.nil_append, upI_eq, upI_a, upI_i, upR_eq, upR_a, upR_i, e55, e68, fAdd_id, fMul_id]
                    refine (s272_42 (hA.k (by decide) (by decide) rfl) (by first | assumption | omega) (by first | assumption | omega)).mpr ?_
                    try simp (disch := first | decide | assumption | omega) only [kon, knt_some, knt_none, Option.toList_some, Option.toList_none, List.cons_append, List.nil_append, upI_eq, upI_a, upI_i, upR_eq, upR_a, upR_i, e55, e68, fAdd_id, fMul_id]
                    refine s272_43.mpr (wif (fun c43 => ?_) (fun c43 => ?_))
                    · first
                      | (exfalso; omega)
                      | skip
                        refine s272_46.mpr ?_
                        refine s272_48.mpr (wif (fun c48 => ?_) (fun c48 => ?_))
                        · first
                          | (exfalso; omega)
                          | skip
                            refine s272_62.mpr ?_
                            refine (s272_63).mpr ?_
                            exact no (fun h => cp h.2)
                        · first
                          | (exfalso; omega)
                          | skip
                            refine s272_51.mpr ?_
                            refine s272_53.mpr (wif (fun c53 => ?_) (fun c53 => ?_))
                            · first
                              | (exfalso; omega)
                              | skip
                                exfalso; omega
                            · first
                              | (exfalso; omega)
                              | skip
                                refine s272_56.mpr (s272_58.mpr ?_)
                                refine s272_59.mpr (wif (fun c59 => ?_) (fun c59 => ?_))
                                · first
                                  | (exfalso; omega)
                                  | skip
                                    exfalso; omega
                                · first
                                  | (exfalso; omega)
                                  | skip
                                    refine s272_62.mpr ?_
                                    refine (s272_63).mpr ?_
                                    exact no (fun h => cp h.2)
                    · first
                      | (exfalso; omega)
                      | skip
                        refine s272_62.mpr ?_
                        refine (s272_63).mpr ?_
                        exact no (fun h => cp h.2)
            · first
              | (exfalso; omega)
              | skip
                refine s272_62.mpr ?_
                refine (s272_63).mpr ?_
                exact no (fun h => cp h.2)
  obtain ⟨cp, ci, cw⟩ := cp
  have ok := ok cf cp ci cw
  have T82 : ∀ h, FW (fun a i => wT a i ∨ (a = 49 ∧ i = 0)) hi h → LC B f (memA h) → bool71 h → Wp d 272 82 [vR (some 49), vI m, vI f, vI p, vI w, vI i, vI (10 * m + f)] [] al h hr Q := by
    intro h hw hL hb
    have k67 : h 67 (10 * m + f) = nLoc B f := (hw 67 _ (fun q => q.elim (wT_n (by decide) (by decide)) (fun q => absurd q.1 (by decide)))).trans e67
    rcases hb p cp.1 (by omega) with e | e
    · have hno : memA h p = none := by unfold memA; rw [e]; rfl
      refine s272_82.mpr ((s272_83 kM).mpr ?_)
      rw [mr_29 hR]
      refine s272_86.mpr ?_
      refine (s272_87Z (hA.k (by decide) (by decide) rfl) (by first | assumption | omega) (by first | assumption | omega)).mpr ?_
      try simp (disch := first | decide | assumption | omega) only [e]
      refine s272_88.mpr (wif (fun c88 => ?_) (fun c88 => ?_))
      · first
        | (exfalso; omega)
        | skip
          refine s272_91.mpr ?_
          refine (s272_92).mpr ?_
          exact ok _ h hw ⟨memA h, hL, by rw [hno]⟩
      · first
        | (exfalso; omega)
        | skip
          exfalso; omega
    · have hX : memA h p = some (h 72 p, memS h p, memL h p) := by unfold memA; rw [if_pos e]
      have h16 : h 72 p ≤ 16 := (hL.2.2.1 p _ cp.1 hX).1
      have TT : ∀ v, v = (if w = 0 then (if i < h 72 p then kindM (memS h p i) else -1) else (if i < nLoc B f then kindM (memL h p i) else -1)) → Q (some (some (vI v))) al h hr := fun v hv => ok v h hw ⟨memA h, hL, by rw [hX]; exact hv⟩
      refine s272_82.mpr ((s272_83 kM).mpr ?_)
      rw [mr_29 hR]
      refine s272_86.mpr ?_
      refine (s272_87Z (hA.k (by decide) (by decide) rfl) (by first | assumption | omega) (by first | assumption | omega)).mpr ?_
      try simp (disch := first | decide | assumption | omega) only [kon, knt_some, knt_none, Option.toList_some, Option.toList_none, List.cons_append, List.nil_append, e, k67, fAdd_id, fMul_id]
      refine s272_88.mpr (wif (fun c88 => ?_) (fun c88 => ?_))
      · first
        | (exfalso; omega)
        | skip
          exfalso; omega
      · first
        | (exfalso; omega)
        | skip
          refine s272_93.mpr ?_
          refine s272_95.mpr (wif (fun c95 => ?_) (fun c95 => ?_))
          · first
            | (exfalso; omega)
            | skip
              refine s272_98.mpr (s272_100.mpr ((s272_101 kM).mpr ?_))
              rw [mr_30 hR]
              refine s272_104.mpr ?_
              refine (s272_105 (hA.k (by decide) (by decide) rfl) (by first | assumption | omega) (by first | assumption | omega)).mpr ?_
              try simp (disch := first | decide | assumption | omega) only [kon, knt_some, knt_none, Option.toList_some, Option.toList_none, List.cons_append, List.nil_append, e, k67, fAdd_id, fMul_id]
              refine s272_106.mpr (wif (fun c106 => ?_) (fun c106 => ?_))
              · first
                | (exfalso; omega)
                | skip
                  refine s272_109.mpr ((s272_110 kM).mpr ?_)
                  rw [mr_31 hR]
                  refine s272_113.mpr (s272_115.mpr (s272_116.mpr (s272_117.mpr (s272_119.mpr ?_))))
                  try simp (disch := first | decide | assumption | omega) only [kon, knt_some, knt_none, Option.toList_some, Option.toList_none, List.cons_append, List.nil_append, e, k67, fAdd_id, fMul_id]
                  refine (s272_120 (hA.k (by decide) (by decide) rfl) (by first | assumption | omega) (by first | assumption | omega)).mpr ?_
                  try simp (disch := first | decide | assumption | omega) only [kon, knt_some, knt_none, Option.toList_some, Option.toList_none, List.cons_append, List.nil_append, e, k67, fAdd_id, fMul_id]
                  refine (s272_121 (by omega)).mpr ?_
                  refine m_kind.mpr ?_
                  refine s272_124.mpr ?_
                  refine (s272_128).mpr ?_
                  refine TT _ ?_
                  first
                    | (rw [if_pos (show w = 0 by omega), if_pos (by assumption)]; unfold memS; rw [if_pos (by omega)])
                    | (rw [if_pos (show w = 0 by omega), if_neg (by assumption)])
                    | (rw [if_neg (show ¬ w = 0 by omega), if_pos (by assumption)]; unfold memL; rw [if_pos (by omega)])
                    | (rw [if_neg (show ¬ w = 0 by omega), if_neg (by assumption)])
              · first
                | (exfalso; omega)
                | skip
                  refine s272_127.mpr ?_
                  refine (s272_128).mpr ?_
                  refine TT _ ?_
                  first
                    | (rw [if_pos (show w = 0 by omega), if_pos (by assumption)]; unfold memS; rw [if_pos (by omega)])
                    | (rw [if_pos (show w = 0 by omega), if_neg (by assumption)])
                    | (rw [if_neg (show ¬ w = 0 by omega), if_pos (by assumption)]; unfold memL; rw [if_pos (by omega)])
                    | (rw [if_neg (show ¬ w = 0 by omega), if_neg (by assumption)])
          · first
            | (exfalso; omega)
            | skip
              refine s272_129.mpr (s272_131.mpr ((s272_132 kM).mpr ?_))
              rw [mr_19 hR]
              refine s272_135.mpr ?_
              refine (s272_137 (hA.k (by decide) (by decide) rfl) (by first | assumption | omega) (by first | assumption | omega)).mpr ?_
              try simp (disch := first | decide | assumption | omega) only [kon, knt_some, knt_none, Option.toList_some, Option.toList_none, List.cons_append, List.nil_append, e, k67, fAdd_id, fMul_id]
              refine s272_138.mpr (wif (fun c138 => ?_) (fun c138 => ?_))
              · first
                | (exfalso; omega)
                | skip
                  refine s272_141.mpr ((s272_142 kM).mpr ?_)
                  rw [mr_32 hR]
                  refine s272_145.mpr (s272_147.mpr (s272_148.mpr (s272_149.mpr (s272_151.mpr ?_))))
                  try simp (disch := first | decide | assumption | omega) only [kon, knt_some, knt_none, Option.toList_some, Option.toList_none, List.cons_append, List.nil_append, e, k67, fAdd_id, fMul_id]
                  refine (s272_152 (hA.k (by decide) (by decide) rfl) (by first | assumption | omega) (by first | assumption | omega)).mpr ?_
                  try simp (disch := first | decide | assumption | omega) only [kon, knt_some, knt_none, Option.toList_some, Option.toList_none, List.cons_append, List.nil_append, e, k67, fAdd_id, fMul_id]
                  refine (s272_153 (by omega)).mpr ?_
                  refine m_kind.mpr ?_
                  refine s272_156.mpr ?_
                  refine (s272_160).mpr ?_
                  refine TT _ ?_
                  first
                    | (rw [if_pos (show w = 0 by omega), if_pos (by assumption)]; unfold memS; rw [if_pos (by omega)])
                    | (rw [if_pos (show w = 0 by omega), if_neg (by assumption)])
                    | (rw [if_neg (show ¬ w = 0 by omega), if_pos (by assumption)]; unfold memL; rw [if_pos (by omega)])
                    | (rw [if_neg (show ¬ w = 0 by omega), if_neg (by assumption)])
              · first
                | (exfalso; omega)
                | skip
                  refine s272_159.mpr ?_
                  refine (s272_160).mpr ?_
                  refine TT _ ?_
                  first
                    | (rw [if_pos (show w = 0 by omega), if_pos (by assumption)]; unfold memS; rw [if_pos (by omega)])
                    | (rw [if_pos (show w = 0 by omega), if_neg (by assumption)])
                    | (rw [if_neg (show ¬ w = 0 by omega), if_pos (by assumption)]; unfold memL; rw [if_pos (by omega)])
                    | (rw [if_neg (show ¬ w = 0 by omega), if_neg (by assumption)])
  have R1 : Ev (d - 1) 243 [vR (some 49), vI m, vI (10 * m + f)] al (upI hi 49 0 0) hr (kon d 272 76 79 [vR (some 49), vI m, vI f, vI p, vI w, vI i, vI (10 * m + f)] [] Q) := by
    refine m_right (B := B) (m := m) (g := f) hA hR (by omega) hM' hS hN cf (fun q hq => by rw [upI_a (by decide)]; exact hC q hq) (fun h4 x1 x2 x3 x4 x5 x6 => ?_) (fun h4 x1 x2 => (by obtain ⟨W, hW⟩ := hW f cf.1 cf.2; exact absurd hW (x2 W)))
    simp only [kon, knt_some, knt_none, Option.toList_some, Option.toList_none, List.cons_append, List.nil_append]
    refine s272_79.mpr (wif (fun c79 => ?_) (fun c79 => ?_))
    · first
      | (exfalso; omega)
      | skip
        exfalso; omega
    · first
      | (exfalso; omega)
      | skip
        exact T82 h4 (w0.tr (x1.mn (fun a i q => Or.inl q))) ⟨x2, x3, x5, x4⟩ x6
  refine s272_0.mpr (s272_1.mpr ?_)
  refine (s272_2 kM).mpr ?_
  refine s272_5.mpr (s272_6.mpr ?_)
  try simp (disch := first | decide | assumption | omega) only [kon, knt_some, knt_none, Option.toList_some, Option.toList_none, List.cons_append, List.nil_append, upI_eq, upI_a, upI_i, upR_eq, upR_a, upR_i, e55, e68, fAdd_id, fMul_id]
  refine (s272_7 (by omega) kM).mpr ?_
  refine m_isModule hA hR hsh' (fun _ => ?_) (fun h => absurd (show isM (upI hi 49 0 0) m from by unfold isM at c ⊢; rw [upI_a (by decide)]; exact c) h)
  refine s272_10.mpr (wif (fun c10 => ?_) (fun c10 => ?_))
  · first
    | (exfalso; omega)
    | skip
      exfalso; omega
  · first
    | (exfalso; omega)
    | skip
      refine s272_13.mpr ?_
      refine s272_14.mpr (wif (fun c14 => ?_) (fun c14 => ?_))
      · first
        | (exfalso; omega)
        | skip
          exfalso; omega
      · first
        | (exfalso; omega)
        | skip
          refine s272_17.mpr (s272_18.mpr ((s272_19 kM).mpr ?_))
          rw [mr_7 hR]
          refine s272_22.mpr ?_
          refine (s272_23 (hA.k (by decide) (by decide) rfl) (by first | assumption | omega) (by first | assumption | omega)).mpr ?_
          try simp (disch := first | decide | assumption | omega) only [kon, knt_some, knt_none, Option.toList_some, Option.toList_none, List.cons_append, List.nil_append, upI_eq, upI_a, upI_i, upR_eq, upR_a, upR_i, e55, e68, fAdd_id, fMul_id]
          refine s272_24.mpr (wif (fun c24 => ?_) (fun c24 => ?_))
          · first
            | (exfalso; omega)
            | skip
              refine s272_27.mpr ?_
              refine s272_28.mpr (wif (fun c28 => ?_) (fun c28 => ?_))
              · first
                | (exfalso; omega)
                | skip
                  exfalso; omega
              · first
                | (exfalso; omega)
                | skip
                  refine s272_31.mpr (s272_32.mpr ((s272_33 kM).mpr ?_))
                  rw [mr_20 hR]
                  refine s272_36.mpr (s272_38.mpr (s272_39.mpr (s272_40.mpr (s272_41.mpr ?_))))
                  try simp (disch := first | decide | assumption | omega) only [kon, knt_some, knt_none, Option.toList_some, Option.toList_none, List.cons_append, List.nil_append, upI_eq, upI_a, upI_i, upR_eq, upR_a, upR_i, e55, e68, fAdd_id, fMul_id]
                  refine (s272_42 (hA.k (by decide) (by decide) rfl) (by first | assumption | omega) (by first | assumption | omega)).mpr ?_
                  try simp (disch := first | decide | assumption | omega) only [kon, knt_some, knt_none, Option.toList_some, Option.toList_none, List.cons_append, List.nil_append, upI_eq, upI_a, upI_i, upR_eq, upR_a, upR_i, e55, e68, fAdd_id, fMul_id]
                  refine s272_43.mpr (wif (fun c43 => ?_) (fun c43 => ?_))
                  · first
                    | (exfalso; omega)
                    | skip
                      refine s272_46.mpr ?_
                      refine s272_48.mpr (wif (fun c48 => ?_) (fun c48 => ?_))
                      · first
                        | (exfalso; omega)
                        | skip
                          exfalso; omega
                      · first
                        | (exfalso; omega)
                        | skip
                          refine s272_51.mpr ?_
                          refine s272_53.mpr (wif (fun c53 => ?_) (fun c53 => ?_))
                          · first
                            | (exfalso; omega)
                            | skip
                              refine s272_64.mpr (s272_66.mpr (s272_67.mpr (s272_68.mpr (s272_69.mpr (s272_70.mpr ?_)))))
                              refine s272_72.mpr (s272_73.mpr (s272_74.mpr ?_))
                              try simp (disch := first | decide | assumption | omega) only [kon, knt_some, knt_none, Option.toList_some, Option.toList_none, List.cons_append, List.nil_append, upI_eq, upI_a, upI_i, upR_eq, upR_a, upR_i, e55, e68, fAdd_id, fMul_id]
                              refine (s272_76 (by omega) kM).mpr ?_
                              exact R1
                          · first
                            | (exfalso; omega)
                            | skip
                              refine s272_56.mpr (s272_58.mpr ?_)
                              refine s272_59.mpr (wif (fun c59 => ?_) (fun c59 => ?_))
                              · first
                                | (exfalso; omega)
                                | skip
                                  refine s272_64.mpr (s272_66.mpr (s272_67.mpr (s272_68.mpr (s272_69.mpr (s272_70.mpr ?_)))))
                                  refine s272_72.mpr (s272_73.mpr (s272_74.mpr ?_))
                                  try simp (disch := first | decide | assumption | omega) only [kon, knt_some, knt_none, Option.toList_some, Option.toList_none, List.cons_append, List.nil_append, upI_eq, upI_a, upI_i, upR_eq, upR_a, upR_i, e55, e68, fAdd_id, fMul_id]
                                  refine (s272_76 (by omega) kM).mpr ?_
                                  exact R1
                              · first
                                | (exfalso; omega)
                                | skip
                                  exfalso; omega
                  · first
                    | (exfalso; omega)
                    | skip
                      exfalso; omega
          · first
            | (exfalso; omega)
            | skip
              exfalso; omega
end MF3
