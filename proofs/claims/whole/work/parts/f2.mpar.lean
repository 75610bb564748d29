/-! MANIFESTS: the reference's parameters -/
section MN1
variable {d : Nat} {al : AL} {hi : HI} {hr : HR} {Q : QQ} {B Bm : Int → Int} {S : Int → Option (Int → Int)} {G : HI}
theorem m_canBoot {m f : Int} (hA : SA al) (hR : MR hr) (hd : 1 ≤ d) (hM : MB hi m Bm) (hS : Sh Bm) (hN : NV Bm) (f0 : 0 ≤ f) (f1 : f < nFn Bm) (yes : btb Bm f → Q (some (some (vI 1))) al hi hr) (no : ¬ btb Bm f → Q (some (some (vI 0))) al hi hr) : Ev d 274 [vR (some 49), vI m, vI (10 * m + f)] al hi hr Q := by
  have kM : isK al 49 13 := hA.k (by decide) (by decide) rfl
  have f10 : nFn Bm ≤ 10 := hS.2.2.2.2.2.2.2.2.2.1
  have m0 := hM.1
  have m1 := hM.2.1
  obtain ⟨d1, d2, d3, d4, d5, d6⟩ := hM.2.2.2.2.2.2.2.2.2 f f0 f1
  have n4 : nPar Bm f ≤ 4 := (hS.2.2.2.2.2.2.2.2.2.2 f f0 f1).2.1
  have n0 : 0 ≤ nPar Bm f := (hS.2.2.2.2.2.2.2.2.2.2 f f0 f1).1
  have e64 : hi 64 (10 * m + f) = nPar Bm f := d1
  have e66 : hi 66 (10 * m + f) = rTy Bm f := d3
  have l66 := SA.len (a := 66) (n := 130) hA (by decide) (by decide) rfl
  have l64 := SA.len (a := 64) (n := 130) hA (by decide) (by decide) rfl
  have l65 := SA.len (a := 65) (n := 520) hA (by decide) (by decide) rfl
  have T14 : rTy Bm f = -1 → ∀ (i : Nat) (k : Int) l4, k + i = nPar Bm f → 0 ≤ k → (∀ k', 0 ≤ k' → k' < k → pTy Bm f k' = 0 ∨ (kindM (pTy Bm f k') = 5 ∧ stateM (pTy Bm f k') = 0)) → Wp d 274 14 [vR (some 49), vI m, vI (10 * m + f), vI k, l4] [] al hi hr Q := by
    intro hr9 i
    induction i with
    | zero =>
      intro k l4 hk k0 hall
      have E := yes ⟨hr9, fun k' a b => hall k' a (by omega)⟩
      refine s274_14.mpr (s274_15.mpr ((s274_16 kM).mpr ?_))
      rw [mr_16 hR]
      refine s274_19.mpr ?_
      refine (s274_20 (hA.k (by decide) (by decide) rfl) (by first | assumption | omega) (by first | assumption | omega)).mpr ?_
      try simp (disch := first | decide | assumption | omega) only [e64]
      refine s274_21.mpr (wif (fun c21 => ?_) (fun c21 => ?_))
      · skip
        exfalso; omega
      · skip
        refine s274_66.mpr ?_
        refine (s274_67 (by first | assumption | omega)).mpr ?_
        exact E
    | succ i ih =>
      intro k l4 hk k0 hall
      have e65 : hi 65 (4 * (10 * m + f) + k) = pTy Bm f k := d2 k k0 (by omega)
      have vt := ((hN.2.2 f f0 f1).1 k k0 (by omega)).1
      have rt : rng (pTy Bm f k) := ⟨by have := vt.1; omega, by have := vt.2.1; omega⟩
      by_cases c : pTy Bm f k = 0 ∨ (kindM (pTy Bm f k) = 5 ∧ stateM (pTy Bm f k) = 0)
      · have NX : ∀ l4, Wp d 274 14 [vR (some 49), vI m, vI (10 * m + f), vI (k + 1), l4] [] al hi hr Q := fun l4 => ih (k + 1) l4 (by omega) (by omega) (fun k' a b => by
          by_cases z : k' = k
          · subst z; exact c
          · exact hall k' a (by omega))
        refine s274_14.mpr (s274_15.mpr ((s274_16 kM).mpr ?_))
        rw [mr_16 hR]
        refine s274_19.mpr ?_
        refine (s274_20 (hA.k (by decide) (by decide) rfl) (by first | assumption | omega) (by first | assumption | omega)).mpr ?_
        try simp (disch := first | decide | assumption | omega) only [kon, knt_some, knt_none, Option.toList_some, Option.toList_none, List.cons_append, List.nil_append, e64, e65, fAdd_id, fMul_id]
        refine s274_21.mpr (wif (fun c21 => ?_) (fun c21 => ?_))
        · first
          | (exfalso; omega)
          | skip
            refine s274_24.mpr ((s274_25 kM).mpr ?_)
            rw [mr_17 hR]
            refine s274_28.mpr (s274_29.mpr (s274_30.mpr (s274_31.mpr (s274_32.mpr ?_))))
            try simp (disch := first | decide | assumption | omega) only [kon, knt_some, knt_none, Option.toList_some, Option.toList_none, List.cons_append, List.nil_append, e64, e65, fAdd_id, fMul_id]
            refine (s274_33 (hA.k (by decide) (by decide) rfl) (by first | assumption | omega) (by first | assumption | omega)).mpr ?_
            refine s274_34.mpr (s274_36.mpr ?_)
            try simp (disch := first | decide | assumption | omega) only [kon, knt_some, knt_none, Option.toList_some, Option.toList_none, List.cons_append, List.nil_append, e64, e65, fAdd_id, fMul_id]
            refine s274_38.mpr (wif (fun c38 => ?_) (fun c38 => ?_))
            · first
              | (exfalso; omega)
              | skip
                refine s274_60.mpr (s274_63.mpr ?_)
                try simp (disch := first | decide | assumption | omega) only [kon, knt_some, knt_none, Option.toList_some, Option.toList_none, List.cons_append, List.nil_append, e64, e65, fAdd_id, fMul_id]
                exact NX _
            · first
              | (exfalso; omega)
              | skip
                refine s274_41.mpr ?_
                refine (s274_43 (by omega)).mpr ?_
                refine m_kind.mpr ?_
                refine s274_46.mpr ?_
                refine s274_47.mpr (wif (fun c47 => ?_) (fun c47 => ?_))
                · first
                  | (exfalso; omega)
                  | skip
                    refine s274_50.mpr ?_
                    refine (s274_52 (by omega)).mpr ?_
                    refine (m_state rt).mpr ?_
                    refine s274_55.mpr (wif (fun c55 => ?_) (fun c55 => ?_))
                    · first
                      | (exfalso; omega)
                      | skip
                        refine s274_60.mpr (s274_63.mpr ?_)
                        try simp (disch := first | decide | assumption | omega) only [kon, knt_some, knt_none, Option.toList_some, Option.toList_none, List.cons_append, List.nil_append, e64, e65, fAdd_id, fMul_id]
                        exact NX _
                    · first
                      | (exfalso; omega)
                      | skip
                        exfalso; omega
                · first
                  | (exfalso; omega)
                  | skip
                    exfalso; omega
        · first
          | (exfalso; omega)
          | skip
            exfalso; omega
      · have E := no (fun z => c (z.2 k k0 (by omega)))
        refine s274_14.mpr (s274_15.mpr ((s274_16 kM).mpr ?_))
        rw [mr_16 hR]
        refine s274_19.mpr ?_
        refine (s274_20 (hA.k (by decide) (by decide) rfl) (by first | assumption | omega) (by first | assumption | omega)).mpr ?_
        try simp (disch := first | decide | assumption | omega) only [kon, knt_some, knt_none, Option.toList_some, Option.toList_none, List.cons_append, List.nil_append, e64, e65, fAdd_id, fMul_id]
        refine s274_21.mpr (wif (fun c21 => ?_) (fun c21 => ?_))
        · first
          | (exfalso; omega)
          | skip
            refine s274_24.mpr ((s274_25 kM).mpr ?_)
            rw [mr_17 hR]
            refine s274_28.mpr (s274_29.mpr (s274_30.mpr (s274_31.mpr (s274_32.mpr ?_))))
            try simp (disch := first | decide | assumption | omega) only [kon, knt_some, knt_none, Option.toList_some, Option.toList_none, List.cons_append, List.nil_append, e64, e65, fAdd_id, fMul_id]
            refine (s274_33 (hA.k (by decide) (by decide) rfl) (by first | assumption | omega) (by first | assumption | omega)).mpr ?_
            refine s274_34.mpr (s274_36.mpr ?_)
            try simp (disch := first | decide | assumption | omega) only [kon, knt_some, knt_none, Option.toList_some, Option.toList_none, List.cons_append, List.nil_append, e64, e65, fAdd_id, fMul_id]
            refine s274_38.mpr (wif (fun c38 => ?_) (fun c38 => ?_))
            · first
              | (exfalso; omega)
              | skip
                exfalso; omega
            · first
              | (exfalso; omega)
              | skip
                refine s274_41.mpr ?_
                refine (s274_43 (by omega)).mpr ?_
                refine m_kind.mpr ?_
                refine s274_46.mpr ?_
                refine s274_47.mpr (wif (fun c47 => ?_) (fun c47 => ?_))
                · first
                  | (exfalso; omega)
                  | skip
                    refine s274_50.mpr ?_
                    refine (s274_52 (by omega)).mpr ?_
                    refine (m_state rt).mpr ?_
                    refine s274_55.mpr (wif (fun c55 => ?_) (fun c55 => ?_))
                    · first
                      | (exfalso; omega)
                      | skip
                        exfalso; omega
                    · first
                      | (exfalso; omega)
                      | skip
                        refine s274_58.mpr ?_
                        refine (s274_59 (by first | assumption | omega)).mpr ?_
                        exact E
                · first
                  | (exfalso; omega)
                  | skip
                    refine s274_58.mpr ?_
                    refine (s274_59 (by first | assumption | omega)).mpr ?_
                    exact E
        · first
          | (exfalso; omega)
          | skip
            exfalso; omega
  rw [e274]
  by_cases cr : rTy Bm f = -1
  · skip
    refine s274_0.mpr ((s274_1 kM).mpr ?_)
    rw [mr_18 hR]
    refine s274_4.mpr ?_
    refine (s274_5 (hA.k (by decide) (by decide) rfl) (by first | assumption | omega) (by first | assumption | omega)).mpr ?_
    refine s274_6.mpr ?_
    try simp (disch := first | decide | assumption | omega) only [e66]
    refine s274_7.mpr (wif (fun c7 => ?_) (fun c7 => ?_))
    · skip
      refine s274_12.mpr (s274_13.mpr ?_)
      exact T14 cr (nPar Bm f).toNat 0 _ (by omega) (Int.le_refl _) (fun k' a b => absurd b (by omega))
    · skip
      exfalso; omega
  · have E := no (fun z => cr z.1)
    refine s274_0.mpr ((s274_1 kM).mpr ?_)
    rw [mr_18 hR]
    refine s274_4.mpr ?_
    refine (s274_5 (hA.k (by decide) (by decide) rfl) (by first | assumption | omega) (by first | assumption | omega)).mpr ?_
    refine s274_6.mpr ?_
    try simp (disch := first | decide | assumption | omega) only [e66]
    refine s274_7.mpr (wif (fun c7 => ?_) (fun c7 => ?_))
    · skip
      exfalso; omega
    · skip
      refine s274_10.mpr ?_
      refine (s274_11 (by first | assumption | omega)).mpr ?_
      exact E
/-- the bytes of a word -/
theorem wdS_s {q : Int} {n : Nat} : wdS B q (n + 1) = fOr (fShl (wdS B q n) 8) (B (q + n)) := rfl
theorem wif_y {c A D : Prop} {inst : Decidable c} (h : c) (h1 : A) : @ite _ c inst A D := by rw [if_pos h]; exact h1
theorem wif_n {c A D : Prop} {inst : Decidable c} (h : ¬ c) (h1 : D) : @ite _ c inst A D := by rw [if_neg h]; exact h1
set_option maxRecDepth 8000 in
theorem m_parameter {p m f k q : Int} (hA : SA al) (hR : MR hr) (hd : 40 ≤ d) (hPT : PT hi) (hB : bAt hi 12 = B) (hq : hi 49 26 = q) (hSh : MSh hi S) (hSm : S m = some Bm) (p0 : 0 ≤ p ∧ p < 6) (f0 : 0 ≤ f ∧ f < nFn Bm) (k0 : 0 ≤ k ∧ k < nPar Bm f) (hb : btb Bm f) (hG : GR S hi G) (hV : GV S G) (hp86 : ∀ i : Int, 0 ≤ i → i < 2304 → True)
    (ok : ∀ q' G' hi', prmP S B Bm p m f k (q, G) = .ok (q', G') → FW wMn hi hi' → hi' 49 26 = q' → 0 ≤ q' → q' ≤ 2000 → GR S hi' G' → GV S G' → (pTy Bm f k = 0 → hi' 80 (4 * p + k) = G' 80 (4 * p + k)) → (∀ i, i ≠ 4 * p + k → hi' 80 i = hi 80 i) → (∀ i : Int, 0 ≤ i → i < 2304 → True) → Q (some none) al hi' hr)
    (er : ∀ w q' hi', prmP S B Bm p m f k (q, G) = .error (w, q') → FW wMe hi hi' → hi' 49 22 = w → hi' 49 23 = q' → Q none al hi' hr) : Ev d 275 [vR (some 49), vI p, vI m, vI (10 * m + f), vI k] al hi hr Q := by
  have kM : isK al 49 13 := hA.k (by decide) (by decide) rfl
  obtain ⟨hm, hM, hS, hN, hCl⟩ := hSh.y hSm
  obtain ⟨hm0, hm1, hm2⟩ := hm
  have f10 : nFn Bm ≤ 10 := hS.2.2.2.2.2.2.2.2.2.1
  obtain ⟨d1, d2, d3, d4, d5, d6⟩ := hM.2.2.2.2.2.2.2.2.2 f f0.1 f0.2
  have n4 : nPar Bm f ≤ 4 := (hS.2.2.2.2.2.2.2.2.2.2 f f0.1 f0.2).2.1
  have e65 : hi 65 (4 * (10 * m + f) + k) = pTy Bm f k := d2 k k0.1 k0.2
  obtain ⟨t27, t52, t26, t26'⟩ := id hPT
  have l65 := SA.len (a := 65) (n := 520) hA (by decide) (by decide) rfl
  have l80 := SA.len (a := 80) (n := 24) hA (by decide) (by decide) rfl
  have l81 := SA.len (a := 81) (n := 8) hA (by decide) (by decide) rfl
  have l86 := SA.len (a := 86) (n := 2304) hA (by decide) (by decide) rfl
  have l83 := SA.len (a := 83) (n := 16) hA (by decide) (by decide) rfl
  have l82 := SA.len (a := 82) (n := 16) hA (by decide) (by decide) rfl
  have l85 := SA.len (a := 85) (n := 8) hA (by decide) (by decide) rfl
  have l84 := SA.len (a := 84) (n := 16) hA (by decide) (by decide) rfl
  have hw0 : ∀ {h : HI} {q' : Int}, FW wMn hi h → 0 ≤ q' → q' ≤ 2000 → h 49 26 = q' → PT h := fun w z1 z2 z3 => ⟨(w 49 27 (by unfold wMn; omega)).trans t27, by rw [w 52 12 (by unfold wMn; omega)]; exact t52, by omega, by omega⟩
  have hB0 : ∀ {h : HI}, FW wMn hi h → bAt h 12 = B := fun w => (w.B (fun i => by unfold wMn; omega) (fun i => by unfold wMn; omega)).trans hB
  have wr : ∀ {h : HI} {w q' : Int}, FW wMn hi h → FW wMe hi (fl1 h w q') := fun w => ((w.mn (fun _ _ z => Or.inl z)).up (Or.inr ⟨rfl, Or.inl rfl⟩)).up (Or.inr ⟨rfl, Or.inr rfl⟩)
  have hle : ∀ {i : Int}, 0 ≤ B i → i + 1 ≤ 2000 := fun h => by rw [← hB] at h; exact bAt_le t52 h
  rw [e275]
  by_cases ct : pTy Bm f k = 0
  · -- an INT
    have E0 : ∀ w q', prmP S B Bm p m f k (q, G) = .error (w, q') → w = 1 → ∀ h, FW wMn hi h → Q none al (fl1 h 1 q') hr := fun w q' e z h hw => by
      subst z; exact er 1 q' _ e (wr hw) (by show upI (upI h 49 22 1) 49 23 q' 49 22 = 1; rw [upI_i (by decide), upI_eq]) upI_eq
    have hp : prmP S B Bm p m f k (q, G) = (if B q < 0 then .error (1, q) else if B (q + 1) < 0 then .error (1, q + 1) else if B (q + 2) < 0 then .error (1, q + 2) else if B (q + 3) < 0 then .error (1, q + 3) else .ok (q + 4, upI G 80 (4 * p + k) (wdS B q 4))) := by unfold prmP; rw [if_pos ct]
    have hE : ∀ j : Nat, j < 4 → (∀ i : Int, 0 ≤ i → i < j → 0 ≤ B (q + i)) → B (q + j) < 0 → prmP S B Bm p m f k (q, G) = .error (1, q + j) := by
      intro j hj hi9 hn
      rw [hp]
      have z0 : 0 < j → 0 ≤ B q := fun z => by have := hi9 0 (by omega) (by omega); rw [Int.add_zero] at this; exact this
      have z1 : 1 < j → 0 ≤ B (q + 1) := fun z => hi9 1 (by omega) (by omega)
      have z2 : 2 < j → 0 ≤ B (q + 2) := fun z => hi9 2 (by omega) (by omega)
      have : j = 0 ∨ j = 1 ∨ j = 2 ∨ j = 3 := by omega
      rcases this with rfl | rfl | rfl | rfl
      · rw [if_pos (by simpa using hn)]; simp
      · rw [if_neg (by have := z0 (by omega); omega), if_pos (show B (q + 1) < 0 from hn)]; rfl
      · rw [if_neg (by have := z0 (by omega); omega), if_neg (by have := z1 (by omega); omega), if_pos (show B (q + 2) < 0 from hn)]; rfl
      · rw [if_neg (by have := z0 (by omega); omega), if_neg (by have := z1 (by omega); omega), if_neg (by have := z2 (by omega); omega), if_pos (show B (q + 3) < 0 from hn)]; rfl
    have T24 : ∀ (i : Nat) (j : Nat) (h : HI), j + i = 4 → FW wMn hi h → h 49 26 = q + j → 0 ≤ q + j → q + j ≤ 2000 → (∀ i : Int, 0 ≤ i → i < j → 0 ≤ B (q + i)) → (∀ a i, a ≠ 49 → h a i = hi a i) → h 49 49 = hi 49 49 → Wp d 275 24 [vR (some 49), vI p, vI m, vI (10 * m + f), vI k, vI (pTy Bm f k), vI (wdS B q j), vI j, none] [] al h hr Q := by
      intro i
      induction i with
      | zero =>
        intro j h hj hw h26 q0 q1 hnn hsame h49
        have ej : j = 4 := by omega
        subst ej
        have g0 := hnn 0 (by omega) (by omega)
        have g1 := hnn 1 (by omega) (by omega)
        have g2 := hnn 2 (by omega) (by omega)
        have g3 := hnn 3 (by omega) (by omega)
        rw [Int.add_zero] at g0
        have e4 : prmP S B Bm p m f k (q, G) = .ok (q + 4, upI G 80 (4 * p + k) (wdS B q 4)) := by rw [hp, if_neg (by omega), if_neg (by omega), if_neg (by omega), if_neg (by omega)]
        have E := ok _ _ (upI h 80 (4 * p + k) (wdS B q 4)) e4 (hw.up (wMn_i (by decide) (by decide))) (by rw [upI_a (by decide)]; exact h26) (by omega) (by omega) ((hG.fr (fun a i z1 z2 => by rw [upI_a (by omega)]; exact hsame a i (by omega)) (by rw [upI_a (by decide)]; exact h49)).g80) hV.g80 (fun _ => by rw [upI_eq, upI_eq]) (fun i z => by rw [upI_i z]; exact hsame 80 i (by decide)) (fun _ _ _ => trivial)
        refine s275_24.mpr (s275_26.mpr ?_)
        refine s275_27.mpr (wif (fun c27 => ?_) (fun c27 => ?_))
        · skip
          exfalso; omega
        · skip
          refine s275_52.mpr ((s275_53 kM).mpr ?_)
          rw [mr_42 hR]
          refine s275_56.mpr (s275_57.mpr (s275_58.mpr (s275_59.mpr (s275_61.mpr (s275_62.mpr ?_)))))
          try simp (disch := first | decide | assumption | omega) only [fAdd_id, fMul_id]
          refine (s275_64 (hA.k (by decide) (by decide) rfl) (by first | assumption | omega) (by first | assumption | omega)).mpr ?_
          try simp (disch := first | decide | assumption | omega) only [fAdd_id, fMul_id]
          refine (s275_65).mpr ?_
          exact E
      | succ i ih =>
        intro j h hj hw h26 q0 q1 hnn hsame h49
        have hPh := hw0 hw q0 q1 h26
        have hBh := hB0 hw
        by_cases cb : B (q + j) < 0
        · have e := hE j (by omega) hnn cb
          have EE := E0 1 (q + j) e rfl h hw
          refine s275_24.mpr (s275_26.mpr ?_)
          refine s275_27.mpr (wif (fun c27 => ?_) (fun c27 => ?_))
          · skip
            refine s275_30.mpr (s275_32.mpr (s275_34.mpr (s275_35.mpr (s275_36.mpr (s275_37.mpr ?_)))))
            refine (s275_40 (by omega) kM).mpr ?_
            refine (m_number hA hR hPh (by omega)).mpr ?_
            rw [hBh, h26]
            refine wif_n (by omega) ?_
            show tho 275 = true ∧ Q none _ _ _
            refine ⟨rfl, ?_⟩
            exact EE
          · skip
            exfalso; omega
        · have hb255 : B (q + j) ≤ 255 := by rw [← hB]; exact (bAt_rng 12 _).2
          have hl := hle (i := q + j) (by omega)
          have NX : Wp d 275 24 [vR (some 49), vI p, vI m, vI (10 * m + f), vI k, vI (pTy Bm f k), vI (wdS B q (j + 1)), vI ((j : Int) + 1), none] [] al (at1 h (q + j + 1)) hr Q := by
            refine ih (j + 1) (upI h 49 26 (q + j + 1)) (by omega) (hw.up (Or.inl ⟨rfl, Or.inl rfl⟩)) (by rw [upI_eq, cast1]; omega) (by rw [cast1]; omega) (by rw [cast1]; omega) (fun i z1 z2 => ?_) (fun a i z => by rw [upI_a z]; exact hsame a i z) (by rw [upI_i (by decide)]; exact h49)
            by_cases w : i = j
            · subst w; omega
            · exact hnn i z1 (by rw [cast1] at z2; omega)
          rw [wdS_s] at NX
          refine s275_24.mpr (s275_26.mpr ?_)
          refine s275_27.mpr (wif (fun c27 => ?_) (fun c27 => ?_))
          · skip
            refine s275_30.mpr (s275_32.mpr (s275_34.mpr (s275_35.mpr (s275_36.mpr (s275_37.mpr ?_)))))
            try simp (disch := first | decide | assumption | omega) only [fAdd_id]
            refine (s275_40 (by omega) kM).mpr ?_
            refine (m_number hA hR hPh (by omega)).mpr ?_
            rw [hBh, h26]
            refine wif_y (by omega) ?_
            simp only [kon, knt_some, knt_none, Option.toList_some, Option.toList_none, List.cons_append, List.nil_append]
            refine s275_43.mpr (s275_44.mpr (s275_46.mpr (s275_49.mpr ?_)))
            try simp (disch := first | decide | assumption | omega) only [fAdd_id]
            exact NX
          · skip
            exfalso; omega
    have T24 := T24 4 0 hi (by omega) FW.rf (by rw [hq]; simp) (by omega) (by omega) (fun i z1 z2 => absurd z2 (by omega)) (fun _ _ _ => rfl) rfl
    rw [ct] at T24
    refine s275_0.mpr ((s275_1 kM).mpr ?_)
    rw [mr_17 hR]
    refine s275_4.mpr (s275_5.mpr (s275_6.mpr (s275_7.mpr (s275_9.mpr ?_))))
    try simp (disch := first | decide | assumption | omega) only [e65, ct, fAdd_id, fMul_id]
    refine (s275_10 (hA.k (by decide) (by decide) rfl) (by first | assumption | omega) (by first | assumption | omega)).mpr ?_
    refine s275_11.mpr (s275_13.mpr ?_)
    try simp (disch := first | decide | assumption | omega) only [e65, ct, fAdd_id, fMul_id]
    refine s275_15.mpr (wif (fun c15 => ?_) (fun c15 => ?_))
    · first
      | (exfalso; omega)
      | skip
        refine s275_18.mpr (s275_19.mpr (s275_21.mpr (s275_22.mpr ?_)))
        exact T24
    · first
      | (exfalso; omega)
      | skip
        exfalso; omega
  -- an end
  have k81 : isK al 81 15 := hA.k (by decide) (by decide) rfl
  obtain ⟨e, hBe⟩ : ∃ e, B q = e := ⟨_, rfl⟩
  have tk := (hb.2 k k0.1 k0.2).resolve_left ct
  have vt := ((hN.2.2 f f0.1 f0.2).1 k k0.1 k0.2).1
  obtain ⟨t, hpt⟩ : ∃ t, pTy Bm f k = t := ⟨_, rfl⟩
  rw [hpt] at tk vt ct e65
  have w4 : whichM t < nCtr Bm := (vt.2.2.2.2.2.2.2 tk.1).1
  have w0 : 0 ≤ whichM t := by unfold whichM; omega
  have n4' : nCtr Bm ≤ 4 := hS.2.2.2.2.2.1
  have rt : rng t := ⟨by have := vt.1; omega, by have := vt.2.1; omega⟩
  have sd : 0 ≤ sideM t ∧ sideM t ≤ 1 := by unfold sideM; omega
  have hp : prmP S B Bm p m f k (q, G) = (if ¬ (0 ≤ e ∧ e ≤ 7) then .error (1, q) else cif (fitG S G e (4 * m + whichM t) (sideM t)) (.ok (q + 1, useG G e (4 * m + whichM t) (sideM t) (4 * p + k))) (.error (5, q))) := by unfold prmP; rw [hpt, if_neg ct]; simp only [hBe]
  by_cases ce : 0 ≤ e ∧ e ≤ 7
  case neg =>
    have E := er 1 q (fl1 hi 1 q) (by rw [hp, if_pos ce]) (wr FW.rf) (by show upI (upI hi 49 22 1) 49 23 q 49 22 = 1; rw [upI_i (by decide), upI_eq]) upI_eq
    refine s275_0.mpr ((s275_1 kM).mpr ?_)
    rw [mr_17 hR]
    refine s275_4.mpr (s275_5.mpr (s275_6.mpr (s275_7.mpr (s275_9.mpr ?_))))
    try simp (disch := first | decide | assumption | omega) only [e65, fAdd_id, fMul_id]
    refine (s275_10 (hA.k (by decide) (by decide) rfl) (by first | assumption | omega) (by first | assumption | omega)).mpr ?_
    refine s275_11.mpr (s275_13.mpr ?_)
    try simp (disch := first | decide | assumption | omega) only [e65, fAdd_id, fMul_id]
    refine s275_15.mpr (wif (fun c15 => ?_) (fun c15 => ?_))
    · first
      | (exfalso; omega)
      | skip
        exfalso; omega
    · first
      | (exfalso; omega)
      | skip
        refine s275_66.mpr (s275_67.mpr (s275_68.mpr ?_))
        refine (s275_70 (by omega) kM).mpr ?_
        refine (m_number hA hR hPT (by omega)).mpr ?_
        rw [hB, hq, hBe]
        refine wif_n (by omega) ?_
        show tho 275 = true ∧ Q none _ _ _
        refine ⟨rfl, ?_⟩
        exact E
  rw [if_neg (fun z => z ce)] at hp
  have hl := hle (i := q) (by omega)
  obtain ⟨a81, ⟨b49, b200⟩, c85⟩ := id hG
  obtain ⟨x1, x2, x3, x4⟩ := a81 e ce.1 (by omega)
  -- it fits
  have T201 : fitG S G e (4 * m + whichM t) (sideM t) → ∀ (h : HI) l7 l8, FW wMn hi h → h 49 26 = q + 1 → (∀ a i, 81 ≤ a → a ≤ 85 → h a i = hi a i) → h 49 49 = hi 49 49 → (∀ i, h 80 i = hi 80 i) → (∀ i : Int, 0 ≤ i → i < 2304 → True) → Wp d 275 201 [vR (some 49), vI p, vI m, vI (10 * m + f), vI k, vI t, vI e, l7, l8] [] al h hr Q := by
    intro hf h l7 l8 w h26 h8 h9 h80 h86
    have hu2 : G 81 e < 2 := by rcases hf with z | z <;> omega
    have e81 : h 81 e = G 81 e := (h8 81 e (by decide) (by decide)).trans x1
    have gV' : GV S (useG G e (4 * m + whichM t) (sideM t) (4 * p + k)) := hV.use ce.1 sd ⟨by omega, by omega⟩ (b := Bm) (by rw [show (4 * m + whichM t) / 4 = m by omega]; exact hSm) (by rw [show (4 * m + whichM t) % 4 = whichM t by omega]; exact w4) ⟨x2, hu2⟩ (fun i i0 i1 => (a81 i i0 i1).2.2.1)
    have hGh := hG.fr h8 h9
    have FIN : ∀ h', FW wMn h h' → h' 49 26 = q + 1 → (∀ i, h' 81 i = if i = e then h 81 e + 1 else h 81 i) → (∀ i, h' 82 i = if i = 2 * e + h 81 e then 4 * m + whichM t else h 82 i) → (∀ i, h' 83 i = if i = 2 * e + h 81 e then sideM t else h 83 i) → (∀ i, h' 84 i = if i = 2 * e + h 81 e then 4 * p + k else h 84 i) → (∀ i, h' 85 i = if h 81 e = 0 ∧ i = h 49 49 then e else h 85 i) → (h' 49 49 = if h 81 e = 0 then h 49 49 + 1 else h 49 49) → (∀ i, h' 80 i = h 80 i) → (∀ i, h' 86 i = h 86 i) → Q (some none) al h' hr := fun h' y1 y2 y3 y4 y5 y6 y7 y8 y9 y10 => by
      refine ok _ _ h' (by rw [hp, cif_y hf]) (w.tr y1) y2 (by omega) (by omega) (hGh.use ce.1 (by omega) hu2 y3 y4 y5 y6 y7 y8) gV' (fun z => absurd z (by rw [hpt]; exact ct)) (fun i _ => (y9 i).trans (h80 i)) (fun _ _ _ => trivial)
    have T232 : ∀ h2, (∀ a i, a ≠ 85 → a ≠ 49 → h2 a i = h a i) → h2 49 26 = q + 1 → FW wMn h h2 → (∀ i, h2 85 i = if h 81 e = 0 ∧ i = h 49 49 then e else h 85 i) → (h2 49 49 = if h 81 e = 0 then h 49 49 + 1 else h 49 49) → Wp d 275 232 [vR (some 49), vI p, vI m, vI (10 * m + f), vI k, vI t, vI e, l7, l8] [] al h2 hr Q := by
      intro h2 z1 z2 z3 z4 z5
      have y81 : h2 81 e = G 81 e := (z1 81 e (by decide) (by decide)).trans e81
      have v81 : ∀ x y z u v w, (upI (upI (upI h2 82 x y) 83 z u) 84 v w) 81 e = G 81 e := fun x y z u v w => by rw [upI_a (by decide), upI_a (by decide), upI_a (by decide)]; exact y81
      refine s275_232.mpr (s275_233.mpr (s275_235.mpr (s275_236.mpr ((s275_237 kM).mpr ?_))))
      rw [mr_43 hR]
      refine s275_240.mpr ?_
      try simp (disch := first | decide | assumption | omega) only [kon, knt_some, knt_none, Option.toList_some, Option.toList_none, List.cons_append, List.nil_append, y81, v81, fAdd_id, fMul_id]
      refine (s275_242 (hA.k (by decide) (by decide) rfl) (by first | assumption | omega) (by first | assumption | omega)).mpr ?_
      refine s275_243.mpr (s275_244.mpr (s275_246.mpr ((s275_247 kM).mpr ?_)))
      rw [mr_44 hR]
      refine s275_250.mpr (s275_252.mpr (s275_253.mpr (s275_254.mpr (s275_255.mpr ?_))))
      try simp (disch := first | decide | assumption | omega) only [kon, knt_some, knt_none, Option.toList_some, Option.toList_none, List.cons_append, List.nil_append, y81, v81, fAdd_id, fMul_id]
      refine (s275_257 (by omega)).mpr ?_
      refine (m_which rt).mpr ?_
      refine s275_260.mpr ?_
      try simp (disch := first | decide | assumption | omega) only [kon, knt_some, knt_none, Option.toList_some, Option.toList_none, List.cons_append, List.nil_append, y81, v81, fAdd_id, fMul_id]
      refine (s275_261 (hA.k (by decide) (by decide) rfl) (by first | assumption | omega) (by first | assumption | omega)).mpr ?_
      refine s275_262.mpr ((s275_263 kM).mpr ?_)
      rw [mr_45 hR]
      refine s275_266.mpr (s275_268.mpr ?_)
      try simp (disch := first | decide | assumption | omega) only [kon, knt_some, knt_none, Option.toList_some, Option.toList_none, List.cons_append, List.nil_append, y81, v81, fAdd_id, fMul_id]
      refine (s275_270 (by omega)).mpr ?_
      refine (m_side rt).mpr ?_
      refine (s275_273 (hA.k (by decide) (by decide) rfl) (by first | assumption | omega) (by first | assumption | omega)).mpr ?_
      refine s275_274.mpr ((s275_275 kM).mpr ?_)
      rw [mr_46 hR]
      refine s275_278.mpr (s275_280.mpr (s275_281.mpr (s275_282.mpr (s275_283.mpr (s275_285.mpr ?_)))))
      try simp (disch := first | decide | assumption | omega) only [kon, knt_some, knt_none, Option.toList_some, Option.toList_none, List.cons_append, List.nil_append, y81, v81, fAdd_id, fMul_id]
      refine (s275_286 (hA.k (by decide) (by decide) rfl) (by first | assumption | omega) (by first | assumption | omega)).mpr ?_
      refine s275_287.mpr ((s275_288 kM).mpr ?_)
      rw [mr_43 hR]
      refine s275_291.mpr (s275_293.mpr ?_)
      try simp (disch := first | decide | assumption | omega) only [kon, knt_some, knt_none, Option.toList_some, Option.toList_none, List.cons_append, List.nil_append, y81, v81, fAdd_id, fMul_id]
      refine (s275_294 (by first | decide | assumption | omega) (by first | decide | assumption | omega) (by first | decide | assumption | omega)).mpr ?_
      refine s275_295.mpr (s275_296.mpr ?_)
      try simp (disch := first | decide | assumption | omega) only [kon, knt_some, knt_none, Option.toList_some, Option.toList_none, List.cons_append, List.nil_append, y81, v81, fAdd_id, fMul_id]
      refine (s275_297 (by first | decide | assumption | omega) (by first | decide | assumption | omega) (by first | decide | assumption | omega)).mpr ?_
      try simp (disch := first | decide | assumption | omega) only [kon, knt_some, knt_none, Option.toList_some, Option.toList_none, List.cons_append, List.nil_append, y81, v81, fAdd_id, fMul_id]
      refine (s275_298).mpr ?_
      refine FIN _ ((((z3.up (wMn_i (by decide) (by decide))).up (wMn_i (by decide) (by decide))).up (wMn_i (by decide) (by decide))).up (wMn_i (by decide) (by decide))) ?_ (fun i => ?_) (fun i => ?_) (fun i => ?_) (fun i => ?_) (fun i => ?_) ?_ (fun i => ?_) (fun i => ?_)
      · rw [upI_a (by decide), upI_a (by decide), upI_a (by decide), upI_a (by decide)]; exact z2
      · rw [upI_self, upI_a (by decide), upI_a (by decide), upI_a (by decide), z1 81 i (by decide) (by decide), e81]
      · rw [upI_a (by decide), upI_a (by decide), upI_a (by decide), upI_self, z1 82 i (by decide) (by decide), e81]
      · rw [upI_a (by decide), upI_a (by decide), upI_self, upI_a (by decide), z1 83 i (by decide) (by decide), e81]
      · rw [upI_a (by decide), upI_self, upI_a (by decide), upI_a (by decide), z1 84 i (by decide) (by decide), e81]
      · rw [upI_a (by decide), upI_a (by decide), upI_a (by decide), upI_a (by decide)]; exact z4 i
      · rw [upI_a (by decide), upI_a (by decide), upI_a (by decide), upI_a (by decide)]; exact z5
      · rw [upI_a (by decide), upI_a (by decide), upI_a (by decide), upI_a (by decide)]; exact z1 80 i (by decide) (by decide)
      · rw [upI_a (by decide), upI_a (by decide), upI_a (by decide), upI_a (by decide)]; exact z1 86 i (by decide) (by decide)
    by_cases cu : G 81 e = 0
    · have hlt := hG.lt ce.1 (by omega) cu
      have e49 : h 49 49 = G 200 0 := h9.trans b49
      have v49 : ∀ x y, (upI h 85 x y) 49 49 = G 200 0 := fun x y => by rw [upI_a (by decide)]; exact e49
      have N232 := T232 (upI (upI h 85 (G 200 0) e) 49 49 (G 200 0 + 1)) (fun a i y1 y2 => by rw [upI_a y2, upI_a y1]) (by rw [upI_i (by decide), upI_a (by decide)]; exact h26) ((FW.rf.up (wMn_i (by decide) (by decide))).up (Or.inl ⟨rfl, Or.inr rfl⟩)) (fun i => by
        rw [upI_a (by decide), upI_self, e81, e49]
        by_cases y : i = G 200 0
        · rw [if_pos y, if_pos ⟨cu, y⟩]
        · rw [if_neg y, if_neg (fun y2 => y y2.2)]) (by rw [upI_eq, e81, if_pos cu, e49])
      refine s275_201.mpr ((s275_202 kM).mpr ?_)
      rw [mr_43 hR]
      refine s275_205.mpr ?_
      refine (s275_207 (hA.k (by decide) (by decide) rfl) (by first | assumption | omega) (by first | assumption | omega)).mpr ?_
      try simp (disch := first | decide | assumption | omega) only [e81, cu, e49, v49, fAdd_id]
      refine s275_208.mpr (wif (fun c208 => ?_) (fun c208 => ?_))
      · skip
        refine s275_211.mpr ((s275_212 kM).mpr ?_)
        rw [mr_47 hR]
        refine s275_215.mpr ?_
        refine (s275_216 kM).mpr ?_
        refine s275_219.mpr ?_
        try simp (disch := first | decide | assumption | omega) only [e81, cu, e49, v49, fAdd_id]
        refine (s275_221 (hA.k (by decide) (by decide) rfl) (by first | assumption | omega) (by first | assumption | omega)).mpr ?_
        refine s275_222.mpr (s275_223.mpr ?_)
        try simp (disch := first | decide | assumption | omega) only [e81, cu, e49, v49, fAdd_id]
        refine (s275_224 kM).mpr ?_
        refine s275_227.mpr (s275_228.mpr ?_)
        try simp (disch := first | decide | assumption | omega) only [e81, cu, e49, v49, fAdd_id]
        refine (s275_229 kM).mpr ?_
        try simp (disch := first | decide | assumption | omega) only [e81, cu, e49, v49, fAdd_id]
        first | exact N232 | (exfalso; omega)
      · skip
        first | exact N232 | (exfalso; omega)
    · skip
      refine s275_201.mpr ((s275_202 kM).mpr ?_)
      rw [mr_43 hR]
      refine s275_205.mpr ?_
      refine (s275_207 (hA.k (by decide) (by decide) rfl) (by first | assumption | omega) (by first | assumption | omega)).mpr ?_
      try simp (disch := first | decide | assumption | omega) only [e81]
      refine s275_208.mpr (wif (fun c208 => ?_) (fun c208 => ?_))
      · skip
        exfalso; omega
      · skip
        refine T232 h (fun _ _ _ _ => rfl) h26 FW.rf (fun i => ?_) ?_
        · rw [e81, if_neg (fun y => cu y.1)]
        · rw [e81, if_neg cu]
  -- it doesn't
  have T190 : ¬ fitG S G e (4 * m + whichM t) (sideM t) → ∀ (h : HI) l7 l8, FW wMn hi h → h 49 26 = q + 1 → Wp d 275 190 [vR (some 49), vI p, vI m, vI (10 * m + f), vI k, vI t, vI e, l7, l8] [] al h hr Q := by
    intro hf h l7 l8 w h26
    have E := er 5 q (fl1 h 5 q) (by rw [hp, cif_n hf]) (wr w) (by show upI (upI h 49 22 5) 49 23 q 49 22 = 5; rw [upI_i (by decide), upI_eq]) upI_eq
    have eq1 : q + 1 - 1 = q := by omega
    refine s275_190.mpr (s275_191.mpr (s275_192.mpr ?_))
    refine (s275_193 kM).mpr ?_
    refine s275_196.mpr (s275_197.mpr ?_)
    try simp (disch := first | decide | assumption | omega) only [h26, fSub_id, eq1]
    refine (s275_198 (by omega) kM).mpr ?_
    refine (m_fails hA hR).mpr ?_
    show tho 275 = true ∧ Q none _ _ _
    refine ⟨rfl, ?_⟩
    exact E
  have h1w : FW wMn hi (at1 hi (q + 1)) := FW.rf.up (Or.inl ⟨rfl, Or.inl rfl⟩)
  have T185 : ∀ x (h : HI) l8, ((x = 1 ∧ fitG S G e (4 * m + whichM t) (sideM t)) ∨ (x = 0 ∧ ¬ fitG S G e (4 * m + whichM t) (sideM t))) → FW wMn hi h → h 49 26 = q + 1 → (∀ a i, 81 ≤ a → a ≤ 85 → h a i = hi a i) → h 49 49 = hi 49 49 → (∀ i, h 80 i = hi 80 i) → (∀ i : Int, 0 ≤ i → i < 2304 → True) → Wp d 275 185 [vR (some 49), vI p, vI m, vI (10 * m + f), vI k, vI t, vI e, vI x, l8] [] al h hr Q := by
    intro x h l8 hx w h26 h8 h9 h80 h86
    rcases hx with ⟨rfl, hf⟩ | ⟨rfl, hf⟩
    · skip
      refine s275_185.mpr ?_
      refine s275_187.mpr (wif (fun c187 => ?_) (fun c187 => ?_))
      · skip
        exact absurd ‹(1 : Int) = 0› (by decide)
      · skip
        exact T201 hf h _ _ w h26 h8 h9 h80 h86
    · skip
      refine s275_185.mpr ?_
      refine s275_187.mpr (wif (fun c187 => ?_) (fun c187 => ?_))
      · skip
        exact T190 hf h _ _ w h26
      · skip
        exact absurd rfl ‹¬ (0 : Int) = 0›
  have u1 : ∀ a i, a ≠ 49 → (at1 hi (q + 1)) a i = hi a i := fun a i z => upI_a z
  have u26 : (at1 hi (q + 1)) 49 26 = q + 1 := upI_eq
  have u49 : (at1 hi (q + 1)) 49 49 = hi 49 49 := upI_i (by decide)
  have u81 : (at1 hi (q + 1)) 81 e = G 81 e := (u1 81 e (by decide)).trans x1
  have NX185 : ∀ x l8, ((x = 1 ∧ fitG S G e (4 * m + whichM t) (sideM t)) ∨ (x = 0 ∧ ¬ fitG S G e (4 * m + whichM t) (sideM t))) → Wp d 275 185 [vR (some 49), vI p, vI m, vI (10 * m + f), vI k, vI t, vI e, vI x, l8] [] al (at1 hi (q + 1)) hr Q := fun x l8 hx => T185 x _ l8 hx h1w u26 (fun a i z1 z2 => u1 a i (by omega)) u49 (fun i => u1 80 i (by decide)) (fun _ _ _ => trivial)
  have T76 : Wp d 275 75 [vR (some 49), vI p, vI m, vI (10 * m + f), vI k, vI t, vI e, none, none] [] al (at1 hi (q + 1)) hr Q := by
    have c3 : G 81 e = 0 ∨ G 81 e = 1 ∨ G 81 e = 2 := by omega
    rcases c3 with c | c | c
    · have N := NX185 1 none (Or.inl ⟨rfl, Or.inl c⟩)
      refine s275_75.mpr ((s275_76 kM).mpr ?_)
      rw [mr_43 hR]
      refine s275_79.mpr ?_
      refine (s275_81 (hA.k (by decide) (by decide) rfl) (by first | assumption | omega) (by first | assumption | omega)).mpr ?_
      refine s275_82.mpr ?_
      try simp (disch := first | decide | assumption | omega) only [u81, c]
      refine s275_83.mpr (wif (fun c83 => ?_) (fun c83 => ?_))
      · skip
        refine s275_86.mpr (s275_87.mpr (s275_91.mpr (s275_93.mpr ?_)))
        refine s275_95.mpr (wif (fun c95 => ?_) (fun c95 => ?_))
        · skip
          first | exact N | (exfalso; omega)
        · skip
          refine s275_98.mpr ((s275_99 kM).mpr ?_)
          rw [mr_43 hR]
          refine s275_102.mpr ?_
          refine (s275_104 (hA.k (by decide) (by decide) rfl) (by first | assumption | omega) (by first | assumption | omega)).mpr ?_
          refine s275_105.mpr ?_
          try simp (disch := first | decide | assumption | omega) only [u81, c]
          refine s275_106.mpr (wif (fun c106 => ?_) (fun c106 => ?_))
          · skip
            exfalso; omega
          · skip
            first | exact N | (exfalso; omega)
      · skip
        exfalso; omega
    · have fv := hV e 0 ce.1 (by omega) (Int.le_refl _) (by omega)
      rw [Int.add_zero] at fv
      obtain ⟨⟨fs0, fs1⟩, fg0, fg1, b, fb, fb2⟩ := fv
      have x40 := x4 0 (Int.le_refl _) (by omega)
      rw [Int.add_zero] at x40
      obtain ⟨gc, hgc⟩ : ∃ gc, G 82 (2 * e) = gc := ⟨_, rfl⟩
      rw [hgc] at fg0 fg1 fb fb2 x40
      obtain ⟨hmb, hMb, hSb, hNb, hClb⟩ := hSh.y fb
      have fit1 : fitG S G e (4 * m + whichM t) (sideM t) ↔ G 83 (2 * e) ≠ sideM t ∧ Alk b Bm (gc % 4) (whichM t) := by
        constructor
        · rintro (z | ⟨-, z2, b1, b2, z3, z4, z5⟩)
          · omega
          · rw [hgc] at z3 z5
            rw [fb] at z3; cases z3
            rw [show (4 * m + whichM t) / 4 = m by omega, hSm] at z4; cases z4
            rw [show (4 * m + whichM t) % 4 = whichM t by omega] at z5
            exact ⟨z2, z5⟩
        · rintro ⟨z1, z2⟩
          exact Or.inr ⟨c, z1, b, Bm, by rw [hgc]; exact fb, by rw [show (4 * m + whichM t) / 4 = m by omega]; exact hSm, by rw [hgc, show (4 * m + whichM t) % 4 = whichM t by omega]; exact z2⟩
      have T136 : ∀ h2 l8, FW (fun a _ => a = 86) (at1 hi (q + 1)) h2 → (∀ i, 0 ≤ i → i < 2304 → h2 86 i = 0) → Wp d 275 136 [vR (some 49), vI p, vI m, vI (10 * m + f), vI k, vI t, vI e, vI 1, l8] [] al h2 hr Q := by
        intro h2 l8 w h0
        have w2 : FW wMn hi h2 := h1w.tr (w.mn (fun a i z => Or.inr (by omega)))
        have s26 : h2 49 26 = q + 1 := (w _ _ (by show ¬ _ = 86; decide)).trans u26
        have s83 : h2 83 (2 * e) = G 83 (2 * e) := ((w _ _ (by show ¬ _ = 86; decide)).trans (u1 _ _ (by decide))).trans x40.2.1
        have s82 : h2 82 (2 * e) = gc := ((w _ _ (by show ¬ _ = 86; decide)).trans (u1 _ _ (by decide))).trans x40.1
        have m0 : ∀ x y, ¬ vis (gc / 4) m h2 x y := fun x y ⟨y1, y2, y3⟩ => by rw [h0 _ (by omega) (by omega)] at y3; cases y3
        have hM2 : MB h2 (gc / 4) b := hMb.fw (fun a i z1 z2 => w2 a i (by unfold wMn; omega))
        have hM2' : MB h2 m Bm := hM.fw (fun a i z1 z2 => w2 a i (by unfold wMn; omega))
        have R := m_alike hA hR (m := gc / 4) (m' := m) (by omega) (by omega) hSb hS hNb hN 16 (d - 1) (gc % 4) (whichM t) h2 hM2 hM2' (by omega) fb2 w0 w4 (smN_ub (c := 1) 16 (fun k _ => by split <;> omega)) (by omega) (fun i z1 z2 => Or.inl (h0 i z1 z2))
        rw [show 4 * (gc / 4) + gc % 4 = gc by omega] at R
        have A0 : ∀ h3, (∀ R, Bis b Bm R → ¬ R (gc % 4) (whichM t)) → FW (fun a _ => a = 86) h2 h3 → Wp d 275 175 [vR (some 49), vI p, vI m, vI (10 * m + f), vI k, vI t, vI e, vI 1, l8] [vI 0] al h3 hr Q := by
          intro h3 hno w3
          have N := T190 (fun z => by obtain ⟨R, r1, r2⟩ := (fit1.mp z).2; exact hno R r1 r2) h3 (vI 0) l8 (w2.tr (w3.mn (fun a i z => Or.inr (by omega)))) ((w3 _ _ (by show ¬ _ = 86; decide)).trans s26)
          refine s275_175.mpr (wif (fun c175 => ?_) (fun c175 => ?_))
          · skip
            refine s275_182.mpr (s275_183.mpr (s275_185.mpr ?_))
            refine s275_187.mpr (wif (fun c187 => ?_) (fun c187 => ?_))
            · skip
              exact N
            · skip
              exact absurd rfl ‹¬ (0 : Int) = 0›
          · skip
            exact absurd rfl ‹¬ (0 : Int) = 0›
        have A1 : G 83 (2 * e) ≠ sideM t → ∀ h3, AY b Bm (gc / 4) m (gc % 4) (whichM t) h2 h3 → Wp d 275 175 [vR (some 49), vI p, vI m, vI (10 * m + f), vI k, vI t, vI e, vI 1, l8] [vI 1] al h3 hr Q := by
          rintro hsd h3 ⟨y1, y2, y3, y4, y5⟩
          have w3 : FW (fun a _ => a = 86) (at1 hi (q + 1)) h3 := w.tr y1
          have N := T185 1 h3 l8 (Or.inl ⟨rfl, fit1.mpr ⟨hsd, vis (gc / 4) m h3, fun x y v => ((y4 x y v).resolve_left (m0 x y)), y3⟩⟩) (h1w.tr (w3.mn (fun a i z => Or.inr (by omega)))) ((w3 _ _ (by show ¬ _ = 86; decide)).trans u26) (fun a i z1 z2 => (w3 a i (by show ¬ a = 86; omega)).trans (u1 a i (by omega))) ((w3 _ _ (by show ¬ _ = 86; decide)).trans u49) (fun i => (w3 80 i (by show ¬ _ = 86; decide)).trans (u1 80 i (by decide))) (fun _ _ _ => trivial)
          refine s275_175.mpr (wif (fun c175 => ?_) (fun c175 => ?_))
          · skip
            exact absurd ‹(1 : Int) = 0› (by decide)
          · skip
            refine s275_178.mpr (s275_179.mpr (s275_183.mpr ?_))
            exact N
        by_cases cs : G 83 (2 * e) = sideM t
        · have N := T190 (fun z => (fit1.mp z).1 cs) h2 (vI 0) l8 w2 s26
          refine s275_136.mpr ((s275_137 kM).mpr ?_)
          rw [mr_45 hR]
          refine s275_140.mpr (s275_141.mpr (s275_143.mpr ?_))
          try simp (disch := first | decide | assumption | omega) only [kon, knt_some, knt_none, Option.toList_some, Option.toList_none, List.cons_append, List.nil_append, s83, fMul_id]
          refine (s275_144 (hA.k (by decide) (by decide) rfl) (by first | assumption | omega) (by first | assumption | omega)).mpr ?_
          refine s275_145.mpr ?_
          try simp (disch := first | decide | assumption | omega) only [kon, knt_some, knt_none, Option.toList_some, Option.toList_none, List.cons_append, List.nil_append, s83, fMul_id]
          refine (s275_147 (by omega)).mpr ?_
          refine (m_side rt).mpr ?_
          refine s275_150.mpr (wif (fun c150 => ?_) (fun c150 => ?_))
          · skip
            refine s275_182.mpr (s275_183.mpr (s275_185.mpr ?_))
            refine s275_187.mpr (wif (fun c187 => ?_) (fun c187 => ?_))
            · skip
              exact N
            · skip
              exact absurd rfl ‹¬ (0 : Int) = 0›
          · skip
            exact absurd cs (by assumption)
        · skip
          refine s275_136.mpr ((s275_137 kM).mpr ?_)
          rw [mr_45 hR]
          refine s275_140.mpr (s275_141.mpr (s275_143.mpr ?_))
          try simp (disch := first | decide | assumption | omega) only [kon, knt_some, knt_none, Option.toList_some, Option.toList_none, List.cons_append, List.nil_append, s83, s82, fMul_id, fAdd_id]
          refine (s275_144 (hA.k (by decide) (by decide) rfl) (by first | assumption | omega) (by first | assumption | omega)).mpr ?_
          refine s275_145.mpr ?_
          try simp (disch := first | decide | assumption | omega) only [kon, knt_some, knt_none, Option.toList_some, Option.toList_none, List.cons_append, List.nil_append, s83, s82, fMul_id, fAdd_id]
          refine (s275_147 (by omega)).mpr ?_
          refine (m_side rt).mpr ?_
          refine s275_150.mpr (wif (fun c150 => ?_) (fun c150 => ?_))
          · skip
            exact absurd (by assumption) cs
          · skip
            refine s275_153.mpr (s275_154.mpr ((s275_155 kM).mpr ?_))
            rw [mr_44 hR]
            refine s275_158.mpr (s275_159.mpr (s275_161.mpr ?_))
            try simp (disch := first | decide | assumption | omega) only [kon, knt_some, knt_none, Option.toList_some, Option.toList_none, List.cons_append, List.nil_append, s83, s82, fMul_id, fAdd_id]
            refine (s275_162 (hA.k (by decide) (by decide) rfl) (by first | assumption | omega) (by first | assumption | omega)).mpr ?_
            refine s275_163.mpr (s275_164.mpr (s275_165.mpr (s275_166.mpr ?_)))
            try simp (disch := first | decide | assumption | omega) only [kon, knt_some, knt_none, Option.toList_some, Option.toList_none, List.cons_append, List.nil_append, s83, s82, fMul_id, fAdd_id]
            refine (s275_168 (by omega)).mpr ?_
            refine (m_which rt).mpr ?_
            refine s275_171.mpr ?_
            try simp (disch := first | decide | assumption | omega) only [kon, knt_some, knt_none, Option.toList_some, Option.toList_none, List.cons_append, List.nil_append, s83, s82, fMul_id, fAdd_id]
            refine (s275_172 (by omega) kM).mpr ?_
            refine ev_mono R (fun r a h b2 z => ?_)
            rcases z with ⟨rfl, rfl, rfl, z⟩ | ⟨rfl, rfl, rfl, z1, z2⟩
            · simp only [kon, knt_some, knt_none, Option.toList_some, Option.toList_none, List.cons_append, List.nil_append]
              exact A1 cs h z
            · simp only [kon, knt_some, knt_none, Option.toList_some, Option.toList_none, List.cons_append, List.nil_append]
              exact A0 h z2 z1
      have k86 : isK al 86 16 := hA.k (by decide) (by decide) rfl
      have r86 : isR al 86 = true := hA.r (by decide) (by decide) (by decide)
      have T112 : Wp d 275 112 [vR (some 49), vI p, vI m, vI (10 * m + f), vI k, vI t, vI e, vI 1, vI 0] [] al (at1 hi (q + 1)) hr Q := by
        obtain ⟨N2, hN2⟩ : ∃ N2 : Nat, (N2 : Int) = 2304 := ⟨2304, rfl⟩
        have l86 : aln al 86 = 2304 := hA.len (by decide) (by decide) rfl
        refine wp_cnt (N := N2) (fun i ls h3 => ls = [vR (some 49), vI p, vI m, vI (10 * m + f), vI k, vI t, vI e, vI 1, vI i] ∧ FW (fun a _ => a = 86) (at1 hi (q + 1)) h3 ∧ ∀ j : Int, 0 ≤ j → j < i → h3 86 j = 0) ?_ ?_ _ _ ⟨rfl, FW.rf, fun j a b => absurd b (by omega)⟩
        · rintro i ls h3 hi9 ⟨rfl, w3, a3⟩ nx
          refine s275_112.mpr (s275_114.mpr ((s275_115 kM).mpr ?_))
          rw [mr_50 hR]
          refine (s275_118 (hA.r (by decide) (by decide) (by decide))).mpr ?_
          try simp (disch := first | decide | assumption | omega) only [fAdd_id]
          refine s275_119.mpr (wif (fun c119 => ?_) (fun c119 => ?_))
          · skip
            refine s275_122.mpr ((s275_123 kM).mpr ?_)
            rw [mr_50 hR]
            refine s275_126.mpr (s275_128.mpr ?_)
            refine (s275_129Z (hA.k (by decide) (by decide) rfl) (by first | assumption | omega) (by first | assumption | omega)).mpr ?_
            refine s275_130.mpr (s275_133.mpr ?_)
            try simp (disch := first | decide | assumption | omega) only [fAdd_id]
            refine nx _ _ ⟨by rw [cast1], w3.up rfl, fun j y1 y2 => ?_⟩
            by_cases y : j = i
            · subst y; rw [upI_eq]; rfl
            · rw [upI_i y]; exact a3 j y1 (by omega)
          · skip
            exfalso; omega
        · rintro ls h3 ⟨rfl, w3, a3⟩
          refine s275_112.mpr (s275_114.mpr ((s275_115 kM).mpr ?_))
          rw [mr_50 hR]
          refine (s275_118 (hA.r (by decide) (by decide) (by decide))).mpr ?_
          refine s275_119.mpr (wif (fun c119 => ?_) (fun c119 => ?_))
          · skip
            exfalso; omega
          · skip
            exact T136 h3 _ w3 (fun j y1 y2 => a3 j y1 (by omega))
      refine s275_75.mpr ((s275_76 kM).mpr ?_)
      rw [mr_43 hR]
      refine s275_79.mpr ?_
      refine (s275_81 (hA.k (by decide) (by decide) rfl) (by first | assumption | omega) (by first | assumption | omega)).mpr ?_
      refine s275_82.mpr ?_
      try simp (disch := first | decide | assumption | omega) only [u81, c]
      refine s275_83.mpr (wif (fun c83 => ?_) (fun c83 => ?_))
      · skip
        refine s275_86.mpr (s275_87.mpr (s275_91.mpr (s275_93.mpr ?_)))
        refine s275_95.mpr (wif (fun c95 => ?_) (fun c95 => ?_))
        · skip
          first | (exfalso; omega) | exact absurd ‹(1 : Int) = 0› (by decide) | exact absurd rfl ‹¬ (1 : Int) = 1›
        · skip
          refine s275_98.mpr ((s275_99 kM).mpr ?_)
          rw [mr_43 hR]
          refine s275_102.mpr ?_
          refine (s275_104 (hA.k (by decide) (by decide) rfl) (by first | assumption | omega) (by first | assumption | omega)).mpr ?_
          refine s275_105.mpr ?_
          try simp (disch := first | decide | assumption | omega) only [u81, c]
          refine s275_106.mpr (wif (fun c106 => ?_) (fun c106 => ?_))
          · skip
            refine s275_109.mpr (s275_110.mpr ?_)
            exact T112
          · skip
            first | (exfalso; omega) | exact absurd ‹(1 : Int) = 0› (by decide) | exact absurd rfl ‹¬ (1 : Int) = 1›
      · skip
        exfalso; omega
    · have N := NX185 0 none (Or.inr ⟨rfl, fun z => by rcases z with z | z <;> omega⟩)
      refine s275_75.mpr ((s275_76 kM).mpr ?_)
      rw [mr_43 hR]
      refine s275_79.mpr ?_
      refine (s275_81 (hA.k (by decide) (by decide) rfl) (by first | assumption | omega) (by first | assumption | omega)).mpr ?_
      refine s275_82.mpr ?_
      try simp (disch := first | decide | assumption | omega) only [u81, c]
      refine s275_83.mpr (wif (fun c83 => ?_) (fun c83 => ?_))
      · skip
        exfalso; omega
      · skip
        refine s275_90.mpr (s275_91.mpr (s275_93.mpr ?_))
        refine s275_95.mpr (wif (fun c95 => ?_) (fun c95 => ?_))
        · skip
          exact N
        · skip
          exact absurd rfl ‹¬ (0 : Int) = 0›
  refine s275_0.mpr ((s275_1 kM).mpr ?_)
  rw [mr_17 hR]
  refine s275_4.mpr (s275_5.mpr (s275_6.mpr (s275_7.mpr (s275_9.mpr ?_))))
  try simp (disch := first | decide | assumption | omega) only [e65, fAdd_id, fMul_id]
  refine (s275_10 (hA.k (by decide) (by decide) rfl) (by first | assumption | omega) (by first | assumption | omega)).mpr ?_
  refine s275_11.mpr (s275_13.mpr ?_)
  try simp (disch := first | decide | assumption | omega) only [e65, fAdd_id, fMul_id]
  refine s275_15.mpr (wif (fun c15 => ?_) (fun c15 => ?_))
  · first
    | (exfalso; omega)
    | skip
      exfalso; omega
  · first
    | (exfalso; omega)
    | skip
      refine s275_66.mpr (s275_67.mpr (s275_68.mpr ?_))
      refine (s275_70 (by omega) kM).mpr ?_
      refine (m_number hA hR hPT (by omega)).mpr ?_
      rw [hB, hq, hBe]
      refine wif_y (by omega) ?_
      simp only [kon, knt_some, knt_none, Option.toList_some, Option.toList_none, List.cons_append, List.nil_append]
      refine s275_73.mpr ?_
      exact T76
end MN1
