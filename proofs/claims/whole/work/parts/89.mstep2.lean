/-! THE REFERENCE: a step of types, whole -/
section MS2
variable {d : Nat} {al : AL} {hi : HI} {hr : HR} {Q : QQ} {B : Int → Int}
theorem ts_up {f p : Int} {X : Tst} {fl : List (Int × Tst)} (hop : opA B f p ≤ 43) (hN : opA B f p = 30 ∨ opA B f p = 40 → 0 ≤ nPar B (agA B f p)) (h : tstep B f p X = some fl) : ∀ q ∈ fl, q.2.1 ≤ X.1 + 2 := by
  unfold tstep at h
  by_cases c : opA B f p < 20
  · rw [if_pos c] at h
    by_cases c0 : opA B f p = 0
    · rw [tsP_0 c0] at h; obtain ⟨-, rfl⟩ := onw_s h; intro q hq; rw [List.mem_singleton] at hq; subst hq; simp only; omega
    by_cases c1 : opA B f p = 1
    · rw [tsP_1 c1] at h; obtain ⟨-, rfl⟩ := onw_s h; intro q hq; rw [List.mem_singleton] at hq; subst hq; simp only; omega
    by_cases c2 : opA B f p = 2
    · rw [tsP_2 c2] at h; obtain ⟨-, rfl⟩ := onw_s h; intro q hq; rw [List.mem_singleton] at hq; subst hq; simp only; omega
    by_cases c3 : opA B f p = 3
    · rw [tsP_3 c3] at h; obtain ⟨-, rfl⟩ := onw_s h; intro q hq; rw [List.mem_singleton] at hq; subst hq; simp only; omega
    by_cases c4 : opA B f p = 4
    · rw [tsP_4 c4] at h; obtain ⟨-, rfl⟩ := onw_s h; intro q hq; rw [List.mem_singleton] at hq; subst hq; simp only; omega
    by_cases c5 : opA B f p = 5
    · rw [tsP_5 c5] at h; obtain ⟨-, rfl⟩ := onw_s h; intro q hq; rw [List.mem_singleton] at hq; subst hq; simp only; omega
    by_cases c6 : opA B f p = 6
    · rw [tsP_6 c6] at h; obtain ⟨-, rfl⟩ := onw_s h; intro q hq; rw [List.mem_singleton] at hq; subst hq; simp only; omega
    by_cases c19 : opA B f p = 19
    · rw [tsP_19 c19] at h; obtain ⟨-, rfl⟩ := onw_s h; intro q hq; rw [List.mem_singleton] at hq; subst hq; simp only; omega
    rw [tsP_7 (by simp only [List.mem_cons, List.not_mem_nil, or_false, not_or]; omega)] at h; obtain ⟨-, rfl⟩ := onw_s h; intro q hq; rw [List.mem_singleton] at hq; subst hq; simp only; omega
  · rw [if_neg c] at h
    by_cases c' : opA B f p < 32
    · rw [if_pos c'] at h
      by_cases c20 : opA B f p = 20
      · rw [tsH_20 c20] at h; obtain ⟨-, rfl⟩ := onw_s h; intro q hq; rw [List.mem_singleton] at hq; subst hq; simp only; omega
      by_cases c22 : opA B f p = 22
      · rw [tsH_22 c22] at h; obtain ⟨-, rfl⟩ := onw_s h; intro q hq; rw [List.mem_singleton] at hq; subst hq; simp only; omega
      by_cases c25 : opA B f p = 25
      · rw [tsH_25 c25] at h; obtain ⟨-, rfl⟩ := onw_s h; intro q hq; rw [List.mem_singleton] at hq; subst hq; simp only; omega
      by_cases c26 : opA B f p = 26
      · rw [tsH_26 c26] at h; obtain ⟨-, rfl⟩ := onw_s h; intro q hq; rw [List.mem_singleton] at hq; subst hq; simp only; omega
      by_cases c23 : opA B f p = 23
      · rw [tsH_23 c23] at h; obtain ⟨-, rfl⟩ := onw_s h; intro q hq; split at hq; exact nomatch hq; rw [List.mem_singleton] at hq; subst hq; simp only; omega
      by_cases c24 : opA B f p = 24
      · rw [tsH_24 c24] at h; obtain ⟨-, rfl⟩ := onw_s h; intro q hq; split at hq; exact nomatch hq; rw [List.mem_singleton] at hq; subst hq; simp only; omega
      by_cases c27 : opA B f p = 27
      · rw [tsH_27 c27] at h; obtain ⟨-, rfl⟩ := onw_s h; intro q hq; split at hq; exact nomatch hq; rw [List.mem_singleton] at hq; subst hq; simp only; omega
      by_cases c28 : opA B f p = 28
      · rw [tsH_28 c28] at h; obtain ⟨-, rfl⟩ := onw_s h; intro q hq; split at hq; exact nomatch hq; rw [List.mem_singleton] at hq; subst hq; simp only; omega
      by_cases c29 : opA B f p = 29
      · rw [tsH_29 c29] at h; obtain ⟨-, rfl⟩ := onw_s h; intro q hq; split at hq; exact nomatch hq; rw [List.mem_singleton] at hq; subst hq; simp only; omega
      by_cases c21 : opA B f p = 21
      · rw [tsH_21 c21] at h; obtain ⟨-, rfl⟩ := onw_s h; intro q hq; simp only [List.mem_cons, List.not_mem_nil, or_false] at hq; rcases hq with rfl | rfl <;> simp only <;> omega
      by_cases c30 : opA B f p = 30
      · rw [tsH_30 c30] at h; obtain ⟨-, rfl⟩ := onw_s h; intro q hq; rw [List.mem_singleton] at hq; subst hq; simp only; have := hN (Or.inl c30); split <;> simp only <;> omega
      rw [tsH_31 (by omega)] at h; obtain ⟨-, rfl⟩ := onw_s h; intro q hq; exact nomatch hq
    · rw [if_neg c'] at h
      by_cases c32 : opA B f p = 32
      · rw [tsL_32 c32] at h; obtain ⟨-, rfl⟩ := onw_s h; intro q hq; rw [List.mem_singleton] at hq; subst hq; simp only; omega
      by_cases c33 : opA B f p = 33
      · rw [tsL_33 c33] at h; obtain ⟨-, rfl⟩ := onw_s h; intro q hq; rw [List.mem_singleton] at hq; subst hq; simp only; omega
      by_cases c34 : opA B f p = 34
      · rw [tsL_34 c34] at h; obtain ⟨-, rfl⟩ := onw_s h; intro q hq; rw [List.mem_singleton] at hq; subst hq; simp only; omega
      by_cases c35 : opA B f p = 35
      · rw [tsL_35 c35] at h; obtain ⟨-, rfl⟩ := onw_s h; intro q hq; rw [List.mem_singleton] at hq; subst hq; simp only; omega
      by_cases c36 : opA B f p = 36
      · rw [tsL_36 c36] at h; obtain ⟨-, rfl⟩ := onw_s h; intro q hq; rw [List.mem_singleton] at hq; subst hq; simp only; omega
      by_cases c39 : opA B f p = 39
      · rw [tsL_39 c39] at h; obtain ⟨-, rfl⟩ := onw_s h; intro q hq; rw [List.mem_singleton] at hq; subst hq; simp only; omega
      by_cases c41 : opA B f p = 41
      · rw [tsL_41 c41] at h; obtain ⟨-, rfl⟩ := onw_s h; intro q hq; rw [List.mem_singleton] at hq; subst hq; simp only; omega
      by_cases c43 : opA B f p = 43
      · rw [tsL_43 c43] at h; obtain ⟨-, rfl⟩ := onw_s h; intro q hq; rw [List.mem_singleton] at hq; subst hq; simp only; omega
      by_cases c40 : opA B f p = 40
      · rw [tsL_40 c40] at h; obtain ⟨-, rfl⟩ := onw_s h; intro q hq; rw [List.mem_singleton] at hq; subst hq; have := hN (Or.inr c40); simp only; omega
      by_cases c42 : opA B f p = 42
      · rw [tsL_42 c42] at h; obtain ⟨-, rfl⟩ := onw_s h; intro q hq; exact nomatch hq
      by_cases c37 : opA B f p = 37
      · by_cases hb : (0 < X.1 ∧ endT B (X.2.1 (X.1 - 1)) (agA B f p) ∧ ldT B (X.2.1 (X.1 - 1)) (agA B f p) = -1)
        · rw [tsL_37a c37 hb] at h; cases h; intro q hq; rw [List.mem_singleton] at hq; subst hq; simp only; omega
        · rw [tsL_37b c37 hb] at h; obtain ⟨-, rfl⟩ := onw_s h; intro q hq; rw [List.mem_singleton] at hq; subst hq; simp only; omega
      rw [tsL_38 (by omega)] at h; obtain ⟨-, rfl⟩ := onw_s h; intro q hq
      obtain ⟨t, -, rfl⟩ := List.mem_map.mp hq
      show (rcv B X t).1 ≤ _
      unfold rcv
      simp only
      split <;> simp only <;> omega
/-- the step of types, of an instruction that comes -/
theorem m_step {m g p n : Int} {Xp : Tst} (hA : SA al) (hR : MR hr) (hd : 7 ≤ d) (hM : MB hi m B) (hS : Sh B) (hg : 0 ≤ g ∧ g < nFn B) (h68 : hi 68 (10 * m + g) = n) (hn : n ≤ 240) (hc : 0 ≤ cAt B g ∧ cAt B g + p ≤ 2000) (hp : 0 ≤ p ∧ p < n) (hI : InsI B (cAt B g + n) (nLoc B g) (cAt B g + p)) (hfn : opA B g p = 30 ∨ opA B g p = 40 → agA B g p < nFn B) (hO : Opk B g p) (h36 : hi 49 36 = 1) (h37 : hi 49 37 = 0 ∨ hi 49 37 = 1) (hb : bool71 hi) (hv : vA B (memA hi)) (hX : memA hi p = some Xp) (hh : Xp.1 ≤ 16)
    (ok : ∀ X fl hi', eqX X Xp → tstep B g p X = some fl → FlR n (memA hi) fl (memA hi') → FW wT hi hi' → hi' 49 36 = 1 → (hi' 49 37 = 0 ∨ hi' 49 37 = 1) → CS hi hi' → bool71 hi' → Q (some none) al hi' hr)
    (no : ∀ X hi', eqX X Xp → (tstep B g p X = none ∨ ∃ fl, tstep B g p X = some fl ∧ FlX n (memA hi) fl) → FW wT hi hi' → hi' 49 36 = 0 → Q (some none) al hi' hr) : Ev d 253 [vR (some 49), vI m, vI (10 * m + g), vI p] al hi hr Q := by
  have kM : isK al 49 13 := hA.k (by decide) (by decide) rfl
  obtain ⟨hm0, hm1, h52, hB, hMD⟩ := id hM
  have f1 : nFn B ≤ 10 := hS.2.2.2.2.2.2.2.2.2.1
  have hrg : ∀ k, -1 ≤ B k ∧ B k ≤ 255 := fun k => by rw [← hB]; exact bAt_rng m k
  have h69 : hi 69 (10 * m + g) = cAt B g := (hMD.2.2.2.2.2 g hg.1 hg.2).2.2.2.2.2
  have hL10 : nLoc B g ≤ 10 := (hS.2.2.2.2.2.2.2.2.2.2 g hg.1 hg.2).2.2.2.2.2.2.2.2.1
  obtain ⟨i1, i2, i3, i4, i5, i6, i7, i8⟩ := hI
  have hvX := hv p Xp hp.1 hX
  have hX0 := hX
  unfold memA at hX0
  by_cases h71 : hi 71 p = 1
  case neg => rw [if_neg h71] at hX0; cases hX0
  rw [if_pos h71] at hX0
  cases hX0
  have t0 : 0 ≤ hi 72 p := hvX.1
  have t1 : hi 72 p ≤ 16 := hh
  have l69 := SA.len (a := 69) (n := 130) hA (by decide) (by decide) rfl
  have l72 := SA.len (a := 72) (n := 240) hA (by decide) (by decide) rfl
  have l75 := SA.len (a := 75) (n := 24) hA (by decide) (by decide) rfl
  have l73 := SA.len (a := 73) (n := 4080) hA (by decide) (by decide) rfl
  have l76 := SA.len (a := 76) (n := 10) hA (by decide) (by decide) rfl
  have l74 := SA.len (a := 74) (n := 2400) hA (by decide) (by decide) rfl
  have hbv := hrg (cAt B g + p + 1)
  have T112 : ∀ h2 l7, FW wS hi h2 → h2 49 36 = 1 → h2 49 35 = hi 72 p → eqX (hi 72 p, h2 75, h2 76) (hi 72 p, memS hi p, memL hi p) → Wp d 253 112 [vR (some 49), vI m, vI (10 * m + g), vI p, vI (cAt B g + p), vI (B (cAt B g + p)), vI (B (cAt B g + p + 1)), l7] [] al h2 hr Q := by
    intro h2 l7 hw k36 k35 hE
    have hvX2 : vX B (hi 72 p, h2 75, h2 76) := eqX_v hE hvX
    have eM : memA h2 = memA hi := memA_ws hw
    have k37 : h2 49 37 = hi 49 37 := hw 49 37 (by unfold wS; omega)
    have k68 : h2 68 (10 * m + g) = n := (hw 68 _ (wS_n (by decide) (by decide))).trans h68
    have kb : bool71 h2 := fun q q0 q1 => by rw [hw 71 _ (by unfold wS; omega)]; exact hb q q0 q1
    have kv : vA B (memA h2) := by rw [eM]; exact hv
    have hM2 := hM.ws hw
    have hfl : ∀ fl, tstep B g p (hi 72 p, h2 75, h2 76) = some fl → ∀ q ∈ fl, 0 ≤ q.1 ∧ vX B q.2 := fun fl h => hO.2.2 _ fl hvX2 h
    by_cases c38 : B (cAt B g + p) = 38
    · have e38 : tstep B g p (hi 72 p, h2 75, h2 76) = tsL B g 38 (B (cAt B g + p + 1)) p (hi 72 p, h2 75, h2 76) := by
        unfold tstep opA agA; rw [c38, if_neg (by omega), if_neg (by omega)]
      have i5 := i5 (oprn_10 c38)
      have R1 : Ev (d - 1) 263 [vR (some 49), vI m, vI (10 * m + g), vI (cAt B g + p), vI (B (cAt B g + p + 1))] al h2 hr (kon d 253 126 129 [vR (some 49), vI m, vI (10 * m + g), vI p, vI (cAt B g + p), vI (B (cAt B g + p)), vI (B (cAt B g + p + 1)), l7] [] Q) := by
        refine m_receives (B := B) hA hR (by omega) hM2 hS hg k68 hn (by omega) k36 (by omega) k35 ⟨t0, t1⟩ hvX2 kb kv ⟨i5.1, i5.2.1⟩ i5.2.2 (fun fl h => hfl fl (e38.trans h)) (fun fl h3 x1 x2 x3 x4 x5 x6 x7 => ?_) (fun h3 x1 x2 x3 => ?_)
        · simp only [kon, knt_some, knt_none, Option.toList_some, Option.toList_none, List.cons_append, List.nil_append]
          refine s253_129.mpr ?_
          rw [eM] at x2
          exact ok _ fl h3 hE (e38.trans x1) x2 (hw.st.tr x3) x4 x5 (CS.l hw x6) x7
        · simp only [kon, knt_some, knt_none, Option.toList_some, Option.toList_none, List.cons_append, List.nil_append]
          refine s253_129.mpr ?_
          rw [eM, ← e38] at x1
          exact no _ h3 hE x1 (hw.st.tr x2) x3
      refine s253_112.mpr (s253_114.mpr ?_)
      refine s253_116.mpr (wif (fun c116 => ?_) (fun c116 => ?_))
      · first
        | (exfalso; omega)
        | skip
          refine s253_119.mpr (s253_120.mpr (s253_121.mpr (s253_122.mpr (s253_124.mpr ?_))))
          refine (s253_126 (by omega) kM).mpr ?_
          exact R1
      · first
        | (exfalso; omega)
        | skip
          exfalso; omega
    · -- an end that is told
      have E183 : ∀ h3, FW wS hi h3 → ∀ L Y, tstep B g p (hi 72 p, h2 75, h2 76) = some L → FL2 (B (cAt B g + p)) (B (cAt B g + p + 1)) p (ilen B (cAt B g + p)) Y L → h3 49 36 = 1 → h3 49 38 = 0 → scX h3 = Y → Wp d 253 183 [vR (some 49), vI m, vI (10 * m + g), vI p, vI (cAt B g + p), vI (B (cAt B g + p)), vI (B (cAt B g + p + 1)), l7] [] al h3 hr Q := by
        intro h3 hw3 L Y hL hF z36 z38 hY
        refine m_stepE (B := B) hA hR (by omega) hM hS hg h68 hn (by omega) ⟨hp.1, by omega⟩ h37 hb hv (X := (hi 72 p, h2 75, h2 76)) hfl (fun fl h4 x1 x2 x3 x4 x5 x6 x7 => ok _ fl h4 hE x1 x2 x3 x4 x5 x6 x7) (fun h4 x1 x2 x3 => no _ h4 hE x1 x2 x3) hL hF hw3 z36 z38 hY ?_ l7
        have hu := ts_up i7 hO.2.1 hL
        rcases hF with ⟨e1, e2⟩ | ⟨e1, e2⟩ | ⟨e1, e2⟩ | ⟨e1, e3, e4, e5, e2⟩
        · have := hu (B (cAt B g + p + 1), Y) (by rw [e2]; exact List.mem_cons_self ..); right; right; simp only at this; omega
        · have := hu (B (cAt B g + p + 1), Y) (by rw [e2]; exact List.mem_cons_self ..); right; right; simp only at this; omega
        · omega
        · have := hu (p + ilen B (cAt B g + p), Y) (by rw [e2]; exact List.mem_cons_self ..); right; right; simp only at this; omega
      have N183 : ∀ h3, FW wS hi h3 → tstep B g p (hi 72 p, h2 75, h2 76) = none → h3 49 36 = 0 → Wp d 253 183 [vR (some 49), vI m, vI (10 * m + g), vI p, vI (cAt B g + p), vI (B (cAt B g + p)), vI (B (cAt B g + p + 1)), l7] [] al h3 hr Q := by
        intro h3 hw3 hL z36
        refine s253_183.mpr ?_
        refine (s253_184 kM).mpr ?_
        try simp (disch := first | decide | assumption | omega) only [z36]
        refine s253_187.mpr (wif (fun c187 => ?_) (fun c187 => ?_))
        · first
          | (exfalso; omega)
          | skip
            refine (s253_197).mpr ?_
            exact no _ h3 hE (Or.inl hL) hw3.st z36
        · first
          | (exfalso; omega)
          | skip
            refine s253_190.mpr ?_
            refine (s253_191 kM).mpr ?_
            try simp (disch := first | decide | assumption | omega) only [z36]
            refine s253_194.mpr (wif (fun c194 => ?_) (fun c194 => ?_))
            · first
              | (exfalso; omega)
              | skip
                exfalso; omega
            · first
              | (exfalso; omega)
              | skip
                refine (s253_197).mpr ?_
                exact no _ h3 hE (Or.inl hL) hw3.st z36
      have S183 : ∀ h3, FW wS hi h3 → tstep B g p (hi 72 p, h2 75, h2 76) = some [] → h3 49 36 = 1 → h3 49 38 = 1 → Wp d 253 183 [vR (some 49), vI m, vI (10 * m + g), vI p, vI (cAt B g + p), vI (B (cAt B g + p)), vI (B (cAt B g + p + 1)), l7] [] al h3 hr Q := by
        intro h3 hw3 hL z36 z38
        refine s253_183.mpr ?_
        refine (s253_184 kM).mpr ?_
        try simp (disch := first | decide | assumption | omega) only [z36, z38]
        refine s253_187.mpr (wif (fun c187 => ?_) (fun c187 => ?_))
        · first
          | (exfalso; omega)
          | skip
            refine (s253_197).mpr ?_
            first | (exfalso; omega) | exact ok _ [] h3 hE hL (by rw [memA_ws hw3]; exact fun _ _ => rfl) hw3.st z36 (by rw [hw3 49 37 (by unfold wS; omega)]; exact h37) (CS.ws hw3) (fun q q0 q1 => by rw [hw3 71 _ (by unfold wS; omega)]; exact hb q q0 q1)
        · first
          | (exfalso; omega)
          | skip
            refine s253_190.mpr ?_
            refine (s253_191 kM).mpr ?_
            try simp (disch := first | decide | assumption | omega) only [z36, z38]
            refine s253_194.mpr (wif (fun c194 => ?_) (fun c194 => ?_))
            · first
              | (exfalso; omega)
              | skip
                exfalso; omega
            · first
              | (exfalso; omega)
              | skip
                refine (s253_197).mpr ?_
                first | (exfalso; omega) | exact ok _ [] h3 hE hL (by rw [memA_ws hw3]; exact fun _ _ => rfl) hw3.st z36 (by rw [hw3 49 37 (by unfold wS; omega)]; exact h37) (CS.ws hw3) (fun q q0 q1 => by rw [hw3 71 _ (by unfold wS; omega)]; exact hb q q0 q1)
      have hz : FW wS h2 (upI h2 49 38 0) := FW.up FW.rf (by unfold wS; omega)
      have z36 : (upI h2 49 38 0) 49 36 = 1 := by (try simp (disch := decide) only [upI_eq, upI_a, upI_i, upR_eq, upR_a, upR_i]); exact k36
      have z35 : (upI h2 49 38 0) 49 35 = hi 72 p := by (try simp (disch := decide) only [upI_eq, upI_a, upI_i, upR_eq, upR_a, upR_i]); exact k35
      have z75 : (upI h2 49 38 0) 75 = h2 75 := upI_ro (by decide)
      have z76 : (upI h2 49 38 0) 76 = h2 76 := upI_ro (by decide)
      have R1 : B (cAt B g + p) < 20 → Ev (d - 1) 254 [vR (some 49), vI (B (cAt B g + p)), vI (B (cAt B g + p + 1))] al (upI h2 49 38 0) hr (kon d 253 147 150 [vR (some 49), vI m, vI (10 * m + g), vI p, vI (cAt B g + p), vI (B (cAt B g + p)), vI (B (cAt B g + p + 1)), l7] [] Q) := by
        intro c20
        have ets : tstep B g p (hi 72 p, h2 75, h2 76) = tsP (B (cAt B g + p)) (B (cAt B g + p + 1)) p (hi 72 p, h2 75, h2 76) := by unfold tstep opA agA; rw [if_pos c20]
        refine m_plain (p := p) hA hR (by omega) z36 z35 ⟨t0, t1⟩ (fun h => hO.1 h) (fun q Y h3 x1 x2 x3 x4 x5 => ?_) (fun h3 x1 x2 x3 => ?_)
        · simp only [kon, knt_some, knt_none, Option.toList_some, Option.toList_none, List.cons_append, List.nil_append]
          refine s253_150.mpr (E183 h3 ((hw.tr hz).tr x2) [(q, Y)] Y ?_ ?_ x3 (x4.trans upI_eq) x5)
          · rw [z75, z76] at x1; rw [ets]; exact x1
          · refine Or.inr (Or.inr (Or.inr ⟨by omega, by omega, by omega, by omega, ?_⟩))
            rw [tsP_q x1, il_P i6 c20]
        · simp only [kon, knt_some, knt_none, Option.toList_some, Option.toList_none, List.cons_append, List.nil_append]
          refine s253_150.mpr (N183 h3 ((hw.tr hz).tr x2) ?_ x3)
          rw [z75, z76] at x1; rw [ets]; exact x1
      have hop0 : ∀ x, oprn (B (cAt B g + p)) = x → x ≠ 0 → 0 ≤ B (cAt B g + p + 1) := fun x e h => i1 (by rw [e]; exact h)
      have R2 : ¬ B (cAt B g + p) < 20 → B (cAt B g + p) < 32 → Ev (d - 1) 255 [vR (some 49), vI m, vI (10 * m + g), vI (B (cAt B g + p)), vI (B (cAt B g + p + 1))] al (upI h2 49 38 0) hr (kon d 253 167 170 [vR (some 49), vI m, vI (10 * m + g), vI p, vI (cAt B g + p), vI (B (cAt B g + p)), vI (B (cAt B g + p + 1)), l7] [] Q) := by
        intro c20 c32
        have ets : tstep B g p (hi 72 p, h2 75, h2 76) = tsH B g (B (cAt B g + p)) (B (cAt B g + p + 1)) p (hi 72 p, h2 75, h2 76) := by unfold tstep opA agA; rw [if_neg c20, if_pos c32]
        refine m_heaps (B := B) (p := p) hA hR (by omega) (hM2.ws hz) hS hg z36 upI_eq z35 ⟨t0, t1⟩ (by rw [z75, z76]; exact hvX2) (by omega) (fun h => ⟨?_, by omega⟩) (fun h => hfn (Or.inl h)) (fun h => i3 (oprn_5 (by simp only [List.mem_cons, List.not_mem_nil, or_false]; omega))) (fun L Y h3 x1 x6 x2 x3 x4 x5 => ?_) (fun h3 x1 x2 x3 x4 => ?_) (fun h3 x1 x2 x3 => ?_)
        · rcases h with h | h | h | h | h
          · exact hop0 3 (oprn_3 (by simp only [List.mem_cons, List.not_mem_nil, or_false]; omega)) (by decide)
          · exact hop0 5 (oprn_5 (by simp only [List.mem_cons, List.not_mem_nil, or_false]; omega)) (by decide)
          · exact hop0 5 (oprn_5 (by simp only [List.mem_cons, List.not_mem_nil, or_false]; omega)) (by decide)
          · exact hop0 3 (oprn_3 (by simp only [List.mem_cons, List.not_mem_nil, or_false]; omega)) (by decide)
          · exact hop0 3 (oprn_3 (by simp only [List.mem_cons, List.not_mem_nil, or_false]; omega)) (by decide)
        · simp only [kon, knt_some, knt_none, Option.toList_some, Option.toList_none, List.cons_append, List.nil_append]
          refine s253_170.mpr (E183 h3 ((hw.tr hz).tr x2) L Y ?_ ?_ x3 x4 x5)
          · rw [z75, z76] at x1; rw [ets]; exact x1
          · exact fl2_of x6 (fun a b => il_L (by omega) i7 a c38 b)
        · simp only [kon, knt_some, knt_none, Option.toList_some, Option.toList_none, List.cons_append, List.nil_append]
          refine s253_170.mpr (S183 h3 ((hw.tr hz).tr x2) ?_ x3 x4)
          rw [z75, z76] at x1; rw [ets]; exact x1
        · simp only [kon, knt_some, knt_none, Option.toList_some, Option.toList_none, List.cons_append, List.nil_append]
          refine s253_170.mpr (N183 h3 ((hw.tr hz).tr x2) ?_ x3)
          rw [z75, z76] at x1; rw [ets]; exact x1
      have R3 : ¬ B (cAt B g + p) < 32 → Ev (d - 1) 258 [vR (some 49), vI m, vI (10 * m + g), vI (B (cAt B g + p)), vI (B (cAt B g + p + 1))] al (upI h2 49 38 0) hr (kon d 253 180 183 [vR (some 49), vI m, vI (10 * m + g), vI p, vI (cAt B g + p), vI (B (cAt B g + p)), vI (B (cAt B g + p + 1)), l7] [] Q) := by
        intro c32
        have ets : tstep B g p (hi 72 p, h2 75, h2 76) = tsL B g (B (cAt B g + p)) (B (cAt B g + p + 1)) p (hi 72 p, h2 75, h2 76) := by unfold tstep opA agA; rw [if_neg (by omega), if_neg c32]
        refine m_linear (B := B) (g := g) (p := p) hA hR (by omega) (hM2.ws hz) hS z36 upI_eq z35 ⟨t0, t1⟩ (by rw [z75, z76]; exact hvX2) (by omega) (fun h => ⟨?_, by omega⟩) (fun h => hfn (Or.inr h)) (fun h => i3 (oprn_5 (by simp only [List.mem_cons, List.not_mem_nil, or_false]; omega))) (fun h => i4 (oprn_9 h)) (fun L Y h3 x1 x6 x2 x3 x4 x5 => ?_) (fun h3 x1 x2 x3 => ?_)
        · rcases h with h | h | h | h | h | h
          · exact hop0 3 (oprn_3 (by simp only [List.mem_cons, List.not_mem_nil, or_false]; omega)) (by decide)
          · exact hop0 5 (oprn_5 (by simp only [List.mem_cons, List.not_mem_nil, or_false]; omega)) (by decide)
          · exact hop0 5 (oprn_5 (by simp only [List.mem_cons, List.not_mem_nil, or_false]; omega)) (by decide)
          · exact hop0 3 (oprn_3 (by simp only [List.mem_cons, List.not_mem_nil, or_false]; omega)) (by decide)
          · exact hop0 9 (oprn_9 h) (by decide)
          · exact hop0 3 (oprn_3 (by simp only [List.mem_cons, List.not_mem_nil, or_false]; omega)) (by decide)
        · simp only [kon, knt_some, knt_none, Option.toList_some, Option.toList_none, List.cons_append, List.nil_append]
          refine E183 h3 ((hw.tr hz).tr x2) L Y ?_ ?_ x3 x4 x5
          · rw [z75, z76] at x1; rw [ets]; exact x1
          · exact fl2_of x6 (fun a b => il_L (by omega) i7 a c38 b)
        · simp only [kon, knt_some, knt_none, Option.toList_some, Option.toList_none, List.cons_append, List.nil_append]
          refine N183 h3 ((hw.tr hz).tr x2) ?_ x3
          rw [z75, z76] at x1; rw [ets]; exact x1
      refine s253_112.mpr (s253_114.mpr ?_)
      refine s253_116.mpr (wif (fun c116 => ?_) (fun c116 => ?_))
      · first
        | (exfalso; omega)
        | skip
          refine s253_119.mpr (s253_120.mpr (s253_121.mpr (s253_122.mpr (s253_124.mpr ?_))))
          refine (s253_126 (by omega) kM).mpr ?_
          exfalso; omega
      · first
        | (exfalso; omega)
        | skip
          refine s253_130.mpr (s253_131.mpr ?_)
          refine (s253_132 kM (by first | assumption | omega)).mpr ?_
          refine s253_135.mpr (s253_137.mpr ?_)
          refine s253_139.mpr (wif (fun c139 => ?_) (fun c139 => ?_))
          · first
            | (exfalso; omega)
            | skip
              refine s253_142.mpr (s253_143.mpr (s253_145.mpr ?_))
              refine (s253_147 (by omega) kM).mpr ?_
              exact R1 (by assumption)
          · first
            | (exfalso; omega)
            | skip
              refine s253_153.mpr (s253_155.mpr ?_)
              refine s253_157.mpr (wif (fun c157 => ?_) (fun c157 => ?_))
              · first
                | (exfalso; omega)
                | skip
                  refine s253_160.mpr (s253_161.mpr (s253_162.mpr (s253_163.mpr (s253_165.mpr ?_))))
                  refine (s253_167 (by omega) kM).mpr ?_
                  exact R2 (by assumption) (by assumption)
              · first
                | (exfalso; omega)
                | skip
                  refine s253_173.mpr (s253_174.mpr (s253_175.mpr (s253_176.mpr (s253_178.mpr ?_))))
                  refine (s253_180 (by omega) kM).mpr ?_
                  exact R3 (by assumption)
  have T80 : ∀ h2, FW wS hi h2 → h2 49 36 = 1 → h2 49 35 = hi 72 p → (∀ k, 0 ≤ k → k < hi 72 p → h2 75 k = memS hi p k) → Wp d 253 80 [vR (some 49), vI m, vI (10 * m + g), vI p, vI (cAt B g + p), vI (B (cAt B g + p)), vI (B (cAt B g + p + 1)), vI 0] [] al h2 hr Q := by
    intro h2 hw k36 k35 k75
    refine wp_cnt (N := 10) (fun k ls h3 => ls = [vR (some 49), vI m, vI (10 * m + g), vI p, vI (cAt B g + p), vI (B (cAt B g + p)), vI (B (cAt B g + p + 1)), vI k] ∧ FW wS hi h3 ∧ h3 49 36 = 1 ∧ h3 49 35 = hi 72 p ∧ (∀ k, 0 ≤ k → k < hi 72 p → h3 75 k = memS hi p k) ∧ (∀ j : Int, 0 ≤ j → j < k → h3 76 j = memL hi p j)) ?_ ?_ _ _ ⟨rfl, hw, k36, k35, k75, fun j a b => absurd b (by omega)⟩
    · rintro k ls h3 hk ⟨rfl, w3, a36, a35, a75, a76⟩ nx
      have e74 : h3 74 (10 * p + k) = hi 74 (10 * p + k) := w3 74 _ (by unfold wS; omega)
      refine s253_80.mpr (s253_82.mpr ?_)
      refine s253_84.mpr (wif (fun c84 => ?_) (fun c84 => ?_))
      · skip
        refine s253_87.mpr ((s253_88 kM).mpr ?_)
        rw [mr_34 hR]
        refine s253_91.mpr (s253_93.mpr ((s253_94 kM).mpr ?_))
        rw [mr_32 hR]
        refine s253_97.mpr (s253_99.mpr (s253_100.mpr (s253_101.mpr (s253_103.mpr ?_))))
        try simp (disch := first | decide | assumption | omega) only [upI_eq, upI_a, upI_i, upR_eq, upR_a, upR_i, e74, fAdd_id, fMul_id]
        refine (s253_104 (hA.k (by decide) (by decide) rfl) (by first | assumption | omega) (by first | assumption | omega)).mpr ?_
        try simp (disch := first | decide | assumption | omega) only [upI_eq, upI_a, upI_i, upR_eq, upR_a, upR_i, e74, fAdd_id, fMul_id]
        refine (s253_105 (hA.k (by decide) (by decide) rfl) (by first | assumption | omega) (by first | assumption | omega)).mpr ?_
        refine s253_106.mpr (s253_109.mpr ?_)
        try simp (disch := first | decide | assumption | omega) only [upI_eq, upI_a, upI_i, upR_eq, upR_a, upR_i, e74, fAdd_id, fMul_id]
        refine nx _ _ ⟨by rw [cast1], FW.up w3 (by unfold wS; omega), by (try simp (disch := decide) only [upI_eq, upI_a, upI_i, upR_eq, upR_a, upR_i]); exact a36, by (try simp (disch := decide) only [upI_eq, upI_a, upI_i, upR_eq, upR_a, upR_i]); exact a35, fun j a b => by rw [upI_a (by decide)]; exact a75 j a b, fun j a b => ?_⟩
        by_cases e : j = k
        · subst e; rw [upI_eq]; unfold memL; rw [if_pos (by omega)]
        · rw [upI_i e]; exact a76 j a (by omega)
      · skip
        exfalso; omega
    · rintro ls h3 ⟨rfl, w3, a36, a35, a75, a76⟩
      refine s253_80.mpr (s253_82.mpr ?_)
      refine s253_84.mpr (wif (fun c84 => ?_) (fun c84 => ?_))
      · skip
        exfalso; omega
      · skip
        exact T112 h3 _ w3 a36 a35 ⟨rfl, a75, a76⟩
  have T43 : Wp d 253 43 [vR (some 49), vI m, vI (10 * m + g), vI p, vI (cAt B g + p), vI (B (cAt B g + p)), vI (B (cAt B g + p + 1)), vI 0] [] al (upI hi 49 35 (hi 72 p)) hr Q := by
    refine wp_cnt (N := (hi 72 p).toNat) (fun k ls h3 => ls = [vR (some 49), vI m, vI (10 * m + g), vI p, vI (cAt B g + p), vI (B (cAt B g + p)), vI (B (cAt B g + p + 1)), vI k] ∧ FW wS hi h3 ∧ h3 49 36 = 1 ∧ h3 49 35 = hi 72 p ∧ (∀ j : Int, 0 ≤ j → j < k → h3 75 j = memS hi p j)) ?_ ?_ _ _ ⟨rfl, FW.up FW.rf (by unfold wS; omega), by (try simp (disch := decide) only [upI_eq, upI_a, upI_i, upR_eq, upR_a, upR_i]); exact h36, upI_eq, fun j a b => absurd b (by omega)⟩
    · rintro k ls h3 hk ⟨rfl, w3, a36, a35, a75⟩ nx
      have e73 : h3 73 (17 * p + k) = hi 73 (17 * p + k) := w3 73 _ (by unfold wS; omega)
      refine s253_43.mpr (s253_45.mpr ?_)
      refine (s253_46 kM).mpr ?_
      try simp (disch := first | decide | assumption | omega) only [upI_eq, upI_a, upI_i, upR_eq, upR_a, upR_i, e73, a35, fAdd_id, fMul_id]
      refine s253_49.mpr (wif (fun c49 => ?_) (fun c49 => ?_))
      · skip
        refine s253_52.mpr ((s253_53 kM).mpr ?_)
        rw [mr_33 hR]
        refine s253_56.mpr (s253_58.mpr ((s253_59 kM).mpr ?_))
        rw [mr_31 hR]
        refine s253_62.mpr (s253_64.mpr (s253_65.mpr (s253_66.mpr (s253_68.mpr ?_))))
        try simp (disch := first | decide | assumption | omega) only [upI_eq, upI_a, upI_i, upR_eq, upR_a, upR_i, e73, a35, fAdd_id, fMul_id]
        refine (s253_69 (hA.k (by decide) (by decide) rfl) (by first | assumption | omega) (by first | assumption | omega)).mpr ?_
        try simp (disch := first | decide | assumption | omega) only [upI_eq, upI_a, upI_i, upR_eq, upR_a, upR_i, e73, a35, fAdd_id, fMul_id]
        refine (s253_70 (hA.k (by decide) (by decide) rfl) (by first | assumption | omega) (by first | assumption | omega)).mpr ?_
        refine s253_71.mpr (s253_74.mpr ?_)
        try simp (disch := first | decide | assumption | omega) only [upI_eq, upI_a, upI_i, upR_eq, upR_a, upR_i, e73, a35, fAdd_id, fMul_id]
        refine nx _ _ ⟨by rw [cast1], FW.up w3 (by unfold wS; omega), by (try simp (disch := decide) only [upI_eq, upI_a, upI_i, upR_eq, upR_a, upR_i]); exact a36, by (try simp (disch := decide) only [upI_eq, upI_a, upI_i, upR_eq, upR_a, upR_i]); exact a35, fun j a b => ?_⟩
        by_cases e : j = k
        · subst e; rw [upI_eq]; unfold memS; rw [if_pos (by omega)]
        · rw [upI_i e]; exact a75 j a (by omega)
      · skip
        exfalso; omega
    · rintro ls h3 ⟨rfl, w3, a36, a35, a75⟩
      refine s253_43.mpr (s253_45.mpr ?_)
      refine (s253_46 kM).mpr ?_
      try simp (disch := first | decide | assumption | omega) only [a35]
      refine s253_49.mpr (wif (fun c49 => ?_) (fun c49 => ?_))
      · skip
        exfalso; omega
      · skip
        refine s253_77.mpr (s253_78.mpr ?_)
        exact T80 h3 w3 a36 a35 (fun k a b => a75 k a (by omega))
  rw [e253]
  refine s253_0.mpr ((s253_1 kM).mpr ?_)
  rw [mr_21 hR]
  refine s253_4.mpr ?_
  refine (s253_5 (hA.k (by decide) (by decide) rfl) (by first | assumption | omega) (by first | assumption | omega)).mpr ?_
  refine s253_6.mpr (s253_7.mpr (s253_8.mpr (s253_10.mpr (s253_11.mpr (s253_12.mpr ?_)))))
  try simp (disch := first | decide | assumption | omega) only [kon, knt_some, knt_none, Option.toList_some, Option.toList_none, List.cons_append, List.nil_append, h69, hB, fAdd_id]
  refine (s253_14 (by omega) kM).mpr ?_
  refine (m_byteAt hA hR hm0 hm1 h52).mpr ?_
  refine s253_17.mpr (s253_19.mpr (s253_20.mpr (s253_21.mpr (s253_23.mpr (s253_24.mpr ?_)))))
  try simp (disch := first | decide | assumption | omega) only [kon, knt_some, knt_none, Option.toList_some, Option.toList_none, List.cons_append, List.nil_append, h69, hB, fAdd_id]
  refine (s253_25 (by omega) kM).mpr ?_
  refine (m_byteAt hA hR hm0 hm1 h52).mpr ?_
  refine s253_28.mpr (s253_30.mpr (s253_31.mpr ((s253_32 kM).mpr ?_)))
  rw [mr_30 hR]
  refine s253_35.mpr ?_
  refine (s253_36 (hA.k (by decide) (by decide) rfl) (by first | assumption | omega) (by first | assumption | omega)).mpr ?_
  try simp (disch := first | decide | assumption | omega) only [kon, knt_some, knt_none, Option.toList_some, Option.toList_none, List.cons_append, List.nil_append, h69, hB, fAdd_id]
  refine (s253_37 kM).mpr ?_
  refine s253_40.mpr (s253_41.mpr ?_)
  try simp (disch := first | decide | assumption | omega) only [kon, knt_some, knt_none, Option.toList_some, Option.toList_none, List.cons_append, List.nil_append, h69, hB, fAdd_id]
  exact T43
end MS2
