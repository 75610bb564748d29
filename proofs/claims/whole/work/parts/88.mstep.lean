/-! THE REFERENCE: a step of types -/
section MST
variable {d : Nat} {al : AL} {hi : HI} {hr : HR} {Q : QQ} {B : Int → Int}
theorem tsP_q {op v p q : Int} {X Y : Tst} (h : tsP op v p X = some [(q, Y)]) : q = p + (if op = 0 then 5 else if op = 2 ∨ op = 3 then 2 else 1) := by
  by_cases h0 : op = 0
  · rw [tsP_0 h0] at h; obtain ⟨-, e⟩ := onw_s h; cases e; rw [if_pos h0]
  rw [if_neg h0]
  by_cases h2 : op = 2
  · rw [tsP_2 h2] at h; obtain ⟨-, e⟩ := onw_s h; cases e; rw [if_pos (Or.inl h2)]
  by_cases h3 : op = 3
  · rw [tsP_3 h3] at h; obtain ⟨-, e⟩ := onw_s h; cases e; rw [if_pos (Or.inr h3)]
  rw [if_neg (by omega)]
  by_cases h1 : op = 1
  · rw [tsP_1 h1] at h; obtain ⟨-, e⟩ := onw_s h; cases e; rfl
  by_cases h4 : op = 4
  · rw [tsP_4 h4] at h; obtain ⟨-, e⟩ := onw_s h; cases e; rfl
  by_cases h5 : op = 5
  · rw [tsP_5 h5] at h; obtain ⟨-, e⟩ := onw_s h; cases e; rfl
  by_cases h6 : op = 6
  · rw [tsP_6 h6] at h; obtain ⟨-, e⟩ := onw_s h; cases e; rfl
  by_cases h7 : op = 19
  · rw [tsP_19 h7] at h; obtain ⟨-, e⟩ := onw_s h; cases e; rfl
  rw [tsP_7 (by simp only [List.mem_cons, List.not_mem_nil, or_false, not_or]; exact ⟨h0, h1, h2, h3, h4, h5, h6, h7⟩)] at h
  obtain ⟨-, e⟩ := onw_s h; cases e; rfl
theorem opn_a : ∀ n : Nat, n < 20 → ((oprn n = 1 ∧ n = 0) ∨ (oprn n = 2 ∧ (n = 2 ∨ n = 3)) ∨ (oprn n = 0 ∧ ¬ n = 0 ∧ ¬ n = 2 ∧ ¬ n = 3)) := by decide +kernel
theorem opn_b : ∀ n : Nat, n < 44 → (n < 20 ∨ n = 31 ∨ n = 38 ∨ n = 42 ∨ (oprn n = 0 ∧ opL n = 1) ∨ (¬ oprn n = 0 ∧ ¬ oprn n = 1 ∧ ¬ oprn n = 10 ∧ opL n = 2)) := by unfold opL; decide +kernel
theorem il_P {q : Int} (h0 : 0 ≤ B q) (h1 : B q < 20) : ilen B q = (if B q = 0 then 5 else if B q = 2 ∨ B q = 3 then 2 else 1) := by
  obtain ⟨n, hn⟩ := Int.eq_ofNat_of_zero_le h0
  have h := opn_a n (by omega)
  unfold ilen
  rw [hn]
  rcases h with ⟨a, b⟩ | ⟨a, b⟩ | ⟨a, b, c, e⟩
  · rw [a, b]; rfl
  · rw [a]; rcases b with rfl | rfl <;> rfl
  · rw [a, if_neg (show ¬ ((n : Int) = 0) by omega), if_neg (show ¬ ((n : Int) = 2 ∨ (n : Int) = 3) by omega)]; rfl
theorem il_L {q : Int} (h0 : 20 ≤ B q) (h1 : B q ≤ 43) (h2 : B q ≠ 31) (h3 : B q ≠ 38) (h4 : B q ≠ 42) : ilen B q = opL (B q) := by
  obtain ⟨n, hn⟩ := Int.eq_ofNat_of_zero_le (show 0 ≤ B q by omega)
  have h : (oprn n = 0 ∧ opL n = 1) ∨ (¬ oprn n = 0 ∧ ¬ oprn n = 1 ∧ ¬ oprn n = 10 ∧ opL n = 2) := by
    rcases opn_b n (by omega) with h | h | h | h | h
    · omega
    · omega
    · omega
    · omega
    · exact h
  unfold ilen
  rw [hn]
  rcases h with ⟨a, b⟩ | ⟨a, b, c, e⟩
  · rw [a, b]; rfl
  · rw [e, if_neg b, if_neg a, if_neg c]
/-- where an instruction goes on, all kinds -/
def FL2 (op v p len : Int) (Y : Tst) (L : List (Int × Tst)) : Prop := (op = 20 ∧ L = [(v, Y)]) ∨ (op = 21 ∧ L = [(v, Y), (p + len, Y)]) ∨ ((op = 31 ∨ op = 42) ∧ L = []) ∨ (op ≠ 20 ∧ op ≠ 21 ∧ op ≠ 31 ∧ op ≠ 42 ∧ L = [(p + len, Y)])
theorem fl2_of {op v p len : Int} {Y : Tst} {L : List (Int × Tst)} (h : FLW op v p Y L) (hl : op ≠ 31 → op ≠ 42 → len = opL op) : FL2 op v p len Y L := by
  rcases h with h | ⟨h, e⟩ | h | ⟨a, b, c, e, f⟩
  · exact Or.inl h
  · refine Or.inr (Or.inl ⟨h, ?_⟩)
    rw [hl (by omega) (by omega), h]; exact e
  · exact Or.inr (Or.inr (Or.inl h))
  · refine Or.inr (Or.inr (Or.inr ⟨a, b, c, e, ?_⟩))
    rw [hl c e]; exact f
theorem CS.ws {h1 h2 : HI} (hw : FW wS h1 h2) : CS h1 h2 := Or.inl ⟨hw 49 37 (by unfold wS; omega), by rw [memA_ws hw]; exact eqA.rf⟩
theorem CS.l {h1 h2 h3 : HI} (hw : FW wS h1 h2) (h : CS h2 h3) : CS h1 h3 := by
  rcases h with ⟨a, b⟩ | ⟨a, b⟩
  · exact Or.inl ⟨a.trans (hw 49 37 (by unfold wS; omega)), by rw [memA_ws hw] at b; exact b⟩
  · exact Or.inr ⟨a, by rw [memA_ws hw] at b; exact b⟩
theorem m_flow0 {f p : Int} (hA : SA al) (hR : MR hr) (hd : 2 ≤ d) (hf : 0 ≤ f ∧ f < 130) (h36 : hi 49 36 = 0) (no : ∀ hi', FW wFl hi hi' → hi' 49 36 = 0 → Q (some none) al hi' hr) : Ev d 245 [vR (some 49), vI f, vI p] al hi hr Q := by
  have kM : isK al 49 13 := hA.k (by decide) (by decide) rfl
  have l68 := SA.len (a := 68) (n := 130) hA (by decide) (by decide) rfl
  rw [e245]
  refine s245_0.mpr (s245_1.mpr (s245_2.mpr ((s245_3 kM).mpr ?_)))
  rw [mr_20 hR]
  refine s245_6.mpr ?_
  refine (s245_7 (hA.k (by decide) (by decide) rfl) (by first | assumption | omega) (by first | assumption | omega)).mpr ?_
  try simp (disch := first | decide | assumption | omega) only [kon, knt_some, knt_none, Option.toList_some, Option.toList_none, List.cons_append, List.nil_append, upI_eq, upI_a, upI_i, upR_eq, upR_a, upR_i]
  refine s245_8.mpr (wif (fun c8 => ?_) (fun c8 => ?_))
  · first
    | (exfalso; omega)
    | skip
      refine s245_11.mpr ?_
      refine (s245_12 kM).mpr ?_
      refine s245_15.mpr ?_
      try simp (disch := first | decide | assumption | omega) only [kon, knt_some, knt_none, Option.toList_some, Option.toList_none, List.cons_append, List.nil_append, upI_eq, upI_a, upI_i, upR_eq, upR_a, upR_i]
      refine s245_17.mpr (wif (fun c17 => ?_) (fun c17 => ?_))
      · first
        | (exfalso; omega)
        | skip
          refine s245_24.mpr ?_
          refine (s245_25 (by omega) kM).mpr ?_
          refine m_wants hA (by omega) h36 (by omega) (fun y25 => ?_) (fun y25 => ?_)
          · skip
            refine s245_28.mpr ?_
            refine (s245_29 kM).mpr ?_
            try simp (disch := first | decide | assumption | omega) only [kon, knt_some, knt_none, Option.toList_some, Option.toList_none, List.cons_append, List.nil_append, upI_eq, upI_a, upI_i, upR_eq, upR_a, upR_i]
            refine s245_32.mpr (wif (fun c32 => ?_) (fun c32 => ?_))
            · first
              | (exfalso; omega)
              | skip
                refine (s245_35).mpr ?_
                first | (exfalso; omega) | exact no _ (FW.up FW.rf (by unfold wFl; omega)) upI_eq
            · first
              | (exfalso; omega)
              | skip
                exfalso; omega
          · skip
            refine s245_28.mpr ?_
            refine (s245_29 kM).mpr ?_
            try simp (disch := first | decide | assumption | omega) only [kon, knt_some, knt_none, Option.toList_some, Option.toList_none, List.cons_append, List.nil_append, upI_eq, upI_a, upI_i, upR_eq, upR_a, upR_i]
            refine s245_32.mpr (wif (fun c32 => ?_) (fun c32 => ?_))
            · first
              | (exfalso; omega)
              | skip
                refine (s245_35).mpr ?_
                first | (exfalso; omega) | exact no _ (FW.up FW.rf (by unfold wFl; omega)) upI_eq
            · first
              | (exfalso; omega)
              | skip
                exfalso; omega
      · first
        | (exfalso; omega)
        | skip
          refine s245_20.mpr (s245_21.mpr ?_)
          refine (s245_25 (by omega) kM).mpr ?_
          refine m_wants hA (by omega) h36 (by omega) (fun y25 => ?_) (fun y25 => ?_)
          · skip
            refine s245_28.mpr ?_
            refine (s245_29 kM).mpr ?_
            try simp (disch := first | decide | assumption | omega) only [kon, knt_some, knt_none, Option.toList_some, Option.toList_none, List.cons_append, List.nil_append, upI_eq, upI_a, upI_i, upR_eq, upR_a, upR_i]
            refine s245_32.mpr (wif (fun c32 => ?_) (fun c32 => ?_))
            · first
              | (exfalso; omega)
              | skip
                refine (s245_35).mpr ?_
                first | (exfalso; omega) | exact no _ (FW.up FW.rf (by unfold wFl; omega)) upI_eq
            · first
              | (exfalso; omega)
              | skip
                exfalso; omega
          · skip
            refine s245_28.mpr ?_
            refine (s245_29 kM).mpr ?_
            try simp (disch := first | decide | assumption | omega) only [kon, knt_some, knt_none, Option.toList_some, Option.toList_none, List.cons_append, List.nil_append, upI_eq, upI_a, upI_i, upR_eq, upR_a, upR_i]
            refine s245_32.mpr (wif (fun c32 => ?_) (fun c32 => ?_))
            · first
              | (exfalso; omega)
              | skip
                refine (s245_35).mpr ?_
                first | (exfalso; omega) | exact no _ (FW.up FW.rf (by unfold wFl; omega)) upI_eq
            · first
              | (exfalso; omega)
              | skip
                exfalso; omega
  · first
    | (exfalso; omega)
    | skip
      refine s245_24.mpr ?_
      refine (s245_25 (by omega) kM).mpr ?_
      refine m_wants hA (by omega) h36 (by omega) (fun y25 => ?_) (fun y25 => ?_)
      · skip
        refine s245_28.mpr ?_
        refine (s245_29 kM).mpr ?_
        try simp (disch := first | decide | assumption | omega) only [kon, knt_some, knt_none, Option.toList_some, Option.toList_none, List.cons_append, List.nil_append, upI_eq, upI_a, upI_i, upR_eq, upR_a, upR_i]
        refine s245_32.mpr (wif (fun c32 => ?_) (fun c32 => ?_))
        · first
          | (exfalso; omega)
          | skip
            refine (s245_35).mpr ?_
            first | (exfalso; omega) | exact no _ (FW.up FW.rf (by unfold wFl; omega)) upI_eq
        · first
          | (exfalso; omega)
          | skip
            exfalso; omega
      · skip
        refine s245_28.mpr ?_
        refine (s245_29 kM).mpr ?_
        try simp (disch := first | decide | assumption | omega) only [kon, knt_some, knt_none, Option.toList_some, Option.toList_none, List.cons_append, List.nil_append, upI_eq, upI_a, upI_i, upR_eq, upR_a, upR_i]
        refine s245_32.mpr (wif (fun c32 => ?_) (fun c32 => ?_))
        · first
          | (exfalso; omega)
          | skip
            refine (s245_35).mpr ?_
            first | (exfalso; omega) | exact no _ (FW.up FW.rf (by unfold wFl; omega)) upI_eq
        · first
          | (exfalso; omega)
          | skip
            exfalso; omega
/-- from the instruction's work to its flows -/
theorem m_stepE {m g p n op v : Int} {X : Tst} (hA : SA al) (hR : MR hr) (hd : 4 ≤ d) (hM : MB hi m B) (hS : Sh B) (hg : 0 ≤ g ∧ g < nFn B) (h68 : hi 68 (10 * m + g) = n) (hn : n ≤ 240) (hq0 : 0 ≤ cAt B g + p ∧ cAt B g + p ≤ 2000) (hp : 0 ≤ p ∧ p < 240) (h37 : hi 49 37 = 0 ∨ hi 49 37 = 1) (hb : bool71 hi) (hv : vA B (memA hi))
    (hfl : ∀ fl, tstep B g p X = some fl → ∀ q ∈ fl, 0 ≤ q.1 ∧ vX B q.2)
    (ok : ∀ fl hi', tstep B g p X = some fl → FlR n (memA hi) fl (memA hi') → FW wT hi hi' → hi' 49 36 = 1 → (hi' 49 37 = 0 ∨ hi' 49 37 = 1) → CS hi hi' → bool71 hi' → Q (some none) al hi' hr)
    (no : ∀ hi', (tstep B g p X = none ∨ ∃ fl, tstep B g p X = some fl ∧ FlX n (memA hi) fl) → FW wT hi hi' → hi' 49 36 = 0 → Q (some none) al hi' hr)
    {h2 : HI} {L : List (Int × Tst)} {Y : Tst} (hL : tstep B g p X = some L) (hF : FL2 op v p (ilen B (cAt B g + p)) Y L) (hw : FW wS hi h2) (k36 : h2 49 36 = 1) (k38 : h2 49 38 = 0) (hY : scX h2 = Y) (hY20 : op = 31 ∨ op = 42 ∨ Y.1 ≤ 20) (l7 : AV) : Wp d 253 183 [vR (some 49), vI m, vI (10 * m + g), vI p, vI (cAt B g + p), vI op, vI v, l7] [] al h2 hr Q := by
  have kM : isK al 49 13 := hA.k (by decide) (by decide) rfl
  obtain ⟨hm0, hm1, h52, hB, -⟩ := id hM
  have f1 : nFn B ≤ 10 := hS.2.2.2.2.2.2.2.2.2.1
  have hrg : ∀ k, -1 ≤ B k ∧ B k ≤ 255 := fun k => by rw [← hB]; exact bAt_rng m k
  have hln := ilen_b hrg (cAt B g + p)
  have eM : memA h2 = memA hi := memA_ws hw
  have k37 : h2 49 37 = hi 49 37 := hw 49 37 (by unfold wS; omega)
  have k68 : h2 68 (10 * m + g) = n := (hw 68 _ (wS_n (by decide) (by decide))).trans h68
  have kb : bool71 h2 := fun q q0 q1 => by rw [hw 71 _ (by unfold wS; omega)]; exact hb q q0 q1
  have kv : vA B (memA h2) := by rw [eM]; exact hv
  have hM2 := hM.ws hw
  have hY1 : h2 49 35 = Y.1 := by rw [← hY]; rfl
  have hfv := hfl _ hL
  have one : ∀ q, 0 ≤ q → L = [(q, Y)] → ∀ h4, q < n → Y.1 ≤ 16 → FW wFl h2 h4 → h4 49 36 = 1 → (h4 49 37 = 0 ∨ h4 49 37 = 1) → ArrR (memA h2) q (scX h2) (memA h4) → CS h2 h4 → bool71 h4 → Q (some none) al h4 hr := by
    intro q q0 e h4 x1 x2 x3 x4 x5 x6 x7 x8
    rw [eM, hY] at x6
    exact ok L h4 hL (by rw [e]; exact ⟨x1, x2, _, x6, fun _ _ => rfl⟩) (hw.st.tr x3.ft) x4 x5 (CS.l hw x7) x8
  have oneX : ∀ q fl, 0 ≤ q → L = (q, Y) :: fl → ∀ h4, (¬ (q < n ∧ Y.1 ≤ 16) ∨ ArrX (memA h2) q (scX h2)) → FW wFl h2 h4 → h4 49 36 = 0 → Q (some none) al h4 hr := by
    intro q fl q0 e h4 x1 x3 x4
    rw [eM, hY] at x1
    exact no h4 (Or.inr ⟨L, hL, by rw [e]; exact x1.imp id Or.inl⟩) (hw.st.tr x3.ft) x4
  rcases hF with ⟨rfl, e⟩ | ⟨rfl, e⟩ | ⟨ho, e⟩ | ⟨o1, o2, o3, o4, e⟩
  · have hY20 : Y.1 ≤ 20 := by omega
    have q0 := (hfv (v, Y) (by rw [e]; exact List.mem_singleton.mpr rfl)).1
    have hv1 := (hfv (v, Y) (by rw [e]; exact List.mem_singleton.mpr rfl)).2.1
    refine s253_183.mpr ?_
    refine (s253_184 kM).mpr ?_
    try simp (disch := first | decide | assumption | omega) only [kon, knt_some, knt_none, Option.toList_some, Option.toList_none, List.cons_append, List.nil_append, upI_eq, upI_a, upI_i, upR_eq, upR_a, upR_i, k36, k38]
    refine s253_187.mpr (wif (fun c187 => ?_) (fun c187 => ?_))
    · first
      | (exfalso; omega)
      | skip
        refine (s253_197).mpr ?_
        first | (exfalso; omega) | exact one v q0 e h4 x1 x2 x3 x4 x5 x6 x7 x8 | exact oneX v [] q0 e h4 x1 x3 x4
    · first
      | (exfalso; omega)
      | skip
        refine s253_190.mpr ?_
        refine (s253_191 kM).mpr ?_
        try simp (disch := first | decide | assumption | omega) only [kon, knt_some, knt_none, Option.toList_some, Option.toList_none, List.cons_append, List.nil_append, upI_eq, upI_a, upI_i, upR_eq, upR_a, upR_i, k36, k38]
        refine s253_194.mpr (wif (fun c194 => ?_) (fun c194 => ?_))
        · first
          | (exfalso; omega)
          | skip
            refine s253_198.mpr (s253_200.mpr ?_)
            refine s253_202.mpr (wif (fun c202 => ?_) (fun c202 => ?_))
            · first
              | (exfalso; omega)
              | skip
                refine s253_212.mpr (s253_213.mpr (s253_214.mpr ?_))
                refine (s253_216 (by omega) kM).mpr ?_
                refine m_flow (B := B) hA hR (by omega) (by omega) k68 hn q0 k36 (by omega) hY1 ⟨hv1, hY20⟩ kb kv (fun h4 x1 x2 x3 x4 x5 x6 x7 x8 => ?_) (fun h4 x1 x3 x4 => ?_)
                · skip
                  refine s253_219.mpr (s253_221.mpr ?_)
                  refine s253_223.mpr (wif (fun c223 => ?_) (fun c223 => ?_))
                  · first
                    | (exfalso; omega)
                    | skip
                      refine (s253_254).mpr ?_
                      first | (exfalso; omega) | exact one v q0 e h4 x1 x2 x3 x4 x5 x6 x7 x8 | exact oneX v [] q0 e h4 x1 x3 x4
                  · first
                    | (exfalso; omega)
                    | skip
                      refine s253_226.mpr (s253_228.mpr ?_)
                      refine s253_230.mpr (wif (fun c230 => ?_) (fun c230 => ?_))
                      · first
                        | (exfalso; omega)
                        | skip
                          refine (s253_254).mpr ?_
                          first | (exfalso; omega) | exact one v q0 e h4 x1 x2 x3 x4 x5 x6 x7 x8 | exact oneX v [] q0 e h4 x1 x3 x4
                      · first
                        | (exfalso; omega)
                        | skip
                          refine s253_233.mpr (s253_235.mpr ?_)
                          refine s253_237.mpr (wif (fun c237 => ?_) (fun c237 => ?_))
                          · first
                            | (exfalso; omega)
                            | skip
                              refine (s253_254).mpr ?_
                              first | (exfalso; omega) | exact one v q0 e h4 x1 x2 x3 x4 x5 x6 x7 x8 | exact oneX v [] q0 e h4 x1 x3 x4
                          · first
                            | (exfalso; omega)
                            | skip
                              refine s253_240.mpr (s253_241.mpr (s253_242.mpr (s253_243.mpr (s253_244.mpr (s253_245.mpr ?_)))))
                              refine (s253_247 (by omega) kM).mpr ?_
                              exfalso; omega
                · skip
                  refine s253_219.mpr (s253_221.mpr ?_)
                  refine s253_223.mpr (wif (fun c223 => ?_) (fun c223 => ?_))
                  · first
                    | (exfalso; omega)
                    | skip
                      refine (s253_254).mpr ?_
                      first | (exfalso; omega) | exact one v q0 e h4 x1 x2 x3 x4 x5 x6 x7 x8 | exact oneX v [] q0 e h4 x1 x3 x4
                  · first
                    | (exfalso; omega)
                    | skip
                      refine s253_226.mpr (s253_228.mpr ?_)
                      refine s253_230.mpr (wif (fun c230 => ?_) (fun c230 => ?_))
                      · first
                        | (exfalso; omega)
                        | skip
                          refine (s253_254).mpr ?_
                          first | (exfalso; omega) | exact one v q0 e h4 x1 x2 x3 x4 x5 x6 x7 x8 | exact oneX v [] q0 e h4 x1 x3 x4
                      · first
                        | (exfalso; omega)
                        | skip
                          refine s253_233.mpr (s253_235.mpr ?_)
                          refine s253_237.mpr (wif (fun c237 => ?_) (fun c237 => ?_))
                          · first
                            | (exfalso; omega)
                            | skip
                              refine (s253_254).mpr ?_
                              first | (exfalso; omega) | exact one v q0 e h4 x1 x2 x3 x4 x5 x6 x7 x8 | exact oneX v [] q0 e h4 x1 x3 x4
                          · first
                            | (exfalso; omega)
                            | skip
                              refine s253_240.mpr (s253_241.mpr (s253_242.mpr (s253_243.mpr (s253_244.mpr (s253_245.mpr ?_)))))
                              refine (s253_247 (by omega) kM).mpr ?_
                              exfalso; omega
            · first
              | (exfalso; omega)
              | skip
                refine s253_205.mpr (s253_207.mpr ?_)
                refine s253_209.mpr (wif (fun c209 => ?_) (fun c209 => ?_))
                · first
                  | (exfalso; omega)
                  | skip
                    refine s253_212.mpr (s253_213.mpr (s253_214.mpr ?_))
                    refine (s253_216 (by omega) kM).mpr ?_
                    refine m_flow (B := B) hA hR (by omega) (by omega) k68 hn q0 k36 (by omega) hY1 ⟨hv1, hY20⟩ kb kv (fun h4 x1 x2 x3 x4 x5 x6 x7 x8 => ?_) (fun h4 x1 x3 x4 => ?_)
                    · skip
                      refine s253_219.mpr (s253_221.mpr ?_)
                      refine s253_223.mpr (wif (fun c223 => ?_) (fun c223 => ?_))
                      · first
                        | (exfalso; omega)
                        | skip
                          refine (s253_254).mpr ?_
                          first | (exfalso; omega) | exact one v q0 e h4 x1 x2 x3 x4 x5 x6 x7 x8 | exact oneX v [] q0 e h4 x1 x3 x4
                      · first
                        | (exfalso; omega)
                        | skip
                          refine s253_226.mpr (s253_228.mpr ?_)
                          refine s253_230.mpr (wif (fun c230 => ?_) (fun c230 => ?_))
                          · first
                            | (exfalso; omega)
                            | skip
                              refine (s253_254).mpr ?_
                              first | (exfalso; omega) | exact one v q0 e h4 x1 x2 x3 x4 x5 x6 x7 x8 | exact oneX v [] q0 e h4 x1 x3 x4
                          · first
                            | (exfalso; omega)
                            | skip
                              refine s253_233.mpr (s253_235.mpr ?_)
                              refine s253_237.mpr (wif (fun c237 => ?_) (fun c237 => ?_))
                              · first
                                | (exfalso; omega)
                                | skip
                                  refine (s253_254).mpr ?_
                                  first | (exfalso; omega) | exact one v q0 e h4 x1 x2 x3 x4 x5 x6 x7 x8 | exact oneX v [] q0 e h4 x1 x3 x4
                              · first
                                | (exfalso; omega)
                                | skip
                                  refine s253_240.mpr (s253_241.mpr (s253_242.mpr (s253_243.mpr (s253_244.mpr (s253_245.mpr ?_)))))
                                  refine (s253_247 (by omega) kM).mpr ?_
                                  exfalso; omega
                    · skip
                      refine s253_219.mpr (s253_221.mpr ?_)
                      refine s253_223.mpr (wif (fun c223 => ?_) (fun c223 => ?_))
                      · first
                        | (exfalso; omega)
                        | skip
                          refine (s253_254).mpr ?_
                          first | (exfalso; omega) | exact one v q0 e h4 x1 x2 x3 x4 x5 x6 x7 x8 | exact oneX v [] q0 e h4 x1 x3 x4
                      · first
                        | (exfalso; omega)
                        | skip
                          refine s253_226.mpr (s253_228.mpr ?_)
                          refine s253_230.mpr (wif (fun c230 => ?_) (fun c230 => ?_))
                          · first
                            | (exfalso; omega)
                            | skip
                              refine (s253_254).mpr ?_
                              first | (exfalso; omega) | exact one v q0 e h4 x1 x2 x3 x4 x5 x6 x7 x8 | exact oneX v [] q0 e h4 x1 x3 x4
                          · first
                            | (exfalso; omega)
                            | skip
                              refine s253_233.mpr (s253_235.mpr ?_)
                              refine s253_237.mpr (wif (fun c237 => ?_) (fun c237 => ?_))
                              · first
                                | (exfalso; omega)
                                | skip
                                  refine (s253_254).mpr ?_
                                  first | (exfalso; omega) | exact one v q0 e h4 x1 x2 x3 x4 x5 x6 x7 x8 | exact oneX v [] q0 e h4 x1 x3 x4
                              · first
                                | (exfalso; omega)
                                | skip
                                  refine s253_240.mpr (s253_241.mpr (s253_242.mpr (s253_243.mpr (s253_244.mpr (s253_245.mpr ?_)))))
                                  refine (s253_247 (by omega) kM).mpr ?_
                                  exfalso; omega
                · first
                  | (exfalso; omega)
                  | skip
                    refine s253_219.mpr (s253_221.mpr ?_)
                    refine s253_223.mpr (wif (fun c223 => ?_) (fun c223 => ?_))
                    · first
                      | (exfalso; omega)
                      | skip
                        refine (s253_254).mpr ?_
                        first | (exfalso; omega) | exact one v q0 e h4 x1 x2 x3 x4 x5 x6 x7 x8 | exact oneX v [] q0 e h4 x1 x3 x4
                    · first
                      | (exfalso; omega)
                      | skip
                        refine s253_226.mpr (s253_228.mpr ?_)
                        refine s253_230.mpr (wif (fun c230 => ?_) (fun c230 => ?_))
                        · first
                          | (exfalso; omega)
                          | skip
                            refine (s253_254).mpr ?_
                            first | (exfalso; omega) | exact one v q0 e h4 x1 x2 x3 x4 x5 x6 x7 x8 | exact oneX v [] q0 e h4 x1 x3 x4
                        · first
                          | (exfalso; omega)
                          | skip
                            refine s253_233.mpr (s253_235.mpr ?_)
                            refine s253_237.mpr (wif (fun c237 => ?_) (fun c237 => ?_))
                            · first
                              | (exfalso; omega)
                              | skip
                                refine (s253_254).mpr ?_
                                first | (exfalso; omega) | exact one v q0 e h4 x1 x2 x3 x4 x5 x6 x7 x8 | exact oneX v [] q0 e h4 x1 x3 x4
                            · first
                              | (exfalso; omega)
                              | skip
                                refine s253_240.mpr (s253_241.mpr (s253_242.mpr (s253_243.mpr (s253_244.mpr (s253_245.mpr ?_)))))
                                refine (s253_247 (by omega) kM).mpr ?_
                                exfalso; omega
        · first
          | (exfalso; omega)
          | skip
            refine (s253_197).mpr ?_
            first | (exfalso; omega) | exact one v q0 e h4 x1 x2 x3 x4 x5 x6 x7 x8 | exact oneX v [] q0 e h4 x1 x3 x4
  · have hY20 : Y.1 ≤ 20 := by omega
    have q0 := (hfv (v, Y) (by rw [e]; exact List.mem_cons_self ..)).1
    have hv1 := (hfv (v, Y) (by rw [e]; exact List.mem_cons_self ..)).2
    have T219 : ∀ h4, v < n → Y.1 ≤ 16 → FW wFl h2 h4 → h4 49 36 = 1 → (h4 49 37 = 0 ∨ h4 49 37 = 1) → ArrR (memA h2) v (scX h2) (memA h4) → CS h2 h4 → bool71 h4 → Wp d 253 219 [vR (some 49), vI m, vI (10 * m + g), vI p, vI (cAt B g + p), vI 21, vI v, l7] [] al h4 hr Q := by
      intro h4 x1 x2 x3 x4 x5 x6 x7 x8
      have s4 : scX h4 = Y := by
        rw [← hY]; unfold scX
        rw [x3 49 35 (by unfold wFl; omega), show h4 75 = h2 75 from funext fun k => x3 75 k (by unfold wFl; omega), show h4 76 = h2 76 from funext fun k => x3 76 k (by unfold wFl; omega)]
      have j6 : ArrR (memA hi) v Y (memA h4) := by rw [eM, hY] at x6; exact x6
      have v4 : vA B (memA h4) := arr_v j6 hv q0 hv1
      have m52 : h4 52 m ≤ 2000 := by rw [x3 52 _ (by unfold wFl; omega)]; exact hM2.2.2.1
      have mB : bAt h4 m = B := (FW.B x3 (by intro i; unfold wFl; omega) (by intro i; unfold wFl; omega)).trans hM2.2.2.2.1
      refine s253_219.mpr (s253_221.mpr ?_)
      refine s253_223.mpr (wif (fun c223 => ?_) (fun c223 => ?_))
      · first
        | (exfalso; omega)
        | skip
          refine (s253_254).mpr ?_
          first | (exfalso; omega) | (rw [s4] at y6; exact ok L h5 hL (by rw [e]; exact ⟨x1, x2, memA h4, j6, y1, y2, memA h5, y6, fun _ _ => rfl⟩) ((hw.st.tr x3.ft).tr y3.ft) y4 y5 (CS.l hw (x7.tr kv v4 (arr_le y6) y7)) y8) | (rw [s4] at y1; exact no h5 (Or.inr ⟨L, hL, by rw [e]; exact Or.inr (Or.inr ⟨memA h4, j6, y1.imp id Or.inl⟩)⟩) ((hw.st.tr x3.ft).tr y3.ft) y4)
      · first
        | (exfalso; omega)
        | skip
          refine s253_226.mpr (s253_228.mpr ?_)
          refine s253_230.mpr (wif (fun c230 => ?_) (fun c230 => ?_))
          · first
            | (exfalso; omega)
            | skip
              refine (s253_254).mpr ?_
              first | (exfalso; omega) | (rw [s4] at y6; exact ok L h5 hL (by rw [e]; exact ⟨x1, x2, memA h4, j6, y1, y2, memA h5, y6, fun _ _ => rfl⟩) ((hw.st.tr x3.ft).tr y3.ft) y4 y5 (CS.l hw (x7.tr kv v4 (arr_le y6) y7)) y8) | (rw [s4] at y1; exact no h5 (Or.inr ⟨L, hL, by rw [e]; exact Or.inr (Or.inr ⟨memA h4, j6, y1.imp id Or.inl⟩)⟩) ((hw.st.tr x3.ft).tr y3.ft) y4)
          · first
            | (exfalso; omega)
            | skip
              refine s253_233.mpr (s253_235.mpr ?_)
              refine s253_237.mpr (wif (fun c237 => ?_) (fun c237 => ?_))
              · first
                | (exfalso; omega)
                | skip
                  refine (s253_254).mpr ?_
                  first | (exfalso; omega) | (rw [s4] at y6; exact ok L h5 hL (by rw [e]; exact ⟨x1, x2, memA h4, j6, y1, y2, memA h5, y6, fun _ _ => rfl⟩) ((hw.st.tr x3.ft).tr y3.ft) y4 y5 (CS.l hw (x7.tr kv v4 (arr_le y6) y7)) y8) | (rw [s4] at y1; exact no h5 (Or.inr ⟨L, hL, by rw [e]; exact Or.inr (Or.inr ⟨memA h4, j6, y1.imp id Or.inl⟩)⟩) ((hw.st.tr x3.ft).tr y3.ft) y4)
              · first
                | (exfalso; omega)
                | skip
                  refine s253_240.mpr (s253_241.mpr (s253_242.mpr (s253_243.mpr (s253_244.mpr (s253_245.mpr ?_)))))
                  refine (s253_247 (by omega) kM).mpr ?_
                  refine m_length (B := B) hA hR (by omega) ⟨hm0, hm1⟩ m52 mB (by omega) ?_
                  refine s253_250.mpr ?_
                  try simp (disch := first | decide | assumption | omega) only [kon, knt_some, knt_none, Option.toList_some, Option.toList_none, List.cons_append, List.nil_append, fAdd_id]
                  refine (s253_251 (by omega) kM).mpr ?_
                  refine m_flow (B := B) (t := Y.1) hA hR (by omega) (by omega) ((x3 68 _ (by unfold wFl; omega)).trans k68) hn (by omega) x4 x5 ((x3 49 35 (by unfold wFl; omega)).trans hY1) ⟨hv1.1, hY20⟩ x8 v4 (fun h5 y1 y2 y3 y4 y5 y6 y7 y8 => ?_) (fun h5 y1 y3 y4 => ?_)
                  · skip
                    refine (s253_254).mpr ?_
                    first | (exfalso; omega) | (rw [s4] at y6; exact ok L h5 hL (by rw [e]; exact ⟨x1, x2, memA h4, j6, y1, y2, memA h5, y6, fun _ _ => rfl⟩) ((hw.st.tr x3.ft).tr y3.ft) y4 y5 (CS.l hw (x7.tr kv v4 (arr_le y6) y7)) y8) | (rw [s4] at y1; exact no h5 (Or.inr ⟨L, hL, by rw [e]; exact Or.inr (Or.inr ⟨memA h4, j6, y1.imp id Or.inl⟩)⟩) ((hw.st.tr x3.ft).tr y3.ft) y4)
                  · skip
                    refine (s253_254).mpr ?_
                    first | (exfalso; omega) | (rw [s4] at y6; exact ok L h5 hL (by rw [e]; exact ⟨x1, x2, memA h4, j6, y1, y2, memA h5, y6, fun _ _ => rfl⟩) ((hw.st.tr x3.ft).tr y3.ft) y4 y5 (CS.l hw (x7.tr kv v4 (arr_le y6) y7)) y8) | (rw [s4] at y1; exact no h5 (Or.inr ⟨L, hL, by rw [e]; exact Or.inr (Or.inr ⟨memA h4, j6, y1.imp id Or.inl⟩)⟩) ((hw.st.tr x3.ft).tr y3.ft) y4)
    have T219f : ∀ h4, (¬ (v < n ∧ Y.1 ≤ 16) ∨ ArrX (memA h2) v (scX h2)) → FW wFl h2 h4 → h4 49 36 = 0 → Wp d 253 219 [vR (some 49), vI m, vI (10 * m + g), vI p, vI (cAt B g + p), vI 21, vI v, l7] [] al h4 hr Q := by
      intro h4 x1 x3 x4
      have m52 : h4 52 m ≤ 2000 := by rw [x3 52 _ (by unfold wFl; omega)]; exact hM2.2.2.1
      have mB : bAt h4 m = B := (FW.B x3 (by intro i; unfold wFl; omega) (by intro i; unfold wFl; omega)).trans hM2.2.2.2.1
      refine s253_219.mpr (s253_221.mpr ?_)
      refine s253_223.mpr (wif (fun c223 => ?_) (fun c223 => ?_))
      · first
        | (exfalso; omega)
        | skip
          refine (s253_254).mpr ?_
          first | (exfalso; omega) | exact oneX v _ q0 e h5 x1 (x3.tr y3) y4
      · first
        | (exfalso; omega)
        | skip
          refine s253_226.mpr (s253_228.mpr ?_)
          refine s253_230.mpr (wif (fun c230 => ?_) (fun c230 => ?_))
          · first
            | (exfalso; omega)
            | skip
              refine (s253_254).mpr ?_
              first | (exfalso; omega) | exact oneX v _ q0 e h5 x1 (x3.tr y3) y4
          · first
            | (exfalso; omega)
            | skip
              refine s253_233.mpr (s253_235.mpr ?_)
              refine s253_237.mpr (wif (fun c237 => ?_) (fun c237 => ?_))
              · first
                | (exfalso; omega)
                | skip
                  refine (s253_254).mpr ?_
                  first | (exfalso; omega) | exact oneX v _ q0 e h5 x1 (x3.tr y3) y4
              · first
                | (exfalso; omega)
                | skip
                  refine s253_240.mpr (s253_241.mpr (s253_242.mpr (s253_243.mpr (s253_244.mpr (s253_245.mpr ?_)))))
                  refine (s253_247 (by omega) kM).mpr ?_
                  refine m_length (B := B) hA hR (by omega) ⟨hm0, hm1⟩ m52 mB (by omega) ?_
                  refine s253_250.mpr ?_
                  try simp (disch := first | decide | assumption | omega) only [kon, knt_some, knt_none, Option.toList_some, Option.toList_none, List.cons_append, List.nil_append, fAdd_id]
                  refine (s253_251 (by omega) kM).mpr ?_
                  refine m_flow0 hA hR (by omega) (by omega) x4 (fun h5 y3 y4 => ?_)
                  refine (s253_254).mpr ?_
                  first | (exfalso; omega) | exact oneX v _ q0 e h5 x1 (x3.tr y3) y4
    refine s253_183.mpr ?_
    refine (s253_184 kM).mpr ?_
    try simp (disch := first | decide | assumption | omega) only [kon, knt_some, knt_none, Option.toList_some, Option.toList_none, List.cons_append, List.nil_append, upI_eq, upI_a, upI_i, upR_eq, upR_a, upR_i, k36, k38]
    refine s253_187.mpr (wif (fun c187 => ?_) (fun c187 => ?_))
    · first
      | (exfalso; omega)
      | skip
        refine (s253_197).mpr ?_
        exfalso; omega
    · first
      | (exfalso; omega)
      | skip
        refine s253_190.mpr ?_
        refine (s253_191 kM).mpr ?_
        try simp (disch := first | decide | assumption | omega) only [kon, knt_some, knt_none, Option.toList_some, Option.toList_none, List.cons_append, List.nil_append, upI_eq, upI_a, upI_i, upR_eq, upR_a, upR_i, k36, k38]
        refine s253_194.mpr (wif (fun c194 => ?_) (fun c194 => ?_))
        · first
          | (exfalso; omega)
          | skip
            refine s253_198.mpr (s253_200.mpr ?_)
            refine s253_202.mpr (wif (fun c202 => ?_) (fun c202 => ?_))
            · first
              | (exfalso; omega)
              | skip
                refine s253_212.mpr (s253_213.mpr (s253_214.mpr ?_))
                refine (s253_216 (by omega) kM).mpr ?_
                refine m_flow (B := B) hA hR (by omega) (by omega) k68 hn q0 k36 (by omega) hY1 ⟨hv1.1, hY20⟩ kb kv (fun h4 x1 x2 x3 x4 x5 x6 x7 x8 => ?_) (fun h4 x1 x3 x4 => ?_)
                · skip
                  first | (exfalso; omega) | exact T219 h4 x1 x2 x3 x4 x5 x6 x7 x8 | exact T219f h4 x1 x3 x4
                · skip
                  first | (exfalso; omega) | exact T219 h4 x1 x2 x3 x4 x5 x6 x7 x8 | exact T219f h4 x1 x3 x4
            · first
              | (exfalso; omega)
              | skip
                refine s253_205.mpr (s253_207.mpr ?_)
                refine s253_209.mpr (wif (fun c209 => ?_) (fun c209 => ?_))
                · first
                  | (exfalso; omega)
                  | skip
                    refine s253_212.mpr (s253_213.mpr (s253_214.mpr ?_))
                    refine (s253_216 (by omega) kM).mpr ?_
                    refine m_flow (B := B) hA hR (by omega) (by omega) k68 hn q0 k36 (by omega) hY1 ⟨hv1.1, hY20⟩ kb kv (fun h4 x1 x2 x3 x4 x5 x6 x7 x8 => ?_) (fun h4 x1 x3 x4 => ?_)
                    · skip
                      first | (exfalso; omega) | exact T219 h4 x1 x2 x3 x4 x5 x6 x7 x8 | exact T219f h4 x1 x3 x4
                    · skip
                      first | (exfalso; omega) | exact T219 h4 x1 x2 x3 x4 x5 x6 x7 x8 | exact T219f h4 x1 x3 x4
                · first
                  | (exfalso; omega)
                  | skip
                    first | (exfalso; omega) | exact T219 h4 x1 x2 x3 x4 x5 x6 x7 x8 | exact T219f h4 x1 x3 x4
        · first
          | (exfalso; omega)
          | skip
            refine (s253_197).mpr ?_
            exfalso; omega
  · subst e
    refine s253_183.mpr ?_
    refine (s253_184 kM).mpr ?_
    try simp (disch := first | decide | assumption | omega) only [kon, knt_some, knt_none, Option.toList_some, Option.toList_none, List.cons_append, List.nil_append, upI_eq, upI_a, upI_i, upR_eq, upR_a, upR_i, k36, k38]
    refine s253_187.mpr (wif (fun c187 => ?_) (fun c187 => ?_))
    · first
      | (exfalso; omega)
      | skip
        refine (s253_197).mpr ?_
        first | (exfalso; omega) | exact ok [] h2 hL (by rw [eM]; exact fun _ _ => rfl) hw.st k36 (by omega) (CS.ws hw) kb
    · first
      | (exfalso; omega)
      | skip
        refine s253_190.mpr ?_
        refine (s253_191 kM).mpr ?_
        try simp (disch := first | decide | assumption | omega) only [kon, knt_some, knt_none, Option.toList_some, Option.toList_none, List.cons_append, List.nil_append, upI_eq, upI_a, upI_i, upR_eq, upR_a, upR_i, k36, k38]
        refine s253_194.mpr (wif (fun c194 => ?_) (fun c194 => ?_))
        · first
          | (exfalso; omega)
          | skip
            refine s253_198.mpr (s253_200.mpr ?_)
            refine s253_202.mpr (wif (fun c202 => ?_) (fun c202 => ?_))
            · first
              | (exfalso; omega)
              | skip
                refine s253_212.mpr (s253_213.mpr (s253_214.mpr ?_))
                refine (s253_216 (by omega) kM).mpr ?_
                exfalso; omega
            · first
              | (exfalso; omega)
              | skip
                refine s253_205.mpr (s253_207.mpr ?_)
                refine s253_209.mpr (wif (fun c209 => ?_) (fun c209 => ?_))
                · first
                  | (exfalso; omega)
                  | skip
                    refine s253_212.mpr (s253_213.mpr (s253_214.mpr ?_))
                    refine (s253_216 (by omega) kM).mpr ?_
                    exfalso; omega
                · first
                  | (exfalso; omega)
                  | skip
                    refine s253_219.mpr (s253_221.mpr ?_)
                    refine s253_223.mpr (wif (fun c223 => ?_) (fun c223 => ?_))
                    · first
                      | (exfalso; omega)
                      | skip
                        refine (s253_254).mpr ?_
                        first | (exfalso; omega) | exact ok [] h2 hL (by rw [eM]; exact fun _ _ => rfl) hw.st k36 (by omega) (CS.ws hw) kb
                    · first
                      | (exfalso; omega)
                      | skip
                        refine s253_226.mpr (s253_228.mpr ?_)
                        refine s253_230.mpr (wif (fun c230 => ?_) (fun c230 => ?_))
                        · first
                          | (exfalso; omega)
                          | skip
                            refine (s253_254).mpr ?_
                            first | (exfalso; omega) | exact ok [] h2 hL (by rw [eM]; exact fun _ _ => rfl) hw.st k36 (by omega) (CS.ws hw) kb
                        · first
                          | (exfalso; omega)
                          | skip
                            refine s253_233.mpr (s253_235.mpr ?_)
                            refine s253_237.mpr (wif (fun c237 => ?_) (fun c237 => ?_))
                            · first
                              | (exfalso; omega)
                              | skip
                                refine (s253_254).mpr ?_
                                first | (exfalso; omega) | exact ok [] h2 hL (by rw [eM]; exact fun _ _ => rfl) hw.st k36 (by omega) (CS.ws hw) kb
                            · first
                              | (exfalso; omega)
                              | skip
                                refine s253_240.mpr (s253_241.mpr (s253_242.mpr (s253_243.mpr (s253_244.mpr (s253_245.mpr ?_)))))
                                refine (s253_247 (by omega) kM).mpr ?_
                                exfalso; omega
        · first
          | (exfalso; omega)
          | skip
            refine (s253_197).mpr ?_
            first | (exfalso; omega) | exact ok [] h2 hL (by rw [eM]; exact fun _ _ => rfl) hw.st k36 (by omega) (CS.ws hw) kb
  · have hY20 : Y.1 ≤ 20 := by omega
    have q0 := (hfv (p + ilen B (cAt B g + p), Y) (by rw [e]; exact List.mem_singleton.mpr rfl)).1
    have hv1 := (hfv (p + ilen B (cAt B g + p), Y) (by rw [e]; exact List.mem_singleton.mpr rfl)).2.1
    refine s253_183.mpr ?_
    refine (s253_184 kM).mpr ?_
    try simp (disch := first | decide | assumption | omega) only [kon, knt_some, knt_none, Option.toList_some, Option.toList_none, List.cons_append, List.nil_append, upI_eq, upI_a, upI_i, upR_eq, upR_a, upR_i, k36, k38, fAdd_id]
    refine s253_187.mpr (wif (fun c187 => ?_) (fun c187 => ?_))
    · first
      | (exfalso; omega)
      | skip
        refine (s253_197).mpr ?_
        first | (exfalso; omega) | exact one _ q0 e h4 x1 x2 x3 x4 x5 x6 x7 x8 | exact oneX _ [] q0 e h4 x1 x3 x4
    · first
      | (exfalso; omega)
      | skip
        refine s253_190.mpr ?_
        refine (s253_191 kM).mpr ?_
        try simp (disch := first | decide | assumption | omega) only [kon, knt_some, knt_none, Option.toList_some, Option.toList_none, List.cons_append, List.nil_append, upI_eq, upI_a, upI_i, upR_eq, upR_a, upR_i, k36, k38, fAdd_id]
        refine s253_194.mpr (wif (fun c194 => ?_) (fun c194 => ?_))
        · first
          | (exfalso; omega)
          | skip
            refine s253_198.mpr (s253_200.mpr ?_)
            refine s253_202.mpr (wif (fun c202 => ?_) (fun c202 => ?_))
            · first
              | (exfalso; omega)
              | skip
                refine s253_212.mpr (s253_213.mpr (s253_214.mpr ?_))
                refine (s253_216 (by omega) kM).mpr ?_
                refine m_flow (B := B) hA hR (by omega) (by omega) k68 hn q0 k36 (by omega) hY1 ⟨hv1, hY20⟩ kb kv (fun h4 x1 x2 x3 x4 x5 x6 x7 x8 => ?_) (fun h4 x1 x3 x4 => ?_)
                · skip
                  refine s253_219.mpr (s253_221.mpr ?_)
                  refine s253_223.mpr (wif (fun c223 => ?_) (fun c223 => ?_))
                  · first
                    | (exfalso; omega)
                    | skip
                      refine (s253_254).mpr ?_
                      first | (exfalso; omega) | exact one _ q0 e h4 x1 x2 x3 x4 x5 x6 x7 x8 | exact oneX _ [] q0 e h4 x1 x3 x4
                  · first
                    | (exfalso; omega)
                    | skip
                      refine s253_226.mpr (s253_228.mpr ?_)
                      refine s253_230.mpr (wif (fun c230 => ?_) (fun c230 => ?_))
                      · first
                        | (exfalso; omega)
                        | skip
                          refine (s253_254).mpr ?_
                          first | (exfalso; omega) | exact one _ q0 e h4 x1 x2 x3 x4 x5 x6 x7 x8 | exact oneX _ [] q0 e h4 x1 x3 x4
                      · first
                        | (exfalso; omega)
                        | skip
                          refine s253_233.mpr (s253_235.mpr ?_)
                          refine s253_237.mpr (wif (fun c237 => ?_) (fun c237 => ?_))
                          · first
                            | (exfalso; omega)
                            | skip
                              refine (s253_254).mpr ?_
                              first | (exfalso; omega) | exact one _ q0 e h4 x1 x2 x3 x4 x5 x6 x7 x8 | exact oneX _ [] q0 e h4 x1 x3 x4
                          · first
                            | (exfalso; omega)
                            | skip
                              refine s253_240.mpr (s253_241.mpr (s253_242.mpr (s253_243.mpr (s253_244.mpr (s253_245.mpr ?_)))))
                              refine (s253_247 (by omega) kM).mpr ?_
                              refine m_length (B := B) hA hR (by omega) ⟨hm0, hm1⟩ hM2.2.2.1 hM2.2.2.2.1 (by omega) ?_
                              refine s253_250.mpr ?_
                              try simp (disch := first | decide | assumption | omega) only [kon, knt_some, knt_none, Option.toList_some, Option.toList_none, List.cons_append, List.nil_append, upI_eq, upI_a, upI_i, upR_eq, upR_a, upR_i, k36, k38, fAdd_id]
                              refine (s253_251 (by omega) kM).mpr ?_
                              refine m_flow (B := B) hA hR (by omega) (by omega) k68 hn q0 k36 (by omega) hY1 ⟨hv1, hY20⟩ kb kv (fun h4 x1 x2 x3 x4 x5 x6 x7 x8 => ?_) (fun h4 x1 x3 x4 => ?_)
                              · skip
                                refine (s253_254).mpr ?_
                                first | (exfalso; omega) | exact one _ q0 e h4 x1 x2 x3 x4 x5 x6 x7 x8 | exact oneX _ [] q0 e h4 x1 x3 x4
                              · skip
                                refine (s253_254).mpr ?_
                                first | (exfalso; omega) | exact one _ q0 e h4 x1 x2 x3 x4 x5 x6 x7 x8 | exact oneX _ [] q0 e h4 x1 x3 x4
                · skip
                  refine s253_219.mpr (s253_221.mpr ?_)
                  refine s253_223.mpr (wif (fun c223 => ?_) (fun c223 => ?_))
                  · first
                    | (exfalso; omega)
                    | skip
                      refine (s253_254).mpr ?_
                      first | (exfalso; omega) | exact one _ q0 e h4 x1 x2 x3 x4 x5 x6 x7 x8 | exact oneX _ [] q0 e h4 x1 x3 x4
                  · first
                    | (exfalso; omega)
                    | skip
                      refine s253_226.mpr (s253_228.mpr ?_)
                      refine s253_230.mpr (wif (fun c230 => ?_) (fun c230 => ?_))
                      · first
                        | (exfalso; omega)
                        | skip
                          refine (s253_254).mpr ?_
                          first | (exfalso; omega) | exact one _ q0 e h4 x1 x2 x3 x4 x5 x6 x7 x8 | exact oneX _ [] q0 e h4 x1 x3 x4
                      · first
                        | (exfalso; omega)
                        | skip
                          refine s253_233.mpr (s253_235.mpr ?_)
                          refine s253_237.mpr (wif (fun c237 => ?_) (fun c237 => ?_))
                          · first
                            | (exfalso; omega)
                            | skip
                              refine (s253_254).mpr ?_
                              first | (exfalso; omega) | exact one _ q0 e h4 x1 x2 x3 x4 x5 x6 x7 x8 | exact oneX _ [] q0 e h4 x1 x3 x4
                          · first
                            | (exfalso; omega)
                            | skip
                              refine s253_240.mpr (s253_241.mpr (s253_242.mpr (s253_243.mpr (s253_244.mpr (s253_245.mpr ?_)))))
                              refine (s253_247 (by omega) kM).mpr ?_
                              refine m_length (B := B) hA hR (by omega) ⟨hm0, hm1⟩ hM2.2.2.1 hM2.2.2.2.1 (by omega) ?_
                              refine s253_250.mpr ?_
                              try simp (disch := first | decide | assumption | omega) only [kon, knt_some, knt_none, Option.toList_some, Option.toList_none, List.cons_append, List.nil_append, upI_eq, upI_a, upI_i, upR_eq, upR_a, upR_i, k36, k38, fAdd_id]
                              refine (s253_251 (by omega) kM).mpr ?_
                              refine m_flow (B := B) hA hR (by omega) (by omega) k68 hn q0 k36 (by omega) hY1 ⟨hv1, hY20⟩ kb kv (fun h4 x1 x2 x3 x4 x5 x6 x7 x8 => ?_) (fun h4 x1 x3 x4 => ?_)
                              · skip
                                refine (s253_254).mpr ?_
                                first | (exfalso; omega) | exact one _ q0 e h4 x1 x2 x3 x4 x5 x6 x7 x8 | exact oneX _ [] q0 e h4 x1 x3 x4
                              · skip
                                refine (s253_254).mpr ?_
                                first | (exfalso; omega) | exact one _ q0 e h4 x1 x2 x3 x4 x5 x6 x7 x8 | exact oneX _ [] q0 e h4 x1 x3 x4
            · first
              | (exfalso; omega)
              | skip
                refine s253_205.mpr (s253_207.mpr ?_)
                refine s253_209.mpr (wif (fun c209 => ?_) (fun c209 => ?_))
                · first
                  | (exfalso; omega)
                  | skip
                    refine s253_212.mpr (s253_213.mpr (s253_214.mpr ?_))
                    refine (s253_216 (by omega) kM).mpr ?_
                    refine m_flow (B := B) hA hR (by omega) (by omega) k68 hn q0 k36 (by omega) hY1 ⟨hv1, hY20⟩ kb kv (fun h4 x1 x2 x3 x4 x5 x6 x7 x8 => ?_) (fun h4 x1 x3 x4 => ?_)
                    · skip
                      refine s253_219.mpr (s253_221.mpr ?_)
                      refine s253_223.mpr (wif (fun c223 => ?_) (fun c223 => ?_))
                      · first
                        | (exfalso; omega)
                        | skip
                          refine (s253_254).mpr ?_
                          first | (exfalso; omega) | exact one _ q0 e h4 x1 x2 x3 x4 x5 x6 x7 x8 | exact oneX _ [] q0 e h4 x1 x3 x4
                      · first
                        | (exfalso; omega)
                        | skip
                          refine s253_226.mpr (s253_228.mpr ?_)
                          refine s253_230.mpr (wif (fun c230 => ?_) (fun c230 => ?_))
                          · first
                            | (exfalso; omega)
                            | skip
                              refine (s253_254).mpr ?_
                              first | (exfalso; omega) | exact one _ q0 e h4 x1 x2 x3 x4 x5 x6 x7 x8 | exact oneX _ [] q0 e h4 x1 x3 x4
                          · first
                            | (exfalso; omega)
                            | skip
                              refine s253_233.mpr (s253_235.mpr ?_)
                              refine s253_237.mpr (wif (fun c237 => ?_) (fun c237 => ?_))
                              · first
                                | (exfalso; omega)
                                | skip
                                  refine (s253_254).mpr ?_
                                  first | (exfalso; omega) | exact one _ q0 e h4 x1 x2 x3 x4 x5 x6 x7 x8 | exact oneX _ [] q0 e h4 x1 x3 x4
                              · first
                                | (exfalso; omega)
                                | skip
                                  refine s253_240.mpr (s253_241.mpr (s253_242.mpr (s253_243.mpr (s253_244.mpr (s253_245.mpr ?_)))))
                                  refine (s253_247 (by omega) kM).mpr ?_
                                  refine m_length (B := B) hA hR (by omega) ⟨hm0, hm1⟩ hM2.2.2.1 hM2.2.2.2.1 (by omega) ?_
                                  refine s253_250.mpr ?_
                                  try simp (disch := first | decide | assumption | omega) only [kon, knt_some, knt_none, Option.toList_some, Option.toList_none, List.cons_append, List.nil_append, upI_eq, upI_a, upI_i, upR_eq, upR_a, upR_i, k36, k38, fAdd_id]
                                  refine (s253_251 (by omega) kM).mpr ?_
                                  refine m_flow (B := B) hA hR (by omega) (by omega) k68 hn q0 k36 (by omega) hY1 ⟨hv1, hY20⟩ kb kv (fun h4 x1 x2 x3 x4 x5 x6 x7 x8 => ?_) (fun h4 x1 x3 x4 => ?_)
                                  · skip
                                    refine (s253_254).mpr ?_
                                    first | (exfalso; omega) | exact one _ q0 e h4 x1 x2 x3 x4 x5 x6 x7 x8 | exact oneX _ [] q0 e h4 x1 x3 x4
                                  · skip
                                    refine (s253_254).mpr ?_
                                    first | (exfalso; omega) | exact one _ q0 e h4 x1 x2 x3 x4 x5 x6 x7 x8 | exact oneX _ [] q0 e h4 x1 x3 x4
                    · skip
                      refine s253_219.mpr (s253_221.mpr ?_)
                      refine s253_223.mpr (wif (fun c223 => ?_) (fun c223 => ?_))
                      · first
                        | (exfalso; omega)
                        | skip
                          refine (s253_254).mpr ?_
                          first | (exfalso; omega) | exact one _ q0 e h4 x1 x2 x3 x4 x5 x6 x7 x8 | exact oneX _ [] q0 e h4 x1 x3 x4
                      · first
                        | (exfalso; omega)
                        | skip
                          refine s253_226.mpr (s253_228.mpr ?_)
                          refine s253_230.mpr (wif (fun c230 => ?_) (fun c230 => ?_))
                          · first
                            | (exfalso; omega)
                            | skip
                              refine (s253_254).mpr ?_
                              first | (exfalso; omega) | exact one _ q0 e h4 x1 x2 x3 x4 x5 x6 x7 x8 | exact oneX _ [] q0 e h4 x1 x3 x4
                          · first
                            | (exfalso; omega)
                            | skip
                              refine s253_233.mpr (s253_235.mpr ?_)
                              refine s253_237.mpr (wif (fun c237 => ?_) (fun c237 => ?_))
                              · first
                                | (exfalso; omega)
                                | skip
                                  refine (s253_254).mpr ?_
                                  first | (exfalso; omega) | exact one _ q0 e h4 x1 x2 x3 x4 x5 x6 x7 x8 | exact oneX _ [] q0 e h4 x1 x3 x4
                              · first
                                | (exfalso; omega)
                                | skip
                                  refine s253_240.mpr (s253_241.mpr (s253_242.mpr (s253_243.mpr (s253_244.mpr (s253_245.mpr ?_)))))
                                  refine (s253_247 (by omega) kM).mpr ?_
                                  refine m_length (B := B) hA hR (by omega) ⟨hm0, hm1⟩ hM2.2.2.1 hM2.2.2.2.1 (by omega) ?_
                                  refine s253_250.mpr ?_
                                  try simp (disch := first | decide | assumption | omega) only [kon, knt_some, knt_none, Option.toList_some, Option.toList_none, List.cons_append, List.nil_append, upI_eq, upI_a, upI_i, upR_eq, upR_a, upR_i, k36, k38, fAdd_id]
                                  refine (s253_251 (by omega) kM).mpr ?_
                                  refine m_flow (B := B) hA hR (by omega) (by omega) k68 hn q0 k36 (by omega) hY1 ⟨hv1, hY20⟩ kb kv (fun h4 x1 x2 x3 x4 x5 x6 x7 x8 => ?_) (fun h4 x1 x3 x4 => ?_)
                                  · skip
                                    refine (s253_254).mpr ?_
                                    first | (exfalso; omega) | exact one _ q0 e h4 x1 x2 x3 x4 x5 x6 x7 x8 | exact oneX _ [] q0 e h4 x1 x3 x4
                                  · skip
                                    refine (s253_254).mpr ?_
                                    first | (exfalso; omega) | exact one _ q0 e h4 x1 x2 x3 x4 x5 x6 x7 x8 | exact oneX _ [] q0 e h4 x1 x3 x4
                · first
                  | (exfalso; omega)
                  | skip
                    refine s253_219.mpr (s253_221.mpr ?_)
                    refine s253_223.mpr (wif (fun c223 => ?_) (fun c223 => ?_))
                    · first
                      | (exfalso; omega)
                      | skip
                        refine (s253_254).mpr ?_
                        first | (exfalso; omega) | exact one _ q0 e h4 x1 x2 x3 x4 x5 x6 x7 x8 | exact oneX _ [] q0 e h4 x1 x3 x4
                    · first
                      | (exfalso; omega)
                      | skip
                        refine s253_226.mpr (s253_228.mpr ?_)
                        refine s253_230.mpr (wif (fun c230 => ?_) (fun c230 => ?_))
                        · first
                          | (exfalso; omega)
                          | skip
                            refine (s253_254).mpr ?_
                            first | (exfalso; omega) | exact one _ q0 e h4 x1 x2 x3 x4 x5 x6 x7 x8 | exact oneX _ [] q0 e h4 x1 x3 x4
                        · first
                          | (exfalso; omega)
                          | skip
                            refine s253_233.mpr (s253_235.mpr ?_)
                            refine s253_237.mpr (wif (fun c237 => ?_) (fun c237 => ?_))
                            · first
                              | (exfalso; omega)
                              | skip
                                refine (s253_254).mpr ?_
                                first | (exfalso; omega) | exact one _ q0 e h4 x1 x2 x3 x4 x5 x6 x7 x8 | exact oneX _ [] q0 e h4 x1 x3 x4
                            · first
                              | (exfalso; omega)
                              | skip
                                refine s253_240.mpr (s253_241.mpr (s253_242.mpr (s253_243.mpr (s253_244.mpr (s253_245.mpr ?_)))))
                                refine (s253_247 (by omega) kM).mpr ?_
                                refine m_length (B := B) hA hR (by omega) ⟨hm0, hm1⟩ hM2.2.2.1 hM2.2.2.2.1 (by omega) ?_
                                refine s253_250.mpr ?_
                                try simp (disch := first | decide | assumption | omega) only [kon, knt_some, knt_none, Option.toList_some, Option.toList_none, List.cons_append, List.nil_append, upI_eq, upI_a, upI_i, upR_eq, upR_a, upR_i, k36, k38, fAdd_id]
                                refine (s253_251 (by omega) kM).mpr ?_
                                refine m_flow (B := B) hA hR (by omega) (by omega) k68 hn q0 k36 (by omega) hY1 ⟨hv1, hY20⟩ kb kv (fun h4 x1 x2 x3 x4 x5 x6 x7 x8 => ?_) (fun h4 x1 x3 x4 => ?_)
                                · skip
                                  refine (s253_254).mpr ?_
                                  first | (exfalso; omega) | exact one _ q0 e h4 x1 x2 x3 x4 x5 x6 x7 x8 | exact oneX _ [] q0 e h4 x1 x3 x4
                                · skip
                                  refine (s253_254).mpr ?_
                                  first | (exfalso; omega) | exact one _ q0 e h4 x1 x2 x3 x4 x5 x6 x7 x8 | exact oneX _ [] q0 e h4 x1 x3 x4
        · first
          | (exfalso; omega)
          | skip
            refine (s253_197).mpr ?_
            first | (exfalso; omega) | exact one _ q0 e h4 x1 x2 x3 x4 x5 x6 x7 x8 | exact oneX _ [] q0 e h4 x1 x3 x4
end MST
