section DV6
variable {d : Nat} {al : AL} {hi : HI} {hr : HR} {Q : QQ} {B : Int → Int} {N : Nat} {n : Int} {f : Int}
/-- what the class finds of an end's state -/
theorem end_of {a c v : Int} {oc : Nat} (hT : TxV B n) (ha : vT B a) (hk : kindM a = 5) (hc : c = whichM a) (hC : CtrOK al hi hr B c oc) (v0 : 0 ≤ v ∧ v ≤ 3) :
    0 ≤ stateM a ∧ stateM a < 8 ∧ hi (oc + 1) (stateM a) = tnS B (whichM a) (stateM a) ∧ hi (oc + 2) (stateM a) = nMs B (whichM a) (stateM a) ∧ (v < nMs B (whichM a) (stateM a) → ixA hi oc (stateM a) v = 4 * stateM a + v ∧ hi (oc + 3) (4 * stateM a + v) = cv (ldT B a v) ∧ hi (oc + 4) (4 * stateM a + v) = thM B (whichM a) (stateM a) v) ∧ (¬ v < nMs B (whichM a) (stateM a) → ixA hi oc (stateM a) v = -1) := by
  subst hc
  have h5 := ha.2.2.2.2.2.2.2 hk
  have s0 : 0 ≤ stateM a := by unfold stateM; omega
  have w0 : 0 ≤ whichM a := by unfold whichM; omega
  have hSC := hT.2.1.2.2.2.2.2.2.1 _ w0 h5.1
  have hSS := hSC.2.2.2.1 _ s0 h5.2
  obtain ⟨g1, g2, g3, g4⟩ := hC.2.2 _ s0 h5.2
  have n8 := hSC.2.1
  refine ⟨s0, by omega, g1, g2, fun hv => ?_, fun hv => ?_⟩
  · refine ⟨if_pos ⟨s0, by omega, v0.1, by omega, by rw [g2]; exact hv⟩, ?_, (g4 v v0.1 hv).2⟩
    rw [(g4 v v0.1 hv).1]
    exact tyC_cv hT.rg (hSS.2.2.2.2.2.2.1 v v0.1 hv).1
  · exact if_neg (fun z => hv (by rw [← g2]; exact z.2.2.2.2))
theorem CtR.v {a : Int} {r : Option Nat} (h : CtR al hi hr N B (cv a) r) (ha : vT B a) : (kindM a = 5 ∧ ∃ oc, r = some oc ∧ CtrOK al hi hr B (whichM a) oc ∧ 119 ≤ oc ∧ hr (N + 4) (whichM a) = some oc) ∨ (kindM a ≠ 5 ∧ r = none) := by
  have k2 := cv_k ha.r
  have k3 := cv_r ha.r
  have k4 := cv_w ha.r
  rcases h with ⟨c, o, z1, z2, z3, z4, z5, z6, z7⟩ | ⟨z1, z2⟩
  · have e := z7 k3
    rw [k4] at e
    subst e
    exact Or.inl ⟨by omega, o, z1, z5, z6⟩
  · refine Or.inr ⟨fun e => ?_, z1⟩
    rcases z2 with y | y
    · omega
    · have := y k3
      rw [k4] at this
      exact this (ha.2.2.2.2.2.2.2 e).1
theorem cv_nx {a v : Int} (hT : TxV B n) (ha : vT B a) (hk : kindM a = 5) (v0 : 0 ≤ v) (v1 : v < nMs B (whichM a) (stateM a)) : enO (whichM a) (thM B (whichM a) (stateM a) v) (sideM a) = cv (nxT B a v) := by
  obtain ⟨n1, n2, n3, n4, n5⟩ := nx_of hT.2.1 hT.2.2 ha hk v0 v1
  have h5 := ha.2.2.2.2.2.2.2 hk
  have s0 : 0 ≤ stateM a := by unfold stateM; omega
  have w0 : 0 ≤ whichM a := by unfold whichM; omega
  have hth := ((hT.2.1.2.2.2.2.2.2.1 _ w0 h5.1).2.2.2.1 _ s0 h5.2).2.2.2.2.2.2.1 v v0 v1
  rw [enO_v w0 (by unfold whichM; omega) hth.2.1 (by omega) (by unfold sideM; omega) (by unfold sideM; omega)]
  unfold cv
  rw [if_neg (by have := n1.1; omega), n2, n3, n4, n5]
/-- a SEND, the end found -/
theorem v_send50 {A0 v ve vl : Int} {r : Option Nat} {o : Option Tst} {M : Nat} {l5 : AV} (h : VR al hr) (hd : 2 ≤ d) (hM : ModV al hi hr N n B M) (hT : TxV B n) (v0 : 0 ≤ v ∧ v ≤ 3) (hs : VS o hi) (cr : CtR al hi hr N B ve r) (hA : o ≠ none → ve = cv A0 ∧ vT B A0)
    (ok : ∀ hi', o ≠ none → endT B A0 v → vl = cv (ldT B A0 v) → VS (pushO o (nxT B A0 v)) hi' → FW wV hi hi' → Q (some none) al hi' hr)
    (no : ∀ hi', (o = none ∨ ¬ (endT B A0 v ∧ vl = cv (ldT B A0 v))) → VS none hi' → FW wV hi hi' → Q (some none) al hi' hr) : Wp d 183 50 [vR (some 8), vI v, vI ve, vI vl, vR r, l5] [] al hi hr Q := by
  have k8 := h.k8; have k11 := h.k11; have k12 := h.k12; have l11 := h.l11; have l12 := h.l12; have r1 := h.2.2.1; have r2 := h.2.2.2.1
  by_cases ho : o = none
  · subst ho
    have NO : ∀ hi', VS none hi' → FW wV hi hi' → Q (some none) al hi' hr := fun hi' s g => no hi' (Or.inl rfl) s g
    rcases cr with ⟨c, oc, rfl, z2, z3, z4, z5, z6, z7⟩ | ⟨rfl, -⟩
    · have kO := z5.1.1
      refine s183_50.mpr ?_
      refine (s183_51 (by omega)).mpr ?_
      refine c_stateOfEndG (fun x4 a4 b4 w4 => ?_)
      refine s183_54.mpr (s183_56.mpr ?_)
      refine s183_58.mpr (wif (fun c58 => ?_) (fun c58 => ?_))
      · skip
        refine s183_101.mpr (s183_102.mpr ?_)
        refine (s183_103 (by first | decide | assumption | omega) (by first | decide | assumption | omega)).mpr ?_
        refine (s183_106).mpr ?_
        first | exact NO _ hs.w (FW.up FW.rf wV_5) | exact NO _ s2 g2
      · skip
        refine s183_61.mpr (s183_63.mpr ?_)
        refine (s183_65 (by first | decide | assumption | omega) (by first | decide | assumption | omega)).mpr ?_
        refine k_turnAt z5.1 ?_
        refine s183_68.mpr ?_
        refine (s183_69 (by omega)).mpr ?_
        refine c_sideOfEndG (fun e69 a69 b69 w69 => ?_)
        refine (s183_72 (by omega)).mpr ?_
        refine (c_turnOfSide (by omega) (by omega)).mpr ?_
        refine s183_75.mpr (wif (fun c75 => ?_) (fun c75 => ?_))
        · skip
          refine s183_78.mpr (s183_80.mpr (s183_82.mpr ?_))
          refine (s183_83 (by first | decide | assumption | omega) (by first | decide | assumption | omega)).mpr ?_
          refine k_has z5.1 (by omega) (fun y83 => ?_) (fun y83 => ?_)
          · skip
            refine s183_86.mpr (wif (fun c86 => ?_) (fun c86 => ?_))
            · skip
              refine s183_101.mpr (s183_102.mpr ?_)
              refine (s183_103 (by first | decide | assumption | omega) (by first | decide | assumption | omega)).mpr ?_
              refine (s183_106).mpr ?_
              first | exact NO _ hs.w (FW.up FW.rf wV_5) | exact NO _ s2 g2
            · skip
              refine s183_89.mpr (s183_91.mpr (s183_93.mpr ?_))
              refine (s183_94 (by first | decide | assumption | omega) (by first | decide | assumption | omega)).mpr ?_
              refine k_loadOf z5.1 (by omega) ?_
              refine s183_97.mpr ?_
              refine s183_98.mpr (wif (fun c98 => ?_) (fun c98 => ?_))
              · skip
                refine s183_107.mpr (s183_108.mpr ?_)
                refine (s183_109 (by omega)).mpr ?_
                refine c_namedByH (fun x9 a9 b9 w9 => ?_)
                refine s183_112.mpr (s183_114.mpr (s183_116.mpr ?_))
                refine (s183_117 (by first | decide | assumption | omega) (by first | decide | assumption | omega)).mpr ?_
                refine k_nextOf z5.1 (by omega) ?_
                refine s183_120.mpr ?_
                refine (s183_121 (by omega)).mpr ?_
                refine c_sideOfEndG (fun e121 a121 b121 w121 => ?_)
                refine (s183_124 (by omega)).mpr ?_
                refine c_endType.mpr ?_
                refine (s183_127 (by first | decide | assumption | omega) (by first | decide | assumption | omega)).mpr ?_
                refine v_pushN h hs (fun hi2 s2 g2 => ?_)
                refine (s183_130).mpr ?_
                first | exact NO _ hs.w (FW.up FW.rf wV_5) | exact NO _ s2 g2
              · skip
                refine s183_101.mpr (s183_102.mpr ?_)
                refine (s183_103 (by first | decide | assumption | omega) (by first | decide | assumption | omega)).mpr ?_
                refine (s183_106).mpr ?_
                first | exact NO _ hs.w (FW.up FW.rf wV_5) | exact NO _ s2 g2
          · skip
            refine s183_86.mpr (wif (fun c86 => ?_) (fun c86 => ?_))
            · skip
              refine s183_101.mpr (s183_102.mpr ?_)
              refine (s183_103 (by first | decide | assumption | omega) (by first | decide | assumption | omega)).mpr ?_
              refine (s183_106).mpr ?_
              first | exact NO _ hs.w (FW.up FW.rf wV_5) | exact NO _ s2 g2
            · skip
              refine s183_89.mpr (s183_91.mpr (s183_93.mpr ?_))
              refine (s183_94 (by first | decide | assumption | omega) (by first | decide | assumption | omega)).mpr ?_
              refine k_loadOf z5.1 (by omega) ?_
              refine s183_97.mpr ?_
              refine s183_98.mpr (wif (fun c98 => ?_) (fun c98 => ?_))
              · skip
                refine s183_107.mpr (s183_108.mpr ?_)
                refine (s183_109 (by omega)).mpr ?_
                refine c_namedByH (fun x9 a9 b9 w9 => ?_)
                refine s183_112.mpr (s183_114.mpr (s183_116.mpr ?_))
                refine (s183_117 (by first | decide | assumption | omega) (by first | decide | assumption | omega)).mpr ?_
                refine k_nextOf z5.1 (by omega) ?_
                refine s183_120.mpr ?_
                refine (s183_121 (by omega)).mpr ?_
                refine c_sideOfEndG (fun e121 a121 b121 w121 => ?_)
                refine (s183_124 (by omega)).mpr ?_
                refine c_endType.mpr ?_
                refine (s183_127 (by first | decide | assumption | omega) (by first | decide | assumption | omega)).mpr ?_
                refine v_pushN h hs (fun hi2 s2 g2 => ?_)
                refine (s183_130).mpr ?_
                first | exact NO _ hs.w (FW.up FW.rf wV_5) | exact NO _ s2 g2
              · skip
                refine s183_101.mpr (s183_102.mpr ?_)
                refine (s183_103 (by first | decide | assumption | omega) (by first | decide | assumption | omega)).mpr ?_
                refine (s183_106).mpr ?_
                first | exact NO _ hs.w (FW.up FW.rf wV_5) | exact NO _ s2 g2
        · skip
          refine s183_101.mpr (s183_102.mpr ?_)
          refine (s183_103 (by first | decide | assumption | omega) (by first | decide | assumption | omega)).mpr ?_
          refine (s183_106).mpr ?_
          first | exact NO _ hs.w (FW.up FW.rf wV_5) | exact NO _ s2 g2
    · skip
      refine s183_50.mpr ?_
      refine (s183_51 (by omega)).mpr ?_
      refine c_stateOfEndG (fun x4 a4 b4 w4 => ?_)
      refine s183_54.mpr (s183_56.mpr ?_)
      refine s183_58.mpr (wif (fun c58 => ?_) (fun c58 => ?_))
      · skip
        refine s183_101.mpr (s183_102.mpr ?_)
        refine (s183_103 (by first | decide | assumption | omega) (by first | decide | assumption | omega)).mpr ?_
        refine (s183_106).mpr ?_
        exact NO _ hs.w (FW.up FW.rf wV_5)
      · skip
        first | exact absurd rfl c58 | (exfalso; omega)
  · obtain ⟨rfl, ha⟩ := hA ho
    have ok := fun hi' => ok hi' ho
    have no := fun hi' z => no hi' (Or.inr z)
    rcases cr.v ha with ⟨hk, oc, rfl, hC, h119⟩ | ⟨hk, rfl⟩
    · have kO := hC.1.1
      obtain ⟨s0, s8, e1, e2, e3, e4⟩ := end_of hT ha hk rfl hC v0
      have kr := cv_r ha.r
      have ks := cv_s ha.r
      have ke := cv_e ha.r
      have kw := cv_w ha.r
      have sd : 0 ≤ sideM A0 ∧ sideM A0 < 2 := by unfold sideM; omega
      have eT : (if stateM A0 < 0 ∨ 8 ≤ stateM A0 then 0 else hi (oc + 1) (stateM A0)) = tnS B (whichM A0) (stateM A0) := by rw [if_neg (by omega), e1]
      have m0 := ((hT.2.1.2.2.2.2.2.2.1 _ (by unfold whichM; omega) (ha.2.2.2.2.2.2.2 hk).1).2.2.2.1 _ s0 (ha.2.2.2.2.2.2.2 hk).2).2.2.1
      have B1 : ¬ tnS B (whichM A0) (stateM A0) = sideM A0 + 1 → Q (some none) al (upI hi 8 5 1) hr := fun c => no _ (fun z => c (by have := z.1.2.1; omega)) hs.w (FW.up FW.rf wV_5)
      have B2 : ¬ 0 ≤ ixA hi oc (stateM A0) v → Q (some none) al (upI hi 8 5 1) hr := fun c => no _ (fun z => c (by have := (e3 z.1.2.2).1; omega)) hs.w (FW.up FW.rf wV_5)
      have B3 : 0 ≤ ixA hi oc (stateM A0) v → ¬ (if ixA hi oc (stateM A0) v < 0 then -1 else hi (oc + 3) (ixA hi oc (stateM A0) v)) = vl → Q (some none) al (upI hi 8 5 1) hr := fun c1 c => no _ (fun z => c (by rw [if_neg (by omega), (e3 z.1.2.2).1, (e3 z.1.2.2).2.1]; exact z.2.symm)) hs.w (FW.up FW.rf wV_5)
      have A1 : tnS B (whichM A0) (stateM A0) = sideM A0 + 1 → 0 ≤ ixA hi oc (stateM A0) v → (if ixA hi oc (stateM A0) v < 0 then -1 else hi (oc + 3) (ixA hi oc (stateM A0) v)) = vl → v < nMs B (whichM A0) (stateM A0) ∧ endT B A0 v ∧ vl = cv (ldT B A0 v) ∧ enO (whichM A0) (if ixA hi oc (stateM A0) v < 0 then 0 else hi (oc + 4) (ixA hi oc (stateM A0) v)) (sideM A0) = cv (nxT B A0 v) := fun c1 c2 c3 => by
        have hlt : v < nMs B (whichM A0) (stateM A0) := Classical.byContradiction fun z => by have := e4 z; omega
        refine ⟨hlt, ⟨hk, by omega, hlt⟩, ?_, ?_⟩
        · rw [if_neg (by omega), (e3 hlt).1, (e3 hlt).2.1] at c3; exact c3.symm
        · rw [if_neg (by omega), (e3 hlt).1, (e3 hlt).2.2]; exact cv_nx hT ha hk v0.1 hlt
      clear e3 e4
      refine s183_50.mpr ?_
      refine (s183_51 (by omega)).mpr ?_
      refine c_stateOfEndG (fun x4 a4 b4 w4 => ?_)
      obtain rfl : x4 = stateM A0 := (w4 kr).trans ks
      refine s183_54.mpr (s183_56.mpr ?_)
      refine s183_58.mpr (wif (fun c58 => ?_) (fun c58 => ?_))
      · skip
        refine s183_101.mpr (s183_102.mpr ?_)
        refine (s183_103 (by first | decide | assumption | omega) (by first | decide | assumption | omega)).mpr ?_
        refine (s183_106).mpr ?_
        first
        | exact B1 (by assumption)
        | exact B2 (by assumption)
        | exact B3 (by assumption) (by assumption)
        | (have A := A1 (by assumption) (by assumption) (by assumption); exact ok _ A.2.1 A.2.2.1 s2 g2)
        | (cases c58)
        | (exfalso; omega)
      · skip
        refine s183_61.mpr (s183_63.mpr ?_)
        refine (s183_65 (by first | decide | assumption | omega) (by first | decide | assumption | omega)).mpr ?_
        refine k_turnAt hC.1 ?_
        simp only [kon, knt_some, knt_none, Option.toList_some, Option.toList_none, List.cons_append, List.nil_append, eT]
        refine s183_68.mpr ?_
        refine (s183_69 (by omega)).mpr ?_
        refine c_sideOfEndG (fun e69 a69 b69 w69 => ?_)
        obtain rfl : e69 = sideM A0 := (w69 kr).trans ke
        refine (s183_72 (by omega)).mpr ?_
        refine (c_turnOfSide (by omega) (by omega)).mpr ?_
        refine s183_75.mpr (wif (fun c75 => ?_) (fun c75 => ?_))
        · first
          | (exfalso; omega)
          | skip
            refine s183_78.mpr (s183_80.mpr (s183_82.mpr ?_))
            refine (s183_83 (by first | decide | assumption | omega) (by first | decide | assumption | omega)).mpr ?_
            refine k_has hC.1 (by omega) (fun y83 => ?_) (fun y83 => ?_)
            · skip
              refine s183_86.mpr (wif (fun c86 => ?_) (fun c86 => ?_))
              · first
                | (exfalso; omega)
                | skip
                  refine s183_101.mpr (s183_102.mpr ?_)
                  refine (s183_103 (by first | decide | assumption | omega) (by first | decide | assumption | omega)).mpr ?_
                  refine (s183_106).mpr ?_
                  first
                  | exact B1 (by assumption)
                  | exact B2 (by assumption)
                  | exact B3 (by assumption) (by assumption)
                  | (have A := A1 (by assumption) (by assumption) (by assumption); exact ok _ A.2.1 A.2.2.1 s2 g2)
                  | (cases c58)
                  | (exfalso; omega)
              · first
                | (exfalso; omega)
                | skip
                  refine s183_89.mpr (s183_91.mpr (s183_93.mpr ?_))
                  refine (s183_94 (by first | decide | assumption | omega) (by first | decide | assumption | omega)).mpr ?_
                  refine k_loadOf hC.1 (by omega) ?_
                  refine s183_97.mpr ?_
                  refine s183_98.mpr (wif (fun c98 => ?_) (fun c98 => ?_))
                  · first
                    | (exfalso; omega)
                    | skip
                      refine s183_107.mpr (s183_108.mpr ?_)
                      refine (s183_109 (by omega)).mpr ?_
                      refine c_namedByH (fun x9 a9 b9 w9 => ?_)
                      obtain rfl : x9 = whichM A0 := (w9 kr).trans kw
                      refine s183_112.mpr (s183_114.mpr (s183_116.mpr ?_))
                      refine (s183_117 (by first | decide | assumption | omega) (by first | decide | assumption | omega)).mpr ?_
                      refine k_nextOf hC.1 (by omega) ?_
                      refine s183_120.mpr ?_
                      refine (s183_121 (by omega)).mpr ?_
                      refine c_sideOfEndG (fun e121 a121 b121 w121 => ?_)
                      obtain rfl : e121 = sideM A0 := (w121 kr).trans ke
                      refine (s183_124 (by omega)).mpr ?_
                      refine c_endType.mpr ?_
                      refine (s183_127 (by first | decide | assumption | omega) (by first | decide | assumption | omega)).mpr ?_
                      refine v_push h hs (fun _ => (A1 (by assumption) (by assumption) (by assumption)).2.2.2) (fun hi2 s2 g2 => ?_)
                      refine (s183_130).mpr ?_
                      first
                      | exact B1 (by assumption)
                      | exact B2 (by assumption)
                      | exact B3 (by assumption) (by assumption)
                      | (have A := A1 (by assumption) (by assumption) (by assumption); exact ok _ A.2.1 A.2.2.1 s2 g2)
                      | (cases c58)
                      | (exfalso; omega)
                  · first
                    | (exfalso; omega)
                    | skip
                      refine s183_101.mpr (s183_102.mpr ?_)
                      refine (s183_103 (by first | decide | assumption | omega) (by first | decide | assumption | omega)).mpr ?_
                      refine (s183_106).mpr ?_
                      first
                      | exact B1 (by assumption)
                      | exact B2 (by assumption)
                      | exact B3 (by assumption) (by assumption)
                      | (have A := A1 (by assumption) (by assumption) (by assumption); exact ok _ A.2.1 A.2.2.1 s2 g2)
                      | (cases c58)
                      | (exfalso; omega)
            · skip
              refine s183_86.mpr (wif (fun c86 => ?_) (fun c86 => ?_))
              · first
                | (exfalso; omega)
                | skip
                  refine s183_101.mpr (s183_102.mpr ?_)
                  refine (s183_103 (by first | decide | assumption | omega) (by first | decide | assumption | omega)).mpr ?_
                  refine (s183_106).mpr ?_
                  first
                  | exact B1 (by assumption)
                  | exact B2 (by assumption)
                  | exact B3 (by assumption) (by assumption)
                  | (have A := A1 (by assumption) (by assumption) (by assumption); exact ok _ A.2.1 A.2.2.1 s2 g2)
                  | (cases c58)
                  | (exfalso; omega)
              · first
                | (exfalso; omega)
                | skip
                  refine s183_89.mpr (s183_91.mpr (s183_93.mpr ?_))
                  refine (s183_94 (by first | decide | assumption | omega) (by first | decide | assumption | omega)).mpr ?_
                  refine k_loadOf hC.1 (by omega) ?_
                  refine s183_97.mpr ?_
                  refine s183_98.mpr (wif (fun c98 => ?_) (fun c98 => ?_))
                  · first
                    | (exfalso; omega)
                    | skip
                      refine s183_107.mpr (s183_108.mpr ?_)
                      refine (s183_109 (by omega)).mpr ?_
                      refine c_namedByH (fun x9 a9 b9 w9 => ?_)
                      obtain rfl : x9 = whichM A0 := (w9 kr).trans kw
                      refine s183_112.mpr (s183_114.mpr (s183_116.mpr ?_))
                      refine (s183_117 (by first | decide | assumption | omega) (by first | decide | assumption | omega)).mpr ?_
                      refine k_nextOf hC.1 (by omega) ?_
                      refine s183_120.mpr ?_
                      refine (s183_121 (by omega)).mpr ?_
                      refine c_sideOfEndG (fun e121 a121 b121 w121 => ?_)
                      obtain rfl : e121 = sideM A0 := (w121 kr).trans ke
                      refine (s183_124 (by omega)).mpr ?_
                      refine c_endType.mpr ?_
                      refine (s183_127 (by first | decide | assumption | omega) (by first | decide | assumption | omega)).mpr ?_
                      refine v_push h hs (fun _ => (A1 (by assumption) (by assumption) (by assumption)).2.2.2) (fun hi2 s2 g2 => ?_)
                      refine (s183_130).mpr ?_
                      first
                      | exact B1 (by assumption)
                      | exact B2 (by assumption)
                      | exact B3 (by assumption) (by assumption)
                      | (have A := A1 (by assumption) (by assumption) (by assumption); exact ok _ A.2.1 A.2.2.1 s2 g2)
                      | (cases c58)
                      | (exfalso; omega)
                  · first
                    | (exfalso; omega)
                    | skip
                      refine s183_101.mpr (s183_102.mpr ?_)
                      refine (s183_103 (by first | decide | assumption | omega) (by first | decide | assumption | omega)).mpr ?_
                      refine (s183_106).mpr ?_
                      first
                      | exact B1 (by assumption)
                      | exact B2 (by assumption)
                      | exact B3 (by assumption) (by assumption)
                      | (have A := A1 (by assumption) (by assumption) (by assumption); exact ok _ A.2.1 A.2.2.1 s2 g2)
                      | (cases c58)
                      | (exfalso; omega)
        · first
          | (exfalso; omega)
          | skip
            refine s183_101.mpr (s183_102.mpr ?_)
            refine (s183_103 (by first | decide | assumption | omega) (by first | decide | assumption | omega)).mpr ?_
            refine (s183_106).mpr ?_
            first
            | exact B1 (by assumption)
            | exact B2 (by assumption)
            | exact B3 (by assumption) (by assumption)
            | (have A := A1 (by assumption) (by assumption) (by assumption); exact ok _ A.2.1 A.2.2.1 s2 g2)
            | (cases c58)
            | (exfalso; omega)
    · skip
      refine s183_50.mpr ?_
      refine (s183_51 (by omega)).mpr ?_
      refine c_stateOfEndG (fun x4 a4 b4 w4 => ?_)
      refine s183_54.mpr (s183_56.mpr ?_)
      refine s183_58.mpr (wif (fun c58 => ?_) (fun c58 => ?_))
      · skip
        refine s183_101.mpr (s183_102.mpr ?_)
        refine (s183_103 (by first | decide | assumption | omega) (by first | decide | assumption | omega)).mpr ?_
        refine (s183_106).mpr ?_
        exact no _ (fun z => hk z.1.1) hs.w (FW.up FW.rf wV_5)
      · skip
        first | exact absurd rfl c58 | (exfalso; omega)
theorem v_followSend {v p : Int} {X : Tst} {M : Nat} (h : VR al hr) (hd : 3 ≤ d) (hM : ModV al hi hr N n B M) (hT : TxV B n) (hN : hr 8 7 = some N) (hs : VS (some X) hi) (hv : vX B X) (v0 : 0 ≤ v ∧ v ≤ 3)
    (q : ∀ hi', VF (tsL B f 37 v p X) 1 hi' → FW wV hi hi' → Q (some none) al hi' hr) : Ev d 183 [vR (some 8), vI v] al hi hr Q := by
  have k8 := h.k8; have k11 := h.k11; have k12 := h.k12; have l11 := h.l11; have l12 := h.l12; have r1 := h.2.2.1; have r2 := h.2.2.2.1
  have c16 := hs.2.2.2.1
  have et : tsL B f 37 v p X = (@ite _ (0 < X.1 ∧ endT B (X.2.1 (X.1 - 1)) v ∧ ldT B (X.2.1 (X.1 - 1)) v = -1) (Classical.propDecidable _) (some [(p + 2, (X.1, up1 X.2.1 (X.1 - 1) (nxT B (X.2.1 (X.1 - 1)) v), X.2.2))])
    (onw (1 < X.1 ∧ endT B (X.2.1 (X.1 - 2)) v ∧ ldT B (X.2.1 (X.1 - 2)) v ≠ -1 ∧ leT (X.2.1 (X.1 - 1)) (ldT B (X.2.1 (X.1 - 2)) v)) [(p + 2, (X.1 - 1, up1 X.2.1 (X.1 - 2) (nxT B (X.2.1 (X.1 - 2)) v), X.2.2))])) := rfl
  rw [et] at q
  have hv1 : 0 < X.1 → vT B (X.2.1 (X.1 - 1)) := fun c => hv.2.1 _ (by omega) (by omega)
  have hv2 : 1 < X.1 → vT B (X.2.1 (X.1 - 2)) := fun c => hv.2.1 _ (by omega) (by omega)
  -- the highest is the load
  have T36 : ∀ v1 hi1 r l5, topV (some X) v1 → VS (popO (some X)) hi1 → FW wV hi hi1 → ¬ (0 < X.1 ∧ endT B (X.2.1 (X.1 - 1)) v ∧ ldT B (X.2.1 (X.1 - 1)) v = -1) → Wp d 183 36 [vR (some 8), vI v, vI v1, vI (-1), vR r, l5] [] al hi1 hr Q := by
    intro v1 hi1 r l5 t1 s1 g1 nb
    rw [if_neg nb] at q
    refine s183_36.mpr (s183_37.mpr (s183_38.mpr ?_))
    refine (s183_39 (by first | decide | assumption | omega) (by first | decide | assumption | omega)).mpr ?_
    refine v_pop h s1 (fun v2 hi2 s2 g2 t2 => ?_)
    refine s183_42.mpr (s183_43.mpr (s183_44.mpr ?_))
    refine (s183_45 (by first | decide | assumption | omega) (by first | decide | assumption | omega)).mpr ?_
    refine v_contractOf h (by omega) (hM.wv (g1.tr g2)) hT hN (fun r2 cr2 => ?_)
    refine s183_48.mpr ?_
    refine v_send50 (A0 := X.2.1 (X.1 - 2)) h (by omega) (hM.wv (g1.tr g2)) hT v0 s2 cr2 (fun z => ⟨(top_2 hv t2 (pp_2 z)).1, hv2 (pp_2 z)⟩) (fun hi3 z1 z2 z3 s3 g3 => ?_) (fun hi3 z1 s3 g3 => ?_)
    · have c := pp_2 z1
      have c9 : 0 < X.1 := by omega
      rw [(top_of rfl hv t1 c9).1] at z3
      have hl := (ld_of hT.2.2 (hv2 c) z2.1 v0.1 z2.2.2)
      have nl : ldT B (X.2.1 (X.1 - 2)) v ≠ -1 := fun y => by rw [y] at z3; exact cv_m (hv1 c9).r z3
      have e := (cv_inj (hv1 c9).r (hl.resolve_left nl).1.r).mp z3
      refine q _ (VF.of ?_) ((g1.tr g2).tr g3)
      rw [onw_p ⟨c, z2, nl, Or.inl e⟩, nx_y (by show X.1 - 1 ≤ 16; omega)]
      rw [pp_y c, push_y (by show X.1 - 2 < 16; omega)] at s3
      simp only [show X.1 - 2 + 1 = X.1 - 1 by omega] at s3
      exact s3
    · refine q _ (VF.nn (fun z => ?_) s3 (Or.inr rfl)) ((g1.tr g2).tr g3)
      obtain ⟨y1, y2, y3, y4⟩ := z
      have c9 : 0 < X.1 := by omega
      rcases z1 with z1 | z1
      · rw [pp_y y1] at z1; cases z1
      · refine z1 ⟨y2, ?_⟩
        rw [(top_of rfl hv t1 c9).1]
        have hl := (ld_of hT.2.2 (hv2 y1) y2.1 v0.1 y2.2.2).resolve_left y3
        rw [leT_k y4 (by omega)]
  rw [e183]
  refine s183_0.mpr ?_
  refine (s183_1 (by omega) k8).mpr ?_
  refine v_pop h hs (fun v1 hi1 s1 g1 t1 => ?_)
  simp only [kon, knt_some, knt_none, Option.toList_some, Option.toList_none, List.cons_append, List.nil_append]
  refine s183_4.mpr (s183_5.mpr (s183_6.mpr (s183_7.mpr (s183_8.mpr ?_))))
  refine (s183_9 (by omega) k8).mpr ?_
  refine v_contractOf h (by omega) (hM.wv g1) hT hN (fun r1 cr1 => ?_)
  simp only [kon, knt_some, knt_none, Option.toList_some, Option.toList_none, List.cons_append, List.nil_append]
  refine s183_12.mpr (s183_14.mpr ?_)
  have cr0 := cr1
  rcases cr1 with ⟨c, oc, rfl, z2, z3, z4, z5, z6, z7⟩ | ⟨rfl, z2⟩
  · have kO := z5.1.1
    refine s183_16.mpr (wif (fun c => by cases c) (fun _ => ?_))
    refine s183_19.mpr (s183_21.mpr ?_)
    refine (s183_22 (by omega)).mpr ?_
    refine c_stateOfEndG (fun x4 a4 b4 w4 => ?_)
    simp only [kon, knt_some, knt_none, Option.toList_some, Option.toList_none, List.cons_append, List.nil_append]
    refine s183_25.mpr ?_
    refine (s183_26 (by omega)).mpr ?_
    refine c_sideOfEndG (fun e5 a5 b5 w5 => ?_)
    simp only [kon, knt_some, knt_none, Option.toList_some, Option.toList_none, List.cons_append, List.nil_append]
    refine s183_29.mpr ?_
    refine (s183_30 (by omega) kO).mpr ?_
    have key : 0 < X.1 → (sbA hi1 oc x4 e5 v ↔ endT B (X.2.1 (X.1 - 1)) v ∧ ldT B (X.2.1 (X.1 - 1)) v = -1) := fun cc => by
      obtain ⟨k1, k2, k3, k4⟩ := top_of rfl hv t1 cc
      have ha := hv1 cc
      have hk : kindM (X.2.1 (X.1 - 1)) = 5 := by omega
      have ec : c = whichM (X.2.1 (X.1 - 1)) := (z7 k3).trans k4
      obtain ⟨s0, s8, e1, e2, e3, e4⟩ := end_of hT ha hk ec z5 v0
      have ex : x4 = stateM (X.2.1 (X.1 - 1)) := by rw [w4 k3, k1]; exact cv_s ha.r
      have ee : e5 = sideM (X.2.1 (X.1 - 1)) := by rw [w5 k3, k1]; exact cv_e ha.r
      subst ex ee
      unfold sbA endT
      rw [e1, e2]
      constructor
      · rintro ⟨y1, y2, y3, y4, y5, y6, y7⟩
        refine ⟨⟨hk, by omega, y6⟩, ?_⟩
        rw [(e3 y6).2.1] at y7
        rcases ld_of hT.2.2 ha hk v0.1 y6 with w | w
        · exact w
        · exact absurd y7 (cv_m w.1.r)
      · rintro ⟨⟨y1, y2, y3⟩, y4⟩
        exact ⟨s0, s8, v0.1, by omega, by omega, y3, by rw [(e3 y3).2.1, y4]; rfl⟩
    refine k_sendsBare z5.1 a5 (by omega) (fun y => ?_) (fun y => ?_)
    · simp only [kon, knt_some, knt_none, Option.toList_some, Option.toList_none, List.cons_append, List.nil_append]
      refine s183_33.mpr (wif (fun c => absurd c (by decide)) (fun _ => ?_))
      refine v_send50 (A0 := X.2.1 (X.1 - 1)) h (by omega) (hM.wv g1) hT v0 s1 cr0 (fun z => ⟨(top_of rfl hv t1 (nn_pop rfl z)).1, hv1 (nn_pop rfl z)⟩) (fun hi3 w1 w2 w3 s3 g3 => ?_) (fun hi3 w1 s3 g3 => ?_)
      · have cc := nn_pop rfl w1
        have yy := (key cc).mp y
        refine q _ ?_ (g1.tr g3)
        rw [if_pos ⟨cc, yy.1, yy.2⟩]
        rw [pop_y cc, push_y (by show X.1 - 1 < 16; omega)] at s3
        simp only [Int.sub_add_cancel] at s3
        exact Or.inl ⟨_, _, rfl, c16, s3, rfl⟩
      · rcases w1 with w1 | w1
        · have cc : ¬ 0 < X.1 := fun z => by rw [pop_y z] at w1; cases w1
          refine q _ ?_ (g1.tr g3)
          rw [if_neg (fun z => cc z.1)]
          exact VF.nn (fun z => cc (by have := z.1; omega)) s3 (Or.inr rfl)
        · by_cases cc : 0 < X.1
          · have yy := (key cc).mp y
            exact absurd ⟨yy.1, by rw [yy.2]; rfl⟩ w1
          · refine q _ ?_ (g1.tr g3)
            rw [if_neg (fun z => cc z.1)]
            exact VF.nn (fun z => cc (by have := z.1; omega)) s3 (Or.inr rfl)
    · simp only [kon, knt_some, knt_none, Option.toList_some, Option.toList_none, List.cons_append, List.nil_append]
      refine s183_33.mpr (wif (fun _ => ?_) (fun c => absurd rfl c))
      exact T36 v1 hi1 _ _ t1 s1 g1 (fun z => y ((key z.1).mpr ⟨z.2.1, z.2.2⟩))
  · refine s183_16.mpr (wif (fun _ => ?_) (fun c => absurd rfl c))
    refine T36 v1 hi1 _ _ t1 s1 g1 (fun z => ?_)
    rw [(top_of rfl hv t1 z.1).1] at cr0
    rcases cr0.v (hv1 z.1) with ⟨-, oc, w, -⟩ | ⟨w, -⟩
    · cases w
    · exact w z.2.1.1
end DV6
