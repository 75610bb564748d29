section CV5
variable {d : Nat} {al : AL} {hi : HI} {hr : HR} {Q : QQ} {B : Int → Int} {N t H C : Nat} {l : Int}
/-- an assignment with one place anew -/
def AU (A : Asg) (q : Int) (X : Tst) : Asg := fun p => if p = q then some X else A p
theorem AU_e {A : Asg} {q : Int} {X : Tst} : AU A q X q = some X := if_pos rfl
theorem AU_n {A : Asg} {q p : Int} {X : Tst} (h : p ≠ q) : AU A q X p = A p := if_neg h
/-- what an arrival at q does to the flags -/
def AF (A : Asg) (hi : HI) (q : Int) (A' : Asg) (hi' : HI) : Prop := (A' = A ∧ (∀ p, hi' 13 p = hi 13 p) ∧ hi' 8 6 = hi 8 6) ∨ (hi' 13 q = 1 ∧ (∀ p, p ≠ q → hi' 13 p = hi 13 p) ∧ hi' 8 6 = 1 ∧ (∀ p, p ≠ q → A' p = A p) ∧ (A q = none ∨ ∃ Y Z, A q = some Y ∧ A' q = some Z ∧ ¬ eqX Y Z))
theorem v_arrive {q : Int} {X : Tst} {A : Asg} (h : VR al hr) (hV : RV al hr t H C l) (hk : hr 8 8 = some (t + 1)) (hl : hi (t + 1) 4 = l) (hd : 3 ≤ d) (q0 : 0 ≤ q) (q9 : q < 1000) (hs : VS (some X) hi) (hm : MC A hi t H C l) (hvX : vX B X) (hvA : vA B A)
    (ok : ∀ A' hi', q < l → ArrR A q X A' → VS (some X) hi' → MC A' hi' t H C l → FW (wA t H C) hi hi' → AF A hi q A' hi' → Q (some none) al hi' hr)
    (no : ∀ hi', (¬ q < l ∨ ArrX A q X) → VS none hi' → FW (wA t H C) hi hi' → Q (some none) al hi' hr) : Ev d 162 [vR (some 8), vI q] al hi hr Q := by
  have k8 := h.k8; have k11 := h.k11; have k12 := h.k12; have l11 := h.l11; have l12 := h.l12; have r1 := h.2.2.1; have r2 := h.2.2.2.1
  have k13 := h.k13
  have l13 := h.l13
  have r3 := h.2.2.2.2
  obtain ⟨kt, ⟨h1, kH, lH⟩, ⟨c1, kC, lC⟩, hHC, t119, H119, C119, l0, l240⟩ := id hV; have rH : isR al H = true := isR_of kH (by decide) (by decide); have rC : isR al C = true := isR_of kC (by decide) (by decide); have nH : t + 1 ≠ H := isK_ne kt kH (by decide); have nC : t + 1 ≠ C := isK_ne kt kC (by decide)
  have hs' := hs
  obtain ⟨s1, s2, s3, s4, s5, s6⟩ := hs
  obtain ⟨m1, m2, m3, m4, m5⟩ := id hm
  rw [e162]
  by_cases cq : q < l
  · have mq := m1 q q0 cq
    have hw1 : ∀ a i, wCr C q a i → wA t H C a i := fun a i z => Or.inr (Or.inr (Or.inr (Or.inl z.1)))
    have hcA : A q = none ∨ ∃ Y, A q = some Y := by
      cases A q with
      | none => exact Or.inl rfl
      | some Y => exact Or.inr ⟨Y, rfl⟩
    rcases hcA with eA | ⟨Y, eA⟩
    · rw [eA] at mq
      have mq : hi H q = -1 := mq
      have ehq : (if q < 0 ∨ l ≤ q then -1 else hi H q) = -1 := by rw [if_neg (by omega), mq]
      let hi1 := upI (upI hi H q X.1) (t + 1) 6 (fMax (hi (t + 1) 6) X.1)
      have o1 : ∀ a j, a ≠ H → a ≠ t + 1 → hi1 a j = hi a j := fun a j z1 z2 => by show upI (upI hi H q X.1) (t + 1) 6 _ a j = _; rw [upI_a z2, upI_a z1]
      have o2 : ∀ j, hi1 H j = if j = q then X.1 else hi H j := fun j => by show upI (upI hi H q X.1) (t + 1) 6 _ H j = _; rw [upI_a (Ne.symm nH), upI_self]
      have ehq2 : (if q < 0 ∨ l ≤ q then -1 else hi1 H q) = X.1 := by rw [if_neg (by omega), o2, if_pos rfl]
      have e84 : hi1 8 4 = X.1 := (o1 8 4 (by omega) (by omega)).trans s2
      have hs1 : VS (some X) hi1 := (hs'.up (by omega) (by omega) (by omega)).up (by omega) (by omega) (by omega)
      have E : ∀ l5 l6 l7, Wp d 162 90 [vR (some 8), vI q, vI 1, vI 1, vI 0, l5, l6, l7] [] al hi1 hr Q := by
        intro l5 l6 l7
        refine v_arr1 h hV hk (by omega) q0 cq hs1 hvX (fun hi2 f2 g1 g2 => ?_)
        have u1 : ∀ a j, a ≠ 13 → a ≠ 8 → upI (upI hi2 13 q 1) 8 6 1 a j = hi2 a j := fun a j z1 z2 => by rw [upI_a z2, upI_a z1]
        have f9 : ∀ a j, a ≠ C → hi2 a j = hi1 a j := fun a j z => f2 a j (fun y => z y.1)
        refine ok (AU A q X) _ cq ⟨fun p p0 pn => AU_n pn, fun _ => ⟨X, AU_e, leX.rf.as leX.rf⟩, fun Y z => by rw [eA] at z; cases z⟩ ?_ ?_ ?_ ?_
        · exact ((hs1.fw f2 (fun i z => by unfold wCr at z; omega) (fun i z => by unfold wCr at z; omega) (fun z => by unfold wCr at z; omega) (fun z => by unfold wCr at z; omega)).up (by decide) (by decide) (by omega)).up (by decide) (by decide) (by omega)
        · have hmx : fMax (hi (t + 1) 6) X.1 = hi2 (t + 1) 6 := by rw [f9 _ _ nC]; exact upI_eq.symm
          have hmx2 : hi (t + 1) 6 ≤ hi2 (t + 1) 6 ∧ X.1 ≤ hi2 (t + 1) 6 ∧ (hi2 (t + 1) 6 = hi (t + 1) 6 ∨ hi2 (t + 1) 6 = X.1) := by rw [← hmx]; unfold fMax; split <;> omega
          refine ⟨fun p p0 p1 => ?_, fun p p1 => ?_, ?_, fun p Y p0 z => ?_, ?_⟩
          · by_cases e : p = q
            · subst e
              rw [AU_e]
              exact ⟨by rw [u1 _ _ (by omega) (by omega), f9 _ _ hHC, o2, if_pos rfl], s3, s4, fun k k0 k1 => by rw [u1 _ _ (by omega) (by omega)]; exact g1 k k0 k1, fun k k0 k1 => by rw [u1 _ _ (by omega) (by omega)]; exact g2 k k0 k1⟩
            · have mp := m1 p p0 p1
              rw [AU_n e]
              cases eP : A p with
              | none => rw [eP] at mp; show _ = _; rw [u1 _ _ (by omega) (by omega), f9 _ _ hHC, o2, if_neg e]; exact mp
              | some Y =>
                rw [eP] at mp
                obtain ⟨b1, b2, b3, b4, b5⟩ := mp
                have fC : ∀ j, 26 * p ≤ j → j < 26 * p + 26 → hi2 C j = hi C j := fun j z1 z2 => (f2 C j (fun y => by unfold wCr at y; omega)).trans (o1 C j (Ne.symm hHC) (Ne.symm nC))
                exact ⟨by rw [u1 _ _ (by omega) (by omega), f9 _ _ hHC, o2, if_neg e]; exact b1, b2, b3, fun k k0 k1 => by rw [u1 _ _ (by omega) (by omega), fC _ (by omega) (by omega)]; exact b4 k k0 k1, fun k k0 k1 => by rw [u1 _ _ (by omega) (by omega), fC _ (by omega) (by omega)]; exact b5 k k0 k1⟩
          · rw [AU_n (by omega)]; exact m2 p p1
          · rw [u1 _ _ (by omega) (by omega)]; omega
          · rw [u1 _ _ (by omega) (by omega)]
            by_cases e : p = q
            · subst e; rw [AU_e] at z; cases z; exact hmx2.2.1
            · rw [AU_n e] at z; have := m4 p Y p0 z; omega
          · rw [u1 _ _ (by omega) (by omega)]
            rcases hmx2.2.2 with z | z
            · rcases m5 with y | ⟨p, Y, y1, y2, y3⟩
              · exact Or.inl (by omega)
              · refine Or.inr ⟨p, Y, y1, ?_, by omega⟩
                rw [AU_n (fun e => by rw [e, eA] at y2; cases y2)]; exact y2
            · exact Or.inr ⟨q, X, q0, AU_e, z.symm⟩
        · exact (((FW.up (FW.up FW.rf (Or.inr (Or.inr (Or.inl rfl)))) (Or.inr (Or.inr (Or.inr (Or.inr ⟨rfl, rfl⟩))))).tr (f2.mn hw1)).up (Or.inr (Or.inl rfl))).up (Or.inl ⟨rfl, Or.inr rfl⟩)
        · refine Or.inr ⟨by rw [upI_a (by decide), upI_eq], fun p pn => ?_, upI_eq, fun p pn => AU_n pn, Or.inl eA⟩
          rw [upI_a (by decide), upI_i pn, f9 _ _ (by omega), o1 _ _ (by omega) (by omega)]
      refine s162_0.mpr ?_
      refine (s162_1 (by first | decide | assumption | omega)).mpr ?_
      try simp (disch := first | decide | assumption | omega) only [kon, knt_some, knt_none, Option.toList_some, Option.toList_none, List.cons_append, List.nil_append, s1, hk, hl, s2]
      refine s162_4.mpr (wif (fun c4 => ?_) (fun c4 => ?_))
      · first
        | (exfalso; omega)
        | skip
          refine s162_7.mpr (s162_8.mpr ?_)
          refine (s162_9 (by first | decide | assumption | omega)).mpr ?_
          try simp (disch := first | decide | assumption | omega) only [kon, knt_some, knt_none, Option.toList_some, Option.toList_none, List.cons_append, List.nil_append, s1, hk, hl, s2]
          refine (s162_12 (by first | decide | assumption | omega)).mpr ?_
          try simp (disch := first | decide | assumption | omega) only [kon, knt_some, knt_none, Option.toList_some, Option.toList_none, List.cons_append, List.nil_append, s1, hk, hl, s2]
          refine s162_15.mpr (wif (fun c15 => ?_) (fun c15 => ?_))
          · first
            | (exfalso; omega)
            | skip
              refine s162_18.mpr (s162_19.mpr ?_)
              refine s162_22.mpr (wif (fun c22 => ?_) (fun c22 => ?_))
              · first
                | (exfalso; omega)
                | skip
                  refine s162_31.mpr ?_
                  refine (s162_32 (by first | decide | assumption | omega)).mpr ?_
                  refine s162_35.mpr ?_
                  try simp (disch := first | decide | assumption | omega) only [kon, knt_some, knt_none, Option.toList_some, Option.toList_none, List.cons_append, List.nil_append, s1, hk, hl, s2]
                  refine (s162_36 (by first | decide | assumption | omega) (by first | decide | assumption | omega)).mpr ?_
                  first | (refine r_heightAt hV ?_; simp only [kon, knt_some, knt_none, Option.toList_some, Option.toList_none, List.cons_append, List.nil_append, ehq]) | (refine r_heightAt hV ?_; simp only [kon, knt_some, knt_none, Option.toList_some, Option.toList_none, List.cons_append, List.nil_append, ehq2])
                  refine s162_39.mpr (wif (fun c39 => ?_) (fun c39 => ?_))
                  · first
                    | (exfalso; omega)
                    | skip
                      refine s162_42.mpr (s162_43.mpr (s162_47.mpr (s162_48.mpr ?_)))
                      refine s162_49.mpr (wif (fun c49 => ?_) (fun c49 => ?_))
                      · first
                        | (exfalso; omega)
                        | skip
                          first | (exfalso; omega) | skip
                          show Wp d 162 64 [vR (some 8), vI q, vI 1, none, none, none, none, none] [] al hi1 hr Q
                          refine s162_64.mpr ?_
                          refine (s162_65 k8).mpr ?_
                          rw [hk]
                          refine s162_68.mpr ?_
                          refine (s162_69 (by omega) kt).mpr ?_
                          refine r_heightAt hV ?_
                          simp only [kon, knt_some, knt_none, Option.toList_some, Option.toList_none, List.cons_append, List.nil_append, ehq2]
                          refine s162_72.mpr ?_
                          refine (s162_73 k8).mpr ?_
                          rw [e84]
                          refine s162_76.mpr (wif (fun c76 => ?_) (fun c76 => absurd rfl c76))
                          refine s162_85.mpr ?_
                          refine s162_86.mpr ?_
                          refine s162_87.mpr ?_
                          refine s162_88.mpr ?_
                          exact E _ _ _
                      · first
                        | (exfalso; omega)
                        | skip
                          refine s162_52.mpr ?_
                          refine (s162_53 (by first | decide | assumption | omega)).mpr ?_
                          refine s162_56.mpr (s162_57.mpr ?_)
                          try simp (disch := first | decide | assumption | omega) only [kon, knt_some, knt_none, Option.toList_some, Option.toList_none, List.cons_append, List.nil_append, s1, hk, hl, s2]
                          refine (s162_58 (by first | decide | assumption | omega)).mpr ?_
                          try simp (disch := first | decide | assumption | omega) only [kon, knt_some, knt_none, Option.toList_some, Option.toList_none, List.cons_append, List.nil_append, s1, hk, hl, s2]
                          refine (s162_61 (by first | decide | assumption | omega) (by first | decide | assumption | omega)).mpr ?_
                          refine r_setHeight hV q0 cq ?_
                          first | (exfalso; omega) | skip
                          show Wp d 162 64 [vR (some 8), vI q, vI 1, none, none, none, none, none] [] al hi1 hr Q
                          refine s162_64.mpr ?_
                          refine (s162_65 k8).mpr ?_
                          rw [hk]
                          refine s162_68.mpr ?_
                          refine (s162_69 (by omega) kt).mpr ?_
                          refine r_heightAt hV ?_
                          simp only [kon, knt_some, knt_none, Option.toList_some, Option.toList_none, List.cons_append, List.nil_append, ehq2]
                          refine s162_72.mpr ?_
                          refine (s162_73 k8).mpr ?_
                          rw [e84]
                          refine s162_76.mpr (wif (fun c76 => ?_) (fun c76 => absurd rfl c76))
                          refine s162_85.mpr ?_
                          refine s162_86.mpr ?_
                          refine s162_87.mpr ?_
                          refine s162_88.mpr ?_
                          exact E _ _ _
                  · first
                    | (exfalso; omega)
                    | skip
                      refine s162_46.mpr (s162_47.mpr (s162_48.mpr ?_))
                      refine s162_49.mpr (wif (fun c49 => ?_) (fun c49 => ?_))
                      · first
                        | (exfalso; omega)
                        | skip
                          first | (exfalso; omega) | skip
                          show Wp d 162 64 [vR (some 8), vI q, vI 1, none, none, none, none, none] [] al hi1 hr Q
                          refine s162_64.mpr ?_
                          refine (s162_65 k8).mpr ?_
                          rw [hk]
                          refine s162_68.mpr ?_
                          refine (s162_69 (by omega) kt).mpr ?_
                          refine r_heightAt hV ?_
                          simp only [kon, knt_some, knt_none, Option.toList_some, Option.toList_none, List.cons_append, List.nil_append, ehq2]
                          refine s162_72.mpr ?_
                          refine (s162_73 k8).mpr ?_
                          rw [e84]
                          refine s162_76.mpr (wif (fun c76 => ?_) (fun c76 => absurd rfl c76))
                          refine s162_85.mpr ?_
                          refine s162_86.mpr ?_
                          refine s162_87.mpr ?_
                          refine s162_88.mpr ?_
                          exact E _ _ _
                      · first
                        | (exfalso; omega)
                        | skip
                          refine s162_52.mpr ?_
                          refine (s162_53 (by first | decide | assumption | omega)).mpr ?_
                          refine s162_56.mpr (s162_57.mpr ?_)
                          try simp (disch := first | decide | assumption | omega) only [kon, knt_some, knt_none, Option.toList_some, Option.toList_none, List.cons_append, List.nil_append, s1, hk, hl, s2]
                          refine (s162_58 (by first | decide | assumption | omega)).mpr ?_
                          try simp (disch := first | decide | assumption | omega) only [kon, knt_some, knt_none, Option.toList_some, Option.toList_none, List.cons_append, List.nil_append, s1, hk, hl, s2]
                          refine (s162_61 (by first | decide | assumption | omega) (by first | decide | assumption | omega)).mpr ?_
                          refine r_setHeight hV q0 cq ?_
                          first | (exfalso; omega) | skip
                          show Wp d 162 64 [vR (some 8), vI q, vI 1, none, none, none, none, none] [] al hi1 hr Q
                          refine s162_64.mpr ?_
                          refine (s162_65 k8).mpr ?_
                          rw [hk]
                          refine s162_68.mpr ?_
                          refine (s162_69 (by omega) kt).mpr ?_
                          refine r_heightAt hV ?_
                          simp only [kon, knt_some, knt_none, Option.toList_some, Option.toList_none, List.cons_append, List.nil_append, ehq2]
                          refine s162_72.mpr ?_
                          refine (s162_73 k8).mpr ?_
                          rw [e84]
                          refine s162_76.mpr (wif (fun c76 => ?_) (fun c76 => absurd rfl c76))
                          refine s162_85.mpr ?_
                          refine s162_86.mpr ?_
                          refine s162_87.mpr ?_
                          refine s162_88.mpr ?_
                          exact E _ _ _
              · first
                | (exfalso; omega)
                | skip
                  exfalso; omega
          · first
            | (exfalso; omega)
            | skip
              exfalso; omega
      · first
        | (exfalso; omega)
        | skip
          exfalso; omega
    · rw [eA] at mq
      obtain ⟨b1, b2, b3, b4, b5⟩ := mq
      have hvY := hvA q Y q0 eA
      have ehq : (if q < 0 ∨ l ≤ q then -1 else hi H q) = Y.1 := by rw [if_neg (by omega), b1]
      have E : ∀ l5 l6 l7, Y.1 = X.1 → Wp d 162 90 [vR (some 8), vI q, vI 0, vI 0, vI 0, l5, l6, l7] [] al hi hr Q := by
        intro l5 l6 l7 hXY
        refine v_arr2 h hV hk (by omega) q0 cq hs' hvX hvY hXY b4 b5 (fun hi2 dv hJ f2 g1 g2 => ?_) (fun hi2 hJ g1 g2 => no hi2 (Or.inr ⟨Y, eA, hJ⟩) g1 g2)
        have f9 : ∀ a j, a ≠ C → hi2 a j = hi a j := fun a j z => f2 a j (fun y => z y.1)
        have hs2 : VS (some X) hi2 := hs'.fw f2 (fun i z => by unfold wCr at z; omega) (fun i z => by unfold wCr at z; omega) (fun z => by unfold wCr at z; omega) (fun z => by unfold wCr at z; omega)
        have gS : ∀ k, 0 ≤ k → k < Y.1 → hi2 C (26 * q + k) = cv (both (Y.2.1 k) (X.2.1 k)) := fun k k0 k1 => by
          have := g1 k k0 (by omega) (Or.inl (by omega))
          unfold jnV at this; rw [if_pos (by omega)] at this; exact this
        have gL : ∀ k, 0 ≤ k → k < 10 → hi2 C (26 * q + 16 + k) = cv (bothL (Y.2.2 k) (X.2.2 k)) := fun k k0 k1 => by
          have := g1 (16 + k) (by omega) (by omega) (Or.inr (by omega))
          unfold jnV at this; rw [if_neg (by omega), show 16 + k - 16 = k by omega, show 26 * q + (16 + k) = 26 * q + 16 + k by omega] at this; exact this
        rcases g2 with ⟨rfl, g2⟩ | ⟨rfl, k9, g3, g4, g5, g6⟩
        · rw [if_pos rfl]
          have eS : ∀ k, 0 ≤ k → k < Y.1 → both (Y.2.1 k) (X.2.1 k) = Y.2.1 k := fun k k0 k1 => by
            have := g2 k k0 (by omega) (Or.inl (by omega))
            unfold jnV olV at this; rw [if_pos (by omega), if_pos (by omega)] at this; exact this
          have eL : ∀ k, 0 ≤ k → k < 10 → bothL (Y.2.2 k) (X.2.2 k) = Y.2.2 k := fun k k0 k1 => by
            have := g2 (16 + k) (by omega) (by omega) (Or.inr (by omega))
            unfold jnV olV at this; rw [if_neg (by omega), if_neg (by omega), show 16 + k - 16 = k by omega] at this; exact this
          refine ok A hi2 cq ⟨fun p p0 pn => rfl, fun z => (by rw [eA] at z; cases z), fun Y' z => ?_⟩ hs2 ?_ (f2.mn hw1) (Or.inl ⟨rfl, fun p => f9 _ _ (by omega), f9 _ _ (by omega)⟩)
          · rw [eA] at z; cases z
            exact ⟨hJ, Y, eA, rfl, fun k k0 k1 => (eS k k0 k1).symm, fun k k0 k1 => (eL k k0 k1).symm⟩
          · refine ⟨fun p p0 p1 => ?_, m2, by rw [f9 _ _ nC]; exact m3, by rw [f9 _ _ nC]; exact m4, by rw [f9 _ _ nC]; exact m5⟩
            have mp := m1 p p0 p1
            by_cases e : p = q
            · subst e
              rw [eA]
              exact ⟨by rw [f9 _ _ hHC]; exact b1, b2, b3, fun k k0 k1 => by rw [gS k k0 k1, eS k k0 k1], fun k k0 k1 => by rw [gL k k0 k1, eL k k0 k1]⟩
            · cases eP : A p with
              | none => rw [eP] at mp; show _ = _; rw [f9 _ _ hHC]; exact mp
              | some Y' =>
                rw [eP] at mp
                obtain ⟨d1, d2, d3, d4, d5⟩ := mp
                have fC : ∀ j, 26 * p ≤ j → j < 26 * p + 26 → hi2 C j = hi C j := fun j z1 z2 => f2 C j (fun y => by unfold wCr at y; omega)
                exact ⟨by rw [f9 _ _ hHC]; exact d1, d2, d3, fun k k0 k1 => by rw [fC _ (by omega) (by omega)]; exact d4 k k0 k1, fun k k0 k1 => by rw [fC _ (by omega) (by omega)]; exact d5 k k0 k1⟩
        · rw [if_neg (by decide)]
          have u1 : ∀ a j, a ≠ 13 → a ≠ 8 → upI (upI hi2 13 q 1) 8 6 1 a j = hi2 a j := fun a j z1 z2 => by rw [upI_a z2, upI_a z1]
          have nE : ¬ eqX Y (jX Y X) := fun z => by
            unfold jnV olV at g6
            unfold relK at g5
            by_cases e : k9 < 16
            · rw [if_pos e, if_pos e] at g6; exact g6 (z.2.1 k9 g3 (by omega)).symm
            · rw [if_neg e, if_neg e] at g6; exact g6 (z.2.2 (k9 - 16) (by omega) (by omega)).symm
          refine ok (AU A q (jX Y X)) _ cq ⟨fun p p0 pn => AU_n pn, fun z => (by rw [eA] at z; cases z), fun Y' z => ?_⟩ ((hs2.up (by decide) (by decide) (by omega)).up (by decide) (by decide) (by omega)) ?_ (((f2.mn hw1).up (Or.inr (Or.inl rfl))).up (Or.inl ⟨rfl, Or.inr rfl⟩)) (Or.inr ⟨by rw [upI_a (by decide), upI_eq], fun p pn => ?_, upI_eq, fun p pn => AU_n pn, Or.inr ⟨Y, jX Y X, eA, AU_e, nE⟩⟩)
          · rw [eA] at z; cases z
            exact ⟨hJ, jX Y X, AU_e, leX.rf.as leX.rf⟩
          · refine ⟨fun p p0 p1 => ?_, fun p p1 => ?_, ?_, fun p Y' p0 z => ?_, ?_⟩
            · have mp := m1 p p0 p1
              by_cases e : p = q
              · subst e
                rw [AU_e]
                exact ⟨by rw [u1 _ _ (by omega) (by omega), f9 _ _ hHC]; exact b1, b2, b3, fun k k0 k1 => by rw [u1 _ _ (by omega) (by omega)]; exact gS k k0 k1, fun k k0 k1 => by rw [u1 _ _ (by omega) (by omega)]; exact gL k k0 k1⟩
              · rw [AU_n e]
                cases eP : A p with
                | none => rw [eP] at mp; show _ = _; rw [u1 _ _ (by omega) (by omega), f9 _ _ hHC]; exact mp
                | some Y' =>
                  rw [eP] at mp
                  obtain ⟨d1, d2, d3, d4, d5⟩ := mp
                  have fC : ∀ j, 26 * p ≤ j → j < 26 * p + 26 → hi2 C j = hi C j := fun j z1 z2 => f2 C j (fun y => by unfold wCr at y; omega)
                  exact ⟨by rw [u1 _ _ (by omega) (by omega), f9 _ _ hHC]; exact d1, d2, d3, fun k k0 k1 => by rw [u1 _ _ (by omega) (by omega), fC _ (by omega) (by omega)]; exact d4 k k0 k1, fun k k0 k1 => by rw [u1 _ _ (by omega) (by omega), fC _ (by omega) (by omega)]; exact d5 k k0 k1⟩
            · rw [AU_n (by omega)]; exact m2 p p1
            · rw [u1 _ _ (by omega) (by omega), f9 _ _ nC]; exact m3
            · rw [u1 _ _ (by omega) (by omega), f9 _ _ nC]
              by_cases e : p = q
              · subst e; rw [AU_e] at z; cases z; exact m4 _ Y q0 eA
              · rw [AU_n e] at z; exact m4 p Y' p0 z
            · rw [u1 _ _ (by omega) (by omega), f9 _ _ nC]
              rcases m5 with y | ⟨p, Y', y1, y2, y3⟩
              · exact Or.inl y
              · by_cases e : p = q
                · subst e; rw [eA] at y2; cases y2; exact Or.inr ⟨p, jX Y X, y1, AU_e, y3⟩
                · exact Or.inr ⟨p, Y', y1, by rw [AU_n e]; exact y2, y3⟩
          · rw [upI_a (by decide), upI_i pn]; exact f9 _ _ (by omega)
      refine s162_0.mpr ?_
      refine (s162_1 (by first | decide | assumption | omega)).mpr ?_
      try simp (disch := first | decide | assumption | omega) only [kon, knt_some, knt_none, Option.toList_some, Option.toList_none, List.cons_append, List.nil_append, s1, hk, hl, s2]
      refine s162_4.mpr (wif (fun c4 => ?_) (fun c4 => ?_))
      · first
        | (exfalso; omega)
        | skip
          refine s162_7.mpr (s162_8.mpr ?_)
          refine (s162_9 (by first | decide | assumption | omega)).mpr ?_
          try simp (disch := first | decide | assumption | omega) only [kon, knt_some, knt_none, Option.toList_some, Option.toList_none, List.cons_append, List.nil_append, s1, hk, hl, s2]
          refine (s162_12 (by first | decide | assumption | omega)).mpr ?_
          try simp (disch := first | decide | assumption | omega) only [kon, knt_some, knt_none, Option.toList_some, Option.toList_none, List.cons_append, List.nil_append, s1, hk, hl, s2]
          refine s162_15.mpr (wif (fun c15 => ?_) (fun c15 => ?_))
          · first
            | (exfalso; omega)
            | skip
              refine s162_18.mpr (s162_19.mpr ?_)
              refine s162_22.mpr (wif (fun c22 => ?_) (fun c22 => ?_))
              · first
                | (exfalso; omega)
                | skip
                  refine s162_31.mpr ?_
                  refine (s162_32 (by first | decide | assumption | omega)).mpr ?_
                  refine s162_35.mpr ?_
                  try simp (disch := first | decide | assumption | omega) only [kon, knt_some, knt_none, Option.toList_some, Option.toList_none, List.cons_append, List.nil_append, s1, hk, hl, s2]
                  refine (s162_36 (by first | decide | assumption | omega) (by first | decide | assumption | omega)).mpr ?_
                  refine r_heightAt hV ?_
                  simp only [kon, knt_some, knt_none, Option.toList_some, Option.toList_none, List.cons_append, List.nil_append, ehq]
                  refine s162_39.mpr (wif (fun c39 => ?_) (fun c39 => ?_))
                  · first
                    | (exfalso; omega)
                    | skip
                      refine s162_42.mpr (s162_43.mpr (s162_47.mpr (s162_48.mpr ?_)))
                      refine s162_49.mpr (wif (fun c49 => ?_) (fun c49 => ?_))
                      · first
                        | (exfalso; omega)
                        | skip
                          refine s162_64.mpr ?_
                          refine (s162_65 (by first | decide | assumption | omega)).mpr ?_
                          refine s162_68.mpr ?_
                          try simp (disch := first | decide | assumption | omega) only [kon, knt_some, knt_none, Option.toList_some, Option.toList_none, List.cons_append, List.nil_append, s1, hk, hl, s2]
                          refine (s162_69 (by first | decide | assumption | omega) (by first | decide | assumption | omega)).mpr ?_
                          refine r_heightAt hV ?_
                          simp only [kon, knt_some, knt_none, Option.toList_some, Option.toList_none, List.cons_append, List.nil_append, ehq]
                          refine s162_72.mpr ?_
                          refine (s162_73 (by first | decide | assumption | omega)).mpr ?_
                          try simp (disch := first | decide | assumption | omega) only [kon, knt_some, knt_none, Option.toList_some, Option.toList_none, List.cons_append, List.nil_append, s1, hk, hl, s2]
                          refine s162_76.mpr (wif (fun c76 => ?_) (fun c76 => ?_))
                          · first
                            | (exfalso; omega)
                            | skip
                              refine s162_85.mpr (s162_86.mpr (s162_87.mpr (s162_88.mpr ?_)))
                              exact E _ _ _ (by assumption)
                          · first
                            | (exfalso; omega)
                            | skip
                              refine s162_79.mpr (s162_80.mpr ?_)
                              refine (s162_81 (by first | decide | assumption | omega) (by first | decide | assumption | omega)).mpr ?_
                              refine (s162_84).mpr ?_
                              first | exact no _ (Or.inr ⟨Y, eA, fun z => absurd z.1 (by assumption)⟩) hs'.w (FW.up FW.rf (Or.inl ⟨rfl, Or.inl rfl⟩)) | (exfalso; omega)
                      · first
                        | (exfalso; omega)
                        | skip
                          exfalso; omega
                  · first
                    | (exfalso; omega)
                    | skip
                      refine s162_46.mpr (s162_47.mpr (s162_48.mpr ?_))
                      refine s162_49.mpr (wif (fun c49 => ?_) (fun c49 => ?_))
                      · first
                        | (exfalso; omega)
                        | skip
                          refine s162_64.mpr ?_
                          refine (s162_65 (by first | decide | assumption | omega)).mpr ?_
                          refine s162_68.mpr ?_
                          try simp (disch := first | decide | assumption | omega) only [kon, knt_some, knt_none, Option.toList_some, Option.toList_none, List.cons_append, List.nil_append, s1, hk, hl, s2]
                          refine (s162_69 (by first | decide | assumption | omega) (by first | decide | assumption | omega)).mpr ?_
                          refine r_heightAt hV ?_
                          simp only [kon, knt_some, knt_none, Option.toList_some, Option.toList_none, List.cons_append, List.nil_append, ehq]
                          refine s162_72.mpr ?_
                          refine (s162_73 (by first | decide | assumption | omega)).mpr ?_
                          try simp (disch := first | decide | assumption | omega) only [kon, knt_some, knt_none, Option.toList_some, Option.toList_none, List.cons_append, List.nil_append, s1, hk, hl, s2]
                          refine s162_76.mpr (wif (fun c76 => ?_) (fun c76 => ?_))
                          · first
                            | (exfalso; omega)
                            | skip
                              refine s162_85.mpr (s162_86.mpr (s162_87.mpr (s162_88.mpr ?_)))
                              exact E _ _ _ (by assumption)
                          · first
                            | (exfalso; omega)
                            | skip
                              refine s162_79.mpr (s162_80.mpr ?_)
                              refine (s162_81 (by first | decide | assumption | omega) (by first | decide | assumption | omega)).mpr ?_
                              refine (s162_84).mpr ?_
                              first | exact no _ (Or.inr ⟨Y, eA, fun z => absurd z.1 (by assumption)⟩) hs'.w (FW.up FW.rf (Or.inl ⟨rfl, Or.inl rfl⟩)) | (exfalso; omega)
                      · first
                        | (exfalso; omega)
                        | skip
                          exfalso; omega
              · first
                | (exfalso; omega)
                | skip
                  exfalso; omega
          · first
            | (exfalso; omega)
            | skip
              exfalso; omega
      · first
        | (exfalso; omega)
        | skip
          exfalso; omega
  · skip
    refine s162_0.mpr ?_
    refine (s162_1 (by first | decide | assumption | omega)).mpr ?_
    try simp (disch := first | decide | assumption | omega) only [kon, knt_some, knt_none, Option.toList_some, Option.toList_none, List.cons_append, List.nil_append, s1, hk, hl]
    refine s162_4.mpr (wif (fun c4 => ?_) (fun c4 => ?_))
    · first
      | (exfalso; omega)
      | skip
        refine s162_7.mpr (s162_8.mpr ?_)
        refine (s162_9 (by first | decide | assumption | omega)).mpr ?_
        try simp (disch := first | decide | assumption | omega) only [kon, knt_some, knt_none, Option.toList_some, Option.toList_none, List.cons_append, List.nil_append, s1, hk, hl]
        refine (s162_12 (by first | decide | assumption | omega)).mpr ?_
        try simp (disch := first | decide | assumption | omega) only [kon, knt_some, knt_none, Option.toList_some, Option.toList_none, List.cons_append, List.nil_append, s1, hk, hl]
        refine s162_15.mpr (wif (fun c15 => ?_) (fun c15 => ?_))
        · first
          | (exfalso; omega)
          | skip
            refine s162_18.mpr (s162_19.mpr ?_)
            refine s162_22.mpr (wif (fun c22 => ?_) (fun c22 => ?_))
            · first
              | (exfalso; omega)
              | skip
                exfalso; omega
            · first
              | (exfalso; omega)
              | skip
                refine s162_25.mpr (s162_26.mpr ?_)
                refine (s162_27 (by first | decide | assumption | omega) (by first | decide | assumption | omega)).mpr ?_
                refine (s162_30).mpr ?_
                exact no _ (Or.inl cq) hs'.w (FW.up FW.rf (Or.inl ⟨rfl, Or.inl rfl⟩))
        · first
          | (exfalso; omega)
          | skip
            refine s162_25.mpr (s162_26.mpr ?_)
            refine (s162_27 (by first | decide | assumption | omega) (by first | decide | assumption | omega)).mpr ?_
            refine (s162_30).mpr ?_
            exact no _ (Or.inl cq) hs'.w (FW.up FW.rf (Or.inl ⟨rfl, Or.inl rfl⟩))
    · first
      | (exfalso; omega)
      | skip
        refine s162_25.mpr (s162_26.mpr ?_)
        refine (s162_27 (by first | decide | assumption | omega) (by first | decide | assumption | omega)).mpr ?_
        refine (s162_30).mpr ?_
        exact no _ (Or.inl cq) hs'.w (FW.up FW.rf (Or.inl ⟨rfl, Or.inl rfl⟩))
end CV5
