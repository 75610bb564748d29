section MT3
variable {d : Nat} {al : AL} {hi : HI} {hr : HR} {Q : QQ} {B : Int → Int}
theorem m_state {t : Int} (ht : rng t) : Ev d 226 [vI t] al hi hr Q ↔ Q (some (some (vI (stateM t)))) al hi hr := by
  simp (disch := first | assumption | exact SA.k (by assumption) (by decide) (by decide) rfl | exact SA.q (by assumption) (by decide) (by decide) (by decide) | exact SA.r (by assumption) (by decide) (by decide) (by decide) | decide | omega | rfl) only [e226, s226_0, s226_1, s226_3, s226_4, s226_7, s226_8, fAnd_255, show (11 : Int) = ((11 : Nat) : Int) from rfl, fShr_k]
  rfl
theorem m_side {t : Int} (ht : rng t) : Ev d 227 [vI t] al hi hr Q ↔ Q (some (some (vI (sideM t)))) al hi hr := by
  simp (disch := first | assumption | exact SA.k (by assumption) (by decide) (by decide) rfl | exact SA.q (by assumption) (by decide) (by decide) (by decide) | exact SA.r (by assumption) (by decide) (by decide) (by decide) | decide | omega | rfl) only [e227, s227_0, s227_1, s227_3, s227_4, s227_5, s227_6, fAnd_1, show (19 : Int) = ((19 : Nat) : Int) from rfl, fShr_k]
  rfl
theorem m_takes {m g t r : Int} (hA : SA al) (hR : MR hr) (hd : 3 ≤ d) (hM : MB hi m B) (hg : 0 ≤ g ∧ g < nFn B) (hS : Sh B) (h36 : hi 49 36 = r) (hr2 : r = 0 ∨ r = 1) (ht : hi 49 35 = t) (ht0 : 0 ≤ t ∧ t ≤ 16)
    (ok : r = 1 → nPar B g ≤ t → (∀ k, 0 ≤ k → k < nPar B g → leT (hi 75 (t - nPar B g + k)) (pTy B g k)) → Q (some none) al (upI hi 49 35 (t - nPar B g)) hr)
    (no : ∀ hi', FW wS hi hi' → hi' 49 36 = 0 → (r = 0 ∨ ¬ (nPar B g ≤ t ∧ ∀ k, 0 ≤ k → k < nPar B g → leT (hi 75 (t - nPar B g + k)) (pTy B g k))) → Q (some none) al hi' hr) : Ev d 257 [vR (some 49), vI (10 * m + g)] al hi hr Q := by
  obtain ⟨hm0, hm1, h52, hB, m1, m2, m3, m4, m5, m6⟩ := hM
  obtain ⟨q1, q2, q3, q4, q5, q6⟩ := m6 g hg.1 hg.2
  have q1 : hi 64 (10 * m + g) = nPar B g := q1
  have hnf : nFn B ≤ 10 := hS.2.2.2.2.2.2.2.2.2.1
  obtain ⟨n0, n4, -⟩ := hS.2.2.2.2.2.2.2.2.2.2 g hg.1 hg.2
  rw [e257]
  have kM : isK al 49 13 := hA.k (by decide) (by decide) rfl
  have l64 := SA.len (a := 64) (n := 130) hA (by decide) (by decide) rfl
  have l65 := SA.len (a := 65) (n := 520) hA (by decide) (by decide) rfl
  have T9f : ∀ k hi', FW wS hi hi' → hi' 49 36 = 0 → (r = 0 ∨ ¬ (nPar B g ≤ t ∧ ∀ k, 0 ≤ k → k < nPar B g → leT (hi 75 (t - nPar B g + k)) (pTy B g k))) → Wp d 257 9 [vR (some 49), vI (10 * m + g), vI k] [] al hi' hr Q := by
    intro k hi' hw hz hx
    refine s257_9.mpr ?_
    refine s257_10.mpr (wif (fun c10 => ?_) (fun c10 => ?_))
    · skip
      refine (s257_40).mpr ?_
      exact no _ hw hz hx
    · skip
      refine s257_13.mpr ?_
      refine (s257_14 kM).mpr ?_
      refine s257_17.mpr (wif (fun c17 => ?_) (fun c17 => ?_))
      · skip
        refine (s257_40).mpr ?_
        exact no _ hw hz hx
      · skip
        exfalso; omega
  by_cases hr1 : r = 1
  · subst hr1
    have T9 : ∀ (n : Nat) (k : Int), k + 1 = n → k < nPar B g → nPar B g - 1 - k ≤ t → (∀ j, k < j → j < nPar B g → leT (hi 75 (t - nPar B g + j)) (pTy B g j)) → Wp d 257 9 [vR (some 49), vI (10 * m + g), vI k] [] al (upI hi 49 35 (t - (nPar B g - 1 - k))) hr Q := by
      intro n
      induction n with
      | zero =>
        intro k hk k1 hle hj
        rw [show t - (nPar B g - 1 - k) = t - nPar B g by omega]
        refine s257_9.mpr ?_
        refine s257_10.mpr (wif (fun c10 => ?_) (fun c10 => ?_))
        · skip
          refine (s257_40).mpr ?_
          exact ok rfl (by omega) (fun j j0 j1 => hj j (by omega) j1)
        · skip
          exfalso; omega
      | succ n ih =>
        intro k hk k1 hle hj
        have hp : hi 65 (4 * (10 * m + g) + k) = pTy B g k := q2 k (by omega) k1
        have E9 : t - (nPar B g - 1 - k) - 1 = t - (nPar B g - 1 - (k - 1)) := by omega
        have E8 : t - (nPar B g - 1 - k) - 1 = t - nPar B g + k := by omega
        have hxx : ((1 : Int) = 0 ∨ ¬ (0 < t - (nPar B g - 1 - k) ∧ leT (upI hi 49 35 (t - (nPar B g - 1 - k)) 75 (t - (nPar B g - 1 - k) - 1)) (pTy B g k))) → ((1 : Int) = 0 ∨ ¬ (nPar B g ≤ t ∧ ∀ k, 0 ≤ k → k < nPar B g → leT (hi 75 (t - nPar B g + k)) (pTy B g k))) := by
          rintro (h9 | h9)
          · exact Or.inl h9
          · right
            simp (disch := decide) only [upI_a] at h9
            rw [E8] at h9
            rintro ⟨a, b⟩
            exact h9 ⟨by omega, b k (by omega) k1⟩
        refine s257_9.mpr ?_
        refine s257_10.mpr (wif (fun c10 => ?_) (fun c10 => ?_))
        · skip
          refine (s257_40).mpr ?_
          exfalso; omega
        · skip
          refine s257_13.mpr ?_
          refine (s257_14 kM).mpr ?_
          try simp (disch := first | decide | assumption | omega) only [kon, knt_some, knt_none, Option.toList_some, Option.toList_none, List.cons_append, List.nil_append, upI_eq, upI_a, upI_i, upR_eq, upR_a, upR_i, h36, fAdd_id, fMul_id, hp]
          refine s257_17.mpr (wif (fun c17 => ?_) (fun c17 => ?_))
          · skip
            refine (s257_40).mpr ?_
            exfalso; omega
          · skip
            refine s257_20.mpr (s257_21.mpr ((s257_22 kM).mpr ?_))
            rw [mr_17 hR]
            refine s257_25.mpr (s257_26.mpr (s257_27.mpr (s257_28.mpr (s257_29.mpr ?_))))
            try simp (disch := first | decide | assumption | omega) only [kon, knt_some, knt_none, Option.toList_some, Option.toList_none, List.cons_append, List.nil_append, upI_eq, upI_a, upI_i, upR_eq, upR_a, upR_i, h36, fAdd_id, fMul_id, hp]
            refine (s257_30 (hA.k (by decide) (by decide) rfl) (by first | assumption | omega) (by first | assumption | omega)).mpr ?_
            try simp (disch := first | decide | assumption | omega) only [kon, knt_some, knt_none, Option.toList_some, Option.toList_none, List.cons_append, List.nil_append, upI_eq, upI_a, upI_i, upR_eq, upR_a, upR_i, h36, fAdd_id, fMul_id, hp]
            refine (s257_31 (by omega) kM).mpr ?_
            refine m_popFor (r := 1) (t := t - (nPar B g - 1 - k)) hA hR (by omega) (by (try simp (disch := decide) only [upI_eq, upI_a, upI_i, upR_eq, upR_a, upR_i]); assumption) (by omega) upI_eq (by omega) (fun y31 => ?_) (fun hi31 t31 w31 z31 u31 v31 x31 => (s257_34.mpr (s257_37.mpr (T9f _ _ (FW.tr (FW.up FW.rf (by unfold wS; omega)) w31) z31 (hxx x31)))))
            refine s257_34.mpr (s257_37.mpr ?_)
            try simp (disch := first | decide | assumption | omega) only [kon, knt_some, knt_none, Option.toList_some, Option.toList_none, List.cons_append, List.nil_append, upI_eq, upI_a, upI_i, upR_eq, upR_a, upR_i, h36, fAdd_id, fMul_id, hp]
            rw [upI_up, E9]
            have h9 := y31.2.2
            simp (disch := decide) only [upI_a] at h9
            rw [E8] at h9
            refine ih (k - 1) (by omega) (by omega) (by omega) (fun j j0 j1 => ?_)
            by_cases e : j = k
            · subst e; exact h9
            · exact hj j (by omega) j1
    have e0 : upI hi 49 35 (t - (nPar B g - 1 - (nPar B g - 1))) = hi := upI_same (by omega)
    have h9 := T9 (nPar B g).toNat (nPar B g - 1) (by omega) (by omega) (by omega) (fun j a b => by omega)
    rw [e0] at h9
    refine s257_0.mpr ((s257_1 kM).mpr ?_)
    rw [mr_16 hR]
    refine s257_4.mpr ?_
    refine (s257_5 (hA.k (by decide) (by decide) rfl) (by first | assumption | omega) (by first | assumption | omega)).mpr ?_
    refine s257_6.mpr (s257_7.mpr (s257_8.mpr ?_))
    try simp (disch := first | decide | assumption | omega) only [q1, fSub_id]
    exact h9
  · skip
    refine s257_0.mpr ((s257_1 kM).mpr ?_)
    rw [mr_16 hR]
    refine s257_4.mpr ?_
    refine (s257_5 (hA.k (by decide) (by decide) rfl) (by first | assumption | omega) (by first | assumption | omega)).mpr ?_
    refine s257_6.mpr (s257_7.mpr (s257_8.mpr ?_))
    try simp (disch := first | decide | assumption | omega) only [q1, fSub_id]
    exact T9f _ _ FW.rf (by omega) (by omega)
end MT3
