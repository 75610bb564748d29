section CV3
variable {d : Nat} {al : AL} {hi : HI} {hr : HR} {Q : QQ} {B : Int → Int} {N t H C : Nat} {l : Int}
theorem both_s {a : Int} : both a a = a := if_pos rfl
/-- the row q of what comes is written alone -/
def wCr (C : Nat) (q : Int) (a : Nat) (i : Int) : Prop := a = C ∧ 26 * q ≤ i ∧ i < 26 * q + 26
/-- arriving where nothing had come -/
theorem v_arr1 {q : Int} {X : Tst} {l5 l6 l7 : AV} (h : VR al hr) (hV : RV al hr t H C l) (hk : hr 8 8 = some (t + 1)) (hd : 1 ≤ d) (q0 : 0 ≤ q) (q1 : q < l) (hs : VS (some X) hi) (hvX : vX B X)
    (ok : ∀ hi', FW (wCr C q) hi hi' → (∀ k, 0 ≤ k → k < X.1 → hi' C (26 * q + k) = cv (X.2.1 k)) → (∀ k, 0 ≤ k → k < 10 → hi' C (26 * q + 16 + k) = cv (X.2.2 k)) → Q (some none) al (upI (upI hi' 13 q 1) 8 6 1) hr) : Wp d 162 90 [vR (some 8), vI q, vI 1, vI 1, vI 0, l5, l6, l7] [] al hi hr Q := by
  have k8 := h.k8; have k11 := h.k11; have k12 := h.k12; have l11 := h.l11; have l12 := h.l12; have r1 := h.2.2.1; have r2 := h.2.2.2.1
  have k13 := h.k13
  have l13 := h.l13
  have r3 := h.2.2.2.2
  obtain ⟨kt, ⟨h1, kH, lH⟩, ⟨c1, kC, lC⟩, hHC, t119, H119, C119, l0, l240⟩ := id hV; have rH : isR al H = true := isR_of kH (by decide) (by decide); have rC : isR al C = true := isR_of kC (by decide) (by decide); have nH : t + 1 ≠ H := isK_ne kt kH (by decide); have nC : t + 1 ≠ C := isK_ne kt kC (by decide)
  obtain ⟨s1, s2, s3, s4, s5, s6⟩ := hs
  have e1 : fZ 1 = 1 := rfl
  refine wp_cnt (N := 26) (fun i ls h2 => (∃ l5 l6 l7, ls = [vR (some 8), vI q, vI 1, vI 1, vI i, l5, l6, l7]) ∧ FW (wCr C q) hi h2 ∧ ∀ k : Int, 0 ≤ k → k < i → (k < X.1 → h2 C (26 * q + k) = cv (X.2.1 k)) ∧ (16 ≤ k → h2 C (26 * q + k) = cv (X.2.2 (k - 16)))) ?_ ?_ _ _ ⟨⟨_, _, _, rfl⟩, FW.rf, fun k k0 k1 => absurd k1 (by omega)⟩
  · rintro i ls h2 hi26 ⟨⟨l5, l6, l7, rfl⟩, hf, hc⟩ nx
    have e84 : h2 8 4 = X.1 := (hf 8 4 (fun z => by unfold wCr at z; omega)).trans s2
    have e11 : ∀ k, h2 11 k = hi 11 k := fun k => hf 11 k (fun z => by unfold wCr at z; omega)
    have e12 : ∀ k, h2 12 k = hi 12 k := fun k => hf 12 k (fun z => by unfold wCr at z; omega)
    have W : ∀ τ l5 l6 l7, ((i : Int) < X.1 → τ = X.2.1 i) → (16 ≤ (i : Int) → τ = X.2.2 (i - 16)) → Wp d 162 90 [vR (some 8), vI q, vI 1, vI 1, vI ((i : Int) + 1), l5, l6, l7] [] al (upI h2 C (26 * q + i) (cv τ)) hr Q := by
      intro τ l5 l6 l7 t1 t2
      refine nx _ _ ⟨⟨_, _, _, rfl⟩, hf.up ⟨rfl, by omega, by omega⟩, fun k k0 k1 => ?_⟩
      by_cases e : k = i
      · subst e; rw [upI_eq]; exact ⟨fun z => by rw [t1 z], fun z => by rw [t2 z]⟩
      · rw [upI_i (by omega)]; exact hc k k0 (by omega)
    by_cases ca : (i : Int) < X.1
    · have hv := (hvX.2.1 i (by omega) ca).r
      have e9 : hi 11 i = cv (X.2.1 i) := s5 i (by omega) ca
      have e8 : (if both (X.2.1 i) (X.2.1 i) = -1 then -2 else cv (both (X.2.1 i) (X.2.1 i))) = cv (X.2.1 i) := by rw [both_s, if_neg (by omega)]
      have e7 := cv_rng hv
      refine s162_90.mpr (s162_92.mpr ?_)
      refine s162_94.mpr (wif (fun c94 => ?_) (fun c94 => ?_))
      · first
        | (exfalso; omega)
        | skip
          refine s162_97.mpr (s162_99.mpr ?_)
          refine (s162_100 (by first | decide | assumption | omega)).mpr ?_
          try simp (disch := first | decide | assumption | omega) only [kon, knt_some, knt_none, Option.toList_some, Option.toList_none, List.cons_append, List.nil_append, r1, r2, hk, e84, e11, e9, e8, fAdd_id]
          refine s162_103.mpr (wif (fun c103 => ?_) (fun c103 => ?_))
          · first
            | (exfalso; omega)
            | skip
              refine s162_113.mpr (s162_115.mpr ?_)
              refine s162_117.mpr (wif (fun c117 => ?_) (fun c117 => ?_))
              · first
                | (exfalso; omega)
                | skip
                  refine s162_120.mpr ?_
                  refine (s162_121 (by first | decide | assumption | omega)).mpr ?_
                  refine s162_124.mpr ?_
                  try simp (disch := first | decide | assumption | omega) only [kon, knt_some, knt_none, Option.toList_some, Option.toList_none, List.cons_append, List.nil_append, r1, r2, hk, e84, e11, e9, e8, fAdd_id]
                  refine (s162_126 (by first | decide | assumption | omega) (by first | decide | assumption | omega) (by first | decide | assumption | omega)).mpr ?_
                  refine s162_127.mpr (s162_140.mpr (s162_142.mpr ?_))
                  try simp (disch := first | decide | assumption | omega) only [kon, knt_some, knt_none, Option.toList_some, Option.toList_none, List.cons_append, List.nil_append, r1, r2, hk, e84, e11, e9, e8, fAdd_id]
                  refine s162_143.mpr (wif (fun c143 => ?_) (fun c143 => ?_))
                  · first
                    | (exfalso; omega)
                    | skip
                      refine s162_151.mpr ?_
                      refine (s162_152 (by first | decide | assumption | omega)).mpr ?_
                      refine s162_155.mpr (s162_156.mpr ?_)
                      try simp (disch := first | decide | assumption | omega) only [kon, knt_some, knt_none, Option.toList_some, Option.toList_none, List.cons_append, List.nil_append, r1, r2, hk, e84, e11, e9, e8, fAdd_id]
                      refine (s162_158 (by first | decide | assumption | omega) (by first | decide | assumption | omega)).mpr ?_
                      exfalso; omega
                  · first
                    | (exfalso; omega)
                    | skip
                      refine s162_146.mpr (s162_148.mpr (s162_161.mpr (s162_163.mpr (s162_165.mpr ?_))))
                      refine (s162_167 (by omega)).mpr ?_
                      refine c_join hv hv ?_
                      simp only [kon, knt_some, knt_none, Option.toList_some, Option.toList_none, List.cons_append, List.nil_append, e8]
                      refine s162_170.mpr (s162_172.mpr (s162_174.mpr ?_))
                      refine s162_176.mpr (wif (fun c176 => ?_) (fun c176 => ?_))
                      · first
                        | (exfalso; omega)
                        | skip
                          exfalso; omega
                      · first
                        | (exfalso; omega)
                        | skip
                          refine s162_215.mpr ?_
                          refine (s162_216 (by first | decide | assumption | omega)).mpr ?_
                          refine s162_219.mpr (s162_220.mpr (s162_222.mpr ?_))
                          try simp (disch := first | decide | assumption | omega) only [kon, knt_some, knt_none, Option.toList_some, Option.toList_none, List.cons_append, List.nil_append, r1, r2, hk, e84, e11, e9, e8, fAdd_id]
                          refine (s162_224 (by first | decide | assumption | omega) (by first | decide | assumption | omega)).mpr ?_
                          refine r_setComing hV q0 q1 (by omega) (by omega) ?_
                          refine s162_227.mpr ?_
                          refine s162_228.mpr (wif (fun c228 => ?_) (fun c228 => ?_))
                          · first
                            | (exfalso; omega)
                            | skip
                              refine s162_231.mpr (s162_233.mpr ?_)
                              refine s162_235.mpr (wif (fun c235 => ?_) (fun c235 => ?_))
                              · first
                                | (exfalso; omega)
                                | skip
                                  refine s162_242.mpr (s162_243.mpr (s162_244.mpr (s162_247.mpr ?_)))
                                  try simp (disch := first | decide | assumption | omega) only [kon, knt_some, knt_none, Option.toList_some, Option.toList_none, List.cons_append, List.nil_append, r1, r2, hk, e84, e11, e9, e8, fAdd_id]
                                  exact W _ _ _ _ (fun _ => rfl) (fun z => absurd z (by omega))
                              · first
                                | (exfalso; omega)
                                | skip
                                  refine s162_238.mpr (s162_239.mpr (s162_243.mpr (s162_244.mpr (s162_247.mpr ?_))))
                                  try simp (disch := first | decide | assumption | omega) only [kon, knt_some, knt_none, Option.toList_some, Option.toList_none, List.cons_append, List.nil_append, r1, r2, hk, e84, e11, e9, e8, fAdd_id]
                                  exact W _ _ _ _ (fun _ => rfl) (fun z => absurd z (by omega))
                          · first
                            | (exfalso; omega)
                            | skip
                              refine s162_238.mpr (s162_239.mpr (s162_243.mpr (s162_244.mpr (s162_247.mpr ?_))))
                              try simp (disch := first | decide | assumption | omega) only [kon, knt_some, knt_none, Option.toList_some, Option.toList_none, List.cons_append, List.nil_append, r1, r2, hk, e84, e11, e9, e8, fAdd_id]
                              exact W _ _ _ _ (fun _ => rfl) (fun z => absurd z (by omega))
              · first
                | (exfalso; omega)
                | skip
                  refine s162_130.mpr ?_
                  refine (s162_131 (by first | decide | assumption | omega)).mpr ?_
                  refine s162_134.mpr (s162_136.mpr (s162_138.mpr ?_))
                  try simp (disch := first | decide | assumption | omega) only [kon, knt_some, knt_none, Option.toList_some, Option.toList_none, List.cons_append, List.nil_append, r1, r2, hk, e84, e11, e9, e8, fAdd_id]
                  refine (s162_139 (by first | decide | assumption | omega) (by first | decide | assumption | omega) (by first | decide | assumption | omega)).mpr ?_
                  refine s162_140.mpr (s162_142.mpr ?_)
                  try simp (disch := first | decide | assumption | omega) only [kon, knt_some, knt_none, Option.toList_some, Option.toList_none, List.cons_append, List.nil_append, r1, r2, hk, e84, e11, e9, e8, fAdd_id]
                  refine s162_143.mpr (wif (fun c143 => ?_) (fun c143 => ?_))
                  · first
                    | (exfalso; omega)
                    | skip
                      refine s162_151.mpr ?_
                      refine (s162_152 (by first | decide | assumption | omega)).mpr ?_
                      refine s162_155.mpr (s162_156.mpr ?_)
                      try simp (disch := first | decide | assumption | omega) only [kon, knt_some, knt_none, Option.toList_some, Option.toList_none, List.cons_append, List.nil_append, r1, r2, hk, e84, e11, e9, e8, fAdd_id]
                      refine (s162_158 (by first | decide | assumption | omega) (by first | decide | assumption | omega)).mpr ?_
                      exfalso; omega
                  · first
                    | (exfalso; omega)
                    | skip
                      refine s162_146.mpr (s162_148.mpr (s162_161.mpr (s162_163.mpr (s162_165.mpr ?_))))
                      refine (s162_167 (by omega)).mpr ?_
                      refine c_join hv hv ?_
                      simp only [kon, knt_some, knt_none, Option.toList_some, Option.toList_none, List.cons_append, List.nil_append, e8]
                      refine s162_170.mpr (s162_172.mpr (s162_174.mpr ?_))
                      refine s162_176.mpr (wif (fun c176 => ?_) (fun c176 => ?_))
                      · first
                        | (exfalso; omega)
                        | skip
                          exfalso; omega
                      · first
                        | (exfalso; omega)
                        | skip
                          refine s162_215.mpr ?_
                          refine (s162_216 (by first | decide | assumption | omega)).mpr ?_
                          refine s162_219.mpr (s162_220.mpr (s162_222.mpr ?_))
                          try simp (disch := first | decide | assumption | omega) only [kon, knt_some, knt_none, Option.toList_some, Option.toList_none, List.cons_append, List.nil_append, r1, r2, hk, e84, e11, e9, e8, fAdd_id]
                          refine (s162_224 (by first | decide | assumption | omega) (by first | decide | assumption | omega)).mpr ?_
                          refine r_setComing hV q0 q1 (by omega) (by omega) ?_
                          refine s162_227.mpr ?_
                          refine s162_228.mpr (wif (fun c228 => ?_) (fun c228 => ?_))
                          · first
                            | (exfalso; omega)
                            | skip
                              refine s162_231.mpr (s162_233.mpr ?_)
                              refine s162_235.mpr (wif (fun c235 => ?_) (fun c235 => ?_))
                              · first
                                | (exfalso; omega)
                                | skip
                                  refine s162_242.mpr (s162_243.mpr (s162_244.mpr (s162_247.mpr ?_)))
                                  try simp (disch := first | decide | assumption | omega) only [kon, knt_some, knt_none, Option.toList_some, Option.toList_none, List.cons_append, List.nil_append, r1, r2, hk, e84, e11, e9, e8, fAdd_id]
                                  exact W _ _ _ _ (fun _ => rfl) (fun z => absurd z (by omega))
                              · first
                                | (exfalso; omega)
                                | skip
                                  refine s162_238.mpr (s162_239.mpr (s162_243.mpr (s162_244.mpr (s162_247.mpr ?_))))
                                  try simp (disch := first | decide | assumption | omega) only [kon, knt_some, knt_none, Option.toList_some, Option.toList_none, List.cons_append, List.nil_append, r1, r2, hk, e84, e11, e9, e8, fAdd_id]
                                  exact W _ _ _ _ (fun _ => rfl) (fun z => absurd z (by omega))
                          · first
                            | (exfalso; omega)
                            | skip
                              refine s162_238.mpr (s162_239.mpr (s162_243.mpr (s162_244.mpr (s162_247.mpr ?_))))
                              try simp (disch := first | decide | assumption | omega) only [kon, knt_some, knt_none, Option.toList_some, Option.toList_none, List.cons_append, List.nil_append, r1, r2, hk, e84, e11, e9, e8, fAdd_id]
                              exact W _ _ _ _ (fun _ => rfl) (fun z => absurd z (by omega))
          · first
            | (exfalso; omega)
            | skip
              refine s162_106.mpr (s162_108.mpr ?_)
              refine s162_110.mpr (wif (fun c110 => ?_) (fun c110 => ?_))
              · first
                | (exfalso; omega)
                | skip
                  refine s162_244.mpr (s162_247.mpr ?_)
                  try simp (disch := first | decide | assumption | omega) only [kon, knt_some, knt_none, Option.toList_some, Option.toList_none, List.cons_append, List.nil_append, r1, r2, hk, e84, e11, e9, e8, fAdd_id]
                  exact W _ _ _ _ (fun _ => rfl) (fun z => absurd z (by omega))
              · first
                | (exfalso; omega)
                | skip
                  refine s162_113.mpr (s162_115.mpr ?_)
                  refine s162_117.mpr (wif (fun c117 => ?_) (fun c117 => ?_))
                  · first
                    | (exfalso; omega)
                    | skip
                      refine s162_120.mpr ?_
                      refine (s162_121 (by first | decide | assumption | omega)).mpr ?_
                      refine s162_124.mpr ?_
                      try simp (disch := first | decide | assumption | omega) only [kon, knt_some, knt_none, Option.toList_some, Option.toList_none, List.cons_append, List.nil_append, r1, r2, hk, e84, e11, e9, e8, fAdd_id]
                      refine (s162_126 (by first | decide | assumption | omega) (by first | decide | assumption | omega) (by first | decide | assumption | omega)).mpr ?_
                      refine s162_127.mpr (s162_140.mpr (s162_142.mpr ?_))
                      try simp (disch := first | decide | assumption | omega) only [kon, knt_some, knt_none, Option.toList_some, Option.toList_none, List.cons_append, List.nil_append, r1, r2, hk, e84, e11, e9, e8, fAdd_id]
                      refine s162_143.mpr (wif (fun c143 => ?_) (fun c143 => ?_))
                      · first
                        | (exfalso; omega)
                        | skip
                          refine s162_151.mpr ?_
                          refine (s162_152 (by first | decide | assumption | omega)).mpr ?_
                          refine s162_155.mpr (s162_156.mpr ?_)
                          try simp (disch := first | decide | assumption | omega) only [kon, knt_some, knt_none, Option.toList_some, Option.toList_none, List.cons_append, List.nil_append, r1, r2, hk, e84, e11, e9, e8, fAdd_id]
                          refine (s162_158 (by first | decide | assumption | omega) (by first | decide | assumption | omega)).mpr ?_
                          exfalso; omega
                      · first
                        | (exfalso; omega)
                        | skip
                          refine s162_146.mpr (s162_148.mpr (s162_161.mpr (s162_163.mpr (s162_165.mpr ?_))))
                          refine (s162_167 (by omega)).mpr ?_
                          refine c_join hv hv ?_
                          simp only [kon, knt_some, knt_none, Option.toList_some, Option.toList_none, List.cons_append, List.nil_append, e8]
                          refine s162_170.mpr (s162_172.mpr (s162_174.mpr ?_))
                          refine s162_176.mpr (wif (fun c176 => ?_) (fun c176 => ?_))
                          · first
                            | (exfalso; omega)
                            | skip
                              exfalso; omega
                          · first
                            | (exfalso; omega)
                            | skip
                              refine s162_215.mpr ?_
                              refine (s162_216 (by first | decide | assumption | omega)).mpr ?_
                              refine s162_219.mpr (s162_220.mpr (s162_222.mpr ?_))
                              try simp (disch := first | decide | assumption | omega) only [kon, knt_some, knt_none, Option.toList_some, Option.toList_none, List.cons_append, List.nil_append, r1, r2, hk, e84, e11, e9, e8, fAdd_id]
                              refine (s162_224 (by first | decide | assumption | omega) (by first | decide | assumption | omega)).mpr ?_
                              refine r_setComing hV q0 q1 (by omega) (by omega) ?_
                              refine s162_227.mpr ?_
                              refine s162_228.mpr (wif (fun c228 => ?_) (fun c228 => ?_))
                              · first
                                | (exfalso; omega)
                                | skip
                                  refine s162_231.mpr (s162_233.mpr ?_)
                                  refine s162_235.mpr (wif (fun c235 => ?_) (fun c235 => ?_))
                                  · first
                                    | (exfalso; omega)
                                    | skip
                                      refine s162_242.mpr (s162_243.mpr (s162_244.mpr (s162_247.mpr ?_)))
                                      try simp (disch := first | decide | assumption | omega) only [kon, knt_some, knt_none, Option.toList_some, Option.toList_none, List.cons_append, List.nil_append, r1, r2, hk, e84, e11, e9, e8, fAdd_id]
                                      exact W _ _ _ _ (fun _ => rfl) (fun z => absurd z (by omega))
                                  · first
                                    | (exfalso; omega)
                                    | skip
                                      refine s162_238.mpr (s162_239.mpr (s162_243.mpr (s162_244.mpr (s162_247.mpr ?_))))
                                      try simp (disch := first | decide | assumption | omega) only [kon, knt_some, knt_none, Option.toList_some, Option.toList_none, List.cons_append, List.nil_append, r1, r2, hk, e84, e11, e9, e8, fAdd_id]
                                      exact W _ _ _ _ (fun _ => rfl) (fun z => absurd z (by omega))
                              · first
                                | (exfalso; omega)
                                | skip
                                  refine s162_238.mpr (s162_239.mpr (s162_243.mpr (s162_244.mpr (s162_247.mpr ?_))))
                                  try simp (disch := first | decide | assumption | omega) only [kon, knt_some, knt_none, Option.toList_some, Option.toList_none, List.cons_append, List.nil_append, r1, r2, hk, e84, e11, e9, e8, fAdd_id]
                                  exact W _ _ _ _ (fun _ => rfl) (fun z => absurd z (by omega))
                  · first
                    | (exfalso; omega)
                    | skip
                      refine s162_130.mpr ?_
                      refine (s162_131 (by first | decide | assumption | omega)).mpr ?_
                      refine s162_134.mpr (s162_136.mpr (s162_138.mpr ?_))
                      try simp (disch := first | decide | assumption | omega) only [kon, knt_some, knt_none, Option.toList_some, Option.toList_none, List.cons_append, List.nil_append, r1, r2, hk, e84, e11, e9, e8, fAdd_id]
                      refine (s162_139 (by first | decide | assumption | omega) (by first | decide | assumption | omega) (by first | decide | assumption | omega)).mpr ?_
                      refine s162_140.mpr (s162_142.mpr ?_)
                      try simp (disch := first | decide | assumption | omega) only [kon, knt_some, knt_none, Option.toList_some, Option.toList_none, List.cons_append, List.nil_append, r1, r2, hk, e84, e11, e9, e8, fAdd_id]
                      refine s162_143.mpr (wif (fun c143 => ?_) (fun c143 => ?_))
                      · first
                        | (exfalso; omega)
                        | skip
                          refine s162_151.mpr ?_
                          refine (s162_152 (by first | decide | assumption | omega)).mpr ?_
                          refine s162_155.mpr (s162_156.mpr ?_)
                          try simp (disch := first | decide | assumption | omega) only [kon, knt_some, knt_none, Option.toList_some, Option.toList_none, List.cons_append, List.nil_append, r1, r2, hk, e84, e11, e9, e8, fAdd_id]
                          refine (s162_158 (by first | decide | assumption | omega) (by first | decide | assumption | omega)).mpr ?_
                          exfalso; omega
                      · first
                        | (exfalso; omega)
                        | skip
                          refine s162_146.mpr (s162_148.mpr (s162_161.mpr (s162_163.mpr (s162_165.mpr ?_))))
                          refine (s162_167 (by omega)).mpr ?_
                          refine c_join hv hv ?_
                          simp only [kon, knt_some, knt_none, Option.toList_some, Option.toList_none, List.cons_append, List.nil_append, e8]
                          refine s162_170.mpr (s162_172.mpr (s162_174.mpr ?_))
                          refine s162_176.mpr (wif (fun c176 => ?_) (fun c176 => ?_))
                          · first
                            | (exfalso; omega)
                            | skip
                              exfalso; omega
                          · first
                            | (exfalso; omega)
                            | skip
                              refine s162_215.mpr ?_
                              refine (s162_216 (by first | decide | assumption | omega)).mpr ?_
                              refine s162_219.mpr (s162_220.mpr (s162_222.mpr ?_))
                              try simp (disch := first | decide | assumption | omega) only [kon, knt_some, knt_none, Option.toList_some, Option.toList_none, List.cons_append, List.nil_append, r1, r2, hk, e84, e11, e9, e8, fAdd_id]
                              refine (s162_224 (by first | decide | assumption | omega) (by first | decide | assumption | omega)).mpr ?_
                              refine r_setComing hV q0 q1 (by omega) (by omega) ?_
                              refine s162_227.mpr ?_
                              refine s162_228.mpr (wif (fun c228 => ?_) (fun c228 => ?_))
                              · first
                                | (exfalso; omega)
                                | skip
                                  refine s162_231.mpr (s162_233.mpr ?_)
                                  refine s162_235.mpr (wif (fun c235 => ?_) (fun c235 => ?_))
                                  · first
                                    | (exfalso; omega)
                                    | skip
                                      refine s162_242.mpr (s162_243.mpr (s162_244.mpr (s162_247.mpr ?_)))
                                      try simp (disch := first | decide | assumption | omega) only [kon, knt_some, knt_none, Option.toList_some, Option.toList_none, List.cons_append, List.nil_append, r1, r2, hk, e84, e11, e9, e8, fAdd_id]
                                      exact W _ _ _ _ (fun _ => rfl) (fun z => absurd z (by omega))
                                  · first
                                    | (exfalso; omega)
                                    | skip
                                      refine s162_238.mpr (s162_239.mpr (s162_243.mpr (s162_244.mpr (s162_247.mpr ?_))))
                                      try simp (disch := first | decide | assumption | omega) only [kon, knt_some, knt_none, Option.toList_some, Option.toList_none, List.cons_append, List.nil_append, r1, r2, hk, e84, e11, e9, e8, fAdd_id]
                                      exact W _ _ _ _ (fun _ => rfl) (fun z => absurd z (by omega))
                              · first
                                | (exfalso; omega)
                                | skip
                                  refine s162_238.mpr (s162_239.mpr (s162_243.mpr (s162_244.mpr (s162_247.mpr ?_))))
                                  try simp (disch := first | decide | assumption | omega) only [kon, knt_some, knt_none, Option.toList_some, Option.toList_none, List.cons_append, List.nil_append, r1, r2, hk, e84, e11, e9, e8, fAdd_id]
                                  exact W _ _ _ _ (fun _ => rfl) (fun z => absurd z (by omega))
      · first
        | (exfalso; omega)
        | skip
          refine s162_250.mpr ?_
          refine s162_251.mpr (wif (fun c251 => ?_) (fun c251 => ?_))
          · first
            | (exfalso; omega)
            | skip
              refine (s162_266).mpr ?_
              exfalso; omega
          · first
            | (exfalso; omega)
            | skip
              refine s162_254.mpr ?_
              refine (s162_255 (by first | decide | assumption | omega)).mpr ?_
              refine s162_258.mpr (s162_259.mpr ?_)
              try simp (disch := first | decide | assumption | omega) only [kon, knt_some, knt_none, Option.toList_some, Option.toList_none, List.cons_append, List.nil_append, r1, r2, hk, e84, e11, e9, e8, fAdd_id]
              refine (s162_260Z (by first | decide | assumption | omega) (by first | decide | assumption | omega) (by first | decide | assumption | omega)).mpr ?_
              refine s162_261.mpr (s162_262.mpr ?_)
              try simp (disch := first | decide | assumption | omega) only [kon, knt_some, knt_none, Option.toList_some, Option.toList_none, List.cons_append, List.nil_append, r1, r2, hk, e84, e11, e9, e8, fAdd_id]
              refine (s162_263 (by first | decide | assumption | omega) (by first | decide | assumption | omega)).mpr ?_
              refine (s162_266).mpr ?_
              exfalso; omega
    · by_cases cc : 16 ≤ (i : Int)
      · have hv := (hvX.2.2 (i - 16) (by omega) (by omega)).r
        have e9 : hi 12 ((i : Int) - 16) = cv (X.2.2 (i - 16)) := s6 _ (by omega) (by omega)
        have e8 : (if both (X.2.2 (i - 16)) (X.2.2 (i - 16)) = -1 then -2 else cv (both (X.2.2 (i - 16)) (X.2.2 (i - 16)))) = cv (X.2.2 (i - 16)) := by rw [both_s, if_neg (by omega)]
        have e7 := cv_rng hv
        refine s162_90.mpr (s162_92.mpr ?_)
        refine s162_94.mpr (wif (fun c94 => ?_) (fun c94 => ?_))
        · first
          | (exfalso; omega)
          | skip
            refine s162_97.mpr (s162_99.mpr ?_)
            refine (s162_100 (by first | decide | assumption | omega)).mpr ?_
            try simp (disch := first | decide | assumption | omega) only [kon, knt_some, knt_none, Option.toList_some, Option.toList_none, List.cons_append, List.nil_append, r1, r2, hk, e84, e12, fSub_id, e9, e8, fAdd_id]
            refine s162_103.mpr (wif (fun c103 => ?_) (fun c103 => ?_))
            · first
              | (exfalso; omega)
              | skip
                refine s162_113.mpr (s162_115.mpr ?_)
                refine s162_117.mpr (wif (fun c117 => ?_) (fun c117 => ?_))
                · first
                  | (exfalso; omega)
                  | skip
                    refine s162_120.mpr ?_
                    refine (s162_121 (by first | decide | assumption | omega)).mpr ?_
                    refine s162_124.mpr ?_
                    try simp (disch := first | decide | assumption | omega) only [kon, knt_some, knt_none, Option.toList_some, Option.toList_none, List.cons_append, List.nil_append, r1, r2, hk, e84, e12, fSub_id, e9, e8, fAdd_id]
                    refine (s162_126 (by first | decide | assumption | omega) (by first | decide | assumption | omega) (by first | decide | assumption | omega)).mpr ?_
                    refine s162_127.mpr (s162_140.mpr (s162_142.mpr ?_))
                    try simp (disch := first | decide | assumption | omega) only [kon, knt_some, knt_none, Option.toList_some, Option.toList_none, List.cons_append, List.nil_append, r1, r2, hk, e84, e12, fSub_id, e9, e8, fAdd_id]
                    refine s162_143.mpr (wif (fun c143 => ?_) (fun c143 => ?_))
                    · first
                      | (exfalso; omega)
                      | skip
                        refine s162_151.mpr ?_
                        refine (s162_152 (by first | decide | assumption | omega)).mpr ?_
                        refine s162_155.mpr (s162_156.mpr ?_)
                        try simp (disch := first | decide | assumption | omega) only [kon, knt_some, knt_none, Option.toList_some, Option.toList_none, List.cons_append, List.nil_append, r1, r2, hk, e84, e12, fSub_id, e9, e8, fAdd_id]
                        refine (s162_158 (by first | decide | assumption | omega) (by first | decide | assumption | omega)).mpr ?_
                        exfalso; omega
                    · first
                      | (exfalso; omega)
                      | skip
                        refine s162_146.mpr (s162_148.mpr (s162_161.mpr (s162_163.mpr (s162_165.mpr ?_))))
                        refine (s162_167 (by omega)).mpr ?_
                        refine c_join hv hv ?_
                        simp only [kon, knt_some, knt_none, Option.toList_some, Option.toList_none, List.cons_append, List.nil_append, e8]
                        refine s162_170.mpr (s162_172.mpr (s162_174.mpr ?_))
                        refine s162_176.mpr (wif (fun c176 => ?_) (fun c176 => ?_))
                        · first
                          | (exfalso; omega)
                          | skip
                            exfalso; omega
                        · first
                          | (exfalso; omega)
                          | skip
                            refine s162_215.mpr ?_
                            refine (s162_216 (by first | decide | assumption | omega)).mpr ?_
                            refine s162_219.mpr (s162_220.mpr (s162_222.mpr ?_))
                            try simp (disch := first | decide | assumption | omega) only [kon, knt_some, knt_none, Option.toList_some, Option.toList_none, List.cons_append, List.nil_append, r1, r2, hk, e84, e12, fSub_id, e9, e8, fAdd_id]
                            refine (s162_224 (by first | decide | assumption | omega) (by first | decide | assumption | omega)).mpr ?_
                            refine r_setComing hV q0 q1 (by omega) (by omega) ?_
                            refine s162_227.mpr ?_
                            refine s162_228.mpr (wif (fun c228 => ?_) (fun c228 => ?_))
                            · first
                              | (exfalso; omega)
                              | skip
                                refine s162_231.mpr (s162_233.mpr ?_)
                                refine s162_235.mpr (wif (fun c235 => ?_) (fun c235 => ?_))
                                · first
                                  | (exfalso; omega)
                                  | skip
                                    refine s162_242.mpr (s162_243.mpr (s162_244.mpr (s162_247.mpr ?_)))
                                    try simp (disch := first | decide | assumption | omega) only [kon, knt_some, knt_none, Option.toList_some, Option.toList_none, List.cons_append, List.nil_append, r1, r2, hk, e84, e12, fSub_id, e9, e8, fAdd_id]
                                    exact W _ _ _ _ (fun z => absurd z (by omega)) (fun _ => rfl)
                                · first
                                  | (exfalso; omega)
                                  | skip
                                    refine s162_238.mpr (s162_239.mpr (s162_243.mpr (s162_244.mpr (s162_247.mpr ?_))))
                                    try simp (disch := first | decide | assumption | omega) only [kon, knt_some, knt_none, Option.toList_some, Option.toList_none, List.cons_append, List.nil_append, r1, r2, hk, e84, e12, fSub_id, e9, e8, fAdd_id]
                                    exact W _ _ _ _ (fun z => absurd z (by omega)) (fun _ => rfl)
                            · first
                              | (exfalso; omega)
                              | skip
                                refine s162_238.mpr (s162_239.mpr (s162_243.mpr (s162_244.mpr (s162_247.mpr ?_))))
                                try simp (disch := first | decide | assumption | omega) only [kon, knt_some, knt_none, Option.toList_some, Option.toList_none, List.cons_append, List.nil_append, r1, r2, hk, e84, e12, fSub_id, e9, e8, fAdd_id]
                                exact W _ _ _ _ (fun z => absurd z (by omega)) (fun _ => rfl)
                · first
                  | (exfalso; omega)
                  | skip
                    refine s162_130.mpr ?_
                    refine (s162_131 (by first | decide | assumption | omega)).mpr ?_
                    refine s162_134.mpr (s162_136.mpr (s162_138.mpr ?_))
                    try simp (disch := first | decide | assumption | omega) only [kon, knt_some, knt_none, Option.toList_some, Option.toList_none, List.cons_append, List.nil_append, r1, r2, hk, e84, e12, fSub_id, e9, e8, fAdd_id]
                    refine (s162_139 (by first | decide | assumption | omega) (by first | decide | assumption | omega) (by first | decide | assumption | omega)).mpr ?_
                    refine s162_140.mpr (s162_142.mpr ?_)
                    try simp (disch := first | decide | assumption | omega) only [kon, knt_some, knt_none, Option.toList_some, Option.toList_none, List.cons_append, List.nil_append, r1, r2, hk, e84, e12, fSub_id, e9, e8, fAdd_id]
                    refine s162_143.mpr (wif (fun c143 => ?_) (fun c143 => ?_))
                    · first
                      | (exfalso; omega)
                      | skip
                        refine s162_151.mpr ?_
                        refine (s162_152 (by first | decide | assumption | omega)).mpr ?_
                        refine s162_155.mpr (s162_156.mpr ?_)
                        try simp (disch := first | decide | assumption | omega) only [kon, knt_some, knt_none, Option.toList_some, Option.toList_none, List.cons_append, List.nil_append, r1, r2, hk, e84, e12, fSub_id, e9, e8, fAdd_id]
                        refine (s162_158 (by first | decide | assumption | omega) (by first | decide | assumption | omega)).mpr ?_
                        exfalso; omega
                    · first
                      | (exfalso; omega)
                      | skip
                        refine s162_146.mpr (s162_148.mpr (s162_161.mpr (s162_163.mpr (s162_165.mpr ?_))))
                        refine (s162_167 (by omega)).mpr ?_
                        refine c_join hv hv ?_
                        simp only [kon, knt_some, knt_none, Option.toList_some, Option.toList_none, List.cons_append, List.nil_append, e8]
                        refine s162_170.mpr (s162_172.mpr (s162_174.mpr ?_))
                        refine s162_176.mpr (wif (fun c176 => ?_) (fun c176 => ?_))
                        · first
                          | (exfalso; omega)
                          | skip
                            exfalso; omega
                        · first
                          | (exfalso; omega)
                          | skip
                            refine s162_215.mpr ?_
                            refine (s162_216 (by first | decide | assumption | omega)).mpr ?_
                            refine s162_219.mpr (s162_220.mpr (s162_222.mpr ?_))
                            try simp (disch := first | decide | assumption | omega) only [kon, knt_some, knt_none, Option.toList_some, Option.toList_none, List.cons_append, List.nil_append, r1, r2, hk, e84, e12, fSub_id, e9, e8, fAdd_id]
                            refine (s162_224 (by first | decide | assumption | omega) (by first | decide | assumption | omega)).mpr ?_
                            refine r_setComing hV q0 q1 (by omega) (by omega) ?_
                            refine s162_227.mpr ?_
                            refine s162_228.mpr (wif (fun c228 => ?_) (fun c228 => ?_))
                            · first
                              | (exfalso; omega)
                              | skip
                                refine s162_231.mpr (s162_233.mpr ?_)
                                refine s162_235.mpr (wif (fun c235 => ?_) (fun c235 => ?_))
                                · first
                                  | (exfalso; omega)
                                  | skip
                                    refine s162_242.mpr (s162_243.mpr (s162_244.mpr (s162_247.mpr ?_)))
                                    try simp (disch := first | decide | assumption | omega) only [kon, knt_some, knt_none, Option.toList_some, Option.toList_none, List.cons_append, List.nil_append, r1, r2, hk, e84, e12, fSub_id, e9, e8, fAdd_id]
                                    exact W _ _ _ _ (fun z => absurd z (by omega)) (fun _ => rfl)
                                · first
                                  | (exfalso; omega)
                                  | skip
                                    refine s162_238.mpr (s162_239.mpr (s162_243.mpr (s162_244.mpr (s162_247.mpr ?_))))
                                    try simp (disch := first | decide | assumption | omega) only [kon, knt_some, knt_none, Option.toList_some, Option.toList_none, List.cons_append, List.nil_append, r1, r2, hk, e84, e12, fSub_id, e9, e8, fAdd_id]
                                    exact W _ _ _ _ (fun z => absurd z (by omega)) (fun _ => rfl)
                            · first
                              | (exfalso; omega)
                              | skip
                                refine s162_238.mpr (s162_239.mpr (s162_243.mpr (s162_244.mpr (s162_247.mpr ?_))))
                                try simp (disch := first | decide | assumption | omega) only [kon, knt_some, knt_none, Option.toList_some, Option.toList_none, List.cons_append, List.nil_append, r1, r2, hk, e84, e12, fSub_id, e9, e8, fAdd_id]
                                exact W _ _ _ _ (fun z => absurd z (by omega)) (fun _ => rfl)
            · first
              | (exfalso; omega)
              | skip
                refine s162_106.mpr (s162_108.mpr ?_)
                refine s162_110.mpr (wif (fun c110 => ?_) (fun c110 => ?_))
                · first
                  | (exfalso; omega)
                  | skip
                    refine s162_244.mpr (s162_247.mpr ?_)
                    try simp (disch := first | decide | assumption | omega) only [kon, knt_some, knt_none, Option.toList_some, Option.toList_none, List.cons_append, List.nil_append, r1, r2, hk, e84, e12, fSub_id, e9, e8, fAdd_id]
                    exact W _ _ _ _ (fun z => absurd z (by omega)) (fun _ => rfl)
                · first
                  | (exfalso; omega)
                  | skip
                    refine s162_113.mpr (s162_115.mpr ?_)
                    refine s162_117.mpr (wif (fun c117 => ?_) (fun c117 => ?_))
                    · first
                      | (exfalso; omega)
                      | skip
                        refine s162_120.mpr ?_
                        refine (s162_121 (by first | decide | assumption | omega)).mpr ?_
                        refine s162_124.mpr ?_
                        try simp (disch := first | decide | assumption | omega) only [kon, knt_some, knt_none, Option.toList_some, Option.toList_none, List.cons_append, List.nil_append, r1, r2, hk, e84, e12, fSub_id, e9, e8, fAdd_id]
                        refine (s162_126 (by first | decide | assumption | omega) (by first | decide | assumption | omega) (by first | decide | assumption | omega)).mpr ?_
                        refine s162_127.mpr (s162_140.mpr (s162_142.mpr ?_))
                        try simp (disch := first | decide | assumption | omega) only [kon, knt_some, knt_none, Option.toList_some, Option.toList_none, List.cons_append, List.nil_append, r1, r2, hk, e84, e12, fSub_id, e9, e8, fAdd_id]
                        refine s162_143.mpr (wif (fun c143 => ?_) (fun c143 => ?_))
                        · first
                          | (exfalso; omega)
                          | skip
                            refine s162_151.mpr ?_
                            refine (s162_152 (by first | decide | assumption | omega)).mpr ?_
                            refine s162_155.mpr (s162_156.mpr ?_)
                            try simp (disch := first | decide | assumption | omega) only [kon, knt_some, knt_none, Option.toList_some, Option.toList_none, List.cons_append, List.nil_append, r1, r2, hk, e84, e12, fSub_id, e9, e8, fAdd_id]
                            refine (s162_158 (by first | decide | assumption | omega) (by first | decide | assumption | omega)).mpr ?_
                            exfalso; omega
                        · first
                          | (exfalso; omega)
                          | skip
                            refine s162_146.mpr (s162_148.mpr (s162_161.mpr (s162_163.mpr (s162_165.mpr ?_))))
                            refine (s162_167 (by omega)).mpr ?_
                            refine c_join hv hv ?_
                            simp only [kon, knt_some, knt_none, Option.toList_some, Option.toList_none, List.cons_append, List.nil_append, e8]
                            refine s162_170.mpr (s162_172.mpr (s162_174.mpr ?_))
                            refine s162_176.mpr (wif (fun c176 => ?_) (fun c176 => ?_))
                            · first
                              | (exfalso; omega)
                              | skip
                                exfalso; omega
                            · first
                              | (exfalso; omega)
                              | skip
                                refine s162_215.mpr ?_
                                refine (s162_216 (by first | decide | assumption | omega)).mpr ?_
                                refine s162_219.mpr (s162_220.mpr (s162_222.mpr ?_))
                                try simp (disch := first | decide | assumption | omega) only [kon, knt_some, knt_none, Option.toList_some, Option.toList_none, List.cons_append, List.nil_append, r1, r2, hk, e84, e12, fSub_id, e9, e8, fAdd_id]
                                refine (s162_224 (by first | decide | assumption | omega) (by first | decide | assumption | omega)).mpr ?_
                                refine r_setComing hV q0 q1 (by omega) (by omega) ?_
                                refine s162_227.mpr ?_
                                refine s162_228.mpr (wif (fun c228 => ?_) (fun c228 => ?_))
                                · first
                                  | (exfalso; omega)
                                  | skip
                                    refine s162_231.mpr (s162_233.mpr ?_)
                                    refine s162_235.mpr (wif (fun c235 => ?_) (fun c235 => ?_))
                                    · first
                                      | (exfalso; omega)
                                      | skip
                                        refine s162_242.mpr (s162_243.mpr (s162_244.mpr (s162_247.mpr ?_)))
                                        try simp (disch := first | decide | assumption | omega) only [kon, knt_some, knt_none, Option.toList_some, Option.toList_none, List.cons_append, List.nil_append, r1, r2, hk, e84, e12, fSub_id, e9, e8, fAdd_id]
                                        exact W _ _ _ _ (fun z => absurd z (by omega)) (fun _ => rfl)
                                    · first
                                      | (exfalso; omega)
                                      | skip
                                        refine s162_238.mpr (s162_239.mpr (s162_243.mpr (s162_244.mpr (s162_247.mpr ?_))))
                                        try simp (disch := first | decide | assumption | omega) only [kon, knt_some, knt_none, Option.toList_some, Option.toList_none, List.cons_append, List.nil_append, r1, r2, hk, e84, e12, fSub_id, e9, e8, fAdd_id]
                                        exact W _ _ _ _ (fun z => absurd z (by omega)) (fun _ => rfl)
                                · first
                                  | (exfalso; omega)
                                  | skip
                                    refine s162_238.mpr (s162_239.mpr (s162_243.mpr (s162_244.mpr (s162_247.mpr ?_))))
                                    try simp (disch := first | decide | assumption | omega) only [kon, knt_some, knt_none, Option.toList_some, Option.toList_none, List.cons_append, List.nil_append, r1, r2, hk, e84, e12, fSub_id, e9, e8, fAdd_id]
                                    exact W _ _ _ _ (fun z => absurd z (by omega)) (fun _ => rfl)
                    · first
                      | (exfalso; omega)
                      | skip
                        refine s162_130.mpr ?_
                        refine (s162_131 (by first | decide | assumption | omega)).mpr ?_
                        refine s162_134.mpr (s162_136.mpr (s162_138.mpr ?_))
                        try simp (disch := first | decide | assumption | omega) only [kon, knt_some, knt_none, Option.toList_some, Option.toList_none, List.cons_append, List.nil_append, r1, r2, hk, e84, e12, fSub_id, e9, e8, fAdd_id]
                        refine (s162_139 (by first | decide | assumption | omega) (by first | decide | assumption | omega) (by first | decide | assumption | omega)).mpr ?_
                        refine s162_140.mpr (s162_142.mpr ?_)
                        try simp (disch := first | decide | assumption | omega) only [kon, knt_some, knt_none, Option.toList_some, Option.toList_none, List.cons_append, List.nil_append, r1, r2, hk, e84, e12, fSub_id, e9, e8, fAdd_id]
                        refine s162_143.mpr (wif (fun c143 => ?_) (fun c143 => ?_))
                        · first
                          | (exfalso; omega)
                          | skip
                            refine s162_151.mpr ?_
                            refine (s162_152 (by first | decide | assumption | omega)).mpr ?_
                            refine s162_155.mpr (s162_156.mpr ?_)
                            try simp (disch := first | decide | assumption | omega) only [kon, knt_some, knt_none, Option.toList_some, Option.toList_none, List.cons_append, List.nil_append, r1, r2, hk, e84, e12, fSub_id, e9, e8, fAdd_id]
                            refine (s162_158 (by first | decide | assumption | omega) (by first | decide | assumption | omega)).mpr ?_
                            exfalso; omega
                        · first
                          | (exfalso; omega)
                          | skip
                            refine s162_146.mpr (s162_148.mpr (s162_161.mpr (s162_163.mpr (s162_165.mpr ?_))))
                            refine (s162_167 (by omega)).mpr ?_
                            refine c_join hv hv ?_
                            simp only [kon, knt_some, knt_none, Option.toList_some, Option.toList_none, List.cons_append, List.nil_append, e8]
                            refine s162_170.mpr (s162_172.mpr (s162_174.mpr ?_))
                            refine s162_176.mpr (wif (fun c176 => ?_) (fun c176 => ?_))
                            · first
                              | (exfalso; omega)
                              | skip
                                exfalso; omega
                            · first
                              | (exfalso; omega)
                              | skip
                                refine s162_215.mpr ?_
                                refine (s162_216 (by first | decide | assumption | omega)).mpr ?_
                                refine s162_219.mpr (s162_220.mpr (s162_222.mpr ?_))
                                try simp (disch := first | decide | assumption | omega) only [kon, knt_some, knt_none, Option.toList_some, Option.toList_none, List.cons_append, List.nil_append, r1, r2, hk, e84, e12, fSub_id, e9, e8, fAdd_id]
                                refine (s162_224 (by first | decide | assumption | omega) (by first | decide | assumption | omega)).mpr ?_
                                refine r_setComing hV q0 q1 (by omega) (by omega) ?_
                                refine s162_227.mpr ?_
                                refine s162_228.mpr (wif (fun c228 => ?_) (fun c228 => ?_))
                                · first
                                  | (exfalso; omega)
                                  | skip
                                    refine s162_231.mpr (s162_233.mpr ?_)
                                    refine s162_235.mpr (wif (fun c235 => ?_) (fun c235 => ?_))
                                    · first
                                      | (exfalso; omega)
                                      | skip
                                        refine s162_242.mpr (s162_243.mpr (s162_244.mpr (s162_247.mpr ?_)))
                                        try simp (disch := first | decide | assumption | omega) only [kon, knt_some, knt_none, Option.toList_some, Option.toList_none, List.cons_append, List.nil_append, r1, r2, hk, e84, e12, fSub_id, e9, e8, fAdd_id]
                                        exact W _ _ _ _ (fun z => absurd z (by omega)) (fun _ => rfl)
                                    · first
                                      | (exfalso; omega)
                                      | skip
                                        refine s162_238.mpr (s162_239.mpr (s162_243.mpr (s162_244.mpr (s162_247.mpr ?_))))
                                        try simp (disch := first | decide | assumption | omega) only [kon, knt_some, knt_none, Option.toList_some, Option.toList_none, List.cons_append, List.nil_append, r1, r2, hk, e84, e12, fSub_id, e9, e8, fAdd_id]
                                        exact W _ _ _ _ (fun z => absurd z (by omega)) (fun _ => rfl)
                                · first
                                  | (exfalso; omega)
                                  | skip
                                    refine s162_238.mpr (s162_239.mpr (s162_243.mpr (s162_244.mpr (s162_247.mpr ?_))))
                                    try simp (disch := first | decide | assumption | omega) only [kon, knt_some, knt_none, Option.toList_some, Option.toList_none, List.cons_append, List.nil_append, r1, r2, hk, e84, e12, fSub_id, e9, e8, fAdd_id]
                                    exact W _ _ _ _ (fun z => absurd z (by omega)) (fun _ => rfl)
        · first
          | (exfalso; omega)
          | skip
            refine s162_250.mpr ?_
            refine s162_251.mpr (wif (fun c251 => ?_) (fun c251 => ?_))
            · first
              | (exfalso; omega)
              | skip
                refine (s162_266).mpr ?_
                exfalso; omega
            · first
              | (exfalso; omega)
              | skip
                refine s162_254.mpr ?_
                refine (s162_255 (by first | decide | assumption | omega)).mpr ?_
                refine s162_258.mpr (s162_259.mpr ?_)
                try simp (disch := first | decide | assumption | omega) only [kon, knt_some, knt_none, Option.toList_some, Option.toList_none, List.cons_append, List.nil_append, r1, r2, hk, e84, e12, fSub_id, e9, e8, fAdd_id]
                refine (s162_260Z (by first | decide | assumption | omega) (by first | decide | assumption | omega) (by first | decide | assumption | omega)).mpr ?_
                refine s162_261.mpr (s162_262.mpr ?_)
                try simp (disch := first | decide | assumption | omega) only [kon, knt_some, knt_none, Option.toList_some, Option.toList_none, List.cons_append, List.nil_append, r1, r2, hk, e84, e12, fSub_id, e9, e8, fAdd_id]
                refine (s162_263 (by first | decide | assumption | omega) (by first | decide | assumption | omega)).mpr ?_
                refine (s162_266).mpr ?_
                exfalso; omega
      · skip
        refine s162_90.mpr (s162_92.mpr ?_)
        refine s162_94.mpr (wif (fun c94 => ?_) (fun c94 => ?_))
        · first
          | (exfalso; omega)
          | skip
            refine s162_97.mpr (s162_99.mpr ?_)
            refine (s162_100 (by first | decide | assumption | omega)).mpr ?_
            try simp (disch := first | decide | assumption | omega) only [kon, knt_some, knt_none, Option.toList_some, Option.toList_none, List.cons_append, List.nil_append, e84, fAdd_id]
            refine s162_103.mpr (wif (fun c103 => ?_) (fun c103 => ?_))
            · first
              | (exfalso; omega)
              | skip
                exfalso; omega
            · first
              | (exfalso; omega)
              | skip
                refine s162_106.mpr (s162_108.mpr ?_)
                refine s162_110.mpr (wif (fun c110 => ?_) (fun c110 => ?_))
                · first
                  | (exfalso; omega)
                  | skip
                    refine s162_244.mpr (s162_247.mpr ?_)
                    try simp (disch := first | decide | assumption | omega) only [kon, knt_some, knt_none, Option.toList_some, Option.toList_none, List.cons_append, List.nil_append, e84, fAdd_id]
                    refine nx _ _ ⟨⟨_, _, _, rfl⟩, hf, fun k k0 k1 => ?_⟩
                    by_cases e : k = i
                    · subst e; exact ⟨fun z => absurd z ca, fun z => absurd z cc⟩
                    · exact hc k k0 (by omega)
                · first
                  | (exfalso; omega)
                  | skip
                    exfalso; omega
        · first
          | (exfalso; omega)
          | skip
            refine s162_250.mpr ?_
            refine s162_251.mpr (wif (fun c251 => ?_) (fun c251 => ?_))
            · first
              | (exfalso; omega)
              | skip
                refine (s162_266).mpr ?_
                exfalso; omega
            · first
              | (exfalso; omega)
              | skip
                refine s162_254.mpr ?_
                refine (s162_255 (by first | decide | assumption | omega)).mpr ?_
                refine s162_258.mpr (s162_259.mpr ?_)
                try simp (disch := first | decide | assumption | omega) only [kon, knt_some, knt_none, Option.toList_some, Option.toList_none, List.cons_append, List.nil_append, e84, fAdd_id]
                refine (s162_260Z (by first | decide | assumption | omega) (by first | decide | assumption | omega) (by first | decide | assumption | omega)).mpr ?_
                refine s162_261.mpr (s162_262.mpr ?_)
                try simp (disch := first | decide | assumption | omega) only [kon, knt_some, knt_none, Option.toList_some, Option.toList_none, List.cons_append, List.nil_append, e84, fAdd_id]
                refine (s162_263 (by first | decide | assumption | omega) (by first | decide | assumption | omega)).mpr ?_
                refine (s162_266).mpr ?_
                exfalso; omega
  · rintro ls h2 ⟨⟨l5, l6, l7, rfl⟩, hf, hc⟩
    have E := ok h2 hf (fun k k0 k1 => (hc k k0 (by omega)).1 k1) (fun k k0 k1 => by rw [show 26 * q + 16 + k = 26 * q + (16 + k) by omega, (hc (16 + k) (by omega) (by omega)).2 (by omega), show 16 + k - 16 = k by omega])
    refine s162_90.mpr (s162_92.mpr ?_)
    refine s162_94.mpr (wif (fun c94 => ?_) (fun c94 => ?_))
    · first
      | (exfalso; omega)
      | skip
        exfalso; omega
    · first
      | (exfalso; omega)
      | skip
        refine s162_250.mpr ?_
        refine s162_251.mpr (wif (fun c251 => ?_) (fun c251 => ?_))
        · first
          | (exfalso; omega)
          | skip
            refine (s162_266).mpr ?_
            first | exact E | (exfalso; omega)
        · first
          | (exfalso; omega)
          | skip
            refine s162_254.mpr ?_
            refine (s162_255 (by first | decide | assumption | omega)).mpr ?_
            refine s162_258.mpr (s162_259.mpr ?_)
            try simp (disch := first | decide | assumption | omega) only [r3, e1]
            refine (s162_260Z (by first | decide | assumption | omega) (by first | decide | assumption | omega) (by first | decide | assumption | omega)).mpr ?_
            refine s162_261.mpr (s162_262.mpr ?_)
            try simp (disch := first | decide | assumption | omega) only [r3, e1]
            refine (s162_263 (by first | decide | assumption | omega) (by first | decide | assumption | omega)).mpr ?_
            refine (s162_266).mpr ?_
            first | exact E | (exfalso; omega)
end CV3
