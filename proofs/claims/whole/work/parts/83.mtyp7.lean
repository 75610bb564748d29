section MT7
variable {d : Nat} {al : AL} {hi : HI} {hr : HR} {Q : QQ} {B : Int → Int}
theorem m_sends {m g op v p t : Int} (hA : SA al) (hR : MR hr) (hd : 5 ≤ d) (hM : MB hi m B) (hS : Sh B) (h36 : hi 49 36 = 1) (h38 : hi 49 38 = 0) (ht : hi 49 35 = t) (ht0 : 0 ≤ t ∧ t ≤ 16) (hvX : vX B (t, hi 75, hi 76)) (c1 : op = 37) (hv0 : 0 ≤ v ∧ v ≤ 3)
    (ok : ∀ L Y hi', tsL B g op v p (t, hi 75, hi 76) = some L → FLW op v p Y L → FW wS hi hi' → hi' 49 36 = 1 → hi' 49 38 = 0 → scX hi' = Y → Q (some none) al hi' hr)
    (no : ∀ hi', tsL B g op v p (t, hi 75, hi 76) = none → FW wS hi hi' → hi' 49 36 = 0 → Q (some none) al hi' hr) : Ev d 260 [vR (some 49), vI m, vI v] al hi hr Q := by
  have kM : isK al 49 13 := hA.k (by decide) (by decide) rfl
  have hm0 := hM.1
  have hm1 := hM.2.1
  have hv75 : ∀ k, 0 ≤ k → k < t → vT B (hi 75 k) := hvX.2.1
  have c8 : nCtr B ≤ 4 := hS.2.2.2.2.2.1
  have m4l : ∀ c s t, 0 ≤ c → c < nCtr B → 0 ≤ s → s < nSt B c → 0 ≤ t → t < nMs B c s → hi 62 (4 * (8 * (4 * m + c) + s) + t) = ldM B c s t := fun c s t a b e f g h => ((hM.ct hS a b e f).2.2 t g h).1
  have m4h : ∀ c s t, 0 ≤ c → c < nCtr B → 0 ≤ s → s < nSt B c → 0 ≤ t → t < nMs B c s → hi 63 (4 * (8 * (4 * m + c) + s) + t) = thM B c s t := fun c s t a b e f g h => ((hM.ct hS a b e f).2.2 t g h).2
  have hth : ∀ c s t, 0 ≤ c → c < nCtr B → 0 ≤ s → s < nSt B c → 0 ≤ t → t < nMs B c s → 0 ≤ thM B c s t ∧ thM B c s t < 256 := fun c s t a b e f g h => by
    have := ((hS.2.2.2.2.2.2.1 c a b).2.2.2.1 s e f).2.2.2.2.2.2.1 t g h
    omega
  have E1 : t - 1 - 1 = t - 2 := by omega
  have E2 : t - 2 + 1 = t - 1 := by omega
  have E3 : t - 1 + 1 = t := by omega
  have E4 : t - 2 - 1 = t - 3 := by omega
  have E5 : t - 3 + 1 = t - 2 := by omega
  have E6 : t + 1 + 1 = t + 2 := by omega
  have E7 : t + 1 - 1 = t := by omega
  have l75 := SA.len (a := 75) (n := 24) hA (by decide) (by decide) rfl
  have l62 := SA.len (a := 62) (n := 1664) hA (by decide) (by decide) rfl
  have l63 := SA.len (a := 63) (n := 1664) hA (by decide) (by decide) rfl
  -- the load's end below
  have T82 : ¬ (0 < t ∧ endT B (hi 75 (t - 1)) v ∧ ldT B (hi 75 (t - 1)) v = -1) → Wp d 260 82 [vR (some 49), vI m, vI v, none, none, none] [] al hi hr Q := by
    intro hb
    have nob : ∀ hi', ¬ (1 < t ∧ endT B (hi 75 (t - 2)) v ∧ ldT B (hi 75 (t - 2)) v ≠ -1 ∧ leT (hi 75 (t - 1)) (ldT B (hi 75 (t - 2)) v)) → FW wS hi hi' → hi' 49 36 = 0 → Q (some none) al hi' hr := fun hi' h hw hz => no _ ((tsL_37b c1 hb).trans (onw_n h)) hw hz
    by_cases ht2 : t < 2
    · clear m4l m4h hth
      refine s260_82.mpr ?_
      refine (s260_83 kM).mpr ?_
      refine s260_86.mpr (s260_87.mpr (s260_88.mpr (s260_89.mpr (s260_90.mpr ?_))))
      try simp (disch := first | decide | assumption | omega) only [kon, knt_some, knt_none, Option.toList_some, Option.toList_none, List.cons_append, List.nil_append, upI_eq, upI_a, upI_i, upR_eq, upR_a, upR_i, h36, ht, E1, E2, E3, E4, E5, E6, E7, fAdd_id, fSub_id, fMul_id]
      refine s260_91.mpr (wif (fun c91 => ?_) (fun c91 => ?_))
      · first
        | (exfalso; omega)
        | skip
          refine s260_98.mpr ?_
          refine (s260_99 (by omega) kM).mpr ?_
          refine m_wants hA (by omega) (by (try simp (disch := decide) only [upI_eq, upI_a, upI_i, upR_eq, upR_a, upR_i]); first | assumption | rfl) (by omega) (fun y99 => ?_) (fun y99 => ?_)
          · skip
            refine s260_102.mpr ?_
            refine (s260_103 kM).mpr ?_
            try simp (disch := first | decide | assumption | omega) only [kon, knt_some, knt_none, Option.toList_some, Option.toList_none, List.cons_append, List.nil_append, upI_eq, upI_a, upI_i, upR_eq, upR_a, upR_i, h36, ht, E1, E2, E3, E4, E5, E6, E7, fAdd_id, fSub_id, fMul_id]
            refine s260_106.mpr (wif (fun c106 => ?_) (fun c106 => ?_))
            · first
              | (exfalso; omega)
              | skip
                refine (s260_109).mpr ?_
                first | (exfalso; omega) | exact nob _ (by omega) (by repeat' (first | assumption | exact FW.rf | refine FW.up ?_ (by unfold wS; omega) | (refine FW.tr ?_ (by assumption)))) (by (try simp (disch := decide) only [upI_eq, upI_a, upI_i, upR_eq, upR_a, upR_i]))
            · first
              | (exfalso; omega)
              | skip
                exfalso; omega
          · skip
            refine s260_102.mpr ?_
            refine (s260_103 kM).mpr ?_
            try simp (disch := first | decide | assumption | omega) only [kon, knt_some, knt_none, Option.toList_some, Option.toList_none, List.cons_append, List.nil_append, upI_eq, upI_a, upI_i, upR_eq, upR_a, upR_i, h36, ht, E1, E2, E3, E4, E5, E6, E7, fAdd_id, fSub_id, fMul_id]
            refine s260_106.mpr (wif (fun c106 => ?_) (fun c106 => ?_))
            · first
              | (exfalso; omega)
              | skip
                refine (s260_109).mpr ?_
                first | (exfalso; omega) | exact nob _ (by omega) (by repeat' (first | assumption | exact FW.rf | refine FW.up ?_ (by unfold wS; omega) | (refine FW.tr ?_ (by assumption)))) (by (try simp (disch := decide) only [upI_eq, upI_a, upI_i, upR_eq, upR_a, upR_i]))
            · first
              | (exfalso; omega)
              | skip
                exfalso; omega
      · first
        | (exfalso; omega)
        | skip
          exfalso; omega
    · by_cases hk : kindM (hi 75 (t - 2)) = 5
      · skip
        obtain ⟨v1, v2, v3, v4⟩ := endV_of (hv75 (t - 2) (by omega) (by omega)) hk
        have hw := wh_b (hi 75 (t - 2))
        have hs := st_b (hi 75 (t - 2))
        have s8 : nSt B (whichM (hi 75 (t - 2))) ≤ 8 := (hS.2.2.2.2.2.2.1 _ hw.1 v3).2.1
        have hE : EndV B (hi 75 (t - 2)) := ⟨v1, v2, v3, v4⟩
        have hr9 : rng (hi 75 (t - 2)) := ⟨by omega, by omega⟩
        by_cases hT : tnS B (whichM (hi 75 (t - 2))) (stateM (hi 75 (t - 2))) = 1 + sideM (hi 75 (t - 2)) ∧ v < nMs B (whichM (hi 75 (t - 2))) (stateM (hi 75 (t - 2)))
        · have e62 := m4l _ _ v hw.1 v3 hs.1 v4 hv0.1 hT.2
          have e63 := m4h _ _ v hw.1 v3 hs.1 v4 hv0.1 hT.2
          have eth := hth _ _ v hw.1 v3 hs.1 v4 hv0.1 hT.2
          clear m4l m4h hth
          refine s260_82.mpr ?_
          refine (s260_83 kM).mpr ?_
          refine s260_86.mpr (s260_87.mpr (s260_88.mpr (s260_89.mpr (s260_90.mpr ?_))))
          try simp (disch := first | decide | assumption | omega) only [kon, knt_some, knt_none, Option.toList_some, Option.toList_none, List.cons_append, List.nil_append, upI_eq, upI_a, upI_i, upR_eq, upR_a, upR_i, h36, ht, E1, E2, E3, E4, E5, E6, E7, fAdd_id, fSub_id, fMul_id, e62, e63]
          refine s260_91.mpr (wif (fun c91 => ?_) (fun c91 => ?_))
          · first
            | (exfalso; omega)
            | skip
              exfalso; omega
          · first
            | (exfalso; omega)
            | skip
              refine s260_94.mpr (s260_95.mpr ?_)
              refine (s260_99 (by omega) kM).mpr ?_
              refine m_wants hA (by omega) (by (try simp (disch := decide) only [upI_eq, upI_a, upI_i, upR_eq, upR_a, upR_i]); first | assumption | rfl) (by omega) (fun y99 => ?_) (fun y99 => ?_)
              · skip
                refine s260_102.mpr ?_
                refine (s260_103 kM).mpr ?_
                try simp (disch := first | decide | assumption | omega) only [kon, knt_some, knt_none, Option.toList_some, Option.toList_none, List.cons_append, List.nil_append, upI_eq, upI_a, upI_i, upR_eq, upR_a, upR_i, h36, ht, E1, E2, E3, E4, E5, E6, E7, fAdd_id, fSub_id, fMul_id, e62, e63]
                refine s260_106.mpr (wif (fun c106 => ?_) (fun c106 => ?_))
                · first
                  | (exfalso; omega)
                  | skip
                    exfalso; omega
                · first
                  | (exfalso; omega)
                  | skip
                    refine s260_110.mpr ((s260_111 kM).mpr ?_)
                    rw [mr_33 hR]
                    refine s260_114.mpr ?_
                    refine (s260_115 (hA.k (by decide) (by decide) rfl) (by first | assumption | omega) (by first | assumption | omega)).mpr ?_
                    refine s260_116.mpr (s260_118.mpr (s260_119.mpr ?_))
                    try simp (disch := first | decide | assumption | omega) only [kon, knt_some, knt_none, Option.toList_some, Option.toList_none, List.cons_append, List.nil_append, upI_eq, upI_a, upI_i, upR_eq, upR_a, upR_i, h36, ht, E1, E2, E3, E4, E5, E6, E7, fAdd_id, fSub_id, fMul_id, e62, e63]
                    refine (s260_121 (by omega)).mpr ?_
                    refine m_kind.mpr ?_
                    refine s260_124.mpr ?_
                    refine s260_125.mpr (wif (fun c125 => ?_) (fun c125 => ?_))
                    · first
                      | (exfalso; omega)
                      | skip
                        refine s260_128.mpr (s260_129.mpr (s260_130.mpr (s260_132.mpr ?_)))
                        refine (s260_133 (by omega) kM).mpr ?_
                        refine m_isTurn (B := B) hA hR (by omega) hM hS hE (fun y133 z133 => ?_) (fun y133 => ?_)
                        · skip
                          refine s260_136.mpr (wif (fun c136 => ?_) (fun c136 => ?_))
                          · first
                            | (exfalso; omega)
                            | skip
                              exfalso; omega
                          · first
                            | (exfalso; omega)
                            | skip
                              refine s260_139.mpr (s260_140.mpr ?_)
                              refine (s260_144 (by omega) kM).mpr ?_
                              refine m_wants hA (by omega) (by (try simp (disch := decide) only [upI_eq, upI_a, upI_i, upR_eq, upR_a, upR_i]); first | assumption | rfl) (by omega) (fun y144 => ?_) (fun y144 => ?_)
                              · skip
                                refine s260_147.mpr ?_
                                refine (s260_148 kM).mpr ?_
                                try simp (disch := first | decide | assumption | omega) only [kon, knt_some, knt_none, Option.toList_some, Option.toList_none, List.cons_append, List.nil_append, upI_eq, upI_a, upI_i, upR_eq, upR_a, upR_i, h36, ht, E1, E2, E3, E4, E5, E6, E7, fAdd_id, fSub_id, fMul_id, e62, e63]
                                refine s260_151.mpr (wif (fun c151 => ?_) (fun c151 => ?_))
                                · first
                                  | (exfalso; omega)
                                  | skip
                                    exfalso; omega
                                · first
                                  | (exfalso; omega)
                                  | skip
                                    refine s260_155.mpr (s260_156.mpr (s260_157.mpr ?_))
                                    refine (s260_159 (by omega)).mpr ?_
                                    refine m_stateOf (by omega) ⟨hm0, hm1⟩ hr9 ?_
                                    refine s260_162.mpr (s260_163.mpr (s260_164.mpr (s260_165.mpr (s260_167.mpr ((s260_168 kM).mpr ?_)))))
                                    rw [mr_14 hR]
                                    refine s260_171.mpr ?_
                                    try simp (disch := first | decide | assumption | omega) only [kon, knt_some, knt_none, Option.toList_some, Option.toList_none, List.cons_append, List.nil_append, upI_eq, upI_a, upI_i, upR_eq, upR_a, upR_i, h36, ht, E1, E2, E3, E4, E5, E6, E7, fAdd_id, fSub_id, fMul_id, e62, e63]
                                    refine (s260_173 (hA.k (by decide) (by decide) rfl) (by first | assumption | omega) (by first | assumption | omega)).mpr ?_
                                    refine s260_174.mpr ?_
                                    try simp (disch := first | decide | assumption | omega) only [kon, knt_some, knt_none, Option.toList_some, Option.toList_none, List.cons_append, List.nil_append, upI_eq, upI_a, upI_i, upR_eq, upR_a, upR_i, h36, ht, E1, E2, E3, E4, E5, E6, E7, fAdd_id, fSub_id, fMul_id, e62, e63]
                                    refine s260_175.mpr (wif (fun c175 => ?_) (fun c175 => ?_))
                                    · first
                                      | (exfalso; omega)
                                      | skip
                                        refine s260_189.mpr (s260_190.mpr ?_)
                                        refine (s260_191 kM).mpr ?_
                                        refine s260_194.mpr (s260_195.mpr (s260_196.mpr ?_))
                                        try simp (disch := first | decide | assumption | omega) only [kon, knt_some, knt_none, Option.toList_some, Option.toList_none, List.cons_append, List.nil_append, upI_eq, upI_a, upI_i, upR_eq, upR_a, upR_i, h36, ht, E1, E2, E3, E4, E5, E6, E7, fAdd_id, fSub_id, fMul_id, e62, e63]
                                        refine s260_197.mpr (wif (fun c197 => ?_) (fun c197 => ?_))
                                        · first
                                          | (exfalso; omega)
                                          | skip
                                            refine s260_200.mpr (s260_201.mpr ?_)
                                            refine (s260_205 (by omega) kM).mpr ?_
                                            refine m_wants hA (by omega) (by (try simp (disch := decide) only [upI_eq, upI_a, upI_i, upR_eq, upR_a, upR_i]); first | assumption | rfl) (by omega) (fun y205 => ?_) (fun y205 => ?_)
                                            · skip
                                              refine s260_208.mpr ?_
                                              refine (s260_209 kM).mpr ?_
                                              try simp (disch := first | decide | assumption | omega) only [kon, knt_some, knt_none, Option.toList_some, Option.toList_none, List.cons_append, List.nil_append, upI_eq, upI_a, upI_i, upR_eq, upR_a, upR_i, h36, ht, E1, E2, E3, E4, E5, E6, E7, fAdd_id, fSub_id, fMul_id, e62, e63]
                                              refine s260_212.mpr (wif (fun c212 => ?_) (fun c212 => ?_))
                                              · first
                                                | (exfalso; omega)
                                                | skip
                                                  refine (s260_215).mpr ?_
                                                  first | (exfalso; omega) | (exact ok _ _ _ ((tsL_37b c1 hb).trans (onw_p ⟨by dsimp only; omega, ⟨hk, hT.1, hT.2⟩, c175, y186.2.2⟩)) (flw1 (by rw [c1]; decide)) (by repeat' (first | assumption | exact FW.rf | refine FW.up ?_ (by unfold wS; omega) | (refine FW.tr ?_ (by assumption)))) (by (try simp (disch := decide) only [upI_eq, upI_a, upI_i, upR_eq, upR_a, upR_i]); try assumption) (by (try simp (disch := decide) only [upI_eq, upI_a, upI_i, upR_eq, upR_a, upR_i]); try assumption) (by simp (disch := decide) only [scX, upI_eq, upI_a, upI_i, upR_eq, upR_a, upR_i, upI_ro, upI_rw, ht, E1, E2, E3, E4, E5, E6, E7]; rfl)) | (exact nob _ (fun h => h.2.2.1 c175) (by repeat' (first | assumption | exact FW.rf | refine FW.up ?_ (by unfold wS; omega) | (refine FW.tr ?_ (by assumption)))) (by (try simp (disch := decide) only [upI_eq, upI_a, upI_i, upR_eq, upR_a, upR_i]); try assumption)) | (exact nob _ (fun h => by rcases x186 with h9 | h9; omega; exact h9 ⟨by omega, h.2.2.2⟩) (by repeat' (first | assumption | exact FW.rf | refine FW.up ?_ (by unfold wS; omega) | (refine FW.tr ?_ (by assumption)))) (by (try simp (disch := decide) only [upI_eq, upI_a, upI_i, upR_eq, upR_a, upR_i]); try assumption))
                                              · first
                                                | (exfalso; omega)
                                                | skip
                                                  refine s260_216.mpr ((s260_217 kM).mpr ?_)
                                                  rw [mr_33 hR]
                                                  refine s260_220.mpr (s260_221.mpr (s260_223.mpr ((s260_224 kM).mpr ?_)))
                                                  rw [mr_15 hR]
                                                  refine s260_227.mpr ?_
                                                  refine (s260_229 (hA.k (by decide) (by decide) rfl) (by first | assumption | omega) (by first | assumption | omega)).mpr ?_
                                                  try simp (disch := first | decide | assumption | omega) only [kon, knt_some, knt_none, Option.toList_some, Option.toList_none, List.cons_append, List.nil_append, upI_eq, upI_a, upI_i, upR_eq, upR_a, upR_i, h36, ht, E1, E2, E3, E4, E5, E6, E7, fAdd_id, fSub_id, fMul_id, e62, e63]
                                                  refine (s260_230 (by omega)).mpr ?_
                                                  refine m_inState ⟨v1, v2⟩ eth ?_
                                                  refine (s260_233 (hA.k (by decide) (by decide) rfl) (by first | assumption | omega) (by first | assumption | omega)).mpr ?_
                                                  try simp (disch := first | decide | assumption | omega) only [kon, knt_some, knt_none, Option.toList_some, Option.toList_none, List.cons_append, List.nil_append, upI_eq, upI_a, upI_i, upR_eq, upR_a, upR_i, h36, ht, E1, E2, E3, E4, E5, E6, E7, fAdd_id, fSub_id, fMul_id, e62, e63]
                                                  refine (s260_234).mpr ?_
                                                  first | (exfalso; omega) | (exact ok _ _ _ ((tsL_37b c1 hb).trans (onw_p ⟨by dsimp only; omega, ⟨hk, hT.1, hT.2⟩, c175, y186.2.2⟩)) (flw1 (by rw [c1]; decide)) (by repeat' (first | assumption | exact FW.rf | refine FW.up ?_ (by unfold wS; omega) | (refine FW.tr ?_ (by assumption)))) (by (try simp (disch := decide) only [upI_eq, upI_a, upI_i, upR_eq, upR_a, upR_i]); try assumption) (by (try simp (disch := decide) only [upI_eq, upI_a, upI_i, upR_eq, upR_a, upR_i]); try assumption) (by simp (disch := decide) only [scX, upI_eq, upI_a, upI_i, upR_eq, upR_a, upR_i, upI_ro, upI_rw, ht, E1, E2, E3, E4, E5, E6, E7]; rfl)) | (exact nob _ (fun h => h.2.2.1 c175) (by repeat' (first | assumption | exact FW.rf | refine FW.up ?_ (by unfold wS; omega) | (refine FW.tr ?_ (by assumption)))) (by (try simp (disch := decide) only [upI_eq, upI_a, upI_i, upR_eq, upR_a, upR_i]); try assumption)) | (exact nob _ (fun h => by rcases x186 with h9 | h9; omega; exact h9 ⟨by omega, h.2.2.2⟩) (by repeat' (first | assumption | exact FW.rf | refine FW.up ?_ (by unfold wS; omega) | (refine FW.tr ?_ (by assumption)))) (by (try simp (disch := decide) only [upI_eq, upI_a, upI_i, upR_eq, upR_a, upR_i]); try assumption))
                                            · skip
                                              refine s260_208.mpr ?_
                                              refine (s260_209 kM).mpr ?_
                                              try simp (disch := first | decide | assumption | omega) only [kon, knt_some, knt_none, Option.toList_some, Option.toList_none, List.cons_append, List.nil_append, upI_eq, upI_a, upI_i, upR_eq, upR_a, upR_i, h36, ht, E1, E2, E3, E4, E5, E6, E7, fAdd_id, fSub_id, fMul_id, e62, e63]
                                              refine s260_212.mpr (wif (fun c212 => ?_) (fun c212 => ?_))
                                              · first
                                                | (exfalso; omega)
                                                | skip
                                                  refine (s260_215).mpr ?_
                                                  first | (exfalso; omega) | (exact ok _ _ _ ((tsL_37b c1 hb).trans (onw_p ⟨by dsimp only; omega, ⟨hk, hT.1, hT.2⟩, c175, y186.2.2⟩)) (flw1 (by rw [c1]; decide)) (by repeat' (first | assumption | exact FW.rf | refine FW.up ?_ (by unfold wS; omega) | (refine FW.tr ?_ (by assumption)))) (by (try simp (disch := decide) only [upI_eq, upI_a, upI_i, upR_eq, upR_a, upR_i]); try assumption) (by (try simp (disch := decide) only [upI_eq, upI_a, upI_i, upR_eq, upR_a, upR_i]); try assumption) (by simp (disch := decide) only [scX, upI_eq, upI_a, upI_i, upR_eq, upR_a, upR_i, upI_ro, upI_rw, ht, E1, E2, E3, E4, E5, E6, E7]; rfl)) | (exact nob _ (fun h => h.2.2.1 c175) (by repeat' (first | assumption | exact FW.rf | refine FW.up ?_ (by unfold wS; omega) | (refine FW.tr ?_ (by assumption)))) (by (try simp (disch := decide) only [upI_eq, upI_a, upI_i, upR_eq, upR_a, upR_i]); try assumption)) | (exact nob _ (fun h => by rcases x186 with h9 | h9; omega; exact h9 ⟨by omega, h.2.2.2⟩) (by repeat' (first | assumption | exact FW.rf | refine FW.up ?_ (by unfold wS; omega) | (refine FW.tr ?_ (by assumption)))) (by (try simp (disch := decide) only [upI_eq, upI_a, upI_i, upR_eq, upR_a, upR_i]); try assumption))
                                              · first
                                                | (exfalso; omega)
                                                | skip
                                                  refine s260_216.mpr ((s260_217 kM).mpr ?_)
                                                  rw [mr_33 hR]
                                                  refine s260_220.mpr (s260_221.mpr (s260_223.mpr ((s260_224 kM).mpr ?_)))
                                                  rw [mr_15 hR]
                                                  refine s260_227.mpr ?_
                                                  refine (s260_229 (hA.k (by decide) (by decide) rfl) (by first | assumption | omega) (by first | assumption | omega)).mpr ?_
                                                  try simp (disch := first | decide | assumption | omega) only [kon, knt_some, knt_none, Option.toList_some, Option.toList_none, List.cons_append, List.nil_append, upI_eq, upI_a, upI_i, upR_eq, upR_a, upR_i, h36, ht, E1, E2, E3, E4, E5, E6, E7, fAdd_id, fSub_id, fMul_id, e62, e63]
                                                  refine (s260_230 (by omega)).mpr ?_
                                                  refine m_inState ⟨v1, v2⟩ eth ?_
                                                  refine (s260_233 (hA.k (by decide) (by decide) rfl) (by first | assumption | omega) (by first | assumption | omega)).mpr ?_
                                                  try simp (disch := first | decide | assumption | omega) only [kon, knt_some, knt_none, Option.toList_some, Option.toList_none, List.cons_append, List.nil_append, upI_eq, upI_a, upI_i, upR_eq, upR_a, upR_i, h36, ht, E1, E2, E3, E4, E5, E6, E7, fAdd_id, fSub_id, fMul_id, e62, e63]
                                                  refine (s260_234).mpr ?_
                                                  first | (exfalso; omega) | (exact ok _ _ _ ((tsL_37b c1 hb).trans (onw_p ⟨by dsimp only; omega, ⟨hk, hT.1, hT.2⟩, c175, y186.2.2⟩)) (flw1 (by rw [c1]; decide)) (by repeat' (first | assumption | exact FW.rf | refine FW.up ?_ (by unfold wS; omega) | (refine FW.tr ?_ (by assumption)))) (by (try simp (disch := decide) only [upI_eq, upI_a, upI_i, upR_eq, upR_a, upR_i]); try assumption) (by (try simp (disch := decide) only [upI_eq, upI_a, upI_i, upR_eq, upR_a, upR_i]); try assumption) (by simp (disch := decide) only [scX, upI_eq, upI_a, upI_i, upR_eq, upR_a, upR_i, upI_ro, upI_rw, ht, E1, E2, E3, E4, E5, E6, E7]; rfl)) | (exact nob _ (fun h => h.2.2.1 c175) (by repeat' (first | assumption | exact FW.rf | refine FW.up ?_ (by unfold wS; omega) | (refine FW.tr ?_ (by assumption)))) (by (try simp (disch := decide) only [upI_eq, upI_a, upI_i, upR_eq, upR_a, upR_i]); try assumption)) | (exact nob _ (fun h => by rcases x186 with h9 | h9; omega; exact h9 ⟨by omega, h.2.2.2⟩) (by repeat' (first | assumption | exact FW.rf | refine FW.up ?_ (by unfold wS; omega) | (refine FW.tr ?_ (by assumption)))) (by (try simp (disch := decide) only [upI_eq, upI_a, upI_i, upR_eq, upR_a, upR_i]); try assumption))
                                        · first
                                          | (exfalso; omega)
                                          | skip
                                            refine s260_204.mpr ?_
                                            refine (s260_205 (by omega) kM).mpr ?_
                                            refine m_wants hA (by omega) (by (try simp (disch := decide) only [upI_eq, upI_a, upI_i, upR_eq, upR_a, upR_i]); first | assumption | rfl) (by omega) (fun y205 => ?_) (fun y205 => ?_)
                                            · skip
                                              refine s260_208.mpr ?_
                                              refine (s260_209 kM).mpr ?_
                                              try simp (disch := first | decide | assumption | omega) only [kon, knt_some, knt_none, Option.toList_some, Option.toList_none, List.cons_append, List.nil_append, upI_eq, upI_a, upI_i, upR_eq, upR_a, upR_i, h36, ht, E1, E2, E3, E4, E5, E6, E7, fAdd_id, fSub_id, fMul_id, e62, e63]
                                              refine s260_212.mpr (wif (fun c212 => ?_) (fun c212 => ?_))
                                              · first
                                                | (exfalso; omega)
                                                | skip
                                                  refine (s260_215).mpr ?_
                                                  first | (exfalso; omega) | (exact ok _ _ _ ((tsL_37b c1 hb).trans (onw_p ⟨by dsimp only; omega, ⟨hk, hT.1, hT.2⟩, c175, y186.2.2⟩)) (flw1 (by rw [c1]; decide)) (by repeat' (first | assumption | exact FW.rf | refine FW.up ?_ (by unfold wS; omega) | (refine FW.tr ?_ (by assumption)))) (by (try simp (disch := decide) only [upI_eq, upI_a, upI_i, upR_eq, upR_a, upR_i]); try assumption) (by (try simp (disch := decide) only [upI_eq, upI_a, upI_i, upR_eq, upR_a, upR_i]); try assumption) (by simp (disch := decide) only [scX, upI_eq, upI_a, upI_i, upR_eq, upR_a, upR_i, upI_ro, upI_rw, ht, E1, E2, E3, E4, E5, E6, E7]; rfl)) | (exact nob _ (fun h => h.2.2.1 c175) (by repeat' (first | assumption | exact FW.rf | refine FW.up ?_ (by unfold wS; omega) | (refine FW.tr ?_ (by assumption)))) (by (try simp (disch := decide) only [upI_eq, upI_a, upI_i, upR_eq, upR_a, upR_i]); try assumption)) | (exact nob _ (fun h => by rcases x186 with h9 | h9; omega; exact h9 ⟨by omega, h.2.2.2⟩) (by repeat' (first | assumption | exact FW.rf | refine FW.up ?_ (by unfold wS; omega) | (refine FW.tr ?_ (by assumption)))) (by (try simp (disch := decide) only [upI_eq, upI_a, upI_i, upR_eq, upR_a, upR_i]); try assumption))
                                              · first
                                                | (exfalso; omega)
                                                | skip
                                                  refine s260_216.mpr ((s260_217 kM).mpr ?_)
                                                  rw [mr_33 hR]
                                                  refine s260_220.mpr (s260_221.mpr (s260_223.mpr ((s260_224 kM).mpr ?_)))
                                                  rw [mr_15 hR]
                                                  refine s260_227.mpr ?_
                                                  refine (s260_229 (hA.k (by decide) (by decide) rfl) (by first | assumption | omega) (by first | assumption | omega)).mpr ?_
                                                  try simp (disch := first | decide | assumption | omega) only [kon, knt_some, knt_none, Option.toList_some, Option.toList_none, List.cons_append, List.nil_append, upI_eq, upI_a, upI_i, upR_eq, upR_a, upR_i, h36, ht, E1, E2, E3, E4, E5, E6, E7, fAdd_id, fSub_id, fMul_id, e62, e63]
                                                  refine (s260_230 (by omega)).mpr ?_
                                                  refine m_inState ⟨v1, v2⟩ eth ?_
                                                  refine (s260_233 (hA.k (by decide) (by decide) rfl) (by first | assumption | omega) (by first | assumption | omega)).mpr ?_
                                                  try simp (disch := first | decide | assumption | omega) only [kon, knt_some, knt_none, Option.toList_some, Option.toList_none, List.cons_append, List.nil_append, upI_eq, upI_a, upI_i, upR_eq, upR_a, upR_i, h36, ht, E1, E2, E3, E4, E5, E6, E7, fAdd_id, fSub_id, fMul_id, e62, e63]
                                                  refine (s260_234).mpr ?_
                                                  first | (exfalso; omega) | (exact ok _ _ _ ((tsL_37b c1 hb).trans (onw_p ⟨by dsimp only; omega, ⟨hk, hT.1, hT.2⟩, c175, y186.2.2⟩)) (flw1 (by rw [c1]; decide)) (by repeat' (first | assumption | exact FW.rf | refine FW.up ?_ (by unfold wS; omega) | (refine FW.tr ?_ (by assumption)))) (by (try simp (disch := decide) only [upI_eq, upI_a, upI_i, upR_eq, upR_a, upR_i]); try assumption) (by (try simp (disch := decide) only [upI_eq, upI_a, upI_i, upR_eq, upR_a, upR_i]); try assumption) (by simp (disch := decide) only [scX, upI_eq, upI_a, upI_i, upR_eq, upR_a, upR_i, upI_ro, upI_rw, ht, E1, E2, E3, E4, E5, E6, E7]; rfl)) | (exact nob _ (fun h => h.2.2.1 c175) (by repeat' (first | assumption | exact FW.rf | refine FW.up ?_ (by unfold wS; omega) | (refine FW.tr ?_ (by assumption)))) (by (try simp (disch := decide) only [upI_eq, upI_a, upI_i, upR_eq, upR_a, upR_i]); try assumption)) | (exact nob _ (fun h => by rcases x186 with h9 | h9; omega; exact h9 ⟨by omega, h.2.2.2⟩) (by repeat' (first | assumption | exact FW.rf | refine FW.up ?_ (by unfold wS; omega) | (refine FW.tr ?_ (by assumption)))) (by (try simp (disch := decide) only [upI_eq, upI_a, upI_i, upR_eq, upR_a, upR_i]); try assumption))
                                            · skip
                                              refine s260_208.mpr ?_
                                              refine (s260_209 kM).mpr ?_
                                              try simp (disch := first | decide | assumption | omega) only [kon, knt_some, knt_none, Option.toList_some, Option.toList_none, List.cons_append, List.nil_append, upI_eq, upI_a, upI_i, upR_eq, upR_a, upR_i, h36, ht, E1, E2, E3, E4, E5, E6, E7, fAdd_id, fSub_id, fMul_id, e62, e63]
                                              refine s260_212.mpr (wif (fun c212 => ?_) (fun c212 => ?_))
                                              · first
                                                | (exfalso; omega)
                                                | skip
                                                  refine (s260_215).mpr ?_
                                                  first | (exfalso; omega) | (exact ok _ _ _ ((tsL_37b c1 hb).trans (onw_p ⟨by dsimp only; omega, ⟨hk, hT.1, hT.2⟩, c175, y186.2.2⟩)) (flw1 (by rw [c1]; decide)) (by repeat' (first | assumption | exact FW.rf | refine FW.up ?_ (by unfold wS; omega) | (refine FW.tr ?_ (by assumption)))) (by (try simp (disch := decide) only [upI_eq, upI_a, upI_i, upR_eq, upR_a, upR_i]); try assumption) (by (try simp (disch := decide) only [upI_eq, upI_a, upI_i, upR_eq, upR_a, upR_i]); try assumption) (by simp (disch := decide) only [scX, upI_eq, upI_a, upI_i, upR_eq, upR_a, upR_i, upI_ro, upI_rw, ht, E1, E2, E3, E4, E5, E6, E7]; rfl)) | (exact nob _ (fun h => h.2.2.1 c175) (by repeat' (first | assumption | exact FW.rf | refine FW.up ?_ (by unfold wS; omega) | (refine FW.tr ?_ (by assumption)))) (by (try simp (disch := decide) only [upI_eq, upI_a, upI_i, upR_eq, upR_a, upR_i]); try assumption)) | (exact nob _ (fun h => by rcases x186 with h9 | h9; omega; exact h9 ⟨by omega, h.2.2.2⟩) (by repeat' (first | assumption | exact FW.rf | refine FW.up ?_ (by unfold wS; omega) | (refine FW.tr ?_ (by assumption)))) (by (try simp (disch := decide) only [upI_eq, upI_a, upI_i, upR_eq, upR_a, upR_i]); try assumption))
                                              · first
                                                | (exfalso; omega)
                                                | skip
                                                  refine s260_216.mpr ((s260_217 kM).mpr ?_)
                                                  rw [mr_33 hR]
                                                  refine s260_220.mpr (s260_221.mpr (s260_223.mpr ((s260_224 kM).mpr ?_)))
                                                  rw [mr_15 hR]
                                                  refine s260_227.mpr ?_
                                                  refine (s260_229 (hA.k (by decide) (by decide) rfl) (by first | assumption | omega) (by first | assumption | omega)).mpr ?_
                                                  try simp (disch := first | decide | assumption | omega) only [kon, knt_some, knt_none, Option.toList_some, Option.toList_none, List.cons_append, List.nil_append, upI_eq, upI_a, upI_i, upR_eq, upR_a, upR_i, h36, ht, E1, E2, E3, E4, E5, E6, E7, fAdd_id, fSub_id, fMul_id, e62, e63]
                                                  refine (s260_230 (by omega)).mpr ?_
                                                  refine m_inState ⟨v1, v2⟩ eth ?_
                                                  refine (s260_233 (hA.k (by decide) (by decide) rfl) (by first | assumption | omega) (by first | assumption | omega)).mpr ?_
                                                  try simp (disch := first | decide | assumption | omega) only [kon, knt_some, knt_none, Option.toList_some, Option.toList_none, List.cons_append, List.nil_append, upI_eq, upI_a, upI_i, upR_eq, upR_a, upR_i, h36, ht, E1, E2, E3, E4, E5, E6, E7, fAdd_id, fSub_id, fMul_id, e62, e63]
                                                  refine (s260_234).mpr ?_
                                                  first | (exfalso; omega) | (exact ok _ _ _ ((tsL_37b c1 hb).trans (onw_p ⟨by dsimp only; omega, ⟨hk, hT.1, hT.2⟩, c175, y186.2.2⟩)) (flw1 (by rw [c1]; decide)) (by repeat' (first | assumption | exact FW.rf | refine FW.up ?_ (by unfold wS; omega) | (refine FW.tr ?_ (by assumption)))) (by (try simp (disch := decide) only [upI_eq, upI_a, upI_i, upR_eq, upR_a, upR_i]); try assumption) (by (try simp (disch := decide) only [upI_eq, upI_a, upI_i, upR_eq, upR_a, upR_i]); try assumption) (by simp (disch := decide) only [scX, upI_eq, upI_a, upI_i, upR_eq, upR_a, upR_i, upI_ro, upI_rw, ht, E1, E2, E3, E4, E5, E6, E7]; rfl)) | (exact nob _ (fun h => h.2.2.1 c175) (by repeat' (first | assumption | exact FW.rf | refine FW.up ?_ (by unfold wS; omega) | (refine FW.tr ?_ (by assumption)))) (by (try simp (disch := decide) only [upI_eq, upI_a, upI_i, upR_eq, upR_a, upR_i]); try assumption)) | (exact nob _ (fun h => by rcases x186 with h9 | h9; omega; exact h9 ⟨by omega, h.2.2.2⟩) (by repeat' (first | assumption | exact FW.rf | refine FW.up ?_ (by unfold wS; omega) | (refine FW.tr ?_ (by assumption)))) (by (try simp (disch := decide) only [upI_eq, upI_a, upI_i, upR_eq, upR_a, upR_i]); try assumption))
                                    · first
                                      | (exfalso; omega)
                                      | skip
                                        refine s260_178.mpr (s260_179.mpr ((s260_180 kM).mpr ?_))
                                        rw [mr_14 hR]
                                        refine s260_183.mpr ?_
                                        refine (s260_185 (hA.k (by decide) (by decide) rfl) (by first | assumption | omega) (by first | assumption | omega)).mpr ?_
                                        try simp (disch := first | decide | assumption | omega) only [kon, knt_some, knt_none, Option.toList_some, Option.toList_none, List.cons_append, List.nil_append, upI_eq, upI_a, upI_i, upR_eq, upR_a, upR_i, h36, ht, E1, E2, E3, E4, E5, E6, E7, fAdd_id, fSub_id, fMul_id, e62, e63]
                                        refine (s260_186 (by omega) kM).mpr ?_
                                        refine m_popFor hA hR (by omega) (by (try simp (disch := decide) only [upI_eq, upI_a, upI_i, upR_eq, upR_a, upR_i]); first | assumption | rfl) (by omega) (by (try simp (disch := decide) only [upI_eq, upI_a, upI_i, upR_eq, upR_a, upR_i]); first | assumption | rfl) (by omega) (fun y186 => ?_) (fun hi186 t186 w186 z186 u186 v186 x186 => ?_)
                                        · skip
                                          try simp (disch := decide) only [upI_eq, upI_a, upI_i, upR_eq, upR_a, upR_i, E1, E4] at y186
                                          try simp (disch := decide) only [upI_eq, upI_a, upI_i, upR_eq, upR_a, upR_i, E1, E4] at x186
                                          refine s260_189.mpr (s260_190.mpr ?_)
                                          refine (s260_191 kM).mpr ?_
                                          refine s260_194.mpr (s260_195.mpr (s260_196.mpr ?_))
                                          try simp (disch := first | decide | assumption | omega) only [kon, knt_some, knt_none, Option.toList_some, Option.toList_none, List.cons_append, List.nil_append, upI_eq, upI_a, upI_i, upR_eq, upR_a, upR_i, h36, ht, E1, E2, E3, E4, E5, E6, E7, fAdd_id, fSub_id, fMul_id, e62, e63]
                                          refine s260_197.mpr (wif (fun c197 => ?_) (fun c197 => ?_))
                                          · first
                                            | (exfalso; omega)
                                            | skip
                                              refine s260_200.mpr (s260_201.mpr ?_)
                                              refine (s260_205 (by omega) kM).mpr ?_
                                              refine m_wants hA (by omega) (by (try simp (disch := decide) only [upI_eq, upI_a, upI_i, upR_eq, upR_a, upR_i]); first | assumption | rfl) (by omega) (fun y205 => ?_) (fun y205 => ?_)
                                              · skip
                                                refine s260_208.mpr ?_
                                                refine (s260_209 kM).mpr ?_
                                                try simp (disch := first | decide | assumption | omega) only [kon, knt_some, knt_none, Option.toList_some, Option.toList_none, List.cons_append, List.nil_append, upI_eq, upI_a, upI_i, upR_eq, upR_a, upR_i, h36, ht, E1, E2, E3, E4, E5, E6, E7, fAdd_id, fSub_id, fMul_id, e62, e63]
                                                refine s260_212.mpr (wif (fun c212 => ?_) (fun c212 => ?_))
                                                · first
                                                  | (exfalso; omega)
                                                  | skip
                                                    refine (s260_215).mpr ?_
                                                    first | (exfalso; omega) | (exact ok _ _ _ ((tsL_37b c1 hb).trans (onw_p ⟨by dsimp only; omega, ⟨hk, hT.1, hT.2⟩, c175, y186.2.2⟩)) (flw1 (by rw [c1]; decide)) (by repeat' (first | assumption | exact FW.rf | refine FW.up ?_ (by unfold wS; omega) | (refine FW.tr ?_ (by assumption)))) (by (try simp (disch := decide) only [upI_eq, upI_a, upI_i, upR_eq, upR_a, upR_i]); try assumption) (by (try simp (disch := decide) only [upI_eq, upI_a, upI_i, upR_eq, upR_a, upR_i]); try assumption) (by simp (disch := decide) only [scX, upI_eq, upI_a, upI_i, upR_eq, upR_a, upR_i, upI_ro, upI_rw, ht, E1, E2, E3, E4, E5, E6, E7]; rfl)) | (exact nob _ (fun h => h.2.2.1 c175) (by repeat' (first | assumption | exact FW.rf | refine FW.up ?_ (by unfold wS; omega) | (refine FW.tr ?_ (by assumption)))) (by (try simp (disch := decide) only [upI_eq, upI_a, upI_i, upR_eq, upR_a, upR_i]); try assumption)) | (exact nob _ (fun h => by rcases x186 with h9 | h9; omega; exact h9 ⟨by omega, h.2.2.2⟩) (by repeat' (first | assumption | exact FW.rf | refine FW.up ?_ (by unfold wS; omega) | (refine FW.tr ?_ (by assumption)))) (by (try simp (disch := decide) only [upI_eq, upI_a, upI_i, upR_eq, upR_a, upR_i]); try assumption))
                                                · first
                                                  | (exfalso; omega)
                                                  | skip
                                                    refine s260_216.mpr ((s260_217 kM).mpr ?_)
                                                    rw [mr_33 hR]
                                                    refine s260_220.mpr (s260_221.mpr (s260_223.mpr ((s260_224 kM).mpr ?_)))
                                                    rw [mr_15 hR]
                                                    refine s260_227.mpr ?_
                                                    refine (s260_229 (hA.k (by decide) (by decide) rfl) (by first | assumption | omega) (by first | assumption | omega)).mpr ?_
                                                    try simp (disch := first | decide | assumption | omega) only [kon, knt_some, knt_none, Option.toList_some, Option.toList_none, List.cons_append, List.nil_append, upI_eq, upI_a, upI_i, upR_eq, upR_a, upR_i, h36, ht, E1, E2, E3, E4, E5, E6, E7, fAdd_id, fSub_id, fMul_id, e62, e63]
                                                    refine (s260_230 (by omega)).mpr ?_
                                                    refine m_inState ⟨v1, v2⟩ eth ?_
                                                    refine (s260_233 (hA.k (by decide) (by decide) rfl) (by first | assumption | omega) (by first | assumption | omega)).mpr ?_
                                                    try simp (disch := first | decide | assumption | omega) only [kon, knt_some, knt_none, Option.toList_some, Option.toList_none, List.cons_append, List.nil_append, upI_eq, upI_a, upI_i, upR_eq, upR_a, upR_i, h36, ht, E1, E2, E3, E4, E5, E6, E7, fAdd_id, fSub_id, fMul_id, e62, e63]
                                                    refine (s260_234).mpr ?_
                                                    first | (exfalso; omega) | (exact ok _ _ _ ((tsL_37b c1 hb).trans (onw_p ⟨by dsimp only; omega, ⟨hk, hT.1, hT.2⟩, c175, y186.2.2⟩)) (flw1 (by rw [c1]; decide)) (by repeat' (first | assumption | exact FW.rf | refine FW.up ?_ (by unfold wS; omega) | (refine FW.tr ?_ (by assumption)))) (by (try simp (disch := decide) only [upI_eq, upI_a, upI_i, upR_eq, upR_a, upR_i]); try assumption) (by (try simp (disch := decide) only [upI_eq, upI_a, upI_i, upR_eq, upR_a, upR_i]); try assumption) (by simp (disch := decide) only [scX, upI_eq, upI_a, upI_i, upR_eq, upR_a, upR_i, upI_ro, upI_rw, ht, E1, E2, E3, E4, E5, E6, E7]; rfl)) | (exact nob _ (fun h => h.2.2.1 c175) (by repeat' (first | assumption | exact FW.rf | refine FW.up ?_ (by unfold wS; omega) | (refine FW.tr ?_ (by assumption)))) (by (try simp (disch := decide) only [upI_eq, upI_a, upI_i, upR_eq, upR_a, upR_i]); try assumption)) | (exact nob _ (fun h => by rcases x186 with h9 | h9; omega; exact h9 ⟨by omega, h.2.2.2⟩) (by repeat' (first | assumption | exact FW.rf | refine FW.up ?_ (by unfold wS; omega) | (refine FW.tr ?_ (by assumption)))) (by (try simp (disch := decide) only [upI_eq, upI_a, upI_i, upR_eq, upR_a, upR_i]); try assumption))
                                              · skip
                                                refine s260_208.mpr ?_
                                                refine (s260_209 kM).mpr ?_
                                                try simp (disch := first | decide | assumption | omega) only [kon, knt_some, knt_none, Option.toList_some, Option.toList_none, List.cons_append, List.nil_append, upI_eq, upI_a, upI_i, upR_eq, upR_a, upR_i, h36, ht, E1, E2, E3, E4, E5, E6, E7, fAdd_id, fSub_id, fMul_id, e62, e63]
                                                refine s260_212.mpr (wif (fun c212 => ?_) (fun c212 => ?_))
                                                · first
                                                  | (exfalso; omega)
                                                  | skip
                                                    refine (s260_215).mpr ?_
                                                    first | (exfalso; omega) | (exact ok _ _ _ ((tsL_37b c1 hb).trans (onw_p ⟨by dsimp only; omega, ⟨hk, hT.1, hT.2⟩, c175, y186.2.2⟩)) (flw1 (by rw [c1]; decide)) (by repeat' (first | assumption | exact FW.rf | refine FW.up ?_ (by unfold wS; omega) | (refine FW.tr ?_ (by assumption)))) (by (try simp (disch := decide) only [upI_eq, upI_a, upI_i, upR_eq, upR_a, upR_i]); try assumption) (by (try simp (disch := decide) only [upI_eq, upI_a, upI_i, upR_eq, upR_a, upR_i]); try assumption) (by simp (disch := decide) only [scX, upI_eq, upI_a, upI_i, upR_eq, upR_a, upR_i, upI_ro, upI_rw, ht, E1, E2, E3, E4, E5, E6, E7]; rfl)) | (exact nob _ (fun h => h.2.2.1 c175) (by repeat' (first | assumption | exact FW.rf | refine FW.up ?_ (by unfold wS; omega) | (refine FW.tr ?_ (by assumption)))) (by (try simp (disch := decide) only [upI_eq, upI_a, upI_i, upR_eq, upR_a, upR_i]); try assumption)) | (exact nob _ (fun h => by rcases x186 with h9 | h9; omega; exact h9 ⟨by omega, h.2.2.2⟩) (by repeat' (first | assumption | exact FW.rf | refine FW.up ?_ (by unfold wS; omega) | (refine FW.tr ?_ (by assumption)))) (by (try simp (disch := decide) only [upI_eq, upI_a, upI_i, upR_eq, upR_a, upR_i]); try assumption))
                                                · first
                                                  | (exfalso; omega)
                                                  | skip
                                                    refine s260_216.mpr ((s260_217 kM).mpr ?_)
                                                    rw [mr_33 hR]
                                                    refine s260_220.mpr (s260_221.mpr (s260_223.mpr ((s260_224 kM).mpr ?_)))
                                                    rw [mr_15 hR]
                                                    refine s260_227.mpr ?_
                                                    refine (s260_229 (hA.k (by decide) (by decide) rfl) (by first | assumption | omega) (by first | assumption | omega)).mpr ?_
                                                    try simp (disch := first | decide | assumption | omega) only [kon, knt_some, knt_none, Option.toList_some, Option.toList_none, List.cons_append, List.nil_append, upI_eq, upI_a, upI_i, upR_eq, upR_a, upR_i, h36, ht, E1, E2, E3, E4, E5, E6, E7, fAdd_id, fSub_id, fMul_id, e62, e63]
                                                    refine (s260_230 (by omega)).mpr ?_
                                                    refine m_inState ⟨v1, v2⟩ eth ?_
                                                    refine (s260_233 (hA.k (by decide) (by decide) rfl) (by first | assumption | omega) (by first | assumption | omega)).mpr ?_
                                                    try simp (disch := first | decide | assumption | omega) only [kon, knt_some, knt_none, Option.toList_some, Option.toList_none, List.cons_append, List.nil_append, upI_eq, upI_a, upI_i, upR_eq, upR_a, upR_i, h36, ht, E1, E2, E3, E4, E5, E6, E7, fAdd_id, fSub_id, fMul_id, e62, e63]
                                                    refine (s260_234).mpr ?_
                                                    first | (exfalso; omega) | (exact ok _ _ _ ((tsL_37b c1 hb).trans (onw_p ⟨by dsimp only; omega, ⟨hk, hT.1, hT.2⟩, c175, y186.2.2⟩)) (flw1 (by rw [c1]; decide)) (by repeat' (first | assumption | exact FW.rf | refine FW.up ?_ (by unfold wS; omega) | (refine FW.tr ?_ (by assumption)))) (by (try simp (disch := decide) only [upI_eq, upI_a, upI_i, upR_eq, upR_a, upR_i]); try assumption) (by (try simp (disch := decide) only [upI_eq, upI_a, upI_i, upR_eq, upR_a, upR_i]); try assumption) (by simp (disch := decide) only [scX, upI_eq, upI_a, upI_i, upR_eq, upR_a, upR_i, upI_ro, upI_rw, ht, E1, E2, E3, E4, E5, E6, E7]; rfl)) | (exact nob _ (fun h => h.2.2.1 c175) (by repeat' (first | assumption | exact FW.rf | refine FW.up ?_ (by unfold wS; omega) | (refine FW.tr ?_ (by assumption)))) (by (try simp (disch := decide) only [upI_eq, upI_a, upI_i, upR_eq, upR_a, upR_i]); try assumption)) | (exact nob _ (fun h => by rcases x186 with h9 | h9; omega; exact h9 ⟨by omega, h.2.2.2⟩) (by repeat' (first | assumption | exact FW.rf | refine FW.up ?_ (by unfold wS; omega) | (refine FW.tr ?_ (by assumption)))) (by (try simp (disch := decide) only [upI_eq, upI_a, upI_i, upR_eq, upR_a, upR_i]); try assumption))
                                          · first
                                            | (exfalso; omega)
                                            | skip
                                              refine s260_204.mpr ?_
                                              refine (s260_205 (by omega) kM).mpr ?_
                                              refine m_wants hA (by omega) (by (try simp (disch := decide) only [upI_eq, upI_a, upI_i, upR_eq, upR_a, upR_i]); first | assumption | rfl) (by omega) (fun y205 => ?_) (fun y205 => ?_)
                                              · skip
                                                refine s260_208.mpr ?_
                                                refine (s260_209 kM).mpr ?_
                                                try simp (disch := first | decide | assumption | omega) only [kon, knt_some, knt_none, Option.toList_some, Option.toList_none, List.cons_append, List.nil_append, upI_eq, upI_a, upI_i, upR_eq, upR_a, upR_i, h36, ht, E1, E2, E3, E4, E5, E6, E7, fAdd_id, fSub_id, fMul_id, e62, e63]
                                                refine s260_212.mpr (wif (fun c212 => ?_) (fun c212 => ?_))
                                                · first
                                                  | (exfalso; omega)
                                                  | skip
                                                    refine (s260_215).mpr ?_
                                                    first | (exfalso; omega) | (exact ok _ _ _ ((tsL_37b c1 hb).trans (onw_p ⟨by dsimp only; omega, ⟨hk, hT.1, hT.2⟩, c175, y186.2.2⟩)) (flw1 (by rw [c1]; decide)) (by repeat' (first | assumption | exact FW.rf | refine FW.up ?_ (by unfold wS; omega) | (refine FW.tr ?_ (by assumption)))) (by (try simp (disch := decide) only [upI_eq, upI_a, upI_i, upR_eq, upR_a, upR_i]); try assumption) (by (try simp (disch := decide) only [upI_eq, upI_a, upI_i, upR_eq, upR_a, upR_i]); try assumption) (by simp (disch := decide) only [scX, upI_eq, upI_a, upI_i, upR_eq, upR_a, upR_i, upI_ro, upI_rw, ht, E1, E2, E3, E4, E5, E6, E7]; rfl)) | (exact nob _ (fun h => h.2.2.1 c175) (by repeat' (first | assumption | exact FW.rf | refine FW.up ?_ (by unfold wS; omega) | (refine FW.tr ?_ (by assumption)))) (by (try simp (disch := decide) only [upI_eq, upI_a, upI_i, upR_eq, upR_a, upR_i]); try assumption)) | (exact nob _ (fun h => by rcases x186 with h9 | h9; omega; exact h9 ⟨by omega, h.2.2.2⟩) (by repeat' (first | assumption | exact FW.rf | refine FW.up ?_ (by unfold wS; omega) | (refine FW.tr ?_ (by assumption)))) (by (try simp (disch := decide) only [upI_eq, upI_a, upI_i, upR_eq, upR_a, upR_i]); try assumption))
                                                · first
                                                  | (exfalso; omega)
                                                  | skip
                                                    refine s260_216.mpr ((s260_217 kM).mpr ?_)
                                                    rw [mr_33 hR]
                                                    refine s260_220.mpr (s260_221.mpr (s260_223.mpr ((s260_224 kM).mpr ?_)))
                                                    rw [mr_15 hR]
                                                    refine s260_227.mpr ?_
                                                    refine (s260_229 (hA.k (by decide) (by decide) rfl) (by first | assumption | omega) (by first | assumption | omega)).mpr ?_
                                                    try simp (disch := first | decide | assumption | omega) only [kon, knt_some, knt_none, Option.toList_some, Option.toList_none, List.cons_append, List.nil_append, upI_eq, upI_a, upI_i, upR_eq, upR_a, upR_i, h36, ht, E1, E2, E3, E4, E5, E6, E7, fAdd_id, fSub_id, fMul_id, e62, e63]
                                                    refine (s260_230 (by omega)).mpr ?_
                                                    refine m_inState ⟨v1, v2⟩ eth ?_
                                                    refine (s260_233 (hA.k (by decide) (by decide) rfl) (by first | assumption | omega) (by first | assumption | omega)).mpr ?_
                                                    try simp (disch := first | decide | assumption | omega) only [kon, knt_some, knt_none, Option.toList_some, Option.toList_none, List.cons_append, List.nil_append, upI_eq, upI_a, upI_i, upR_eq, upR_a, upR_i, h36, ht, E1, E2, E3, E4, E5, E6, E7, fAdd_id, fSub_id, fMul_id, e62, e63]
                                                    refine (s260_234).mpr ?_
                                                    first | (exfalso; omega) | (exact ok _ _ _ ((tsL_37b c1 hb).trans (onw_p ⟨by dsimp only; omega, ⟨hk, hT.1, hT.2⟩, c175, y186.2.2⟩)) (flw1 (by rw [c1]; decide)) (by repeat' (first | assumption | exact FW.rf | refine FW.up ?_ (by unfold wS; omega) | (refine FW.tr ?_ (by assumption)))) (by (try simp (disch := decide) only [upI_eq, upI_a, upI_i, upR_eq, upR_a, upR_i]); try assumption) (by (try simp (disch := decide) only [upI_eq, upI_a, upI_i, upR_eq, upR_a, upR_i]); try assumption) (by simp (disch := decide) only [scX, upI_eq, upI_a, upI_i, upR_eq, upR_a, upR_i, upI_ro, upI_rw, ht, E1, E2, E3, E4, E5, E6, E7]; rfl)) | (exact nob _ (fun h => h.2.2.1 c175) (by repeat' (first | assumption | exact FW.rf | refine FW.up ?_ (by unfold wS; omega) | (refine FW.tr ?_ (by assumption)))) (by (try simp (disch := decide) only [upI_eq, upI_a, upI_i, upR_eq, upR_a, upR_i]); try assumption)) | (exact nob _ (fun h => by rcases x186 with h9 | h9; omega; exact h9 ⟨by omega, h.2.2.2⟩) (by repeat' (first | assumption | exact FW.rf | refine FW.up ?_ (by unfold wS; omega) | (refine FW.tr ?_ (by assumption)))) (by (try simp (disch := decide) only [upI_eq, upI_a, upI_i, upR_eq, upR_a, upR_i]); try assumption))
                                              · skip
                                                refine s260_208.mpr ?_
                                                refine (s260_209 kM).mpr ?_
                                                try simp (disch := first | decide | assumption | omega) only [kon, knt_some, knt_none, Option.toList_some, Option.toList_none, List.cons_append, List.nil_append, upI_eq, upI_a, upI_i, upR_eq, upR_a, upR_i, h36, ht, E1, E2, E3, E4, E5, E6, E7, fAdd_id, fSub_id, fMul_id, e62, e63]
                                                refine s260_212.mpr (wif (fun c212 => ?_) (fun c212 => ?_))
                                                · first
                                                  | (exfalso; omega)
                                                  | skip
                                                    refine (s260_215).mpr ?_
                                                    first | (exfalso; omega) | (exact ok _ _ _ ((tsL_37b c1 hb).trans (onw_p ⟨by dsimp only; omega, ⟨hk, hT.1, hT.2⟩, c175, y186.2.2⟩)) (flw1 (by rw [c1]; decide)) (by repeat' (first | assumption | exact FW.rf | refine FW.up ?_ (by unfold wS; omega) | (refine FW.tr ?_ (by assumption)))) (by (try simp (disch := decide) only [upI_eq, upI_a, upI_i, upR_eq, upR_a, upR_i]); try assumption) (by (try simp (disch := decide) only [upI_eq, upI_a, upI_i, upR_eq, upR_a, upR_i]); try assumption) (by simp (disch := decide) only [scX, upI_eq, upI_a, upI_i, upR_eq, upR_a, upR_i, upI_ro, upI_rw, ht, E1, E2, E3, E4, E5, E6, E7]; rfl)) | (exact nob _ (fun h => h.2.2.1 c175) (by repeat' (first | assumption | exact FW.rf | refine FW.up ?_ (by unfold wS; omega) | (refine FW.tr ?_ (by assumption)))) (by (try simp (disch := decide) only [upI_eq, upI_a, upI_i, upR_eq, upR_a, upR_i]); try assumption)) | (exact nob _ (fun h => by rcases x186 with h9 | h9; omega; exact h9 ⟨by omega, h.2.2.2⟩) (by repeat' (first | assumption | exact FW.rf | refine FW.up ?_ (by unfold wS; omega) | (refine FW.tr ?_ (by assumption)))) (by (try simp (disch := decide) only [upI_eq, upI_a, upI_i, upR_eq, upR_a, upR_i]); try assumption))
                                                · first
                                                  | (exfalso; omega)
                                                  | skip
                                                    refine s260_216.mpr ((s260_217 kM).mpr ?_)
                                                    rw [mr_33 hR]
                                                    refine s260_220.mpr (s260_221.mpr (s260_223.mpr ((s260_224 kM).mpr ?_)))
                                                    rw [mr_15 hR]
                                                    refine s260_227.mpr ?_
                                                    refine (s260_229 (hA.k (by decide) (by decide) rfl) (by first | assumption | omega) (by first | assumption | omega)).mpr ?_
                                                    try simp (disch := first | decide | assumption | omega) only [kon, knt_some, knt_none, Option.toList_some, Option.toList_none, List.cons_append, List.nil_append, upI_eq, upI_a, upI_i, upR_eq, upR_a, upR_i, h36, ht, E1, E2, E3, E4, E5, E6, E7, fAdd_id, fSub_id, fMul_id, e62, e63]
                                                    refine (s260_230 (by omega)).mpr ?_
                                                    refine m_inState ⟨v1, v2⟩ eth ?_
                                                    refine (s260_233 (hA.k (by decide) (by decide) rfl) (by first | assumption | omega) (by first | assumption | omega)).mpr ?_
                                                    try simp (disch := first | decide | assumption | omega) only [kon, knt_some, knt_none, Option.toList_some, Option.toList_none, List.cons_append, List.nil_append, upI_eq, upI_a, upI_i, upR_eq, upR_a, upR_i, h36, ht, E1, E2, E3, E4, E5, E6, E7, fAdd_id, fSub_id, fMul_id, e62, e63]
                                                    refine (s260_234).mpr ?_
                                                    first | (exfalso; omega) | (exact ok _ _ _ ((tsL_37b c1 hb).trans (onw_p ⟨by dsimp only; omega, ⟨hk, hT.1, hT.2⟩, c175, y186.2.2⟩)) (flw1 (by rw [c1]; decide)) (by repeat' (first | assumption | exact FW.rf | refine FW.up ?_ (by unfold wS; omega) | (refine FW.tr ?_ (by assumption)))) (by (try simp (disch := decide) only [upI_eq, upI_a, upI_i, upR_eq, upR_a, upR_i]); try assumption) (by (try simp (disch := decide) only [upI_eq, upI_a, upI_i, upR_eq, upR_a, upR_i]); try assumption) (by simp (disch := decide) only [scX, upI_eq, upI_a, upI_i, upR_eq, upR_a, upR_i, upI_ro, upI_rw, ht, E1, E2, E3, E4, E5, E6, E7]; rfl)) | (exact nob _ (fun h => h.2.2.1 c175) (by repeat' (first | assumption | exact FW.rf | refine FW.up ?_ (by unfold wS; omega) | (refine FW.tr ?_ (by assumption)))) (by (try simp (disch := decide) only [upI_eq, upI_a, upI_i, upR_eq, upR_a, upR_i]); try assumption)) | (exact nob _ (fun h => by rcases x186 with h9 | h9; omega; exact h9 ⟨by omega, h.2.2.2⟩) (by repeat' (first | assumption | exact FW.rf | refine FW.up ?_ (by unfold wS; omega) | (refine FW.tr ?_ (by assumption)))) (by (try simp (disch := decide) only [upI_eq, upI_a, upI_i, upR_eq, upR_a, upR_i]); try assumption))
                                        · skip
                                          try simp (disch := decide) only [upI_eq, upI_a, upI_i, upR_eq, upR_a, upR_i, E1, E4] at y186
                                          try simp (disch := decide) only [upI_eq, upI_a, upI_i, upR_eq, upR_a, upR_i, E1, E4] at x186
                                          refine s260_189.mpr (s260_190.mpr ?_)
                                          refine (s260_191 kM).mpr ?_
                                          refine s260_194.mpr (s260_195.mpr (s260_196.mpr ?_))
                                          try simp (disch := first | decide | assumption | omega) only [kon, knt_some, knt_none, Option.toList_some, Option.toList_none, List.cons_append, List.nil_append, upI_eq, upI_a, upI_i, upR_eq, upR_a, upR_i, h36, ht, E1, E2, E3, E4, E5, E6, E7, fAdd_id, fSub_id, fMul_id, e62, e63]
                                          refine s260_197.mpr (wif (fun c197 => ?_) (fun c197 => ?_))
                                          · first
                                            | (exfalso; omega)
                                            | skip
                                              refine s260_200.mpr (s260_201.mpr ?_)
                                              refine (s260_205 (by omega) kM).mpr ?_
                                              refine m_wants hA (by omega) (by (try simp (disch := decide) only [upI_eq, upI_a, upI_i, upR_eq, upR_a, upR_i]); first | assumption | rfl) (by omega) (fun y205 => ?_) (fun y205 => ?_)
                                              · skip
                                                refine s260_208.mpr ?_
                                                refine (s260_209 kM).mpr ?_
                                                try simp (disch := first | decide | assumption | omega) only [kon, knt_some, knt_none, Option.toList_some, Option.toList_none, List.cons_append, List.nil_append, upI_eq, upI_a, upI_i, upR_eq, upR_a, upR_i, h36, ht, E1, E2, E3, E4, E5, E6, E7, fAdd_id, fSub_id, fMul_id, e62, e63]
                                                refine s260_212.mpr (wif (fun c212 => ?_) (fun c212 => ?_))
                                                · first
                                                  | (exfalso; omega)
                                                  | skip
                                                    refine (s260_215).mpr ?_
                                                    first | (exfalso; omega) | (exact ok _ _ _ ((tsL_37b c1 hb).trans (onw_p ⟨by dsimp only; omega, ⟨hk, hT.1, hT.2⟩, c175, y186.2.2⟩)) (flw1 (by rw [c1]; decide)) (by repeat' (first | assumption | exact FW.rf | refine FW.up ?_ (by unfold wS; omega) | (refine FW.tr ?_ (by assumption)))) (by (try simp (disch := decide) only [upI_eq, upI_a, upI_i, upR_eq, upR_a, upR_i]); try assumption) (by (try simp (disch := decide) only [upI_eq, upI_a, upI_i, upR_eq, upR_a, upR_i]); try assumption) (by simp (disch := decide) only [scX, upI_eq, upI_a, upI_i, upR_eq, upR_a, upR_i, upI_ro, upI_rw, ht, E1, E2, E3, E4, E5, E6, E7]; rfl)) | (exact nob _ (fun h => h.2.2.1 c175) (by repeat' (first | assumption | exact FW.rf | refine FW.up ?_ (by unfold wS; omega) | (refine FW.tr ?_ (by assumption)))) (by (try simp (disch := decide) only [upI_eq, upI_a, upI_i, upR_eq, upR_a, upR_i]); try assumption)) | (exact nob _ (fun h => by rcases x186 with h9 | h9; omega; exact h9 ⟨by omega, h.2.2.2⟩) (by repeat' (first | assumption | exact FW.rf | refine FW.up ?_ (by unfold wS; omega) | (refine FW.tr ?_ (by assumption)))) (by (try simp (disch := decide) only [upI_eq, upI_a, upI_i, upR_eq, upR_a, upR_i]); try assumption))
                                                · first
                                                  | (exfalso; omega)
                                                  | skip
                                                    refine s260_216.mpr ((s260_217 kM).mpr ?_)
                                                    rw [mr_33 hR]
                                                    refine s260_220.mpr (s260_221.mpr (s260_223.mpr ((s260_224 kM).mpr ?_)))
                                                    rw [mr_15 hR]
                                                    refine s260_227.mpr ?_
                                                    refine (s260_229 (hA.k (by decide) (by decide) rfl) (by first | assumption | omega) (by first | assumption | omega)).mpr ?_
                                                    try simp (disch := first | decide | assumption | omega) only [kon, knt_some, knt_none, Option.toList_some, Option.toList_none, List.cons_append, List.nil_append, upI_eq, upI_a, upI_i, upR_eq, upR_a, upR_i, h36, ht, E1, E2, E3, E4, E5, E6, E7, fAdd_id, fSub_id, fMul_id, e62, e63]
                                                    refine (s260_230 (by omega)).mpr ?_
                                                    refine m_inState ⟨v1, v2⟩ eth ?_
                                                    refine (s260_233 (hA.k (by decide) (by decide) rfl) (by first | assumption | omega) (by first | assumption | omega)).mpr ?_
                                                    try simp (disch := first | decide | assumption | omega) only [kon, knt_some, knt_none, Option.toList_some, Option.toList_none, List.cons_append, List.nil_append, upI_eq, upI_a, upI_i, upR_eq, upR_a, upR_i, h36, ht, E1, E2, E3, E4, E5, E6, E7, fAdd_id, fSub_id, fMul_id, e62, e63]
                                                    refine (s260_234).mpr ?_
                                                    first | (exfalso; omega) | (exact ok _ _ _ ((tsL_37b c1 hb).trans (onw_p ⟨by dsimp only; omega, ⟨hk, hT.1, hT.2⟩, c175, y186.2.2⟩)) (flw1 (by rw [c1]; decide)) (by repeat' (first | assumption | exact FW.rf | refine FW.up ?_ (by unfold wS; omega) | (refine FW.tr ?_ (by assumption)))) (by (try simp (disch := decide) only [upI_eq, upI_a, upI_i, upR_eq, upR_a, upR_i]); try assumption) (by (try simp (disch := decide) only [upI_eq, upI_a, upI_i, upR_eq, upR_a, upR_i]); try assumption) (by simp (disch := decide) only [scX, upI_eq, upI_a, upI_i, upR_eq, upR_a, upR_i, upI_ro, upI_rw, ht, E1, E2, E3, E4, E5, E6, E7]; rfl)) | (exact nob _ (fun h => h.2.2.1 c175) (by repeat' (first | assumption | exact FW.rf | refine FW.up ?_ (by unfold wS; omega) | (refine FW.tr ?_ (by assumption)))) (by (try simp (disch := decide) only [upI_eq, upI_a, upI_i, upR_eq, upR_a, upR_i]); try assumption)) | (exact nob _ (fun h => by rcases x186 with h9 | h9; omega; exact h9 ⟨by omega, h.2.2.2⟩) (by repeat' (first | assumption | exact FW.rf | refine FW.up ?_ (by unfold wS; omega) | (refine FW.tr ?_ (by assumption)))) (by (try simp (disch := decide) only [upI_eq, upI_a, upI_i, upR_eq, upR_a, upR_i]); try assumption))
                                              · skip
                                                refine s260_208.mpr ?_
                                                refine (s260_209 kM).mpr ?_
                                                try simp (disch := first | decide | assumption | omega) only [kon, knt_some, knt_none, Option.toList_some, Option.toList_none, List.cons_append, List.nil_append, upI_eq, upI_a, upI_i, upR_eq, upR_a, upR_i, h36, ht, E1, E2, E3, E4, E5, E6, E7, fAdd_id, fSub_id, fMul_id, e62, e63]
                                                refine s260_212.mpr (wif (fun c212 => ?_) (fun c212 => ?_))
                                                · first
                                                  | (exfalso; omega)
                                                  | skip
                                                    refine (s260_215).mpr ?_
                                                    first | (exfalso; omega) | (exact ok _ _ _ ((tsL_37b c1 hb).trans (onw_p ⟨by dsimp only; omega, ⟨hk, hT.1, hT.2⟩, c175, y186.2.2⟩)) (flw1 (by rw [c1]; decide)) (by repeat' (first | assumption | exact FW.rf | refine FW.up ?_ (by unfold wS; omega) | (refine FW.tr ?_ (by assumption)))) (by (try simp (disch := decide) only [upI_eq, upI_a, upI_i, upR_eq, upR_a, upR_i]); try assumption) (by (try simp (disch := decide) only [upI_eq, upI_a, upI_i, upR_eq, upR_a, upR_i]); try assumption) (by simp (disch := decide) only [scX, upI_eq, upI_a, upI_i, upR_eq, upR_a, upR_i, upI_ro, upI_rw, ht, E1, E2, E3, E4, E5, E6, E7]; rfl)) | (exact nob _ (fun h => h.2.2.1 c175) (by repeat' (first | assumption | exact FW.rf | refine FW.up ?_ (by unfold wS; omega) | (refine FW.tr ?_ (by assumption)))) (by (try simp (disch := decide) only [upI_eq, upI_a, upI_i, upR_eq, upR_a, upR_i]); try assumption)) | (exact nob _ (fun h => by rcases x186 with h9 | h9; omega; exact h9 ⟨by omega, h.2.2.2⟩) (by repeat' (first | assumption | exact FW.rf | refine FW.up ?_ (by unfold wS; omega) | (refine FW.tr ?_ (by assumption)))) (by (try simp (disch := decide) only [upI_eq, upI_a, upI_i, upR_eq, upR_a, upR_i]); try assumption))
                                                · first
                                                  | (exfalso; omega)
                                                  | skip
                                                    refine s260_216.mpr ((s260_217 kM).mpr ?_)
                                                    rw [mr_33 hR]
                                                    refine s260_220.mpr (s260_221.mpr (s260_223.mpr ((s260_224 kM).mpr ?_)))
                                                    rw [mr_15 hR]
                                                    refine s260_227.mpr ?_
                                                    refine (s260_229 (hA.k (by decide) (by decide) rfl) (by first | assumption | omega) (by first | assumption | omega)).mpr ?_
                                                    try simp (disch := first | decide | assumption | omega) only [kon, knt_some, knt_none, Option.toList_some, Option.toList_none, List.cons_append, List.nil_append, upI_eq, upI_a, upI_i, upR_eq, upR_a, upR_i, h36, ht, E1, E2, E3, E4, E5, E6, E7, fAdd_id, fSub_id, fMul_id, e62, e63]
                                                    refine (s260_230 (by omega)).mpr ?_
                                                    refine m_inState ⟨v1, v2⟩ eth ?_
                                                    refine (s260_233 (hA.k (by decide) (by decide) rfl) (by first | assumption | omega) (by first | assumption | omega)).mpr ?_
                                                    try simp (disch := first | decide | assumption | omega) only [kon, knt_some, knt_none, Option.toList_some, Option.toList_none, List.cons_append, List.nil_append, upI_eq, upI_a, upI_i, upR_eq, upR_a, upR_i, h36, ht, E1, E2, E3, E4, E5, E6, E7, fAdd_id, fSub_id, fMul_id, e62, e63]
                                                    refine (s260_234).mpr ?_
                                                    first | (exfalso; omega) | (exact ok _ _ _ ((tsL_37b c1 hb).trans (onw_p ⟨by dsimp only; omega, ⟨hk, hT.1, hT.2⟩, c175, y186.2.2⟩)) (flw1 (by rw [c1]; decide)) (by repeat' (first | assumption | exact FW.rf | refine FW.up ?_ (by unfold wS; omega) | (refine FW.tr ?_ (by assumption)))) (by (try simp (disch := decide) only [upI_eq, upI_a, upI_i, upR_eq, upR_a, upR_i]); try assumption) (by (try simp (disch := decide) only [upI_eq, upI_a, upI_i, upR_eq, upR_a, upR_i]); try assumption) (by simp (disch := decide) only [scX, upI_eq, upI_a, upI_i, upR_eq, upR_a, upR_i, upI_ro, upI_rw, ht, E1, E2, E3, E4, E5, E6, E7]; rfl)) | (exact nob _ (fun h => h.2.2.1 c175) (by repeat' (first | assumption | exact FW.rf | refine FW.up ?_ (by unfold wS; omega) | (refine FW.tr ?_ (by assumption)))) (by (try simp (disch := decide) only [upI_eq, upI_a, upI_i, upR_eq, upR_a, upR_i]); try assumption)) | (exact nob _ (fun h => by rcases x186 with h9 | h9; omega; exact h9 ⟨by omega, h.2.2.2⟩) (by repeat' (first | assumption | exact FW.rf | refine FW.up ?_ (by unfold wS; omega) | (refine FW.tr ?_ (by assumption)))) (by (try simp (disch := decide) only [upI_eq, upI_a, upI_i, upR_eq, upR_a, upR_i]); try assumption))
                                          · first
                                            | (exfalso; omega)
                                            | skip
                                              refine s260_204.mpr ?_
                                              refine (s260_205 (by omega) kM).mpr ?_
                                              refine m_wants hA (by omega) (by (try simp (disch := decide) only [upI_eq, upI_a, upI_i, upR_eq, upR_a, upR_i]); first | assumption | rfl) (by omega) (fun y205 => ?_) (fun y205 => ?_)
                                              · skip
                                                refine s260_208.mpr ?_
                                                refine (s260_209 kM).mpr ?_
                                                try simp (disch := first | decide | assumption | omega) only [kon, knt_some, knt_none, Option.toList_some, Option.toList_none, List.cons_append, List.nil_append, upI_eq, upI_a, upI_i, upR_eq, upR_a, upR_i, h36, ht, E1, E2, E3, E4, E5, E6, E7, fAdd_id, fSub_id, fMul_id, e62, e63]
                                                refine s260_212.mpr (wif (fun c212 => ?_) (fun c212 => ?_))
                                                · first
                                                  | (exfalso; omega)
                                                  | skip
                                                    refine (s260_215).mpr ?_
                                                    first | (exfalso; omega) | (exact ok _ _ _ ((tsL_37b c1 hb).trans (onw_p ⟨by dsimp only; omega, ⟨hk, hT.1, hT.2⟩, c175, y186.2.2⟩)) (flw1 (by rw [c1]; decide)) (by repeat' (first | assumption | exact FW.rf | refine FW.up ?_ (by unfold wS; omega) | (refine FW.tr ?_ (by assumption)))) (by (try simp (disch := decide) only [upI_eq, upI_a, upI_i, upR_eq, upR_a, upR_i]); try assumption) (by (try simp (disch := decide) only [upI_eq, upI_a, upI_i, upR_eq, upR_a, upR_i]); try assumption) (by simp (disch := decide) only [scX, upI_eq, upI_a, upI_i, upR_eq, upR_a, upR_i, upI_ro, upI_rw, ht, E1, E2, E3, E4, E5, E6, E7]; rfl)) | (exact nob _ (fun h => h.2.2.1 c175) (by repeat' (first | assumption | exact FW.rf | refine FW.up ?_ (by unfold wS; omega) | (refine FW.tr ?_ (by assumption)))) (by (try simp (disch := decide) only [upI_eq, upI_a, upI_i, upR_eq, upR_a, upR_i]); try assumption)) | (exact nob _ (fun h => by rcases x186 with h9 | h9; omega; exact h9 ⟨by omega, h.2.2.2⟩) (by repeat' (first | assumption | exact FW.rf | refine FW.up ?_ (by unfold wS; omega) | (refine FW.tr ?_ (by assumption)))) (by (try simp (disch := decide) only [upI_eq, upI_a, upI_i, upR_eq, upR_a, upR_i]); try assumption))
                                                · first
                                                  | (exfalso; omega)
                                                  | skip
                                                    refine s260_216.mpr ((s260_217 kM).mpr ?_)
                                                    rw [mr_33 hR]
                                                    refine s260_220.mpr (s260_221.mpr (s260_223.mpr ((s260_224 kM).mpr ?_)))
                                                    rw [mr_15 hR]
                                                    refine s260_227.mpr ?_
                                                    refine (s260_229 (hA.k (by decide) (by decide) rfl) (by first | assumption | omega) (by first | assumption | omega)).mpr ?_
                                                    try simp (disch := first | decide | assumption | omega) only [kon, knt_some, knt_none, Option.toList_some, Option.toList_none, List.cons_append, List.nil_append, upI_eq, upI_a, upI_i, upR_eq, upR_a, upR_i, h36, ht, E1, E2, E3, E4, E5, E6, E7, fAdd_id, fSub_id, fMul_id, e62, e63]
                                                    refine (s260_230 (by omega)).mpr ?_
                                                    refine m_inState ⟨v1, v2⟩ eth ?_
                                                    refine (s260_233 (hA.k (by decide) (by decide) rfl) (by first | assumption | omega) (by first | assumption | omega)).mpr ?_
                                                    try simp (disch := first | decide | assumption | omega) only [kon, knt_some, knt_none, Option.toList_some, Option.toList_none, List.cons_append, List.nil_append, upI_eq, upI_a, upI_i, upR_eq, upR_a, upR_i, h36, ht, E1, E2, E3, E4, E5, E6, E7, fAdd_id, fSub_id, fMul_id, e62, e63]
                                                    refine (s260_234).mpr ?_
                                                    first | (exfalso; omega) | (exact ok _ _ _ ((tsL_37b c1 hb).trans (onw_p ⟨by dsimp only; omega, ⟨hk, hT.1, hT.2⟩, c175, y186.2.2⟩)) (flw1 (by rw [c1]; decide)) (by repeat' (first | assumption | exact FW.rf | refine FW.up ?_ (by unfold wS; omega) | (refine FW.tr ?_ (by assumption)))) (by (try simp (disch := decide) only [upI_eq, upI_a, upI_i, upR_eq, upR_a, upR_i]); try assumption) (by (try simp (disch := decide) only [upI_eq, upI_a, upI_i, upR_eq, upR_a, upR_i]); try assumption) (by simp (disch := decide) only [scX, upI_eq, upI_a, upI_i, upR_eq, upR_a, upR_i, upI_ro, upI_rw, ht, E1, E2, E3, E4, E5, E6, E7]; rfl)) | (exact nob _ (fun h => h.2.2.1 c175) (by repeat' (first | assumption | exact FW.rf | refine FW.up ?_ (by unfold wS; omega) | (refine FW.tr ?_ (by assumption)))) (by (try simp (disch := decide) only [upI_eq, upI_a, upI_i, upR_eq, upR_a, upR_i]); try assumption)) | (exact nob _ (fun h => by rcases x186 with h9 | h9; omega; exact h9 ⟨by omega, h.2.2.2⟩) (by repeat' (first | assumption | exact FW.rf | refine FW.up ?_ (by unfold wS; omega) | (refine FW.tr ?_ (by assumption)))) (by (try simp (disch := decide) only [upI_eq, upI_a, upI_i, upR_eq, upR_a, upR_i]); try assumption))
                                              · skip
                                                refine s260_208.mpr ?_
                                                refine (s260_209 kM).mpr ?_
                                                try simp (disch := first | decide | assumption | omega) only [kon, knt_some, knt_none, Option.toList_some, Option.toList_none, List.cons_append, List.nil_append, upI_eq, upI_a, upI_i, upR_eq, upR_a, upR_i, h36, ht, E1, E2, E3, E4, E5, E6, E7, fAdd_id, fSub_id, fMul_id, e62, e63]
                                                refine s260_212.mpr (wif (fun c212 => ?_) (fun c212 => ?_))
                                                · first
                                                  | (exfalso; omega)
                                                  | skip
                                                    refine (s260_215).mpr ?_
                                                    first | (exfalso; omega) | (exact ok _ _ _ ((tsL_37b c1 hb).trans (onw_p ⟨by dsimp only; omega, ⟨hk, hT.1, hT.2⟩, c175, y186.2.2⟩)) (flw1 (by rw [c1]; decide)) (by repeat' (first | assumption | exact FW.rf | refine FW.up ?_ (by unfold wS; omega) | (refine FW.tr ?_ (by assumption)))) (by (try simp (disch := decide) only [upI_eq, upI_a, upI_i, upR_eq, upR_a, upR_i]); try assumption) (by (try simp (disch := decide) only [upI_eq, upI_a, upI_i, upR_eq, upR_a, upR_i]); try assumption) (by simp (disch := decide) only [scX, upI_eq, upI_a, upI_i, upR_eq, upR_a, upR_i, upI_ro, upI_rw, ht, E1, E2, E3, E4, E5, E6, E7]; rfl)) | (exact nob _ (fun h => h.2.2.1 c175) (by repeat' (first | assumption | exact FW.rf | refine FW.up ?_ (by unfold wS; omega) | (refine FW.tr ?_ (by assumption)))) (by (try simp (disch := decide) only [upI_eq, upI_a, upI_i, upR_eq, upR_a, upR_i]); try assumption)) | (exact nob _ (fun h => by rcases x186 with h9 | h9; omega; exact h9 ⟨by omega, h.2.2.2⟩) (by repeat' (first | assumption | exact FW.rf | refine FW.up ?_ (by unfold wS; omega) | (refine FW.tr ?_ (by assumption)))) (by (try simp (disch := decide) only [upI_eq, upI_a, upI_i, upR_eq, upR_a, upR_i]); try assumption))
                                                · first
                                                  | (exfalso; omega)
                                                  | skip
                                                    refine s260_216.mpr ((s260_217 kM).mpr ?_)
                                                    rw [mr_33 hR]
                                                    refine s260_220.mpr (s260_221.mpr (s260_223.mpr ((s260_224 kM).mpr ?_)))
                                                    rw [mr_15 hR]
                                                    refine s260_227.mpr ?_
                                                    refine (s260_229 (hA.k (by decide) (by decide) rfl) (by first | assumption | omega) (by first | assumption | omega)).mpr ?_
                                                    try simp (disch := first | decide | assumption | omega) only [kon, knt_some, knt_none, Option.toList_some, Option.toList_none, List.cons_append, List.nil_append, upI_eq, upI_a, upI_i, upR_eq, upR_a, upR_i, h36, ht, E1, E2, E3, E4, E5, E6, E7, fAdd_id, fSub_id, fMul_id, e62, e63]
                                                    refine (s260_230 (by omega)).mpr ?_
                                                    refine m_inState ⟨v1, v2⟩ eth ?_
                                                    refine (s260_233 (hA.k (by decide) (by decide) rfl) (by first | assumption | omega) (by first | assumption | omega)).mpr ?_
                                                    try simp (disch := first | decide | assumption | omega) only [kon, knt_some, knt_none, Option.toList_some, Option.toList_none, List.cons_append, List.nil_append, upI_eq, upI_a, upI_i, upR_eq, upR_a, upR_i, h36, ht, E1, E2, E3, E4, E5, E6, E7, fAdd_id, fSub_id, fMul_id, e62, e63]
                                                    refine (s260_234).mpr ?_
                                                    first | (exfalso; omega) | (exact ok _ _ _ ((tsL_37b c1 hb).trans (onw_p ⟨by dsimp only; omega, ⟨hk, hT.1, hT.2⟩, c175, y186.2.2⟩)) (flw1 (by rw [c1]; decide)) (by repeat' (first | assumption | exact FW.rf | refine FW.up ?_ (by unfold wS; omega) | (refine FW.tr ?_ (by assumption)))) (by (try simp (disch := decide) only [upI_eq, upI_a, upI_i, upR_eq, upR_a, upR_i]); try assumption) (by (try simp (disch := decide) only [upI_eq, upI_a, upI_i, upR_eq, upR_a, upR_i]); try assumption) (by simp (disch := decide) only [scX, upI_eq, upI_a, upI_i, upR_eq, upR_a, upR_i, upI_ro, upI_rw, ht, E1, E2, E3, E4, E5, E6, E7]; rfl)) | (exact nob _ (fun h => h.2.2.1 c175) (by repeat' (first | assumption | exact FW.rf | refine FW.up ?_ (by unfold wS; omega) | (refine FW.tr ?_ (by assumption)))) (by (try simp (disch := decide) only [upI_eq, upI_a, upI_i, upR_eq, upR_a, upR_i]); try assumption)) | (exact nob _ (fun h => by rcases x186 with h9 | h9; omega; exact h9 ⟨by omega, h.2.2.2⟩) (by repeat' (first | assumption | exact FW.rf | refine FW.up ?_ (by unfold wS; omega) | (refine FW.tr ?_ (by assumption)))) (by (try simp (disch := decide) only [upI_eq, upI_a, upI_i, upR_eq, upR_a, upR_i]); try assumption))
                              · skip
                                refine s260_147.mpr ?_
                                refine (s260_148 kM).mpr ?_
                                try simp (disch := first | decide | assumption | omega) only [kon, knt_some, knt_none, Option.toList_some, Option.toList_none, List.cons_append, List.nil_append, upI_eq, upI_a, upI_i, upR_eq, upR_a, upR_i, h36, ht, E1, E2, E3, E4, E5, E6, E7, fAdd_id, fSub_id, fMul_id, e62, e63]
                                refine s260_151.mpr (wif (fun c151 => ?_) (fun c151 => ?_))
                                · first
                                  | (exfalso; omega)
                                  | skip
                                    exfalso; omega
                                · first
                                  | (exfalso; omega)
                                  | skip
                                    refine s260_155.mpr (s260_156.mpr (s260_157.mpr ?_))
                                    refine (s260_159 (by omega)).mpr ?_
                                    refine m_stateOf (by omega) ⟨hm0, hm1⟩ hr9 ?_
                                    refine s260_162.mpr (s260_163.mpr (s260_164.mpr (s260_165.mpr (s260_167.mpr ((s260_168 kM).mpr ?_)))))
                                    rw [mr_14 hR]
                                    refine s260_171.mpr ?_
                                    try simp (disch := first | decide | assumption | omega) only [kon, knt_some, knt_none, Option.toList_some, Option.toList_none, List.cons_append, List.nil_append, upI_eq, upI_a, upI_i, upR_eq, upR_a, upR_i, h36, ht, E1, E2, E3, E4, E5, E6, E7, fAdd_id, fSub_id, fMul_id, e62, e63]
                                    refine (s260_173 (hA.k (by decide) (by decide) rfl) (by first | assumption | omega) (by first | assumption | omega)).mpr ?_
                                    refine s260_174.mpr ?_
                                    try simp (disch := first | decide | assumption | omega) only [kon, knt_some, knt_none, Option.toList_some, Option.toList_none, List.cons_append, List.nil_append, upI_eq, upI_a, upI_i, upR_eq, upR_a, upR_i, h36, ht, E1, E2, E3, E4, E5, E6, E7, fAdd_id, fSub_id, fMul_id, e62, e63]
                                    refine s260_175.mpr (wif (fun c175 => ?_) (fun c175 => ?_))
                                    · first
                                      | (exfalso; omega)
                                      | skip
                                        refine s260_189.mpr (s260_190.mpr ?_)
                                        refine (s260_191 kM).mpr ?_
                                        refine s260_194.mpr (s260_195.mpr (s260_196.mpr ?_))
                                        try simp (disch := first | decide | assumption | omega) only [kon, knt_some, knt_none, Option.toList_some, Option.toList_none, List.cons_append, List.nil_append, upI_eq, upI_a, upI_i, upR_eq, upR_a, upR_i, h36, ht, E1, E2, E3, E4, E5, E6, E7, fAdd_id, fSub_id, fMul_id, e62, e63]
                                        refine s260_197.mpr (wif (fun c197 => ?_) (fun c197 => ?_))
                                        · first
                                          | (exfalso; omega)
                                          | skip
                                            refine s260_200.mpr (s260_201.mpr ?_)
                                            refine (s260_205 (by omega) kM).mpr ?_
                                            refine m_wants hA (by omega) (by (try simp (disch := decide) only [upI_eq, upI_a, upI_i, upR_eq, upR_a, upR_i]); first | assumption | rfl) (by omega) (fun y205 => ?_) (fun y205 => ?_)
                                            · skip
                                              refine s260_208.mpr ?_
                                              refine (s260_209 kM).mpr ?_
                                              try simp (disch := first | decide | assumption | omega) only [kon, knt_some, knt_none, Option.toList_some, Option.toList_none, List.cons_append, List.nil_append, upI_eq, upI_a, upI_i, upR_eq, upR_a, upR_i, h36, ht, E1, E2, E3, E4, E5, E6, E7, fAdd_id, fSub_id, fMul_id, e62, e63]
                                              refine s260_212.mpr (wif (fun c212 => ?_) (fun c212 => ?_))
                                              · first
                                                | (exfalso; omega)
                                                | skip
                                                  refine (s260_215).mpr ?_
                                                  first | (exfalso; omega) | (exact ok _ _ _ ((tsL_37b c1 hb).trans (onw_p ⟨by dsimp only; omega, ⟨hk, hT.1, hT.2⟩, c175, y186.2.2⟩)) (flw1 (by rw [c1]; decide)) (by repeat' (first | assumption | exact FW.rf | refine FW.up ?_ (by unfold wS; omega) | (refine FW.tr ?_ (by assumption)))) (by (try simp (disch := decide) only [upI_eq, upI_a, upI_i, upR_eq, upR_a, upR_i]); try assumption) (by (try simp (disch := decide) only [upI_eq, upI_a, upI_i, upR_eq, upR_a, upR_i]); try assumption) (by simp (disch := decide) only [scX, upI_eq, upI_a, upI_i, upR_eq, upR_a, upR_i, upI_ro, upI_rw, ht, E1, E2, E3, E4, E5, E6, E7]; rfl)) | (exact nob _ (fun h => h.2.2.1 c175) (by repeat' (first | assumption | exact FW.rf | refine FW.up ?_ (by unfold wS; omega) | (refine FW.tr ?_ (by assumption)))) (by (try simp (disch := decide) only [upI_eq, upI_a, upI_i, upR_eq, upR_a, upR_i]); try assumption)) | (exact nob _ (fun h => by rcases x186 with h9 | h9; omega; exact h9 ⟨by omega, h.2.2.2⟩) (by repeat' (first | assumption | exact FW.rf | refine FW.up ?_ (by unfold wS; omega) | (refine FW.tr ?_ (by assumption)))) (by (try simp (disch := decide) only [upI_eq, upI_a, upI_i, upR_eq, upR_a, upR_i]); try assumption))
                                              · first
                                                | (exfalso; omega)
                                                | skip
                                                  refine s260_216.mpr ((s260_217 kM).mpr ?_)
                                                  rw [mr_33 hR]
                                                  refine s260_220.mpr (s260_221.mpr (s260_223.mpr ((s260_224 kM).mpr ?_)))
                                                  rw [mr_15 hR]
                                                  refine s260_227.mpr ?_
                                                  refine (s260_229 (hA.k (by decide) (by decide) rfl) (by first | assumption | omega) (by first | assumption | omega)).mpr ?_
                                                  try simp (disch := first | decide | assumption | omega) only [kon, knt_some, knt_none, Option.toList_some, Option.toList_none, List.cons_append, List.nil_append, upI_eq, upI_a, upI_i, upR_eq, upR_a, upR_i, h36, ht, E1, E2, E3, E4, E5, E6, E7, fAdd_id, fSub_id, fMul_id, e62, e63]
                                                  refine (s260_230 (by omega)).mpr ?_
                                                  refine m_inState ⟨v1, v2⟩ eth ?_
                                                  refine (s260_233 (hA.k (by decide) (by decide) rfl) (by first | assumption | omega) (by first | assumption | omega)).mpr ?_
                                                  try simp (disch := first | decide | assumption | omega) only [kon, knt_some, knt_none, Option.toList_some, Option.toList_none, List.cons_append, List.nil_append, upI_eq, upI_a, upI_i, upR_eq, upR_a, upR_i, h36, ht, E1, E2, E3, E4, E5, E6, E7, fAdd_id, fSub_id, fMul_id, e62, e63]
                                                  refine (s260_234).mpr ?_
                                                  first | (exfalso; omega) | (exact ok _ _ _ ((tsL_37b c1 hb).trans (onw_p ⟨by dsimp only; omega, ⟨hk, hT.1, hT.2⟩, c175, y186.2.2⟩)) (flw1 (by rw [c1]; decide)) (by repeat' (first | assumption | exact FW.rf | refine FW.up ?_ (by unfold wS; omega) | (refine FW.tr ?_ (by assumption)))) (by (try simp (disch := decide) only [upI_eq, upI_a, upI_i, upR_eq, upR_a, upR_i]); try assumption) (by (try simp (disch := decide) only [upI_eq, upI_a, upI_i, upR_eq, upR_a, upR_i]); try assumption) (by simp (disch := decide) only [scX, upI_eq, upI_a, upI_i, upR_eq, upR_a, upR_i, upI_ro, upI_rw, ht, E1, E2, E3, E4, E5, E6, E7]; rfl)) | (exact nob _ (fun h => h.2.2.1 c175) (by repeat' (first | assumption | exact FW.rf | refine FW.up ?_ (by unfold wS; omega) | (refine FW.tr ?_ (by assumption)))) (by (try simp (disch := decide) only [upI_eq, upI_a, upI_i, upR_eq, upR_a, upR_i]); try assumption)) | (exact nob _ (fun h => by rcases x186 with h9 | h9; omega; exact h9 ⟨by omega, h.2.2.2⟩) (by repeat' (first | assumption | exact FW.rf | refine FW.up ?_ (by unfold wS; omega) | (refine FW.tr ?_ (by assumption)))) (by (try simp (disch := decide) only [upI_eq, upI_a, upI_i, upR_eq, upR_a, upR_i]); try assumption))
                                            · skip
                                              refine s260_208.mpr ?_
                                              refine (s260_209 kM).mpr ?_
                                              try simp (disch := first | decide | assumption | omega) only [kon, knt_some, knt_none, Option.toList_some, Option.toList_none, List.cons_append, List.nil_append, upI_eq, upI_a, upI_i, upR_eq, upR_a, upR_i, h36, ht, E1, E2, E3, E4, E5, E6, E7, fAdd_id, fSub_id, fMul_id, e62, e63]
                                              refine s260_212.mpr (wif (fun c212 => ?_) (fun c212 => ?_))
                                              · first
                                                | (exfalso; omega)
                                                | skip
                                                  refine (s260_215).mpr ?_
                                                  first | (exfalso; omega) | (exact ok _ _ _ ((tsL_37b c1 hb).trans (onw_p ⟨by dsimp only; omega, ⟨hk, hT.1, hT.2⟩, c175, y186.2.2⟩)) (flw1 (by rw [c1]; decide)) (by repeat' (first | assumption | exact FW.rf | refine FW.up ?_ (by unfold wS; omega) | (refine FW.tr ?_ (by assumption)))) (by (try simp (disch := decide) only [upI_eq, upI_a, upI_i, upR_eq, upR_a, upR_i]); try assumption) (by (try simp (disch := decide) only [upI_eq, upI_a, upI_i, upR_eq, upR_a, upR_i]); try assumption) (by simp (disch := decide) only [scX, upI_eq, upI_a, upI_i, upR_eq, upR_a, upR_i, upI_ro, upI_rw, ht, E1, E2, E3, E4, E5, E6, E7]; rfl)) | (exact nob _ (fun h => h.2.2.1 c175) (by repeat' (first | assumption | exact FW.rf | refine FW.up ?_ (by unfold wS; omega) | (refine FW.tr ?_ (by assumption)))) (by (try simp (disch := decide) only [upI_eq, upI_a, upI_i, upR_eq, upR_a, upR_i]); try assumption)) | (exact nob _ (fun h => by rcases x186 with h9 | h9; omega; exact h9 ⟨by omega, h.2.2.2⟩) (by repeat' (first | assumption | exact FW.rf | refine FW.up ?_ (by unfold wS; omega) | (refine FW.tr ?_ (by assumption)))) (by (try simp (disch := decide) only [upI_eq, upI_a, upI_i, upR_eq, upR_a, upR_i]); try assumption))
                                              · first
                                                | (exfalso; omega)
                                                | skip
                                                  refine s260_216.mpr ((s260_217 kM).mpr ?_)
                                                  rw [mr_33 hR]
                                                  refine s260_220.mpr (s260_221.mpr (s260_223.mpr ((s260_224 kM).mpr ?_)))
                                                  rw [mr_15 hR]
                                                  refine s260_227.mpr ?_
                                                  refine (s260_229 (hA.k (by decide) (by decide) rfl) (by first | assumption | omega) (by first | assumption | omega)).mpr ?_
                                                  try simp (disch := first | decide | assumption | omega) only [kon, knt_some, knt_none, Option.toList_some, Option.toList_none, List.cons_append, List.nil_append, upI_eq, upI_a, upI_i, upR_eq, upR_a, upR_i, h36, ht, E1, E2, E3, E4, E5, E6, E7, fAdd_id, fSub_id, fMul_id, e62, e63]
                                                  refine (s260_230 (by omega)).mpr ?_
                                                  refine m_inState ⟨v1, v2⟩ eth ?_
                                                  refine (s260_233 (hA.k (by decide) (by decide) rfl) (by first | assumption | omega) (by first | assumption | omega)).mpr ?_
                                                  try simp (disch := first | decide | assumption | omega) only [kon, knt_some, knt_none, Option.toList_some, Option.toList_none, List.cons_append, List.nil_append, upI_eq, upI_a, upI_i, upR_eq, upR_a, upR_i, h36, ht, E1, E2, E3, E4, E5, E6, E7, fAdd_id, fSub_id, fMul_id, e62, e63]
                                                  refine (s260_234).mpr ?_
                                                  first | (exfalso; omega) | (exact ok _ _ _ ((tsL_37b c1 hb).trans (onw_p ⟨by dsimp only; omega, ⟨hk, hT.1, hT.2⟩, c175, y186.2.2⟩)) (flw1 (by rw [c1]; decide)) (by repeat' (first | assumption | exact FW.rf | refine FW.up ?_ (by unfold wS; omega) | (refine FW.tr ?_ (by assumption)))) (by (try simp (disch := decide) only [upI_eq, upI_a, upI_i, upR_eq, upR_a, upR_i]); try assumption) (by (try simp (disch := decide) only [upI_eq, upI_a, upI_i, upR_eq, upR_a, upR_i]); try assumption) (by simp (disch := decide) only [scX, upI_eq, upI_a, upI_i, upR_eq, upR_a, upR_i, upI_ro, upI_rw, ht, E1, E2, E3, E4, E5, E6, E7]; rfl)) | (exact nob _ (fun h => h.2.2.1 c175) (by repeat' (first | assumption | exact FW.rf | refine FW.up ?_ (by unfold wS; omega) | (refine FW.tr ?_ (by assumption)))) (by (try simp (disch := decide) only [upI_eq, upI_a, upI_i, upR_eq, upR_a, upR_i]); try assumption)) | (exact nob _ (fun h => by rcases x186 with h9 | h9; omega; exact h9 ⟨by omega, h.2.2.2⟩) (by repeat' (first | assumption | exact FW.rf | refine FW.up ?_ (by unfold wS; omega) | (refine FW.tr ?_ (by assumption)))) (by (try simp (disch := decide) only [upI_eq, upI_a, upI_i, upR_eq, upR_a, upR_i]); try assumption))
                                        · first
                                          | (exfalso; omega)
                                          | skip
                                            refine s260_204.mpr ?_
                                            refine (s260_205 (by omega) kM).mpr ?_
                                            refine m_wants hA (by omega) (by (try simp (disch := decide) only [upI_eq, upI_a, upI_i, upR_eq, upR_a, upR_i]); first | assumption | rfl) (by omega) (fun y205 => ?_) (fun y205 => ?_)
                                            · skip
                                              refine s260_208.mpr ?_
                                              refine (s260_209 kM).mpr ?_
                                              try simp (disch := first | decide | assumption | omega) only [kon, knt_some, knt_none, Option.toList_some, Option.toList_none, List.cons_append, List.nil_append, upI_eq, upI_a, upI_i, upR_eq, upR_a, upR_i, h36, ht, E1, E2, E3, E4, E5, E6, E7, fAdd_id, fSub_id, fMul_id, e62, e63]
                                              refine s260_212.mpr (wif (fun c212 => ?_) (fun c212 => ?_))
                                              · first
                                                | (exfalso; omega)
                                                | skip
                                                  refine (s260_215).mpr ?_
                                                  first | (exfalso; omega) | (exact ok _ _ _ ((tsL_37b c1 hb).trans (onw_p ⟨by dsimp only; omega, ⟨hk, hT.1, hT.2⟩, c175, y186.2.2⟩)) (flw1 (by rw [c1]; decide)) (by repeat' (first | assumption | exact FW.rf | refine FW.up ?_ (by unfold wS; omega) | (refine FW.tr ?_ (by assumption)))) (by (try simp (disch := decide) only [upI_eq, upI_a, upI_i, upR_eq, upR_a, upR_i]); try assumption) (by (try simp (disch := decide) only [upI_eq, upI_a, upI_i, upR_eq, upR_a, upR_i]); try assumption) (by simp (disch := decide) only [scX, upI_eq, upI_a, upI_i, upR_eq, upR_a, upR_i, upI_ro, upI_rw, ht, E1, E2, E3, E4, E5, E6, E7]; rfl)) | (exact nob _ (fun h => h.2.2.1 c175) (by repeat' (first | assumption | exact FW.rf | refine FW.up ?_ (by unfold wS; omega) | (refine FW.tr ?_ (by assumption)))) (by (try simp (disch := decide) only [upI_eq, upI_a, upI_i, upR_eq, upR_a, upR_i]); try assumption)) | (exact nob _ (fun h => by rcases x186 with h9 | h9; omega; exact h9 ⟨by omega, h.2.2.2⟩) (by repeat' (first | assumption | exact FW.rf | refine FW.up ?_ (by unfold wS; omega) | (refine FW.tr ?_ (by assumption)))) (by (try simp (disch := decide) only [upI_eq, upI_a, upI_i, upR_eq, upR_a, upR_i]); try assumption))
                                              · first
                                                | (exfalso; omega)
                                                | skip
                                                  refine s260_216.mpr ((s260_217 kM).mpr ?_)
                                                  rw [mr_33 hR]
                                                  refine s260_220.mpr (s260_221.mpr (s260_223.mpr ((s260_224 kM).mpr ?_)))
                                                  rw [mr_15 hR]
                                                  refine s260_227.mpr ?_
                                                  refine (s260_229 (hA.k (by decide) (by decide) rfl) (by first | assumption | omega) (by first | assumption | omega)).mpr ?_
                                                  try simp (disch := first | decide | assumption | omega) only [kon, knt_some, knt_none, Option.toList_some, Option.toList_none, List.cons_append, List.nil_append, upI_eq, upI_a, upI_i, upR_eq, upR_a, upR_i, h36, ht, E1, E2, E3, E4, E5, E6, E7, fAdd_id, fSub_id, fMul_id, e62, e63]
                                                  refine (s260_230 (by omega)).mpr ?_
                                                  refine m_inState ⟨v1, v2⟩ eth ?_
                                                  refine (s260_233 (hA.k (by decide) (by decide) rfl) (by first | assumption | omega) (by first | assumption | omega)).mpr ?_
                                                  try simp (disch := first | decide | assumption | omega) only [kon, knt_some, knt_none, Option.toList_some, Option.toList_none, List.cons_append, List.nil_append, upI_eq, upI_a, upI_i, upR_eq, upR_a, upR_i, h36, ht, E1, E2, E3, E4, E5, E6, E7, fAdd_id, fSub_id, fMul_id, e62, e63]
                                                  refine (s260_234).mpr ?_
                                                  first | (exfalso; omega) | (exact ok _ _ _ ((tsL_37b c1 hb).trans (onw_p ⟨by dsimp only; omega, ⟨hk, hT.1, hT.2⟩, c175, y186.2.2⟩)) (flw1 (by rw [c1]; decide)) (by repeat' (first | assumption | exact FW.rf | refine FW.up ?_ (by unfold wS; omega) | (refine FW.tr ?_ (by assumption)))) (by (try simp (disch := decide) only [upI_eq, upI_a, upI_i, upR_eq, upR_a, upR_i]); try assumption) (by (try simp (disch := decide) only [upI_eq, upI_a, upI_i, upR_eq, upR_a, upR_i]); try assumption) (by simp (disch := decide) only [scX, upI_eq, upI_a, upI_i, upR_eq, upR_a, upR_i, upI_ro, upI_rw, ht, E1, E2, E3, E4, E5, E6, E7]; rfl)) | (exact nob _ (fun h => h.2.2.1 c175) (by repeat' (first | assumption | exact FW.rf | refine FW.up ?_ (by unfold wS; omega) | (refine FW.tr ?_ (by assumption)))) (by (try simp (disch := decide) only [upI_eq, upI_a, upI_i, upR_eq, upR_a, upR_i]); try assumption)) | (exact nob _ (fun h => by rcases x186 with h9 | h9; omega; exact h9 ⟨by omega, h.2.2.2⟩) (by repeat' (first | assumption | exact FW.rf | refine FW.up ?_ (by unfold wS; omega) | (refine FW.tr ?_ (by assumption)))) (by (try simp (disch := decide) only [upI_eq, upI_a, upI_i, upR_eq, upR_a, upR_i]); try assumption))
                                            · skip
                                              refine s260_208.mpr ?_
                                              refine (s260_209 kM).mpr ?_
                                              try simp (disch := first | decide | assumption | omega) only [kon, knt_some, knt_none, Option.toList_some, Option.toList_none, List.cons_append, List.nil_append, upI_eq, upI_a, upI_i, upR_eq, upR_a, upR_i, h36, ht, E1, E2, E3, E4, E5, E6, E7, fAdd_id, fSub_id, fMul_id, e62, e63]
                                              refine s260_212.mpr (wif (fun c212 => ?_) (fun c212 => ?_))
                                              · first
                                                | (exfalso; omega)
                                                | skip
                                                  refine (s260_215).mpr ?_
                                                  first | (exfalso; omega) | (exact ok _ _ _ ((tsL_37b c1 hb).trans (onw_p ⟨by dsimp only; omega, ⟨hk, hT.1, hT.2⟩, c175, y186.2.2⟩)) (flw1 (by rw [c1]; decide)) (by repeat' (first | assumption | exact FW.rf | refine FW.up ?_ (by unfold wS; omega) | (refine FW.tr ?_ (by assumption)))) (by (try simp (disch := decide) only [upI_eq, upI_a, upI_i, upR_eq, upR_a, upR_i]); try assumption) (by (try simp (disch := decide) only [upI_eq, upI_a, upI_i, upR_eq, upR_a, upR_i]); try assumption) (by simp (disch := decide) only [scX, upI_eq, upI_a, upI_i, upR_eq, upR_a, upR_i, upI_ro, upI_rw, ht, E1, E2, E3, E4, E5, E6, E7]; rfl)) | (exact nob _ (fun h => h.2.2.1 c175) (by repeat' (first | assumption | exact FW.rf | refine FW.up ?_ (by unfold wS; omega) | (refine FW.tr ?_ (by assumption)))) (by (try simp (disch := decide) only [upI_eq, upI_a, upI_i, upR_eq, upR_a, upR_i]); try assumption)) | (exact nob _ (fun h => by rcases x186 with h9 | h9; omega; exact h9 ⟨by omega, h.2.2.2⟩) (by repeat' (first | assumption | exact FW.rf | refine FW.up ?_ (by unfold wS; omega) | (refine FW.tr ?_ (by assumption)))) (by (try simp (disch := decide) only [upI_eq, upI_a, upI_i, upR_eq, upR_a, upR_i]); try assumption))
                                              · first
                                                | (exfalso; omega)
                                                | skip
                                                  refine s260_216.mpr ((s260_217 kM).mpr ?_)
                                                  rw [mr_33 hR]
                                                  refine s260_220.mpr (s260_221.mpr (s260_223.mpr ((s260_224 kM).mpr ?_)))
                                                  rw [mr_15 hR]
                                                  refine s260_227.mpr ?_
                                                  refine (s260_229 (hA.k (by decide) (by decide) rfl) (by first | assumption | omega) (by first | assumption | omega)).mpr ?_
                                                  try simp (disch := first | decide | assumption | omega) only [kon, knt_some, knt_none, Option.toList_some, Option.toList_none, List.cons_append, List.nil_append, upI_eq, upI_a, upI_i, upR_eq, upR_a, upR_i, h36, ht, E1, E2, E3, E4, E5, E6, E7, fAdd_id, fSub_id, fMul_id, e62, e63]
                                                  refine (s260_230 (by omega)).mpr ?_
                                                  refine m_inState ⟨v1, v2⟩ eth ?_
                                                  refine (s260_233 (hA.k (by decide) (by decide) rfl) (by first | assumption | omega) (by first | assumption | omega)).mpr ?_
                                                  try simp (disch := first | decide | assumption | omega) only [kon, knt_some, knt_none, Option.toList_some, Option.toList_none, List.cons_append, List.nil_append, upI_eq, upI_a, upI_i, upR_eq, upR_a, upR_i, h36, ht, E1, E2, E3, E4, E5, E6, E7, fAdd_id, fSub_id, fMul_id, e62, e63]
                                                  refine (s260_234).mpr ?_
                                                  first | (exfalso; omega) | (exact ok _ _ _ ((tsL_37b c1 hb).trans (onw_p ⟨by dsimp only; omega, ⟨hk, hT.1, hT.2⟩, c175, y186.2.2⟩)) (flw1 (by rw [c1]; decide)) (by repeat' (first | assumption | exact FW.rf | refine FW.up ?_ (by unfold wS; omega) | (refine FW.tr ?_ (by assumption)))) (by (try simp (disch := decide) only [upI_eq, upI_a, upI_i, upR_eq, upR_a, upR_i]); try assumption) (by (try simp (disch := decide) only [upI_eq, upI_a, upI_i, upR_eq, upR_a, upR_i]); try assumption) (by simp (disch := decide) only [scX, upI_eq, upI_a, upI_i, upR_eq, upR_a, upR_i, upI_ro, upI_rw, ht, E1, E2, E3, E4, E5, E6, E7]; rfl)) | (exact nob _ (fun h => h.2.2.1 c175) (by repeat' (first | assumption | exact FW.rf | refine FW.up ?_ (by unfold wS; omega) | (refine FW.tr ?_ (by assumption)))) (by (try simp (disch := decide) only [upI_eq, upI_a, upI_i, upR_eq, upR_a, upR_i]); try assumption)) | (exact nob _ (fun h => by rcases x186 with h9 | h9; omega; exact h9 ⟨by omega, h.2.2.2⟩) (by repeat' (first | assumption | exact FW.rf | refine FW.up ?_ (by unfold wS; omega) | (refine FW.tr ?_ (by assumption)))) (by (try simp (disch := decide) only [upI_eq, upI_a, upI_i, upR_eq, upR_a, upR_i]); try assumption))
                                    · first
                                      | (exfalso; omega)
                                      | skip
                                        refine s260_178.mpr (s260_179.mpr ((s260_180 kM).mpr ?_))
                                        rw [mr_14 hR]
                                        refine s260_183.mpr ?_
                                        refine (s260_185 (hA.k (by decide) (by decide) rfl) (by first | assumption | omega) (by first | assumption | omega)).mpr ?_
                                        try simp (disch := first | decide | assumption | omega) only [kon, knt_some, knt_none, Option.toList_some, Option.toList_none, List.cons_append, List.nil_append, upI_eq, upI_a, upI_i, upR_eq, upR_a, upR_i, h36, ht, E1, E2, E3, E4, E5, E6, E7, fAdd_id, fSub_id, fMul_id, e62, e63]
                                        refine (s260_186 (by omega) kM).mpr ?_
                                        refine m_popFor hA hR (by omega) (by (try simp (disch := decide) only [upI_eq, upI_a, upI_i, upR_eq, upR_a, upR_i]); first | assumption | rfl) (by omega) (by (try simp (disch := decide) only [upI_eq, upI_a, upI_i, upR_eq, upR_a, upR_i]); first | assumption | rfl) (by omega) (fun y186 => ?_) (fun hi186 t186 w186 z186 u186 v186 x186 => ?_)
                                        · skip
                                          try simp (disch := decide) only [upI_eq, upI_a, upI_i, upR_eq, upR_a, upR_i, E1, E4] at y186
                                          try simp (disch := decide) only [upI_eq, upI_a, upI_i, upR_eq, upR_a, upR_i, E1, E4] at x186
                                          refine s260_189.mpr (s260_190.mpr ?_)
                                          refine (s260_191 kM).mpr ?_
                                          refine s260_194.mpr (s260_195.mpr (s260_196.mpr ?_))
                                          try simp (disch := first | decide | assumption | omega) only [kon, knt_some, knt_none, Option.toList_some, Option.toList_none, List.cons_append, List.nil_append, upI_eq, upI_a, upI_i, upR_eq, upR_a, upR_i, h36, ht, E1, E2, E3, E4, E5, E6, E7, fAdd_id, fSub_id, fMul_id, e62, e63]
                                          refine s260_197.mpr (wif (fun c197 => ?_) (fun c197 => ?_))
                                          · first
                                            | (exfalso; omega)
                                            | skip
                                              refine s260_200.mpr (s260_201.mpr ?_)
                                              refine (s260_205 (by omega) kM).mpr ?_
                                              refine m_wants hA (by omega) (by (try simp (disch := decide) only [upI_eq, upI_a, upI_i, upR_eq, upR_a, upR_i]); first | assumption | rfl) (by omega) (fun y205 => ?_) (fun y205 => ?_)
                                              · skip
                                                refine s260_208.mpr ?_
                                                refine (s260_209 kM).mpr ?_
                                                try simp (disch := first | decide | assumption | omega) only [kon, knt_some, knt_none, Option.toList_some, Option.toList_none, List.cons_append, List.nil_append, upI_eq, upI_a, upI_i, upR_eq, upR_a, upR_i, h36, ht, E1, E2, E3, E4, E5, E6, E7, fAdd_id, fSub_id, fMul_id, e62, e63]
                                                refine s260_212.mpr (wif (fun c212 => ?_) (fun c212 => ?_))
                                                · first
                                                  | (exfalso; omega)
                                                  | skip
                                                    refine (s260_215).mpr ?_
                                                    first | (exfalso; omega) | (exact ok _ _ _ ((tsL_37b c1 hb).trans (onw_p ⟨by dsimp only; omega, ⟨hk, hT.1, hT.2⟩, c175, y186.2.2⟩)) (flw1 (by rw [c1]; decide)) (by repeat' (first | assumption | exact FW.rf | refine FW.up ?_ (by unfold wS; omega) | (refine FW.tr ?_ (by assumption)))) (by (try simp (disch := decide) only [upI_eq, upI_a, upI_i, upR_eq, upR_a, upR_i]); try assumption) (by (try simp (disch := decide) only [upI_eq, upI_a, upI_i, upR_eq, upR_a, upR_i]); try assumption) (by simp (disch := decide) only [scX, upI_eq, upI_a, upI_i, upR_eq, upR_a, upR_i, upI_ro, upI_rw, ht, E1, E2, E3, E4, E5, E6, E7]; rfl)) | (exact nob _ (fun h => h.2.2.1 c175) (by repeat' (first | assumption | exact FW.rf | refine FW.up ?_ (by unfold wS; omega) | (refine FW.tr ?_ (by assumption)))) (by (try simp (disch := decide) only [upI_eq, upI_a, upI_i, upR_eq, upR_a, upR_i]); try assumption)) | (exact nob _ (fun h => by rcases x186 with h9 | h9; omega; exact h9 ⟨by omega, h.2.2.2⟩) (by repeat' (first | assumption | exact FW.rf | refine FW.up ?_ (by unfold wS; omega) | (refine FW.tr ?_ (by assumption)))) (by (try simp (disch := decide) only [upI_eq, upI_a, upI_i, upR_eq, upR_a, upR_i]); try assumption))
                                                · first
                                                  | (exfalso; omega)
                                                  | skip
                                                    refine s260_216.mpr ((s260_217 kM).mpr ?_)
                                                    rw [mr_33 hR]
                                                    refine s260_220.mpr (s260_221.mpr (s260_223.mpr ((s260_224 kM).mpr ?_)))
                                                    rw [mr_15 hR]
                                                    refine s260_227.mpr ?_
                                                    refine (s260_229 (hA.k (by decide) (by decide) rfl) (by first | assumption | omega) (by first | assumption | omega)).mpr ?_
                                                    try simp (disch := first | decide | assumption | omega) only [kon, knt_some, knt_none, Option.toList_some, Option.toList_none, List.cons_append, List.nil_append, upI_eq, upI_a, upI_i, upR_eq, upR_a, upR_i, h36, ht, E1, E2, E3, E4, E5, E6, E7, fAdd_id, fSub_id, fMul_id, e62, e63]
                                                    refine (s260_230 (by omega)).mpr ?_
                                                    refine m_inState ⟨v1, v2⟩ eth ?_
                                                    refine (s260_233 (hA.k (by decide) (by decide) rfl) (by first | assumption | omega) (by first | assumption | omega)).mpr ?_
                                                    try simp (disch := first | decide | assumption | omega) only [kon, knt_some, knt_none, Option.toList_some, Option.toList_none, List.cons_append, List.nil_append, upI_eq, upI_a, upI_i, upR_eq, upR_a, upR_i, h36, ht, E1, E2, E3, E4, E5, E6, E7, fAdd_id, fSub_id, fMul_id, e62, e63]
                                                    refine (s260_234).mpr ?_
                                                    first | (exfalso; omega) | (exact ok _ _ _ ((tsL_37b c1 hb).trans (onw_p ⟨by dsimp only; omega, ⟨hk, hT.1, hT.2⟩, c175, y186.2.2⟩)) (flw1 (by rw [c1]; decide)) (by repeat' (first | assumption | exact FW.rf | refine FW.up ?_ (by unfold wS; omega) | (refine FW.tr ?_ (by assumption)))) (by (try simp (disch := decide) only [upI_eq, upI_a, upI_i, upR_eq, upR_a, upR_i]); try assumption) (by (try simp (disch := decide) only [upI_eq, upI_a, upI_i, upR_eq, upR_a, upR_i]); try assumption) (by simp (disch := decide) only [scX, upI_eq, upI_a, upI_i, upR_eq, upR_a, upR_i, upI_ro, upI_rw, ht, E1, E2, E3, E4, E5, E6, E7]; rfl)) | (exact nob _ (fun h => h.2.2.1 c175) (by repeat' (first | assumption | exact FW.rf | refine FW.up ?_ (by unfold wS; omega) | (refine FW.tr ?_ (by assumption)))) (by (try simp (disch := decide) only [upI_eq, upI_a, upI_i, upR_eq, upR_a, upR_i]); try assumption)) | (exact nob _ (fun h => by rcases x186 with h9 | h9; omega; exact h9 ⟨by omega, h.2.2.2⟩) (by repeat' (first | assumption | exact FW.rf | refine FW.up ?_ (by unfold wS; omega) | (refine FW.tr ?_ (by assumption)))) (by (try simp (disch := decide) only [upI_eq, upI_a, upI_i, upR_eq, upR_a, upR_i]); try assumption))
                                              · skip
                                                refine s260_208.mpr ?_
                                                refine (s260_209 kM).mpr ?_
                                                try simp (disch := first | decide | assumption | omega) only [kon, knt_some, knt_none, Option.toList_some, Option.toList_none, List.cons_append, List.nil_append, upI_eq, upI_a, upI_i, upR_eq, upR_a, upR_i, h36, ht, E1, E2, E3, E4, E5, E6, E7, fAdd_id, fSub_id, fMul_id, e62, e63]
                                                refine s260_212.mpr (wif (fun c212 => ?_) (fun c212 => ?_))
                                                · first
                                                  | (exfalso; omega)
                                                  | skip
                                                    refine (s260_215).mpr ?_
                                                    first | (exfalso; omega) | (exact ok _ _ _ ((tsL_37b c1 hb).trans (onw_p ⟨by dsimp only; omega, ⟨hk, hT.1, hT.2⟩, c175, y186.2.2⟩)) (flw1 (by rw [c1]; decide)) (by repeat' (first | assumption | exact FW.rf | refine FW.up ?_ (by unfold wS; omega) | (refine FW.tr ?_ (by assumption)))) (by (try simp (disch := decide) only [upI_eq, upI_a, upI_i, upR_eq, upR_a, upR_i]); try assumption) (by (try simp (disch := decide) only [upI_eq, upI_a, upI_i, upR_eq, upR_a, upR_i]); try assumption) (by simp (disch := decide) only [scX, upI_eq, upI_a, upI_i, upR_eq, upR_a, upR_i, upI_ro, upI_rw, ht, E1, E2, E3, E4, E5, E6, E7]; rfl)) | (exact nob _ (fun h => h.2.2.1 c175) (by repeat' (first | assumption | exact FW.rf | refine FW.up ?_ (by unfold wS; omega) | (refine FW.tr ?_ (by assumption)))) (by (try simp (disch := decide) only [upI_eq, upI_a, upI_i, upR_eq, upR_a, upR_i]); try assumption)) | (exact nob _ (fun h => by rcases x186 with h9 | h9; omega; exact h9 ⟨by omega, h.2.2.2⟩) (by repeat' (first | assumption | exact FW.rf | refine FW.up ?_ (by unfold wS; omega) | (refine FW.tr ?_ (by assumption)))) (by (try simp (disch := decide) only [upI_eq, upI_a, upI_i, upR_eq, upR_a, upR_i]); try assumption))
                                                · first
                                                  | (exfalso; omega)
                                                  | skip
                                                    refine s260_216.mpr ((s260_217 kM).mpr ?_)
                                                    rw [mr_33 hR]
                                                    refine s260_220.mpr (s260_221.mpr (s260_223.mpr ((s260_224 kM).mpr ?_)))
                                                    rw [mr_15 hR]
                                                    refine s260_227.mpr ?_
                                                    refine (s260_229 (hA.k (by decide) (by decide) rfl) (by first | assumption | omega) (by first | assumption | omega)).mpr ?_
                                                    try simp (disch := first | decide | assumption | omega) only [kon, knt_some, knt_none, Option.toList_some, Option.toList_none, List.cons_append, List.nil_append, upI_eq, upI_a, upI_i, upR_eq, upR_a, upR_i, h36, ht, E1, E2, E3, E4, E5, E6, E7, fAdd_id, fSub_id, fMul_id, e62, e63]
                                                    refine (s260_230 (by omega)).mpr ?_
                                                    refine m_inState ⟨v1, v2⟩ eth ?_
                                                    refine (s260_233 (hA.k (by decide) (by decide) rfl) (by first | assumption | omega) (by first | assumption | omega)).mpr ?_
                                                    try simp (disch := first | decide | assumption | omega) only [kon, knt_some, knt_none, Option.toList_some, Option.toList_none, List.cons_append, List.nil_append, upI_eq, upI_a, upI_i, upR_eq, upR_a, upR_i, h36, ht, E1, E2, E3, E4, E5, E6, E7, fAdd_id, fSub_id, fMul_id, e62, e63]
                                                    refine (s260_234).mpr ?_
                                                    first | (exfalso; omega) | (exact ok _ _ _ ((tsL_37b c1 hb).trans (onw_p ⟨by dsimp only; omega, ⟨hk, hT.1, hT.2⟩, c175, y186.2.2⟩)) (flw1 (by rw [c1]; decide)) (by repeat' (first | assumption | exact FW.rf | refine FW.up ?_ (by unfold wS; omega) | (refine FW.tr ?_ (by assumption)))) (by (try simp (disch := decide) only [upI_eq, upI_a, upI_i, upR_eq, upR_a, upR_i]); try assumption) (by (try simp (disch := decide) only [upI_eq, upI_a, upI_i, upR_eq, upR_a, upR_i]); try assumption) (by simp (disch := decide) only [scX, upI_eq, upI_a, upI_i, upR_eq, upR_a, upR_i, upI_ro, upI_rw, ht, E1, E2, E3, E4, E5, E6, E7]; rfl)) | (exact nob _ (fun h => h.2.2.1 c175) (by repeat' (first | assumption | exact FW.rf | refine FW.up ?_ (by unfold wS; omega) | (refine FW.tr ?_ (by assumption)))) (by (try simp (disch := decide) only [upI_eq, upI_a, upI_i, upR_eq, upR_a, upR_i]); try assumption)) | (exact nob _ (fun h => by rcases x186 with h9 | h9; omega; exact h9 ⟨by omega, h.2.2.2⟩) (by repeat' (first | assumption | exact FW.rf | refine FW.up ?_ (by unfold wS; omega) | (refine FW.tr ?_ (by assumption)))) (by (try simp (disch := decide) only [upI_eq, upI_a, upI_i, upR_eq, upR_a, upR_i]); try assumption))
                                          · first
                                            | (exfalso; omega)
                                            | skip
                                              refine s260_204.mpr ?_
                                              refine (s260_205 (by omega) kM).mpr ?_
                                              refine m_wants hA (by omega) (by (try simp (disch := decide) only [upI_eq, upI_a, upI_i, upR_eq, upR_a, upR_i]); first | assumption | rfl) (by omega) (fun y205 => ?_) (fun y205 => ?_)
                                              · skip
                                                refine s260_208.mpr ?_
                                                refine (s260_209 kM).mpr ?_
                                                try simp (disch := first | decide | assumption | omega) only [kon, knt_some, knt_none, Option.toList_some, Option.toList_none, List.cons_append, List.nil_append, upI_eq, upI_a, upI_i, upR_eq, upR_a, upR_i, h36, ht, E1, E2, E3, E4, E5, E6, E7, fAdd_id, fSub_id, fMul_id, e62, e63]
                                                refine s260_212.mpr (wif (fun c212 => ?_) (fun c212 => ?_))
                                                · first
                                                  | (exfalso; omega)
                                                  | skip
                                                    refine (s260_215).mpr ?_
                                                    first | (exfalso; omega) | (exact ok _ _ _ ((tsL_37b c1 hb).trans (onw_p ⟨by dsimp only; omega, ⟨hk, hT.1, hT.2⟩, c175, y186.2.2⟩)) (flw1 (by rw [c1]; decide)) (by repeat' (first | assumption | exact FW.rf | refine FW.up ?_ (by unfold wS; omega) | (refine FW.tr ?_ (by assumption)))) (by (try simp (disch := decide) only [upI_eq, upI_a, upI_i, upR_eq, upR_a, upR_i]); try assumption) (by (try simp (disch := decide) only [upI_eq, upI_a, upI_i, upR_eq, upR_a, upR_i]); try assumption) (by simp (disch := decide) only [scX, upI_eq, upI_a, upI_i, upR_eq, upR_a, upR_i, upI_ro, upI_rw, ht, E1, E2, E3, E4, E5, E6, E7]; rfl)) | (exact nob _ (fun h => h.2.2.1 c175) (by repeat' (first | assumption | exact FW.rf | refine FW.up ?_ (by unfold wS; omega) | (refine FW.tr ?_ (by assumption)))) (by (try simp (disch := decide) only [upI_eq, upI_a, upI_i, upR_eq, upR_a, upR_i]); try assumption)) | (exact nob _ (fun h => by rcases x186 with h9 | h9; omega; exact h9 ⟨by omega, h.2.2.2⟩) (by repeat' (first | assumption | exact FW.rf | refine FW.up ?_ (by unfold wS; omega) | (refine FW.tr ?_ (by assumption)))) (by (try simp (disch := decide) only [upI_eq, upI_a, upI_i, upR_eq, upR_a, upR_i]); try assumption))
                                                · first
                                                  | (exfalso; omega)
                                                  | skip
                                                    refine s260_216.mpr ((s260_217 kM).mpr ?_)
                                                    rw [mr_33 hR]
                                                    refine s260_220.mpr (s260_221.mpr (s260_223.mpr ((s260_224 kM).mpr ?_)))
                                                    rw [mr_15 hR]
                                                    refine s260_227.mpr ?_
                                                    refine (s260_229 (hA.k (by decide) (by decide) rfl) (by first | assumption | omega) (by first | assumption | omega)).mpr ?_
                                                    try simp (disch := first | decide | assumption | omega) only [kon, knt_some, knt_none, Option.toList_some, Option.toList_none, List.cons_append, List.nil_append, upI_eq, upI_a, upI_i, upR_eq, upR_a, upR_i, h36, ht, E1, E2, E3, E4, E5, E6, E7, fAdd_id, fSub_id, fMul_id, e62, e63]
                                                    refine (s260_230 (by omega)).mpr ?_
                                                    refine m_inState ⟨v1, v2⟩ eth ?_
                                                    refine (s260_233 (hA.k (by decide) (by decide) rfl) (by first | assumption | omega) (by first | assumption | omega)).mpr ?_
                                                    try simp (disch := first | decide | assumption | omega) only [kon, knt_some, knt_none, Option.toList_some, Option.toList_none, List.cons_append, List.nil_append, upI_eq, upI_a, upI_i, upR_eq, upR_a, upR_i, h36, ht, E1, E2, E3, E4, E5, E6, E7, fAdd_id, fSub_id, fMul_id, e62, e63]
                                                    refine (s260_234).mpr ?_
                                                    first | (exfalso; omega) | (exact ok _ _ _ ((tsL_37b c1 hb).trans (onw_p ⟨by dsimp only; omega, ⟨hk, hT.1, hT.2⟩, c175, y186.2.2⟩)) (flw1 (by rw [c1]; decide)) (by repeat' (first | assumption | exact FW.rf | refine FW.up ?_ (by unfold wS; omega) | (refine FW.tr ?_ (by assumption)))) (by (try simp (disch := decide) only [upI_eq, upI_a, upI_i, upR_eq, upR_a, upR_i]); try assumption) (by (try simp (disch := decide) only [upI_eq, upI_a, upI_i, upR_eq, upR_a, upR_i]); try assumption) (by simp (disch := decide) only [scX, upI_eq, upI_a, upI_i, upR_eq, upR_a, upR_i, upI_ro, upI_rw, ht, E1, E2, E3, E4, E5, E6, E7]; rfl)) | (exact nob _ (fun h => h.2.2.1 c175) (by repeat' (first | assumption | exact FW.rf | refine FW.up ?_ (by unfold wS; omega) | (refine FW.tr ?_ (by assumption)))) (by (try simp (disch := decide) only [upI_eq, upI_a, upI_i, upR_eq, upR_a, upR_i]); try assumption)) | (exact nob _ (fun h => by rcases x186 with h9 | h9; omega; exact h9 ⟨by omega, h.2.2.2⟩) (by repeat' (first | assumption | exact FW.rf | refine FW.up ?_ (by unfold wS; omega) | (refine FW.tr ?_ (by assumption)))) (by (try simp (disch := decide) only [upI_eq, upI_a, upI_i, upR_eq, upR_a, upR_i]); try assumption))
                                              · skip
                                                refine s260_208.mpr ?_
                                                refine (s260_209 kM).mpr ?_
                                                try simp (disch := first | decide | assumption | omega) only [kon, knt_some, knt_none, Option.toList_some, Option.toList_none, List.cons_append, List.nil_append, upI_eq, upI_a, upI_i, upR_eq, upR_a, upR_i, h36, ht, E1, E2, E3, E4, E5, E6, E7, fAdd_id, fSub_id, fMul_id, e62, e63]
                                                refine s260_212.mpr (wif (fun c212 => ?_) (fun c212 => ?_))
                                                · first
                                                  | (exfalso; omega)
                                                  | skip
                                                    refine (s260_215).mpr ?_
                                                    first | (exfalso; omega) | (exact ok _ _ _ ((tsL_37b c1 hb).trans (onw_p ⟨by dsimp only; omega, ⟨hk, hT.1, hT.2⟩, c175, y186.2.2⟩)) (flw1 (by rw [c1]; decide)) (by repeat' (first | assumption | exact FW.rf | refine FW.up ?_ (by unfold wS; omega) | (refine FW.tr ?_ (by assumption)))) (by (try simp (disch := decide) only [upI_eq, upI_a, upI_i, upR_eq, upR_a, upR_i]); try assumption) (by (try simp (disch := decide) only [upI_eq, upI_a, upI_i, upR_eq, upR_a, upR_i]); try assumption) (by simp (disch := decide) only [scX, upI_eq, upI_a, upI_i, upR_eq, upR_a, upR_i, upI_ro, upI_rw, ht, E1, E2, E3, E4, E5, E6, E7]; rfl)) | (exact nob _ (fun h => h.2.2.1 c175) (by repeat' (first | assumption | exact FW.rf | refine FW.up ?_ (by unfold wS; omega) | (refine FW.tr ?_ (by assumption)))) (by (try simp (disch := decide) only [upI_eq, upI_a, upI_i, upR_eq, upR_a, upR_i]); try assumption)) | (exact nob _ (fun h => by rcases x186 with h9 | h9; omega; exact h9 ⟨by omega, h.2.2.2⟩) (by repeat' (first | assumption | exact FW.rf | refine FW.up ?_ (by unfold wS; omega) | (refine FW.tr ?_ (by assumption)))) (by (try simp (disch := decide) only [upI_eq, upI_a, upI_i, upR_eq, upR_a, upR_i]); try assumption))
                                                · first
                                                  | (exfalso; omega)
                                                  | skip
                                                    refine s260_216.mpr ((s260_217 kM).mpr ?_)
                                                    rw [mr_33 hR]
                                                    refine s260_220.mpr (s260_221.mpr (s260_223.mpr ((s260_224 kM).mpr ?_)))
                                                    rw [mr_15 hR]
                                                    refine s260_227.mpr ?_
                                                    refine (s260_229 (hA.k (by decide) (by decide) rfl) (by first | assumption | omega) (by first | assumption | omega)).mpr ?_
                                                    try simp (disch := first | decide | assumption | omega) only [kon, knt_some, knt_none, Option.toList_some, Option.toList_none, List.cons_append, List.nil_append, upI_eq, upI_a, upI_i, upR_eq, upR_a, upR_i, h36, ht, E1, E2, E3, E4, E5, E6, E7, fAdd_id, fSub_id, fMul_id, e62, e63]
                                                    refine (s260_230 (by omega)).mpr ?_
                                                    refine m_inState ⟨v1, v2⟩ eth ?_
                                                    refine (s260_233 (hA.k (by decide) (by decide) rfl) (by first | assumption | omega) (by first | assumption | omega)).mpr ?_
                                                    try simp (disch := first | decide | assumption | omega) only [kon, knt_some, knt_none, Option.toList_some, Option.toList_none, List.cons_append, List.nil_append, upI_eq, upI_a, upI_i, upR_eq, upR_a, upR_i, h36, ht, E1, E2, E3, E4, E5, E6, E7, fAdd_id, fSub_id, fMul_id, e62, e63]
                                                    refine (s260_234).mpr ?_
                                                    first | (exfalso; omega) | (exact ok _ _ _ ((tsL_37b c1 hb).trans (onw_p ⟨by dsimp only; omega, ⟨hk, hT.1, hT.2⟩, c175, y186.2.2⟩)) (flw1 (by rw [c1]; decide)) (by repeat' (first | assumption | exact FW.rf | refine FW.up ?_ (by unfold wS; omega) | (refine FW.tr ?_ (by assumption)))) (by (try simp (disch := decide) only [upI_eq, upI_a, upI_i, upR_eq, upR_a, upR_i]); try assumption) (by (try simp (disch := decide) only [upI_eq, upI_a, upI_i, upR_eq, upR_a, upR_i]); try assumption) (by simp (disch := decide) only [scX, upI_eq, upI_a, upI_i, upR_eq, upR_a, upR_i, upI_ro, upI_rw, ht, E1, E2, E3, E4, E5, E6, E7]; rfl)) | (exact nob _ (fun h => h.2.2.1 c175) (by repeat' (first | assumption | exact FW.rf | refine FW.up ?_ (by unfold wS; omega) | (refine FW.tr ?_ (by assumption)))) (by (try simp (disch := decide) only [upI_eq, upI_a, upI_i, upR_eq, upR_a, upR_i]); try assumption)) | (exact nob _ (fun h => by rcases x186 with h9 | h9; omega; exact h9 ⟨by omega, h.2.2.2⟩) (by repeat' (first | assumption | exact FW.rf | refine FW.up ?_ (by unfold wS; omega) | (refine FW.tr ?_ (by assumption)))) (by (try simp (disch := decide) only [upI_eq, upI_a, upI_i, upR_eq, upR_a, upR_i]); try assumption))
                                        · skip
                                          try simp (disch := decide) only [upI_eq, upI_a, upI_i, upR_eq, upR_a, upR_i, E1, E4] at y186
                                          try simp (disch := decide) only [upI_eq, upI_a, upI_i, upR_eq, upR_a, upR_i, E1, E4] at x186
                                          refine s260_189.mpr (s260_190.mpr ?_)
                                          refine (s260_191 kM).mpr ?_
                                          refine s260_194.mpr (s260_195.mpr (s260_196.mpr ?_))
                                          try simp (disch := first | decide | assumption | omega) only [kon, knt_some, knt_none, Option.toList_some, Option.toList_none, List.cons_append, List.nil_append, upI_eq, upI_a, upI_i, upR_eq, upR_a, upR_i, h36, ht, E1, E2, E3, E4, E5, E6, E7, fAdd_id, fSub_id, fMul_id, e62, e63]
                                          refine s260_197.mpr (wif (fun c197 => ?_) (fun c197 => ?_))
                                          · first
                                            | (exfalso; omega)
                                            | skip
                                              refine s260_200.mpr (s260_201.mpr ?_)
                                              refine (s260_205 (by omega) kM).mpr ?_
                                              refine m_wants hA (by omega) (by (try simp (disch := decide) only [upI_eq, upI_a, upI_i, upR_eq, upR_a, upR_i]); first | assumption | rfl) (by omega) (fun y205 => ?_) (fun y205 => ?_)
                                              · skip
                                                refine s260_208.mpr ?_
                                                refine (s260_209 kM).mpr ?_
                                                try simp (disch := first | decide | assumption | omega) only [kon, knt_some, knt_none, Option.toList_some, Option.toList_none, List.cons_append, List.nil_append, upI_eq, upI_a, upI_i, upR_eq, upR_a, upR_i, h36, ht, E1, E2, E3, E4, E5, E6, E7, fAdd_id, fSub_id, fMul_id, e62, e63]
                                                refine s260_212.mpr (wif (fun c212 => ?_) (fun c212 => ?_))
                                                · first
                                                  | (exfalso; omega)
                                                  | skip
                                                    refine (s260_215).mpr ?_
                                                    first | (exfalso; omega) | (exact ok _ _ _ ((tsL_37b c1 hb).trans (onw_p ⟨by dsimp only; omega, ⟨hk, hT.1, hT.2⟩, c175, y186.2.2⟩)) (flw1 (by rw [c1]; decide)) (by repeat' (first | assumption | exact FW.rf | refine FW.up ?_ (by unfold wS; omega) | (refine FW.tr ?_ (by assumption)))) (by (try simp (disch := decide) only [upI_eq, upI_a, upI_i, upR_eq, upR_a, upR_i]); try assumption) (by (try simp (disch := decide) only [upI_eq, upI_a, upI_i, upR_eq, upR_a, upR_i]); try assumption) (by simp (disch := decide) only [scX, upI_eq, upI_a, upI_i, upR_eq, upR_a, upR_i, upI_ro, upI_rw, ht, E1, E2, E3, E4, E5, E6, E7]; rfl)) | (exact nob _ (fun h => h.2.2.1 c175) (by repeat' (first | assumption | exact FW.rf | refine FW.up ?_ (by unfold wS; omega) | (refine FW.tr ?_ (by assumption)))) (by (try simp (disch := decide) only [upI_eq, upI_a, upI_i, upR_eq, upR_a, upR_i]); try assumption)) | (exact nob _ (fun h => by rcases x186 with h9 | h9; omega; exact h9 ⟨by omega, h.2.2.2⟩) (by repeat' (first | assumption | exact FW.rf | refine FW.up ?_ (by unfold wS; omega) | (refine FW.tr ?_ (by assumption)))) (by (try simp (disch := decide) only [upI_eq, upI_a, upI_i, upR_eq, upR_a, upR_i]); try assumption))
                                                · first
                                                  | (exfalso; omega)
                                                  | skip
                                                    refine s260_216.mpr ((s260_217 kM).mpr ?_)
                                                    rw [mr_33 hR]
                                                    refine s260_220.mpr (s260_221.mpr (s260_223.mpr ((s260_224 kM).mpr ?_)))
                                                    rw [mr_15 hR]
                                                    refine s260_227.mpr ?_
                                                    refine (s260_229 (hA.k (by decide) (by decide) rfl) (by first | assumption | omega) (by first | assumption | omega)).mpr ?_
                                                    try simp (disch := first | decide | assumption | omega) only [kon, knt_some, knt_none, Option.toList_some, Option.toList_none, List.cons_append, List.nil_append, upI_eq, upI_a, upI_i, upR_eq, upR_a, upR_i, h36, ht, E1, E2, E3, E4, E5, E6, E7, fAdd_id, fSub_id, fMul_id, e62, e63]
                                                    refine (s260_230 (by omega)).mpr ?_
                                                    refine m_inState ⟨v1, v2⟩ eth ?_
                                                    refine (s260_233 (hA.k (by decide) (by decide) rfl) (by first | assumption | omega) (by first | assumption | omega)).mpr ?_
                                                    try simp (disch := first | decide | assumption | omega) only [kon, knt_some, knt_none, Option.toList_some, Option.toList_none, List.cons_append, List.nil_append, upI_eq, upI_a, upI_i, upR_eq, upR_a, upR_i, h36, ht, E1, E2, E3, E4, E5, E6, E7, fAdd_id, fSub_id, fMul_id, e62, e63]
                                                    refine (s260_234).mpr ?_
                                                    first | (exfalso; omega) | (exact ok _ _ _ ((tsL_37b c1 hb).trans (onw_p ⟨by dsimp only; omega, ⟨hk, hT.1, hT.2⟩, c175, y186.2.2⟩)) (flw1 (by rw [c1]; decide)) (by repeat' (first | assumption | exact FW.rf | refine FW.up ?_ (by unfold wS; omega) | (refine FW.tr ?_ (by assumption)))) (by (try simp (disch := decide) only [upI_eq, upI_a, upI_i, upR_eq, upR_a, upR_i]); try assumption) (by (try simp (disch := decide) only [upI_eq, upI_a, upI_i, upR_eq, upR_a, upR_i]); try assumption) (by simp (disch := decide) only [scX, upI_eq, upI_a, upI_i, upR_eq, upR_a, upR_i, upI_ro, upI_rw, ht, E1, E2, E3, E4, E5, E6, E7]; rfl)) | (exact nob _ (fun h => h.2.2.1 c175) (by repeat' (first | assumption | exact FW.rf | refine FW.up ?_ (by unfold wS; omega) | (refine FW.tr ?_ (by assumption)))) (by (try simp (disch := decide) only [upI_eq, upI_a, upI_i, upR_eq, upR_a, upR_i]); try assumption)) | (exact nob _ (fun h => by rcases x186 with h9 | h9; omega; exact h9 ⟨by omega, h.2.2.2⟩) (by repeat' (first | assumption | exact FW.rf | refine FW.up ?_ (by unfold wS; omega) | (refine FW.tr ?_ (by assumption)))) (by (try simp (disch := decide) only [upI_eq, upI_a, upI_i, upR_eq, upR_a, upR_i]); try assumption))
                                              · skip
                                                refine s260_208.mpr ?_
                                                refine (s260_209 kM).mpr ?_
                                                try simp (disch := first | decide | assumption | omega) only [kon, knt_some, knt_none, Option.toList_some, Option.toList_none, List.cons_append, List.nil_append, upI_eq, upI_a, upI_i, upR_eq, upR_a, upR_i, h36, ht, E1, E2, E3, E4, E5, E6, E7, fAdd_id, fSub_id, fMul_id, e62, e63]
                                                refine s260_212.mpr (wif (fun c212 => ?_) (fun c212 => ?_))
                                                · first
                                                  | (exfalso; omega)
                                                  | skip
                                                    refine (s260_215).mpr ?_
                                                    first | (exfalso; omega) | (exact ok _ _ _ ((tsL_37b c1 hb).trans (onw_p ⟨by dsimp only; omega, ⟨hk, hT.1, hT.2⟩, c175, y186.2.2⟩)) (flw1 (by rw [c1]; decide)) (by repeat' (first | assumption | exact FW.rf | refine FW.up ?_ (by unfold wS; omega) | (refine FW.tr ?_ (by assumption)))) (by (try simp (disch := decide) only [upI_eq, upI_a, upI_i, upR_eq, upR_a, upR_i]); try assumption) (by (try simp (disch := decide) only [upI_eq, upI_a, upI_i, upR_eq, upR_a, upR_i]); try assumption) (by simp (disch := decide) only [scX, upI_eq, upI_a, upI_i, upR_eq, upR_a, upR_i, upI_ro, upI_rw, ht, E1, E2, E3, E4, E5, E6, E7]; rfl)) | (exact nob _ (fun h => h.2.2.1 c175) (by repeat' (first | assumption | exact FW.rf | refine FW.up ?_ (by unfold wS; omega) | (refine FW.tr ?_ (by assumption)))) (by (try simp (disch := decide) only [upI_eq, upI_a, upI_i, upR_eq, upR_a, upR_i]); try assumption)) | (exact nob _ (fun h => by rcases x186 with h9 | h9; omega; exact h9 ⟨by omega, h.2.2.2⟩) (by repeat' (first | assumption | exact FW.rf | refine FW.up ?_ (by unfold wS; omega) | (refine FW.tr ?_ (by assumption)))) (by (try simp (disch := decide) only [upI_eq, upI_a, upI_i, upR_eq, upR_a, upR_i]); try assumption))
                                                · first
                                                  | (exfalso; omega)
                                                  | skip
                                                    refine s260_216.mpr ((s260_217 kM).mpr ?_)
                                                    rw [mr_33 hR]
                                                    refine s260_220.mpr (s260_221.mpr (s260_223.mpr ((s260_224 kM).mpr ?_)))
                                                    rw [mr_15 hR]
                                                    refine s260_227.mpr ?_
                                                    refine (s260_229 (hA.k (by decide) (by decide) rfl) (by first | assumption | omega) (by first | assumption | omega)).mpr ?_
                                                    try simp (disch := first | decide | assumption | omega) only [kon, knt_some, knt_none, Option.toList_some, Option.toList_none, List.cons_append, List.nil_append, upI_eq, upI_a, upI_i, upR_eq, upR_a, upR_i, h36, ht, E1, E2, E3, E4, E5, E6, E7, fAdd_id, fSub_id, fMul_id, e62, e63]
                                                    refine (s260_230 (by omega)).mpr ?_
                                                    refine m_inState ⟨v1, v2⟩ eth ?_
                                                    refine (s260_233 (hA.k (by decide) (by decide) rfl) (by first | assumption | omega) (by first | assumption | omega)).mpr ?_
                                                    try simp (disch := first | decide | assumption | omega) only [kon, knt_some, knt_none, Option.toList_some, Option.toList_none, List.cons_append, List.nil_append, upI_eq, upI_a, upI_i, upR_eq, upR_a, upR_i, h36, ht, E1, E2, E3, E4, E5, E6, E7, fAdd_id, fSub_id, fMul_id, e62, e63]
                                                    refine (s260_234).mpr ?_
                                                    first | (exfalso; omega) | (exact ok _ _ _ ((tsL_37b c1 hb).trans (onw_p ⟨by dsimp only; omega, ⟨hk, hT.1, hT.2⟩, c175, y186.2.2⟩)) (flw1 (by rw [c1]; decide)) (by repeat' (first | assumption | exact FW.rf | refine FW.up ?_ (by unfold wS; omega) | (refine FW.tr ?_ (by assumption)))) (by (try simp (disch := decide) only [upI_eq, upI_a, upI_i, upR_eq, upR_a, upR_i]); try assumption) (by (try simp (disch := decide) only [upI_eq, upI_a, upI_i, upR_eq, upR_a, upR_i]); try assumption) (by simp (disch := decide) only [scX, upI_eq, upI_a, upI_i, upR_eq, upR_a, upR_i, upI_ro, upI_rw, ht, E1, E2, E3, E4, E5, E6, E7]; rfl)) | (exact nob _ (fun h => h.2.2.1 c175) (by repeat' (first | assumption | exact FW.rf | refine FW.up ?_ (by unfold wS; omega) | (refine FW.tr ?_ (by assumption)))) (by (try simp (disch := decide) only [upI_eq, upI_a, upI_i, upR_eq, upR_a, upR_i]); try assumption)) | (exact nob _ (fun h => by rcases x186 with h9 | h9; omega; exact h9 ⟨by omega, h.2.2.2⟩) (by repeat' (first | assumption | exact FW.rf | refine FW.up ?_ (by unfold wS; omega) | (refine FW.tr ?_ (by assumption)))) (by (try simp (disch := decide) only [upI_eq, upI_a, upI_i, upR_eq, upR_a, upR_i]); try assumption))
                                          · first
                                            | (exfalso; omega)
                                            | skip
                                              refine s260_204.mpr ?_
                                              refine (s260_205 (by omega) kM).mpr ?_
                                              refine m_wants hA (by omega) (by (try simp (disch := decide) only [upI_eq, upI_a, upI_i, upR_eq, upR_a, upR_i]); first | assumption | rfl) (by omega) (fun y205 => ?_) (fun y205 => ?_)
                                              · skip
                                                refine s260_208.mpr ?_
                                                refine (s260_209 kM).mpr ?_
                                                try simp (disch := first | decide | assumption | omega) only [kon, knt_some, knt_none, Option.toList_some, Option.toList_none, List.cons_append, List.nil_append, upI_eq, upI_a, upI_i, upR_eq, upR_a, upR_i, h36, ht, E1, E2, E3, E4, E5, E6, E7, fAdd_id, fSub_id, fMul_id, e62, e63]
                                                refine s260_212.mpr (wif (fun c212 => ?_) (fun c212 => ?_))
                                                · first
                                                  | (exfalso; omega)
                                                  | skip
                                                    refine (s260_215).mpr ?_
                                                    first | (exfalso; omega) | (exact ok _ _ _ ((tsL_37b c1 hb).trans (onw_p ⟨by dsimp only; omega, ⟨hk, hT.1, hT.2⟩, c175, y186.2.2⟩)) (flw1 (by rw [c1]; decide)) (by repeat' (first | assumption | exact FW.rf | refine FW.up ?_ (by unfold wS; omega) | (refine FW.tr ?_ (by assumption)))) (by (try simp (disch := decide) only [upI_eq, upI_a, upI_i, upR_eq, upR_a, upR_i]); try assumption) (by (try simp (disch := decide) only [upI_eq, upI_a, upI_i, upR_eq, upR_a, upR_i]); try assumption) (by simp (disch := decide) only [scX, upI_eq, upI_a, upI_i, upR_eq, upR_a, upR_i, upI_ro, upI_rw, ht, E1, E2, E3, E4, E5, E6, E7]; rfl)) | (exact nob _ (fun h => h.2.2.1 c175) (by repeat' (first | assumption | exact FW.rf | refine FW.up ?_ (by unfold wS; omega) | (refine FW.tr ?_ (by assumption)))) (by (try simp (disch := decide) only [upI_eq, upI_a, upI_i, upR_eq, upR_a, upR_i]); try assumption)) | (exact nob _ (fun h => by rcases x186 with h9 | h9; omega; exact h9 ⟨by omega, h.2.2.2⟩) (by repeat' (first | assumption | exact FW.rf | refine FW.up ?_ (by unfold wS; omega) | (refine FW.tr ?_ (by assumption)))) (by (try simp (disch := decide) only [upI_eq, upI_a, upI_i, upR_eq, upR_a, upR_i]); try assumption))
                                                · first
                                                  | (exfalso; omega)
                                                  | skip
                                                    refine s260_216.mpr ((s260_217 kM).mpr ?_)
                                                    rw [mr_33 hR]
                                                    refine s260_220.mpr (s260_221.mpr (s260_223.mpr ((s260_224 kM).mpr ?_)))
                                                    rw [mr_15 hR]
                                                    refine s260_227.mpr ?_
                                                    refine (s260_229 (hA.k (by decide) (by decide) rfl) (by first | assumption | omega) (by first | assumption | omega)).mpr ?_
                                                    try simp (disch := first | decide | assumption | omega) only [kon, knt_some, knt_none, Option.toList_some, Option.toList_none, List.cons_append, List.nil_append, upI_eq, upI_a, upI_i, upR_eq, upR_a, upR_i, h36, ht, E1, E2, E3, E4, E5, E6, E7, fAdd_id, fSub_id, fMul_id, e62, e63]
                                                    refine (s260_230 (by omega)).mpr ?_
                                                    refine m_inState ⟨v1, v2⟩ eth ?_
                                                    refine (s260_233 (hA.k (by decide) (by decide) rfl) (by first | assumption | omega) (by first | assumption | omega)).mpr ?_
                                                    try simp (disch := first | decide | assumption | omega) only [kon, knt_some, knt_none, Option.toList_some, Option.toList_none, List.cons_append, List.nil_append, upI_eq, upI_a, upI_i, upR_eq, upR_a, upR_i, h36, ht, E1, E2, E3, E4, E5, E6, E7, fAdd_id, fSub_id, fMul_id, e62, e63]
                                                    refine (s260_234).mpr ?_
                                                    first | (exfalso; omega) | (exact ok _ _ _ ((tsL_37b c1 hb).trans (onw_p ⟨by dsimp only; omega, ⟨hk, hT.1, hT.2⟩, c175, y186.2.2⟩)) (flw1 (by rw [c1]; decide)) (by repeat' (first | assumption | exact FW.rf | refine FW.up ?_ (by unfold wS; omega) | (refine FW.tr ?_ (by assumption)))) (by (try simp (disch := decide) only [upI_eq, upI_a, upI_i, upR_eq, upR_a, upR_i]); try assumption) (by (try simp (disch := decide) only [upI_eq, upI_a, upI_i, upR_eq, upR_a, upR_i]); try assumption) (by simp (disch := decide) only [scX, upI_eq, upI_a, upI_i, upR_eq, upR_a, upR_i, upI_ro, upI_rw, ht, E1, E2, E3, E4, E5, E6, E7]; rfl)) | (exact nob _ (fun h => h.2.2.1 c175) (by repeat' (first | assumption | exact FW.rf | refine FW.up ?_ (by unfold wS; omega) | (refine FW.tr ?_ (by assumption)))) (by (try simp (disch := decide) only [upI_eq, upI_a, upI_i, upR_eq, upR_a, upR_i]); try assumption)) | (exact nob _ (fun h => by rcases x186 with h9 | h9; omega; exact h9 ⟨by omega, h.2.2.2⟩) (by repeat' (first | assumption | exact FW.rf | refine FW.up ?_ (by unfold wS; omega) | (refine FW.tr ?_ (by assumption)))) (by (try simp (disch := decide) only [upI_eq, upI_a, upI_i, upR_eq, upR_a, upR_i]); try assumption))
                                              · skip
                                                refine s260_208.mpr ?_
                                                refine (s260_209 kM).mpr ?_
                                                try simp (disch := first | decide | assumption | omega) only [kon, knt_some, knt_none, Option.toList_some, Option.toList_none, List.cons_append, List.nil_append, upI_eq, upI_a, upI_i, upR_eq, upR_a, upR_i, h36, ht, E1, E2, E3, E4, E5, E6, E7, fAdd_id, fSub_id, fMul_id, e62, e63]
                                                refine s260_212.mpr (wif (fun c212 => ?_) (fun c212 => ?_))
                                                · first
                                                  | (exfalso; omega)
                                                  | skip
                                                    refine (s260_215).mpr ?_
                                                    first | (exfalso; omega) | (exact ok _ _ _ ((tsL_37b c1 hb).trans (onw_p ⟨by dsimp only; omega, ⟨hk, hT.1, hT.2⟩, c175, y186.2.2⟩)) (flw1 (by rw [c1]; decide)) (by repeat' (first | assumption | exact FW.rf | refine FW.up ?_ (by unfold wS; omega) | (refine FW.tr ?_ (by assumption)))) (by (try simp (disch := decide) only [upI_eq, upI_a, upI_i, upR_eq, upR_a, upR_i]); try assumption) (by (try simp (disch := decide) only [upI_eq, upI_a, upI_i, upR_eq, upR_a, upR_i]); try assumption) (by simp (disch := decide) only [scX, upI_eq, upI_a, upI_i, upR_eq, upR_a, upR_i, upI_ro, upI_rw, ht, E1, E2, E3, E4, E5, E6, E7]; rfl)) | (exact nob _ (fun h => h.2.2.1 c175) (by repeat' (first | assumption | exact FW.rf | refine FW.up ?_ (by unfold wS; omega) | (refine FW.tr ?_ (by assumption)))) (by (try simp (disch := decide) only [upI_eq, upI_a, upI_i, upR_eq, upR_a, upR_i]); try assumption)) | (exact nob _ (fun h => by rcases x186 with h9 | h9; omega; exact h9 ⟨by omega, h.2.2.2⟩) (by repeat' (first | assumption | exact FW.rf | refine FW.up ?_ (by unfold wS; omega) | (refine FW.tr ?_ (by assumption)))) (by (try simp (disch := decide) only [upI_eq, upI_a, upI_i, upR_eq, upR_a, upR_i]); try assumption))
                                                · first
                                                  | (exfalso; omega)
                                                  | skip
                                                    refine s260_216.mpr ((s260_217 kM).mpr ?_)
                                                    rw [mr_33 hR]
                                                    refine s260_220.mpr (s260_221.mpr (s260_223.mpr ((s260_224 kM).mpr ?_)))
                                                    rw [mr_15 hR]
                                                    refine s260_227.mpr ?_
                                                    refine (s260_229 (hA.k (by decide) (by decide) rfl) (by first | assumption | omega) (by first | assumption | omega)).mpr ?_
                                                    try simp (disch := first | decide | assumption | omega) only [kon, knt_some, knt_none, Option.toList_some, Option.toList_none, List.cons_append, List.nil_append, upI_eq, upI_a, upI_i, upR_eq, upR_a, upR_i, h36, ht, E1, E2, E3, E4, E5, E6, E7, fAdd_id, fSub_id, fMul_id, e62, e63]
                                                    refine (s260_230 (by omega)).mpr ?_
                                                    refine m_inState ⟨v1, v2⟩ eth ?_
                                                    refine (s260_233 (hA.k (by decide) (by decide) rfl) (by first | assumption | omega) (by first | assumption | omega)).mpr ?_
                                                    try simp (disch := first | decide | assumption | omega) only [kon, knt_some, knt_none, Option.toList_some, Option.toList_none, List.cons_append, List.nil_append, upI_eq, upI_a, upI_i, upR_eq, upR_a, upR_i, h36, ht, E1, E2, E3, E4, E5, E6, E7, fAdd_id, fSub_id, fMul_id, e62, e63]
                                                    refine (s260_234).mpr ?_
                                                    first | (exfalso; omega) | (exact ok _ _ _ ((tsL_37b c1 hb).trans (onw_p ⟨by dsimp only; omega, ⟨hk, hT.1, hT.2⟩, c175, y186.2.2⟩)) (flw1 (by rw [c1]; decide)) (by repeat' (first | assumption | exact FW.rf | refine FW.up ?_ (by unfold wS; omega) | (refine FW.tr ?_ (by assumption)))) (by (try simp (disch := decide) only [upI_eq, upI_a, upI_i, upR_eq, upR_a, upR_i]); try assumption) (by (try simp (disch := decide) only [upI_eq, upI_a, upI_i, upR_eq, upR_a, upR_i]); try assumption) (by simp (disch := decide) only [scX, upI_eq, upI_a, upI_i, upR_eq, upR_a, upR_i, upI_ro, upI_rw, ht, E1, E2, E3, E4, E5, E6, E7]; rfl)) | (exact nob _ (fun h => h.2.2.1 c175) (by repeat' (first | assumption | exact FW.rf | refine FW.up ?_ (by unfold wS; omega) | (refine FW.tr ?_ (by assumption)))) (by (try simp (disch := decide) only [upI_eq, upI_a, upI_i, upR_eq, upR_a, upR_i]); try assumption)) | (exact nob _ (fun h => by rcases x186 with h9 | h9; omega; exact h9 ⟨by omega, h.2.2.2⟩) (by repeat' (first | assumption | exact FW.rf | refine FW.up ?_ (by unfold wS; omega) | (refine FW.tr ?_ (by assumption)))) (by (try simp (disch := decide) only [upI_eq, upI_a, upI_i, upR_eq, upR_a, upR_i]); try assumption))
                        · skip
                          refine s260_136.mpr (wif (fun c136 => ?_) (fun c136 => ?_))
                          · first
                            | (exfalso; omega)
                            | skip
                              exfalso; omega
                          · first
                            | (exfalso; omega)
                            | skip
                              refine s260_139.mpr (s260_140.mpr ?_)
                              refine (s260_144 (by omega) kM).mpr ?_
                              refine m_wants hA (by omega) (by (try simp (disch := decide) only [upI_eq, upI_a, upI_i, upR_eq, upR_a, upR_i]); first | assumption | rfl) (by omega) (fun y144 => ?_) (fun y144 => ?_)
                              · skip
                                refine s260_147.mpr ?_
                                refine (s260_148 kM).mpr ?_
                                try simp (disch := first | decide | assumption | omega) only [kon, knt_some, knt_none, Option.toList_some, Option.toList_none, List.cons_append, List.nil_append, upI_eq, upI_a, upI_i, upR_eq, upR_a, upR_i, h36, ht, E1, E2, E3, E4, E5, E6, E7, fAdd_id, fSub_id, fMul_id, e62, e63]
                                refine s260_151.mpr (wif (fun c151 => ?_) (fun c151 => ?_))
                                · first
                                  | (exfalso; omega)
                                  | skip
                                    exfalso; omega
                                · first
                                  | (exfalso; omega)
                                  | skip
                                    refine s260_155.mpr (s260_156.mpr (s260_157.mpr ?_))
                                    refine (s260_159 (by omega)).mpr ?_
                                    refine m_stateOf (by omega) ⟨hm0, hm1⟩ hr9 ?_
                                    refine s260_162.mpr (s260_163.mpr (s260_164.mpr (s260_165.mpr (s260_167.mpr ((s260_168 kM).mpr ?_)))))
                                    rw [mr_14 hR]
                                    refine s260_171.mpr ?_
                                    try simp (disch := first | decide | assumption | omega) only [kon, knt_some, knt_none, Option.toList_some, Option.toList_none, List.cons_append, List.nil_append, upI_eq, upI_a, upI_i, upR_eq, upR_a, upR_i, h36, ht, E1, E2, E3, E4, E5, E6, E7, fAdd_id, fSub_id, fMul_id, e62, e63]
                                    refine (s260_173 (hA.k (by decide) (by decide) rfl) (by first | assumption | omega) (by first | assumption | omega)).mpr ?_
                                    refine s260_174.mpr ?_
                                    try simp (disch := first | decide | assumption | omega) only [kon, knt_some, knt_none, Option.toList_some, Option.toList_none, List.cons_append, List.nil_append, upI_eq, upI_a, upI_i, upR_eq, upR_a, upR_i, h36, ht, E1, E2, E3, E4, E5, E6, E7, fAdd_id, fSub_id, fMul_id, e62, e63]
                                    refine s260_175.mpr (wif (fun c175 => ?_) (fun c175 => ?_))
                                    · first
                                      | (exfalso; omega)
                                      | skip
                                        refine s260_189.mpr (s260_190.mpr ?_)
                                        refine (s260_191 kM).mpr ?_
                                        refine s260_194.mpr (s260_195.mpr (s260_196.mpr ?_))
                                        try simp (disch := first | decide | assumption | omega) only [kon, knt_some, knt_none, Option.toList_some, Option.toList_none, List.cons_append, List.nil_append, upI_eq, upI_a, upI_i, upR_eq, upR_a, upR_i, h36, ht, E1, E2, E3, E4, E5, E6, E7, fAdd_id, fSub_id, fMul_id, e62, e63]
                                        refine s260_197.mpr (wif (fun c197 => ?_) (fun c197 => ?_))
                                        · first
                                          | (exfalso; omega)
                                          | skip
                                            refine s260_200.mpr (s260_201.mpr ?_)
                                            refine (s260_205 (by omega) kM).mpr ?_
                                            refine m_wants hA (by omega) (by (try simp (disch := decide) only [upI_eq, upI_a, upI_i, upR_eq, upR_a, upR_i]); first | assumption | rfl) (by omega) (fun y205 => ?_) (fun y205 => ?_)
                                            · skip
                                              refine s260_208.mpr ?_
                                              refine (s260_209 kM).mpr ?_
                                              try simp (disch := first | decide | assumption | omega) only [kon, knt_some, knt_none, Option.toList_some, Option.toList_none, List.cons_append, List.nil_append, upI_eq, upI_a, upI_i, upR_eq, upR_a, upR_i, h36, ht, E1, E2, E3, E4, E5, E6, E7, fAdd_id, fSub_id, fMul_id, e62, e63]
                                              refine s260_212.mpr (wif (fun c212 => ?_) (fun c212 => ?_))
                                              · first
                                                | (exfalso; omega)
                                                | skip
                                                  refine (s260_215).mpr ?_
                                                  first | (exfalso; omega) | (exact ok _ _ _ ((tsL_37b c1 hb).trans (onw_p ⟨by dsimp only; omega, ⟨hk, hT.1, hT.2⟩, c175, y186.2.2⟩)) (flw1 (by rw [c1]; decide)) (by repeat' (first | assumption | exact FW.rf | refine FW.up ?_ (by unfold wS; omega) | (refine FW.tr ?_ (by assumption)))) (by (try simp (disch := decide) only [upI_eq, upI_a, upI_i, upR_eq, upR_a, upR_i]); try assumption) (by (try simp (disch := decide) only [upI_eq, upI_a, upI_i, upR_eq, upR_a, upR_i]); try assumption) (by simp (disch := decide) only [scX, upI_eq, upI_a, upI_i, upR_eq, upR_a, upR_i, upI_ro, upI_rw, ht, E1, E2, E3, E4, E5, E6, E7]; rfl)) | (exact nob _ (fun h => h.2.2.1 c175) (by repeat' (first | assumption | exact FW.rf | refine FW.up ?_ (by unfold wS; omega) | (refine FW.tr ?_ (by assumption)))) (by (try simp (disch := decide) only [upI_eq, upI_a, upI_i, upR_eq, upR_a, upR_i]); try assumption)) | (exact nob _ (fun h => by rcases x186 with h9 | h9; omega; exact h9 ⟨by omega, h.2.2.2⟩) (by repeat' (first | assumption | exact FW.rf | refine FW.up ?_ (by unfold wS; omega) | (refine FW.tr ?_ (by assumption)))) (by (try simp (disch := decide) only [upI_eq, upI_a, upI_i, upR_eq, upR_a, upR_i]); try assumption))
                                              · first
                                                | (exfalso; omega)
                                                | skip
                                                  refine s260_216.mpr ((s260_217 kM).mpr ?_)
                                                  rw [mr_33 hR]
                                                  refine s260_220.mpr (s260_221.mpr (s260_223.mpr ((s260_224 kM).mpr ?_)))
                                                  rw [mr_15 hR]
                                                  refine s260_227.mpr ?_
                                                  refine (s260_229 (hA.k (by decide) (by decide) rfl) (by first | assumption | omega) (by first | assumption | omega)).mpr ?_
                                                  try simp (disch := first | decide | assumption | omega) only [kon, knt_some, knt_none, Option.toList_some, Option.toList_none, List.cons_append, List.nil_append, upI_eq, upI_a, upI_i, upR_eq, upR_a, upR_i, h36, ht, E1, E2, E3, E4, E5, E6, E7, fAdd_id, fSub_id, fMul_id, e62, e63]
                                                  refine (s260_230 (by omega)).mpr ?_
                                                  refine m_inState ⟨v1, v2⟩ eth ?_
                                                  refine (s260_233 (hA.k (by decide) (by decide) rfl) (by first | assumption | omega) (by first | assumption | omega)).mpr ?_
                                                  try simp (disch := first | decide | assumption | omega) only [kon, knt_some, knt_none, Option.toList_some, Option.toList_none, List.cons_append, List.nil_append, upI_eq, upI_a, upI_i, upR_eq, upR_a, upR_i, h36, ht, E1, E2, E3, E4, E5, E6, E7, fAdd_id, fSub_id, fMul_id, e62, e63]
                                                  refine (s260_234).mpr ?_
                                                  first | (exfalso; omega) | (exact ok _ _ _ ((tsL_37b c1 hb).trans (onw_p ⟨by dsimp only; omega, ⟨hk, hT.1, hT.2⟩, c175, y186.2.2⟩)) (flw1 (by rw [c1]; decide)) (by repeat' (first | assumption | exact FW.rf | refine FW.up ?_ (by unfold wS; omega) | (refine FW.tr ?_ (by assumption)))) (by (try simp (disch := decide) only [upI_eq, upI_a, upI_i, upR_eq, upR_a, upR_i]); try assumption) (by (try simp (disch := decide) only [upI_eq, upI_a, upI_i, upR_eq, upR_a, upR_i]); try assumption) (by simp (disch := decide) only [scX, upI_eq, upI_a, upI_i, upR_eq, upR_a, upR_i, upI_ro, upI_rw, ht, E1, E2, E3, E4, E5, E6, E7]; rfl)) | (exact nob _ (fun h => h.2.2.1 c175) (by repeat' (first | assumption | exact FW.rf | refine FW.up ?_ (by unfold wS; omega) | (refine FW.tr ?_ (by assumption)))) (by (try simp (disch := decide) only [upI_eq, upI_a, upI_i, upR_eq, upR_a, upR_i]); try assumption)) | (exact nob _ (fun h => by rcases x186 with h9 | h9; omega; exact h9 ⟨by omega, h.2.2.2⟩) (by repeat' (first | assumption | exact FW.rf | refine FW.up ?_ (by unfold wS; omega) | (refine FW.tr ?_ (by assumption)))) (by (try simp (disch := decide) only [upI_eq, upI_a, upI_i, upR_eq, upR_a, upR_i]); try assumption))
                                            · skip
                                              refine s260_208.mpr ?_
                                              refine (s260_209 kM).mpr ?_
                                              try simp (disch := first | decide | assumption | omega) only [kon, knt_some, knt_none, Option.toList_some, Option.toList_none, List.cons_append, List.nil_append, upI_eq, upI_a, upI_i, upR_eq, upR_a, upR_i, h36, ht, E1, E2, E3, E4, E5, E6, E7, fAdd_id, fSub_id, fMul_id, e62, e63]
                                              refine s260_212.mpr (wif (fun c212 => ?_) (fun c212 => ?_))
                                              · first
                                                | (exfalso; omega)
                                                | skip
                                                  refine (s260_215).mpr ?_
                                                  first | (exfalso; omega) | (exact ok _ _ _ ((tsL_37b c1 hb).trans (onw_p ⟨by dsimp only; omega, ⟨hk, hT.1, hT.2⟩, c175, y186.2.2⟩)) (flw1 (by rw [c1]; decide)) (by repeat' (first | assumption | exact FW.rf | refine FW.up ?_ (by unfold wS; omega) | (refine FW.tr ?_ (by assumption)))) (by (try simp (disch := decide) only [upI_eq, upI_a, upI_i, upR_eq, upR_a, upR_i]); try assumption) (by (try simp (disch := decide) only [upI_eq, upI_a, upI_i, upR_eq, upR_a, upR_i]); try assumption) (by simp (disch := decide) only [scX, upI_eq, upI_a, upI_i, upR_eq, upR_a, upR_i, upI_ro, upI_rw, ht, E1, E2, E3, E4, E5, E6, E7]; rfl)) | (exact nob _ (fun h => h.2.2.1 c175) (by repeat' (first | assumption | exact FW.rf | refine FW.up ?_ (by unfold wS; omega) | (refine FW.tr ?_ (by assumption)))) (by (try simp (disch := decide) only [upI_eq, upI_a, upI_i, upR_eq, upR_a, upR_i]); try assumption)) | (exact nob _ (fun h => by rcases x186 with h9 | h9; omega; exact h9 ⟨by omega, h.2.2.2⟩) (by repeat' (first | assumption | exact FW.rf | refine FW.up ?_ (by unfold wS; omega) | (refine FW.tr ?_ (by assumption)))) (by (try simp (disch := decide) only [upI_eq, upI_a, upI_i, upR_eq, upR_a, upR_i]); try assumption))
                                              · first
                                                | (exfalso; omega)
                                                | skip
                                                  refine s260_216.mpr ((s260_217 kM).mpr ?_)
                                                  rw [mr_33 hR]
                                                  refine s260_220.mpr (s260_221.mpr (s260_223.mpr ((s260_224 kM).mpr ?_)))
                                                  rw [mr_15 hR]
                                                  refine s260_227.mpr ?_
                                                  refine (s260_229 (hA.k (by decide) (by decide) rfl) (by first | assumption | omega) (by first | assumption | omega)).mpr ?_
                                                  try simp (disch := first | decide | assumption | omega) only [kon, knt_some, knt_none, Option.toList_some, Option.toList_none, List.cons_append, List.nil_append, upI_eq, upI_a, upI_i, upR_eq, upR_a, upR_i, h36, ht, E1, E2, E3, E4, E5, E6, E7, fAdd_id, fSub_id, fMul_id, e62, e63]
                                                  refine (s260_230 (by omega)).mpr ?_
                                                  refine m_inState ⟨v1, v2⟩ eth ?_
                                                  refine (s260_233 (hA.k (by decide) (by decide) rfl) (by first | assumption | omega) (by first | assumption | omega)).mpr ?_
                                                  try simp (disch := first | decide | assumption | omega) only [kon, knt_some, knt_none, Option.toList_some, Option.toList_none, List.cons_append, List.nil_append, upI_eq, upI_a, upI_i, upR_eq, upR_a, upR_i, h36, ht, E1, E2, E3, E4, E5, E6, E7, fAdd_id, fSub_id, fMul_id, e62, e63]
                                                  refine (s260_234).mpr ?_
                                                  first | (exfalso; omega) | (exact ok _ _ _ ((tsL_37b c1 hb).trans (onw_p ⟨by dsimp only; omega, ⟨hk, hT.1, hT.2⟩, c175, y186.2.2⟩)) (flw1 (by rw [c1]; decide)) (by repeat' (first | assumption | exact FW.rf | refine FW.up ?_ (by unfold wS; omega) | (refine FW.tr ?_ (by assumption)))) (by (try simp (disch := decide) only [upI_eq, upI_a, upI_i, upR_eq, upR_a, upR_i]); try assumption) (by (try simp (disch := decide) only [upI_eq, upI_a, upI_i, upR_eq, upR_a, upR_i]); try assumption) (by simp (disch := decide) only [scX, upI_eq, upI_a, upI_i, upR_eq, upR_a, upR_i, upI_ro, upI_rw, ht, E1, E2, E3, E4, E5, E6, E7]; rfl)) | (exact nob _ (fun h => h.2.2.1 c175) (by repeat' (first | assumption | exact FW.rf | refine FW.up ?_ (by unfold wS; omega) | (refine FW.tr ?_ (by assumption)))) (by (try simp (disch := decide) only [upI_eq, upI_a, upI_i, upR_eq, upR_a, upR_i]); try assumption)) | (exact nob _ (fun h => by rcases x186 with h9 | h9; omega; exact h9 ⟨by omega, h.2.2.2⟩) (by repeat' (first | assumption | exact FW.rf | refine FW.up ?_ (by unfold wS; omega) | (refine FW.tr ?_ (by assumption)))) (by (try simp (disch := decide) only [upI_eq, upI_a, upI_i, upR_eq, upR_a, upR_i]); try assumption))
                                        · first
                                          | (exfalso; omega)
                                          | skip
                                            refine s260_204.mpr ?_
                                            refine (s260_205 (by omega) kM).mpr ?_
                                            refine m_wants hA (by omega) (by (try simp (disch := decide) only [upI_eq, upI_a, upI_i, upR_eq, upR_a, upR_i]); first | assumption | rfl) (by omega) (fun y205 => ?_) (fun y205 => ?_)
                                            · skip
                                              refine s260_208.mpr ?_
                                              refine (s260_209 kM).mpr ?_
                                              try simp (disch := first | decide | assumption | omega) only [kon, knt_some, knt_none, Option.toList_some, Option.toList_none, List.cons_append, List.nil_append, upI_eq, upI_a, upI_i, upR_eq, upR_a, upR_i, h36, ht, E1, E2, E3, E4, E5, E6, E7, fAdd_id, fSub_id, fMul_id, e62, e63]
                                              refine s260_212.mpr (wif (fun c212 => ?_) (fun c212 => ?_))
                                              · first
                                                | (exfalso; omega)
                                                | skip
                                                  refine (s260_215).mpr ?_
                                                  first | (exfalso; omega) | (exact ok _ _ _ ((tsL_37b c1 hb).trans (onw_p ⟨by dsimp only; omega, ⟨hk, hT.1, hT.2⟩, c175, y186.2.2⟩)) (flw1 (by rw [c1]; decide)) (by repeat' (first | assumption | exact FW.rf | refine FW.up ?_ (by unfold wS; omega) | (refine FW.tr ?_ (by assumption)))) (by (try simp (disch := decide) only [upI_eq, upI_a, upI_i, upR_eq, upR_a, upR_i]); try assumption) (by (try simp (disch := decide) only [upI_eq, upI_a, upI_i, upR_eq, upR_a, upR_i]); try assumption) (by simp (disch := decide) only [scX, upI_eq, upI_a, upI_i, upR_eq, upR_a, upR_i, upI_ro, upI_rw, ht, E1, E2, E3, E4, E5, E6, E7]; rfl)) | (exact nob _ (fun h => h.2.2.1 c175) (by repeat' (first | assumption | exact FW.rf | refine FW.up ?_ (by unfold wS; omega) | (refine FW.tr ?_ (by assumption)))) (by (try simp (disch := decide) only [upI_eq, upI_a, upI_i, upR_eq, upR_a, upR_i]); try assumption)) | (exact nob _ (fun h => by rcases x186 with h9 | h9; omega; exact h9 ⟨by omega, h.2.2.2⟩) (by repeat' (first | assumption | exact FW.rf | refine FW.up ?_ (by unfold wS; omega) | (refine FW.tr ?_ (by assumption)))) (by (try simp (disch := decide) only [upI_eq, upI_a, upI_i, upR_eq, upR_a, upR_i]); try assumption))
                                              · first
                                                | (exfalso; omega)
                                                | skip
                                                  refine s260_216.mpr ((s260_217 kM).mpr ?_)
                                                  rw [mr_33 hR]
                                                  refine s260_220.mpr (s260_221.mpr (s260_223.mpr ((s260_224 kM).mpr ?_)))
                                                  rw [mr_15 hR]
                                                  refine s260_227.mpr ?_
                                                  refine (s260_229 (hA.k (by decide) (by decide) rfl) (by first | assumption | omega) (by first | assumption | omega)).mpr ?_
                                                  try simp (disch := first | decide | assumption | omega) only [kon, knt_some, knt_none, Option.toList_some, Option.toList_none, List.cons_append, List.nil_append, upI_eq, upI_a, upI_i, upR_eq, upR_a, upR_i, h36, ht, E1, E2, E3, E4, E5, E6, E7, fAdd_id, fSub_id, fMul_id, e62, e63]
                                                  refine (s260_230 (by omega)).mpr ?_
                                                  refine m_inState ⟨v1, v2⟩ eth ?_
                                                  refine (s260_233 (hA.k (by decide) (by decide) rfl) (by first | assumption | omega) (by first | assumption | omega)).mpr ?_
                                                  try simp (disch := first | decide | assumption | omega) only [kon, knt_some, knt_none, Option.toList_some, Option.toList_none, List.cons_append, List.nil_append, upI_eq, upI_a, upI_i, upR_eq, upR_a, upR_i, h36, ht, E1, E2, E3, E4, E5, E6, E7, fAdd_id, fSub_id, fMul_id, e62, e63]
                                                  refine (s260_234).mpr ?_
                                                  first | (exfalso; omega) | (exact ok _ _ _ ((tsL_37b c1 hb).trans (onw_p ⟨by dsimp only; omega, ⟨hk, hT.1, hT.2⟩, c175, y186.2.2⟩)) (flw1 (by rw [c1]; decide)) (by repeat' (first | assumption | exact FW.rf | refine FW.up ?_ (by unfold wS; omega) | (refine FW.tr ?_ (by assumption)))) (by (try simp (disch := decide) only [upI_eq, upI_a, upI_i, upR_eq, upR_a, upR_i]); try assumption) (by (try simp (disch := decide) only [upI_eq, upI_a, upI_i, upR_eq, upR_a, upR_i]); try assumption) (by simp (disch := decide) only [scX, upI_eq, upI_a, upI_i, upR_eq, upR_a, upR_i, upI_ro, upI_rw, ht, E1, E2, E3, E4, E5, E6, E7]; rfl)) | (exact nob _ (fun h => h.2.2.1 c175) (by repeat' (first | assumption | exact FW.rf | refine FW.up ?_ (by unfold wS; omega) | (refine FW.tr ?_ (by assumption)))) (by (try simp (disch := decide) only [upI_eq, upI_a, upI_i, upR_eq, upR_a, upR_i]); try assumption)) | (exact nob _ (fun h => by rcases x186 with h9 | h9; omega; exact h9 ⟨by omega, h.2.2.2⟩) (by repeat' (first | assumption | exact FW.rf | refine FW.up ?_ (by unfold wS; omega) | (refine FW.tr ?_ (by assumption)))) (by (try simp (disch := decide) only [upI_eq, upI_a, upI_i, upR_eq, upR_a, upR_i]); try assumption))
                                            · skip
                                              refine s260_208.mpr ?_
                                              refine (s260_209 kM).mpr ?_
                                              try simp (disch := first | decide | assumption | omega) only [kon, knt_some, knt_none, Option.toList_some, Option.toList_none, List.cons_append, List.nil_append, upI_eq, upI_a, upI_i, upR_eq, upR_a, upR_i, h36, ht, E1, E2, E3, E4, E5, E6, E7, fAdd_id, fSub_id, fMul_id, e62, e63]
                                              refine s260_212.mpr (wif (fun c212 => ?_) (fun c212 => ?_))
                                              · first
                                                | (exfalso; omega)
                                                | skip
                                                  refine (s260_215).mpr ?_
                                                  first | (exfalso; omega) | (exact ok _ _ _ ((tsL_37b c1 hb).trans (onw_p ⟨by dsimp only; omega, ⟨hk, hT.1, hT.2⟩, c175, y186.2.2⟩)) (flw1 (by rw [c1]; decide)) (by repeat' (first | assumption | exact FW.rf | refine FW.up ?_ (by unfold wS; omega) | (refine FW.tr ?_ (by assumption)))) (by (try simp (disch := decide) only [upI_eq, upI_a, upI_i, upR_eq, upR_a, upR_i]); try assumption) (by (try simp (disch := decide) only [upI_eq, upI_a, upI_i, upR_eq, upR_a, upR_i]); try assumption) (by simp (disch := decide) only [scX, upI_eq, upI_a, upI_i, upR_eq, upR_a, upR_i, upI_ro, upI_rw, ht, E1, E2, E3, E4, E5, E6, E7]; rfl)) | (exact nob _ (fun h => h.2.2.1 c175) (by repeat' (first | assumption | exact FW.rf | refine FW.up ?_ (by unfold wS; omega) | (refine FW.tr ?_ (by assumption)))) (by (try simp (disch := decide) only [upI_eq, upI_a, upI_i, upR_eq, upR_a, upR_i]); try assumption)) | (exact nob _ (fun h => by rcases x186 with h9 | h9; omega; exact h9 ⟨by omega, h.2.2.2⟩) (by repeat' (first | assumption | exact FW.rf | refine FW.up ?_ (by unfold wS; omega) | (refine FW.tr ?_ (by assumption)))) (by (try simp (disch := decide) only [upI_eq, upI_a, upI_i, upR_eq, upR_a, upR_i]); try assumption))
                                              · first
                                                | (exfalso; omega)
                                                | skip
                                                  refine s260_216.mpr ((s260_217 kM).mpr ?_)
                                                  rw [mr_33 hR]
                                                  refine s260_220.mpr (s260_221.mpr (s260_223.mpr ((s260_224 kM).mpr ?_)))
                                                  rw [mr_15 hR]
                                                  refine s260_227.mpr ?_
                                                  refine (s260_229 (hA.k (by decide) (by decide) rfl) (by first | assumption | omega) (by first | assumption | omega)).mpr ?_
                                                  try simp (disch := first | decide | assumption | omega) only [kon, knt_some, knt_none, Option.toList_some, Option.toList_none, List.cons_append, List.nil_append, upI_eq, upI_a, upI_i, upR_eq, upR_a, upR_i, h36, ht, E1, E2, E3, E4, E5, E6, E7, fAdd_id, fSub_id, fMul_id, e62, e63]
                                                  refine (s260_230 (by omega)).mpr ?_
                                                  refine m_inState ⟨v1, v2⟩ eth ?_
                                                  refine (s260_233 (hA.k (by decide) (by decide) rfl) (by first | assumption | omega) (by first | assumption | omega)).mpr ?_
                                                  try simp (disch := first | decide | assumption | omega) only [kon, knt_some, knt_none, Option.toList_some, Option.toList_none, List.cons_append, List.nil_append, upI_eq, upI_a, upI_i, upR_eq, upR_a, upR_i, h36, ht, E1, E2, E3, E4, E5, E6, E7, fAdd_id, fSub_id, fMul_id, e62, e63]
                                                  refine (s260_234).mpr ?_
                                                  first | (exfalso; omega) | (exact ok _ _ _ ((tsL_37b c1 hb).trans (onw_p ⟨by dsimp only; omega, ⟨hk, hT.1, hT.2⟩, c175, y186.2.2⟩)) (flw1 (by rw [c1]; decide)) (by repeat' (first | assumption | exact FW.rf | refine FW.up ?_ (by unfold wS; omega) | (refine FW.tr ?_ (by assumption)))) (by (try simp (disch := decide) only [upI_eq, upI_a, upI_i, upR_eq, upR_a, upR_i]); try assumption) (by (try simp (disch := decide) only [upI_eq, upI_a, upI_i, upR_eq, upR_a, upR_i]); try assumption) (by simp (disch := decide) only [scX, upI_eq, upI_a, upI_i, upR_eq, upR_a, upR_i, upI_ro, upI_rw, ht, E1, E2, E3, E4, E5, E6, E7]; rfl)) | (exact nob _ (fun h => h.2.2.1 c175) (by repeat' (first | assumption | exact FW.rf | refine FW.up ?_ (by unfold wS; omega) | (refine FW.tr ?_ (by assumption)))) (by (try simp (disch := decide) only [upI_eq, upI_a, upI_i, upR_eq, upR_a, upR_i]); try assumption)) | (exact nob _ (fun h => by rcases x186 with h9 | h9; omega; exact h9 ⟨by omega, h.2.2.2⟩) (by repeat' (first | assumption | exact FW.rf | refine FW.up ?_ (by unfold wS; omega) | (refine FW.tr ?_ (by assumption)))) (by (try simp (disch := decide) only [upI_eq, upI_a, upI_i, upR_eq, upR_a, upR_i]); try assumption))
                                    · first
                                      | (exfalso; omega)
                                      | skip
                                        refine s260_178.mpr (s260_179.mpr ((s260_180 kM).mpr ?_))
                                        rw [mr_14 hR]
                                        refine s260_183.mpr ?_
                                        refine (s260_185 (hA.k (by decide) (by decide) rfl) (by first | assumption | omega) (by first | assumption | omega)).mpr ?_
                                        try simp (disch := first | decide | assumption | omega) only [kon, knt_some, knt_none, Option.toList_some, Option.toList_none, List.cons_append, List.nil_append, upI_eq, upI_a, upI_i, upR_eq, upR_a, upR_i, h36, ht, E1, E2, E3, E4, E5, E6, E7, fAdd_id, fSub_id, fMul_id, e62, e63]
                                        refine (s260_186 (by omega) kM).mpr ?_
                                        refine m_popFor hA hR (by omega) (by (try simp (disch := decide) only [upI_eq, upI_a, upI_i, upR_eq, upR_a, upR_i]); first | assumption | rfl) (by omega) (by (try simp (disch := decide) only [upI_eq, upI_a, upI_i, upR_eq, upR_a, upR_i]); first | assumption | rfl) (by omega) (fun y186 => ?_) (fun hi186 t186 w186 z186 u186 v186 x186 => ?_)
                                        · skip
                                          try simp (disch := decide) only [upI_eq, upI_a, upI_i, upR_eq, upR_a, upR_i, E1, E4] at y186
                                          try simp (disch := decide) only [upI_eq, upI_a, upI_i, upR_eq, upR_a, upR_i, E1, E4] at x186
                                          refine s260_189.mpr (s260_190.mpr ?_)
                                          refine (s260_191 kM).mpr ?_
                                          refine s260_194.mpr (s260_195.mpr (s260_196.mpr ?_))
                                          try simp (disch := first | decide | assumption | omega) only [kon, knt_some, knt_none, Option.toList_some, Option.toList_none, List.cons_append, List.nil_append, upI_eq, upI_a, upI_i, upR_eq, upR_a, upR_i, h36, ht, E1, E2, E3, E4, E5, E6, E7, fAdd_id, fSub_id, fMul_id, e62, e63]
                                          refine s260_197.mpr (wif (fun c197 => ?_) (fun c197 => ?_))
                                          · first
                                            | (exfalso; omega)
                                            | skip
                                              refine s260_200.mpr (s260_201.mpr ?_)
                                              refine (s260_205 (by omega) kM).mpr ?_
                                              refine m_wants hA (by omega) (by (try simp (disch := decide) only [upI_eq, upI_a, upI_i, upR_eq, upR_a, upR_i]); first | assumption | rfl) (by omega) (fun y205 => ?_) (fun y205 => ?_)
                                              · skip
                                                refine s260_208.mpr ?_
                                                refine (s260_209 kM).mpr ?_
                                                try simp (disch := first | decide | assumption | omega) only [kon, knt_some, knt_none, Option.toList_some, Option.toList_none, List.cons_append, List.nil_append, upI_eq, upI_a, upI_i, upR_eq, upR_a, upR_i, h36, ht, E1, E2, E3, E4, E5, E6, E7, fAdd_id, fSub_id, fMul_id, e62, e63]
                                                refine s260_212.mpr (wif (fun c212 => ?_) (fun c212 => ?_))
                                                · first
                                                  | (exfalso; omega)
                                                  | skip
                                                    refine (s260_215).mpr ?_
                                                    first | (exfalso; omega) | (exact ok _ _ _ ((tsL_37b c1 hb).trans (onw_p ⟨by dsimp only; omega, ⟨hk, hT.1, hT.2⟩, c175, y186.2.2⟩)) (flw1 (by rw [c1]; decide)) (by repeat' (first | assumption | exact FW.rf | refine FW.up ?_ (by unfold wS; omega) | (refine FW.tr ?_ (by assumption)))) (by (try simp (disch := decide) only [upI_eq, upI_a, upI_i, upR_eq, upR_a, upR_i]); try assumption) (by (try simp (disch := decide) only [upI_eq, upI_a, upI_i, upR_eq, upR_a, upR_i]); try assumption) (by simp (disch := decide) only [scX, upI_eq, upI_a, upI_i, upR_eq, upR_a, upR_i, upI_ro, upI_rw, ht, E1, E2, E3, E4, E5, E6, E7]; rfl)) | (exact nob _ (fun h => h.2.2.1 c175) (by repeat' (first | assumption | exact FW.rf | refine FW.up ?_ (by unfold wS; omega) | (refine FW.tr ?_ (by assumption)))) (by (try simp (disch := decide) only [upI_eq, upI_a, upI_i, upR_eq, upR_a, upR_i]); try assumption)) | (exact nob _ (fun h => by rcases x186 with h9 | h9; omega; exact h9 ⟨by omega, h.2.2.2⟩) (by repeat' (first | assumption | exact FW.rf | refine FW.up ?_ (by unfold wS; omega) | (refine FW.tr ?_ (by assumption)))) (by (try simp (disch := decide) only [upI_eq, upI_a, upI_i, upR_eq, upR_a, upR_i]); try assumption))
                                                · first
                                                  | (exfalso; omega)
                                                  | skip
                                                    refine s260_216.mpr ((s260_217 kM).mpr ?_)
                                                    rw [mr_33 hR]
                                                    refine s260_220.mpr (s260_221.mpr (s260_223.mpr ((s260_224 kM).mpr ?_)))
                                                    rw [mr_15 hR]
                                                    refine s260_227.mpr ?_
                                                    refine (s260_229 (hA.k (by decide) (by decide) rfl) (by first | assumption | omega) (by first | assumption | omega)).mpr ?_
                                                    try simp (disch := first | decide | assumption | omega) only [kon, knt_some, knt_none, Option.toList_some, Option.toList_none, List.cons_append, List.nil_append, upI_eq, upI_a, upI_i, upR_eq, upR_a, upR_i, h36, ht, E1, E2, E3, E4, E5, E6, E7, fAdd_id, fSub_id, fMul_id, e62, e63]
                                                    refine (s260_230 (by omega)).mpr ?_
                                                    refine m_inState ⟨v1, v2⟩ eth ?_
                                                    refine (s260_233 (hA.k (by decide) (by decide) rfl) (by first | assumption | omega) (by first | assumption | omega)).mpr ?_
                                                    try simp (disch := first | decide | assumption | omega) only [kon, knt_some, knt_none, Option.toList_some, Option.toList_none, List.cons_append, List.nil_append, upI_eq, upI_a, upI_i, upR_eq, upR_a, upR_i, h36, ht, E1, E2, E3, E4, E5, E6, E7, fAdd_id, fSub_id, fMul_id, e62, e63]
                                                    refine (s260_234).mpr ?_
                                                    first | (exfalso; omega) | (exact ok _ _ _ ((tsL_37b c1 hb).trans (onw_p ⟨by dsimp only; omega, ⟨hk, hT.1, hT.2⟩, c175, y186.2.2⟩)) (flw1 (by rw [c1]; decide)) (by repeat' (first | assumption | exact FW.rf | refine FW.up ?_ (by unfold wS; omega) | (refine FW.tr ?_ (by assumption)))) (by (try simp (disch := decide) only [upI_eq, upI_a, upI_i, upR_eq, upR_a, upR_i]); try assumption) (by (try simp (disch := decide) only [upI_eq, upI_a, upI_i, upR_eq, upR_a, upR_i]); try assumption) (by simp (disch := decide) only [scX, upI_eq, upI_a, upI_i, upR_eq, upR_a, upR_i, upI_ro, upI_rw, ht, E1, E2, E3, E4, E5, E6, E7]; rfl)) | (exact nob _ (fun h => h.2.2.1 c175) (by repeat' (first | assumption | exact FW.rf | refine FW.up ?_ (by unfold wS; omega) | (refine FW.tr ?_ (by assumption)))) (by (try simp (disch := decide) only [upI_eq, upI_a, upI_i, upR_eq, upR_a, upR_i]); try assumption)) | (exact nob _ (fun h => by rcases x186 with h9 | h9; omega; exact h9 ⟨by omega, h.2.2.2⟩) (by repeat' (first | assumption | exact FW.rf | refine FW.up ?_ (by unfold wS; omega) | (refine FW.tr ?_ (by assumption)))) (by (try simp (disch := decide) only [upI_eq, upI_a, upI_i, upR_eq, upR_a, upR_i]); try assumption))
                                              · skip
                                                refine s260_208.mpr ?_
                                                refine (s260_209 kM).mpr ?_
                                                try simp (disch := first | decide | assumption | omega) only [kon, knt_some, knt_none, Option.toList_some, Option.toList_none, List.cons_append, List.nil_append, upI_eq, upI_a, upI_i, upR_eq, upR_a, upR_i, h36, ht, E1, E2, E3, E4, E5, E6, E7, fAdd_id, fSub_id, fMul_id, e62, e63]
                                                refine s260_212.mpr (wif (fun c212 => ?_) (fun c212 => ?_))
                                                · first
                                                  | (exfalso; omega)
                                                  | skip
                                                    refine (s260_215).mpr ?_
                                                    first | (exfalso; omega) | (exact ok _ _ _ ((tsL_37b c1 hb).trans (onw_p ⟨by dsimp only; omega, ⟨hk, hT.1, hT.2⟩, c175, y186.2.2⟩)) (flw1 (by rw [c1]; decide)) (by repeat' (first | assumption | exact FW.rf | refine FW.up ?_ (by unfold wS; omega) | (refine FW.tr ?_ (by assumption)))) (by (try simp (disch := decide) only [upI_eq, upI_a, upI_i, upR_eq, upR_a, upR_i]); try assumption) (by (try simp (disch := decide) only [upI_eq, upI_a, upI_i, upR_eq, upR_a, upR_i]); try assumption) (by simp (disch := decide) only [scX, upI_eq, upI_a, upI_i, upR_eq, upR_a, upR_i, upI_ro, upI_rw, ht, E1, E2, E3, E4, E5, E6, E7]; rfl)) | (exact nob _ (fun h => h.2.2.1 c175) (by repeat' (first | assumption | exact FW.rf | refine FW.up ?_ (by unfold wS; omega) | (refine FW.tr ?_ (by assumption)))) (by (try simp (disch := decide) only [upI_eq, upI_a, upI_i, upR_eq, upR_a, upR_i]); try assumption)) | (exact nob _ (fun h => by rcases x186 with h9 | h9; omega; exact h9 ⟨by omega, h.2.2.2⟩) (by repeat' (first | assumption | exact FW.rf | refine FW.up ?_ (by unfold wS; omega) | (refine FW.tr ?_ (by assumption)))) (by (try simp (disch := decide) only [upI_eq, upI_a, upI_i, upR_eq, upR_a, upR_i]); try assumption))
                                                · first
                                                  | (exfalso; omega)
                                                  | skip
                                                    refine s260_216.mpr ((s260_217 kM).mpr ?_)
                                                    rw [mr_33 hR]
                                                    refine s260_220.mpr (s260_221.mpr (s260_223.mpr ((s260_224 kM).mpr ?_)))
                                                    rw [mr_15 hR]
                                                    refine s260_227.mpr ?_
                                                    refine (s260_229 (hA.k (by decide) (by decide) rfl) (by first | assumption | omega) (by first | assumption | omega)).mpr ?_
                                                    try simp (disch := first | decide | assumption | omega) only [kon, knt_some, knt_none, Option.toList_some, Option.toList_none, List.cons_append, List.nil_append, upI_eq, upI_a, upI_i, upR_eq, upR_a, upR_i, h36, ht, E1, E2, E3, E4, E5, E6, E7, fAdd_id, fSub_id, fMul_id, e62, e63]
                                                    refine (s260_230 (by omega)).mpr ?_
                                                    refine m_inState ⟨v1, v2⟩ eth ?_
                                                    refine (s260_233 (hA.k (by decide) (by decide) rfl) (by first | assumption | omega) (by first | assumption | omega)).mpr ?_
                                                    try simp (disch := first | decide | assumption | omega) only [kon, knt_some, knt_none, Option.toList_some, Option.toList_none, List.cons_append, List.nil_append, upI_eq, upI_a, upI_i, upR_eq, upR_a, upR_i, h36, ht, E1, E2, E3, E4, E5, E6, E7, fAdd_id, fSub_id, fMul_id, e62, e63]
                                                    refine (s260_234).mpr ?_
                                                    first | (exfalso; omega) | (exact ok _ _ _ ((tsL_37b c1 hb).trans (onw_p ⟨by dsimp only; omega, ⟨hk, hT.1, hT.2⟩, c175, y186.2.2⟩)) (flw1 (by rw [c1]; decide)) (by repeat' (first | assumption | exact FW.rf | refine FW.up ?_ (by unfold wS; omega) | (refine FW.tr ?_ (by assumption)))) (by (try simp (disch := decide) only [upI_eq, upI_a, upI_i, upR_eq, upR_a, upR_i]); try assumption) (by (try simp (disch := decide) only [upI_eq, upI_a, upI_i, upR_eq, upR_a, upR_i]); try assumption) (by simp (disch := decide) only [scX, upI_eq, upI_a, upI_i, upR_eq, upR_a, upR_i, upI_ro, upI_rw, ht, E1, E2, E3, E4, E5, E6, E7]; rfl)) | (exact nob _ (fun h => h.2.2.1 c175) (by repeat' (first | assumption | exact FW.rf | refine FW.up ?_ (by unfold wS; omega) | (refine FW.tr ?_ (by assumption)))) (by (try simp (disch := decide) only [upI_eq, upI_a, upI_i, upR_eq, upR_a, upR_i]); try assumption)) | (exact nob _ (fun h => by rcases x186 with h9 | h9; omega; exact h9 ⟨by omega, h.2.2.2⟩) (by repeat' (first | assumption | exact FW.rf | refine FW.up ?_ (by unfold wS; omega) | (refine FW.tr ?_ (by assumption)))) (by (try simp (disch := decide) only [upI_eq, upI_a, upI_i, upR_eq, upR_a, upR_i]); try assumption))
                                          · first
                                            | (exfalso; omega)
                                            | skip
                                              refine s260_204.mpr ?_
                                              refine (s260_205 (by omega) kM).mpr ?_
                                              refine m_wants hA (by omega) (by (try simp (disch := decide) only [upI_eq, upI_a, upI_i, upR_eq, upR_a, upR_i]); first | assumption | rfl) (by omega) (fun y205 => ?_) (fun y205 => ?_)
                                              · skip
                                                refine s260_208.mpr ?_
                                                refine (s260_209 kM).mpr ?_
                                                try simp (disch := first | decide | assumption | omega) only [kon, knt_some, knt_none, Option.toList_some, Option.toList_none, List.cons_append, List.nil_append, upI_eq, upI_a, upI_i, upR_eq, upR_a, upR_i, h36, ht, E1, E2, E3, E4, E5, E6, E7, fAdd_id, fSub_id, fMul_id, e62, e63]
                                                refine s260_212.mpr (wif (fun c212 => ?_) (fun c212 => ?_))
                                                · first
                                                  | (exfalso; omega)
                                                  | skip
                                                    refine (s260_215).mpr ?_
                                                    first | (exfalso; omega) | (exact ok _ _ _ ((tsL_37b c1 hb).trans (onw_p ⟨by dsimp only; omega, ⟨hk, hT.1, hT.2⟩, c175, y186.2.2⟩)) (flw1 (by rw [c1]; decide)) (by repeat' (first | assumption | exact FW.rf | refine FW.up ?_ (by unfold wS; omega) | (refine FW.tr ?_ (by assumption)))) (by (try simp (disch := decide) only [upI_eq, upI_a, upI_i, upR_eq, upR_a, upR_i]); try assumption) (by (try simp (disch := decide) only [upI_eq, upI_a, upI_i, upR_eq, upR_a, upR_i]); try assumption) (by simp (disch := decide) only [scX, upI_eq, upI_a, upI_i, upR_eq, upR_a, upR_i, upI_ro, upI_rw, ht, E1, E2, E3, E4, E5, E6, E7]; rfl)) | (exact nob _ (fun h => h.2.2.1 c175) (by repeat' (first | assumption | exact FW.rf | refine FW.up ?_ (by unfold wS; omega) | (refine FW.tr ?_ (by assumption)))) (by (try simp (disch := decide) only [upI_eq, upI_a, upI_i, upR_eq, upR_a, upR_i]); try assumption)) | (exact nob _ (fun h => by rcases x186 with h9 | h9; omega; exact h9 ⟨by omega, h.2.2.2⟩) (by repeat' (first | assumption | exact FW.rf | refine FW.up ?_ (by unfold wS; omega) | (refine FW.tr ?_ (by assumption)))) (by (try simp (disch := decide) only [upI_eq, upI_a, upI_i, upR_eq, upR_a, upR_i]); try assumption))
                                                · first
                                                  | (exfalso; omega)
                                                  | skip
                                                    refine s260_216.mpr ((s260_217 kM).mpr ?_)
                                                    rw [mr_33 hR]
                                                    refine s260_220.mpr (s260_221.mpr (s260_223.mpr ((s260_224 kM).mpr ?_)))
                                                    rw [mr_15 hR]
                                                    refine s260_227.mpr ?_
                                                    refine (s260_229 (hA.k (by decide) (by decide) rfl) (by first | assumption | omega) (by first | assumption | omega)).mpr ?_
                                                    try simp (disch := first | decide | assumption | omega) only [kon, knt_some, knt_none, Option.toList_some, Option.toList_none, List.cons_append, List.nil_append, upI_eq, upI_a, upI_i, upR_eq, upR_a, upR_i, h36, ht, E1, E2, E3, E4, E5, E6, E7, fAdd_id, fSub_id, fMul_id, e62, e63]
                                                    refine (s260_230 (by omega)).mpr ?_
                                                    refine m_inState ⟨v1, v2⟩ eth ?_
                                                    refine (s260_233 (hA.k (by decide) (by decide) rfl) (by first | assumption | omega) (by first | assumption | omega)).mpr ?_
                                                    try simp (disch := first | decide | assumption | omega) only [kon, knt_some, knt_none, Option.toList_some, Option.toList_none, List.cons_append, List.nil_append, upI_eq, upI_a, upI_i, upR_eq, upR_a, upR_i, h36, ht, E1, E2, E3, E4, E5, E6, E7, fAdd_id, fSub_id, fMul_id, e62, e63]
                                                    refine (s260_234).mpr ?_
                                                    first | (exfalso; omega) | (exact ok _ _ _ ((tsL_37b c1 hb).trans (onw_p ⟨by dsimp only; omega, ⟨hk, hT.1, hT.2⟩, c175, y186.2.2⟩)) (flw1 (by rw [c1]; decide)) (by repeat' (first | assumption | exact FW.rf | refine FW.up ?_ (by unfold wS; omega) | (refine FW.tr ?_ (by assumption)))) (by (try simp (disch := decide) only [upI_eq, upI_a, upI_i, upR_eq, upR_a, upR_i]); try assumption) (by (try simp (disch := decide) only [upI_eq, upI_a, upI_i, upR_eq, upR_a, upR_i]); try assumption) (by simp (disch := decide) only [scX, upI_eq, upI_a, upI_i, upR_eq, upR_a, upR_i, upI_ro, upI_rw, ht, E1, E2, E3, E4, E5, E6, E7]; rfl)) | (exact nob _ (fun h => h.2.2.1 c175) (by repeat' (first | assumption | exact FW.rf | refine FW.up ?_ (by unfold wS; omega) | (refine FW.tr ?_ (by assumption)))) (by (try simp (disch := decide) only [upI_eq, upI_a, upI_i, upR_eq, upR_a, upR_i]); try assumption)) | (exact nob _ (fun h => by rcases x186 with h9 | h9; omega; exact h9 ⟨by omega, h.2.2.2⟩) (by repeat' (first | assumption | exact FW.rf | refine FW.up ?_ (by unfold wS; omega) | (refine FW.tr ?_ (by assumption)))) (by (try simp (disch := decide) only [upI_eq, upI_a, upI_i, upR_eq, upR_a, upR_i]); try assumption))
                                              · skip
                                                refine s260_208.mpr ?_
                                                refine (s260_209 kM).mpr ?_
                                                try simp (disch := first | decide | assumption | omega) only [kon, knt_some, knt_none, Option.toList_some, Option.toList_none, List.cons_append, List.nil_append, upI_eq, upI_a, upI_i, upR_eq, upR_a, upR_i, h36, ht, E1, E2, E3, E4, E5, E6, E7, fAdd_id, fSub_id, fMul_id, e62, e63]
                                                refine s260_212.mpr (wif (fun c212 => ?_) (fun c212 => ?_))
                                                · first
                                                  | (exfalso; omega)
                                                  | skip
                                                    refine (s260_215).mpr ?_
                                                    first | (exfalso; omega) | (exact ok _ _ _ ((tsL_37b c1 hb).trans (onw_p ⟨by dsimp only; omega, ⟨hk, hT.1, hT.2⟩, c175, y186.2.2⟩)) (flw1 (by rw [c1]; decide)) (by repeat' (first | assumption | exact FW.rf | refine FW.up ?_ (by unfold wS; omega) | (refine FW.tr ?_ (by assumption)))) (by (try simp (disch := decide) only [upI_eq, upI_a, upI_i, upR_eq, upR_a, upR_i]); try assumption) (by (try simp (disch := decide) only [upI_eq, upI_a, upI_i, upR_eq, upR_a, upR_i]); try assumption) (by simp (disch := decide) only [scX, upI_eq, upI_a, upI_i, upR_eq, upR_a, upR_i, upI_ro, upI_rw, ht, E1, E2, E3, E4, E5, E6, E7]; rfl)) | (exact nob _ (fun h => h.2.2.1 c175) (by repeat' (first | assumption | exact FW.rf | refine FW.up ?_ (by unfold wS; omega) | (refine FW.tr ?_ (by assumption)))) (by (try simp (disch := decide) only [upI_eq, upI_a, upI_i, upR_eq, upR_a, upR_i]); try assumption)) | (exact nob _ (fun h => by rcases x186 with h9 | h9; omega; exact h9 ⟨by omega, h.2.2.2⟩) (by repeat' (first | assumption | exact FW.rf | refine FW.up ?_ (by unfold wS; omega) | (refine FW.tr ?_ (by assumption)))) (by (try simp (disch := decide) only [upI_eq, upI_a, upI_i, upR_eq, upR_a, upR_i]); try assumption))
                                                · first
                                                  | (exfalso; omega)
                                                  | skip
                                                    refine s260_216.mpr ((s260_217 kM).mpr ?_)
                                                    rw [mr_33 hR]
                                                    refine s260_220.mpr (s260_221.mpr (s260_223.mpr ((s260_224 kM).mpr ?_)))
                                                    rw [mr_15 hR]
                                                    refine s260_227.mpr ?_
                                                    refine (s260_229 (hA.k (by decide) (by decide) rfl) (by first | assumption | omega) (by first | assumption | omega)).mpr ?_
                                                    try simp (disch := first | decide | assumption | omega) only [kon, knt_some, knt_none, Option.toList_some, Option.toList_none, List.cons_append, List.nil_append, upI_eq, upI_a, upI_i, upR_eq, upR_a, upR_i, h36, ht, E1, E2, E3, E4, E5, E6, E7, fAdd_id, fSub_id, fMul_id, e62, e63]
                                                    refine (s260_230 (by omega)).mpr ?_
                                                    refine m_inState ⟨v1, v2⟩ eth ?_
                                                    refine (s260_233 (hA.k (by decide) (by decide) rfl) (by first | assumption | omega) (by first | assumption | omega)).mpr ?_
                                                    try simp (disch := first | decide | assumption | omega) only [kon, knt_some, knt_none, Option.toList_some, Option.toList_none, List.cons_append, List.nil_append, upI_eq, upI_a, upI_i, upR_eq, upR_a, upR_i, h36, ht, E1, E2, E3, E4, E5, E6, E7, fAdd_id, fSub_id, fMul_id, e62, e63]
                                                    refine (s260_234).mpr ?_
                                                    first | (exfalso; omega) | (exact ok _ _ _ ((tsL_37b c1 hb).trans (onw_p ⟨by dsimp only; omega, ⟨hk, hT.1, hT.2⟩, c175, y186.2.2⟩)) (flw1 (by rw [c1]; decide)) (by repeat' (first | assumption | exact FW.rf | refine FW.up ?_ (by unfold wS; omega) | (refine FW.tr ?_ (by assumption)))) (by (try simp (disch := decide) only [upI_eq, upI_a, upI_i, upR_eq, upR_a, upR_i]); try assumption) (by (try simp (disch := decide) only [upI_eq, upI_a, upI_i, upR_eq, upR_a, upR_i]); try assumption) (by simp (disch := decide) only [scX, upI_eq, upI_a, upI_i, upR_eq, upR_a, upR_i, upI_ro, upI_rw, ht, E1, E2, E3, E4, E5, E6, E7]; rfl)) | (exact nob _ (fun h => h.2.2.1 c175) (by repeat' (first | assumption | exact FW.rf | refine FW.up ?_ (by unfold wS; omega) | (refine FW.tr ?_ (by assumption)))) (by (try simp (disch := decide) only [upI_eq, upI_a, upI_i, upR_eq, upR_a, upR_i]); try assumption)) | (exact nob _ (fun h => by rcases x186 with h9 | h9; omega; exact h9 ⟨by omega, h.2.2.2⟩) (by repeat' (first | assumption | exact FW.rf | refine FW.up ?_ (by unfold wS; omega) | (refine FW.tr ?_ (by assumption)))) (by (try simp (disch := decide) only [upI_eq, upI_a, upI_i, upR_eq, upR_a, upR_i]); try assumption))
                                        · skip
                                          try simp (disch := decide) only [upI_eq, upI_a, upI_i, upR_eq, upR_a, upR_i, E1, E4] at y186
                                          try simp (disch := decide) only [upI_eq, upI_a, upI_i, upR_eq, upR_a, upR_i, E1, E4] at x186
                                          refine s260_189.mpr (s260_190.mpr ?_)
                                          refine (s260_191 kM).mpr ?_
                                          refine s260_194.mpr (s260_195.mpr (s260_196.mpr ?_))
                                          try simp (disch := first | decide | assumption | omega) only [kon, knt_some, knt_none, Option.toList_some, Option.toList_none, List.cons_append, List.nil_append, upI_eq, upI_a, upI_i, upR_eq, upR_a, upR_i, h36, ht, E1, E2, E3, E4, E5, E6, E7, fAdd_id, fSub_id, fMul_id, e62, e63]
                                          refine s260_197.mpr (wif (fun c197 => ?_) (fun c197 => ?_))
                                          · first
                                            | (exfalso; omega)
                                            | skip
                                              refine s260_200.mpr (s260_201.mpr ?_)
                                              refine (s260_205 (by omega) kM).mpr ?_
                                              refine m_wants hA (by omega) (by (try simp (disch := decide) only [upI_eq, upI_a, upI_i, upR_eq, upR_a, upR_i]); first | assumption | rfl) (by omega) (fun y205 => ?_) (fun y205 => ?_)
                                              · skip
                                                refine s260_208.mpr ?_
                                                refine (s260_209 kM).mpr ?_
                                                try simp (disch := first | decide | assumption | omega) only [kon, knt_some, knt_none, Option.toList_some, Option.toList_none, List.cons_append, List.nil_append, upI_eq, upI_a, upI_i, upR_eq, upR_a, upR_i, h36, ht, E1, E2, E3, E4, E5, E6, E7, fAdd_id, fSub_id, fMul_id, e62, e63]
                                                refine s260_212.mpr (wif (fun c212 => ?_) (fun c212 => ?_))
                                                · first
                                                  | (exfalso; omega)
                                                  | skip
                                                    refine (s260_215).mpr ?_
                                                    first | (exfalso; omega) | (exact ok _ _ _ ((tsL_37b c1 hb).trans (onw_p ⟨by dsimp only; omega, ⟨hk, hT.1, hT.2⟩, c175, y186.2.2⟩)) (flw1 (by rw [c1]; decide)) (by repeat' (first | assumption | exact FW.rf | refine FW.up ?_ (by unfold wS; omega) | (refine FW.tr ?_ (by assumption)))) (by (try simp (disch := decide) only [upI_eq, upI_a, upI_i, upR_eq, upR_a, upR_i]); try assumption) (by (try simp (disch := decide) only [upI_eq, upI_a, upI_i, upR_eq, upR_a, upR_i]); try assumption) (by simp (disch := decide) only [scX, upI_eq, upI_a, upI_i, upR_eq, upR_a, upR_i, upI_ro, upI_rw, ht, E1, E2, E3, E4, E5, E6, E7]; rfl)) | (exact nob _ (fun h => h.2.2.1 c175) (by repeat' (first | assumption | exact FW.rf | refine FW.up ?_ (by unfold wS; omega) | (refine FW.tr ?_ (by assumption)))) (by (try simp (disch := decide) only [upI_eq, upI_a, upI_i, upR_eq, upR_a, upR_i]); try assumption)) | (exact nob _ (fun h => by rcases x186 with h9 | h9; omega; exact h9 ⟨by omega, h.2.2.2⟩) (by repeat' (first | assumption | exact FW.rf | refine FW.up ?_ (by unfold wS; omega) | (refine FW.tr ?_ (by assumption)))) (by (try simp (disch := decide) only [upI_eq, upI_a, upI_i, upR_eq, upR_a, upR_i]); try assumption))
                                                · first
                                                  | (exfalso; omega)
                                                  | skip
                                                    refine s260_216.mpr ((s260_217 kM).mpr ?_)
                                                    rw [mr_33 hR]
                                                    refine s260_220.mpr (s260_221.mpr (s260_223.mpr ((s260_224 kM).mpr ?_)))
                                                    rw [mr_15 hR]
                                                    refine s260_227.mpr ?_
                                                    refine (s260_229 (hA.k (by decide) (by decide) rfl) (by first | assumption | omega) (by first | assumption | omega)).mpr ?_
                                                    try simp (disch := first | decide | assumption | omega) only [kon, knt_some, knt_none, Option.toList_some, Option.toList_none, List.cons_append, List.nil_append, upI_eq, upI_a, upI_i, upR_eq, upR_a, upR_i, h36, ht, E1, E2, E3, E4, E5, E6, E7, fAdd_id, fSub_id, fMul_id, e62, e63]
                                                    refine (s260_230 (by omega)).mpr ?_
                                                    refine m_inState ⟨v1, v2⟩ eth ?_
                                                    refine (s260_233 (hA.k (by decide) (by decide) rfl) (by first | assumption | omega) (by first | assumption | omega)).mpr ?_
                                                    try simp (disch := first | decide | assumption | omega) only [kon, knt_some, knt_none, Option.toList_some, Option.toList_none, List.cons_append, List.nil_append, upI_eq, upI_a, upI_i, upR_eq, upR_a, upR_i, h36, ht, E1, E2, E3, E4, E5, E6, E7, fAdd_id, fSub_id, fMul_id, e62, e63]
                                                    refine (s260_234).mpr ?_
                                                    first | (exfalso; omega) | (exact ok _ _ _ ((tsL_37b c1 hb).trans (onw_p ⟨by dsimp only; omega, ⟨hk, hT.1, hT.2⟩, c175, y186.2.2⟩)) (flw1 (by rw [c1]; decide)) (by repeat' (first | assumption | exact FW.rf | refine FW.up ?_ (by unfold wS; omega) | (refine FW.tr ?_ (by assumption)))) (by (try simp (disch := decide) only [upI_eq, upI_a, upI_i, upR_eq, upR_a, upR_i]); try assumption) (by (try simp (disch := decide) only [upI_eq, upI_a, upI_i, upR_eq, upR_a, upR_i]); try assumption) (by simp (disch := decide) only [scX, upI_eq, upI_a, upI_i, upR_eq, upR_a, upR_i, upI_ro, upI_rw, ht, E1, E2, E3, E4, E5, E6, E7]; rfl)) | (exact nob _ (fun h => h.2.2.1 c175) (by repeat' (first | assumption | exact FW.rf | refine FW.up ?_ (by unfold wS; omega) | (refine FW.tr ?_ (by assumption)))) (by (try simp (disch := decide) only [upI_eq, upI_a, upI_i, upR_eq, upR_a, upR_i]); try assumption)) | (exact nob _ (fun h => by rcases x186 with h9 | h9; omega; exact h9 ⟨by omega, h.2.2.2⟩) (by repeat' (first | assumption | exact FW.rf | refine FW.up ?_ (by unfold wS; omega) | (refine FW.tr ?_ (by assumption)))) (by (try simp (disch := decide) only [upI_eq, upI_a, upI_i, upR_eq, upR_a, upR_i]); try assumption))
                                              · skip
                                                refine s260_208.mpr ?_
                                                refine (s260_209 kM).mpr ?_
                                                try simp (disch := first | decide | assumption | omega) only [kon, knt_some, knt_none, Option.toList_some, Option.toList_none, List.cons_append, List.nil_append, upI_eq, upI_a, upI_i, upR_eq, upR_a, upR_i, h36, ht, E1, E2, E3, E4, E5, E6, E7, fAdd_id, fSub_id, fMul_id, e62, e63]
                                                refine s260_212.mpr (wif (fun c212 => ?_) (fun c212 => ?_))
                                                · first
                                                  | (exfalso; omega)
                                                  | skip
                                                    refine (s260_215).mpr ?_
                                                    first | (exfalso; omega) | (exact ok _ _ _ ((tsL_37b c1 hb).trans (onw_p ⟨by dsimp only; omega, ⟨hk, hT.1, hT.2⟩, c175, y186.2.2⟩)) (flw1 (by rw [c1]; decide)) (by repeat' (first | assumption | exact FW.rf | refine FW.up ?_ (by unfold wS; omega) | (refine FW.tr ?_ (by assumption)))) (by (try simp (disch := decide) only [upI_eq, upI_a, upI_i, upR_eq, upR_a, upR_i]); try assumption) (by (try simp (disch := decide) only [upI_eq, upI_a, upI_i, upR_eq, upR_a, upR_i]); try assumption) (by simp (disch := decide) only [scX, upI_eq, upI_a, upI_i, upR_eq, upR_a, upR_i, upI_ro, upI_rw, ht, E1, E2, E3, E4, E5, E6, E7]; rfl)) | (exact nob _ (fun h => h.2.2.1 c175) (by repeat' (first | assumption | exact FW.rf | refine FW.up ?_ (by unfold wS; omega) | (refine FW.tr ?_ (by assumption)))) (by (try simp (disch := decide) only [upI_eq, upI_a, upI_i, upR_eq, upR_a, upR_i]); try assumption)) | (exact nob _ (fun h => by rcases x186 with h9 | h9; omega; exact h9 ⟨by omega, h.2.2.2⟩) (by repeat' (first | assumption | exact FW.rf | refine FW.up ?_ (by unfold wS; omega) | (refine FW.tr ?_ (by assumption)))) (by (try simp (disch := decide) only [upI_eq, upI_a, upI_i, upR_eq, upR_a, upR_i]); try assumption))
                                                · first
                                                  | (exfalso; omega)
                                                  | skip
                                                    refine s260_216.mpr ((s260_217 kM).mpr ?_)
                                                    rw [mr_33 hR]
                                                    refine s260_220.mpr (s260_221.mpr (s260_223.mpr ((s260_224 kM).mpr ?_)))
                                                    rw [mr_15 hR]
                                                    refine s260_227.mpr ?_
                                                    refine (s260_229 (hA.k (by decide) (by decide) rfl) (by first | assumption | omega) (by first | assumption | omega)).mpr ?_
                                                    try simp (disch := first | decide | assumption | omega) only [kon, knt_some, knt_none, Option.toList_some, Option.toList_none, List.cons_append, List.nil_append, upI_eq, upI_a, upI_i, upR_eq, upR_a, upR_i, h36, ht, E1, E2, E3, E4, E5, E6, E7, fAdd_id, fSub_id, fMul_id, e62, e63]
                                                    refine (s260_230 (by omega)).mpr ?_
                                                    refine m_inState ⟨v1, v2⟩ eth ?_
                                                    refine (s260_233 (hA.k (by decide) (by decide) rfl) (by first | assumption | omega) (by first | assumption | omega)).mpr ?_
                                                    try simp (disch := first | decide | assumption | omega) only [kon, knt_some, knt_none, Option.toList_some, Option.toList_none, List.cons_append, List.nil_append, upI_eq, upI_a, upI_i, upR_eq, upR_a, upR_i, h36, ht, E1, E2, E3, E4, E5, E6, E7, fAdd_id, fSub_id, fMul_id, e62, e63]
                                                    refine (s260_234).mpr ?_
                                                    first | (exfalso; omega) | (exact ok _ _ _ ((tsL_37b c1 hb).trans (onw_p ⟨by dsimp only; omega, ⟨hk, hT.1, hT.2⟩, c175, y186.2.2⟩)) (flw1 (by rw [c1]; decide)) (by repeat' (first | assumption | exact FW.rf | refine FW.up ?_ (by unfold wS; omega) | (refine FW.tr ?_ (by assumption)))) (by (try simp (disch := decide) only [upI_eq, upI_a, upI_i, upR_eq, upR_a, upR_i]); try assumption) (by (try simp (disch := decide) only [upI_eq, upI_a, upI_i, upR_eq, upR_a, upR_i]); try assumption) (by simp (disch := decide) only [scX, upI_eq, upI_a, upI_i, upR_eq, upR_a, upR_i, upI_ro, upI_rw, ht, E1, E2, E3, E4, E5, E6, E7]; rfl)) | (exact nob _ (fun h => h.2.2.1 c175) (by repeat' (first | assumption | exact FW.rf | refine FW.up ?_ (by unfold wS; omega) | (refine FW.tr ?_ (by assumption)))) (by (try simp (disch := decide) only [upI_eq, upI_a, upI_i, upR_eq, upR_a, upR_i]); try assumption)) | (exact nob _ (fun h => by rcases x186 with h9 | h9; omega; exact h9 ⟨by omega, h.2.2.2⟩) (by repeat' (first | assumption | exact FW.rf | refine FW.up ?_ (by unfold wS; omega) | (refine FW.tr ?_ (by assumption)))) (by (try simp (disch := decide) only [upI_eq, upI_a, upI_i, upR_eq, upR_a, upR_i]); try assumption))
                                          · first
                                            | (exfalso; omega)
                                            | skip
                                              refine s260_204.mpr ?_
                                              refine (s260_205 (by omega) kM).mpr ?_
                                              refine m_wants hA (by omega) (by (try simp (disch := decide) only [upI_eq, upI_a, upI_i, upR_eq, upR_a, upR_i]); first | assumption | rfl) (by omega) (fun y205 => ?_) (fun y205 => ?_)
                                              · skip
                                                refine s260_208.mpr ?_
                                                refine (s260_209 kM).mpr ?_
                                                try simp (disch := first | decide | assumption | omega) only [kon, knt_some, knt_none, Option.toList_some, Option.toList_none, List.cons_append, List.nil_append, upI_eq, upI_a, upI_i, upR_eq, upR_a, upR_i, h36, ht, E1, E2, E3, E4, E5, E6, E7, fAdd_id, fSub_id, fMul_id, e62, e63]
                                                refine s260_212.mpr (wif (fun c212 => ?_) (fun c212 => ?_))
                                                · first
                                                  | (exfalso; omega)
                                                  | skip
                                                    refine (s260_215).mpr ?_
                                                    first | (exfalso; omega) | (exact ok _ _ _ ((tsL_37b c1 hb).trans (onw_p ⟨by dsimp only; omega, ⟨hk, hT.1, hT.2⟩, c175, y186.2.2⟩)) (flw1 (by rw [c1]; decide)) (by repeat' (first | assumption | exact FW.rf | refine FW.up ?_ (by unfold wS; omega) | (refine FW.tr ?_ (by assumption)))) (by (try simp (disch := decide) only [upI_eq, upI_a, upI_i, upR_eq, upR_a, upR_i]); try assumption) (by (try simp (disch := decide) only [upI_eq, upI_a, upI_i, upR_eq, upR_a, upR_i]); try assumption) (by simp (disch := decide) only [scX, upI_eq, upI_a, upI_i, upR_eq, upR_a, upR_i, upI_ro, upI_rw, ht, E1, E2, E3, E4, E5, E6, E7]; rfl)) | (exact nob _ (fun h => h.2.2.1 c175) (by repeat' (first | assumption | exact FW.rf | refine FW.up ?_ (by unfold wS; omega) | (refine FW.tr ?_ (by assumption)))) (by (try simp (disch := decide) only [upI_eq, upI_a, upI_i, upR_eq, upR_a, upR_i]); try assumption)) | (exact nob _ (fun h => by rcases x186 with h9 | h9; omega; exact h9 ⟨by omega, h.2.2.2⟩) (by repeat' (first | assumption | exact FW.rf | refine FW.up ?_ (by unfold wS; omega) | (refine FW.tr ?_ (by assumption)))) (by (try simp (disch := decide) only [upI_eq, upI_a, upI_i, upR_eq, upR_a, upR_i]); try assumption))
                                                · first
                                                  | (exfalso; omega)
                                                  | skip
                                                    refine s260_216.mpr ((s260_217 kM).mpr ?_)
                                                    rw [mr_33 hR]
                                                    refine s260_220.mpr (s260_221.mpr (s260_223.mpr ((s260_224 kM).mpr ?_)))
                                                    rw [mr_15 hR]
                                                    refine s260_227.mpr ?_
                                                    refine (s260_229 (hA.k (by decide) (by decide) rfl) (by first | assumption | omega) (by first | assumption | omega)).mpr ?_
                                                    try simp (disch := first | decide | assumption | omega) only [kon, knt_some, knt_none, Option.toList_some, Option.toList_none, List.cons_append, List.nil_append, upI_eq, upI_a, upI_i, upR_eq, upR_a, upR_i, h36, ht, E1, E2, E3, E4, E5, E6, E7, fAdd_id, fSub_id, fMul_id, e62, e63]
                                                    refine (s260_230 (by omega)).mpr ?_
                                                    refine m_inState ⟨v1, v2⟩ eth ?_
                                                    refine (s260_233 (hA.k (by decide) (by decide) rfl) (by first | assumption | omega) (by first | assumption | omega)).mpr ?_
                                                    try simp (disch := first | decide | assumption | omega) only [kon, knt_some, knt_none, Option.toList_some, Option.toList_none, List.cons_append, List.nil_append, upI_eq, upI_a, upI_i, upR_eq, upR_a, upR_i, h36, ht, E1, E2, E3, E4, E5, E6, E7, fAdd_id, fSub_id, fMul_id, e62, e63]
                                                    refine (s260_234).mpr ?_
                                                    first | (exfalso; omega) | (exact ok _ _ _ ((tsL_37b c1 hb).trans (onw_p ⟨by dsimp only; omega, ⟨hk, hT.1, hT.2⟩, c175, y186.2.2⟩)) (flw1 (by rw [c1]; decide)) (by repeat' (first | assumption | exact FW.rf | refine FW.up ?_ (by unfold wS; omega) | (refine FW.tr ?_ (by assumption)))) (by (try simp (disch := decide) only [upI_eq, upI_a, upI_i, upR_eq, upR_a, upR_i]); try assumption) (by (try simp (disch := decide) only [upI_eq, upI_a, upI_i, upR_eq, upR_a, upR_i]); try assumption) (by simp (disch := decide) only [scX, upI_eq, upI_a, upI_i, upR_eq, upR_a, upR_i, upI_ro, upI_rw, ht, E1, E2, E3, E4, E5, E6, E7]; rfl)) | (exact nob _ (fun h => h.2.2.1 c175) (by repeat' (first | assumption | exact FW.rf | refine FW.up ?_ (by unfold wS; omega) | (refine FW.tr ?_ (by assumption)))) (by (try simp (disch := decide) only [upI_eq, upI_a, upI_i, upR_eq, upR_a, upR_i]); try assumption)) | (exact nob _ (fun h => by rcases x186 with h9 | h9; omega; exact h9 ⟨by omega, h.2.2.2⟩) (by repeat' (first | assumption | exact FW.rf | refine FW.up ?_ (by unfold wS; omega) | (refine FW.tr ?_ (by assumption)))) (by (try simp (disch := decide) only [upI_eq, upI_a, upI_i, upR_eq, upR_a, upR_i]); try assumption))
                                              · skip
                                                refine s260_208.mpr ?_
                                                refine (s260_209 kM).mpr ?_
                                                try simp (disch := first | decide | assumption | omega) only [kon, knt_some, knt_none, Option.toList_some, Option.toList_none, List.cons_append, List.nil_append, upI_eq, upI_a, upI_i, upR_eq, upR_a, upR_i, h36, ht, E1, E2, E3, E4, E5, E6, E7, fAdd_id, fSub_id, fMul_id, e62, e63]
                                                refine s260_212.mpr (wif (fun c212 => ?_) (fun c212 => ?_))
                                                · first
                                                  | (exfalso; omega)
                                                  | skip
                                                    refine (s260_215).mpr ?_
                                                    first | (exfalso; omega) | (exact ok _ _ _ ((tsL_37b c1 hb).trans (onw_p ⟨by dsimp only; omega, ⟨hk, hT.1, hT.2⟩, c175, y186.2.2⟩)) (flw1 (by rw [c1]; decide)) (by repeat' (first | assumption | exact FW.rf | refine FW.up ?_ (by unfold wS; omega) | (refine FW.tr ?_ (by assumption)))) (by (try simp (disch := decide) only [upI_eq, upI_a, upI_i, upR_eq, upR_a, upR_i]); try assumption) (by (try simp (disch := decide) only [upI_eq, upI_a, upI_i, upR_eq, upR_a, upR_i]); try assumption) (by simp (disch := decide) only [scX, upI_eq, upI_a, upI_i, upR_eq, upR_a, upR_i, upI_ro, upI_rw, ht, E1, E2, E3, E4, E5, E6, E7]; rfl)) | (exact nob _ (fun h => h.2.2.1 c175) (by repeat' (first | assumption | exact FW.rf | refine FW.up ?_ (by unfold wS; omega) | (refine FW.tr ?_ (by assumption)))) (by (try simp (disch := decide) only [upI_eq, upI_a, upI_i, upR_eq, upR_a, upR_i]); try assumption)) | (exact nob _ (fun h => by rcases x186 with h9 | h9; omega; exact h9 ⟨by omega, h.2.2.2⟩) (by repeat' (first | assumption | exact FW.rf | refine FW.up ?_ (by unfold wS; omega) | (refine FW.tr ?_ (by assumption)))) (by (try simp (disch := decide) only [upI_eq, upI_a, upI_i, upR_eq, upR_a, upR_i]); try assumption))
                                                · first
                                                  | (exfalso; omega)
                                                  | skip
                                                    refine s260_216.mpr ((s260_217 kM).mpr ?_)
                                                    rw [mr_33 hR]
                                                    refine s260_220.mpr (s260_221.mpr (s260_223.mpr ((s260_224 kM).mpr ?_)))
                                                    rw [mr_15 hR]
                                                    refine s260_227.mpr ?_
                                                    refine (s260_229 (hA.k (by decide) (by decide) rfl) (by first | assumption | omega) (by first | assumption | omega)).mpr ?_
                                                    try simp (disch := first | decide | assumption | omega) only [kon, knt_some, knt_none, Option.toList_some, Option.toList_none, List.cons_append, List.nil_append, upI_eq, upI_a, upI_i, upR_eq, upR_a, upR_i, h36, ht, E1, E2, E3, E4, E5, E6, E7, fAdd_id, fSub_id, fMul_id, e62, e63]
                                                    refine (s260_230 (by omega)).mpr ?_
                                                    refine m_inState ⟨v1, v2⟩ eth ?_
                                                    refine (s260_233 (hA.k (by decide) (by decide) rfl) (by first | assumption | omega) (by first | assumption | omega)).mpr ?_
                                                    try simp (disch := first | decide | assumption | omega) only [kon, knt_some, knt_none, Option.toList_some, Option.toList_none, List.cons_append, List.nil_append, upI_eq, upI_a, upI_i, upR_eq, upR_a, upR_i, h36, ht, E1, E2, E3, E4, E5, E6, E7, fAdd_id, fSub_id, fMul_id, e62, e63]
                                                    refine (s260_234).mpr ?_
                                                    first | (exfalso; omega) | (exact ok _ _ _ ((tsL_37b c1 hb).trans (onw_p ⟨by dsimp only; omega, ⟨hk, hT.1, hT.2⟩, c175, y186.2.2⟩)) (flw1 (by rw [c1]; decide)) (by repeat' (first | assumption | exact FW.rf | refine FW.up ?_ (by unfold wS; omega) | (refine FW.tr ?_ (by assumption)))) (by (try simp (disch := decide) only [upI_eq, upI_a, upI_i, upR_eq, upR_a, upR_i]); try assumption) (by (try simp (disch := decide) only [upI_eq, upI_a, upI_i, upR_eq, upR_a, upR_i]); try assumption) (by simp (disch := decide) only [scX, upI_eq, upI_a, upI_i, upR_eq, upR_a, upR_i, upI_ro, upI_rw, ht, E1, E2, E3, E4, E5, E6, E7]; rfl)) | (exact nob _ (fun h => h.2.2.1 c175) (by repeat' (first | assumption | exact FW.rf | refine FW.up ?_ (by unfold wS; omega) | (refine FW.tr ?_ (by assumption)))) (by (try simp (disch := decide) only [upI_eq, upI_a, upI_i, upR_eq, upR_a, upR_i]); try assumption)) | (exact nob _ (fun h => by rcases x186 with h9 | h9; omega; exact h9 ⟨by omega, h.2.2.2⟩) (by repeat' (first | assumption | exact FW.rf | refine FW.up ?_ (by unfold wS; omega) | (refine FW.tr ?_ (by assumption)))) (by (try simp (disch := decide) only [upI_eq, upI_a, upI_i, upR_eq, upR_a, upR_i]); try assumption))
                              · skip
                                refine s260_147.mpr ?_
                                refine (s260_148 kM).mpr ?_
                                try simp (disch := first | decide | assumption | omega) only [kon, knt_some, knt_none, Option.toList_some, Option.toList_none, List.cons_append, List.nil_append, upI_eq, upI_a, upI_i, upR_eq, upR_a, upR_i, h36, ht, E1, E2, E3, E4, E5, E6, E7, fAdd_id, fSub_id, fMul_id, e62, e63]
                                refine s260_151.mpr (wif (fun c151 => ?_) (fun c151 => ?_))
                                · first
                                  | (exfalso; omega)
                                  | skip
                                    exfalso; omega
                                · first
                                  | (exfalso; omega)
                                  | skip
                                    refine s260_155.mpr (s260_156.mpr (s260_157.mpr ?_))
                                    refine (s260_159 (by omega)).mpr ?_
                                    refine m_stateOf (by omega) ⟨hm0, hm1⟩ hr9 ?_
                                    refine s260_162.mpr (s260_163.mpr (s260_164.mpr (s260_165.mpr (s260_167.mpr ((s260_168 kM).mpr ?_)))))
                                    rw [mr_14 hR]
                                    refine s260_171.mpr ?_
                                    try simp (disch := first | decide | assumption | omega) only [kon, knt_some, knt_none, Option.toList_some, Option.toList_none, List.cons_append, List.nil_append, upI_eq, upI_a, upI_i, upR_eq, upR_a, upR_i, h36, ht, E1, E2, E3, E4, E5, E6, E7, fAdd_id, fSub_id, fMul_id, e62, e63]
                                    refine (s260_173 (hA.k (by decide) (by decide) rfl) (by first | assumption | omega) (by first | assumption | omega)).mpr ?_
                                    refine s260_174.mpr ?_
                                    try simp (disch := first | decide | assumption | omega) only [kon, knt_some, knt_none, Option.toList_some, Option.toList_none, List.cons_append, List.nil_append, upI_eq, upI_a, upI_i, upR_eq, upR_a, upR_i, h36, ht, E1, E2, E3, E4, E5, E6, E7, fAdd_id, fSub_id, fMul_id, e62, e63]
                                    refine s260_175.mpr (wif (fun c175 => ?_) (fun c175 => ?_))
                                    · first
                                      | (exfalso; omega)
                                      | skip
                                        refine s260_189.mpr (s260_190.mpr ?_)
                                        refine (s260_191 kM).mpr ?_
                                        refine s260_194.mpr (s260_195.mpr (s260_196.mpr ?_))
                                        try simp (disch := first | decide | assumption | omega) only [kon, knt_some, knt_none, Option.toList_some, Option.toList_none, List.cons_append, List.nil_append, upI_eq, upI_a, upI_i, upR_eq, upR_a, upR_i, h36, ht, E1, E2, E3, E4, E5, E6, E7, fAdd_id, fSub_id, fMul_id, e62, e63]
                                        refine s260_197.mpr (wif (fun c197 => ?_) (fun c197 => ?_))
                                        · first
                                          | (exfalso; omega)
                                          | skip
                                            refine s260_200.mpr (s260_201.mpr ?_)
                                            refine (s260_205 (by omega) kM).mpr ?_
                                            refine m_wants hA (by omega) (by (try simp (disch := decide) only [upI_eq, upI_a, upI_i, upR_eq, upR_a, upR_i]); first | assumption | rfl) (by omega) (fun y205 => ?_) (fun y205 => ?_)
                                            · skip
                                              refine s260_208.mpr ?_
                                              refine (s260_209 kM).mpr ?_
                                              try simp (disch := first | decide | assumption | omega) only [kon, knt_some, knt_none, Option.toList_some, Option.toList_none, List.cons_append, List.nil_append, upI_eq, upI_a, upI_i, upR_eq, upR_a, upR_i, h36, ht, E1, E2, E3, E4, E5, E6, E7, fAdd_id, fSub_id, fMul_id, e62, e63]
                                              refine s260_212.mpr (wif (fun c212 => ?_) (fun c212 => ?_))
                                              · first
                                                | (exfalso; omega)
                                                | skip
                                                  refine (s260_215).mpr ?_
                                                  first | (exfalso; omega) | (exact ok _ _ _ ((tsL_37b c1 hb).trans (onw_p ⟨by dsimp only; omega, ⟨hk, hT.1, hT.2⟩, c175, y186.2.2⟩)) (flw1 (by rw [c1]; decide)) (by repeat' (first | assumption | exact FW.rf | refine FW.up ?_ (by unfold wS; omega) | (refine FW.tr ?_ (by assumption)))) (by (try simp (disch := decide) only [upI_eq, upI_a, upI_i, upR_eq, upR_a, upR_i]); try assumption) (by (try simp (disch := decide) only [upI_eq, upI_a, upI_i, upR_eq, upR_a, upR_i]); try assumption) (by simp (disch := decide) only [scX, upI_eq, upI_a, upI_i, upR_eq, upR_a, upR_i, upI_ro, upI_rw, ht, E1, E2, E3, E4, E5, E6, E7]; rfl)) | (exact nob _ (fun h => h.2.2.1 c175) (by repeat' (first | assumption | exact FW.rf | refine FW.up ?_ (by unfold wS; omega) | (refine FW.tr ?_ (by assumption)))) (by (try simp (disch := decide) only [upI_eq, upI_a, upI_i, upR_eq, upR_a, upR_i]); try assumption)) | (exact nob _ (fun h => by rcases x186 with h9 | h9; omega; exact h9 ⟨by omega, h.2.2.2⟩) (by repeat' (first | assumption | exact FW.rf | refine FW.up ?_ (by unfold wS; omega) | (refine FW.tr ?_ (by assumption)))) (by (try simp (disch := decide) only [upI_eq, upI_a, upI_i, upR_eq, upR_a, upR_i]); try assumption))
                                              · first
                                                | (exfalso; omega)
                                                | skip
                                                  refine s260_216.mpr ((s260_217 kM).mpr ?_)
                                                  rw [mr_33 hR]
                                                  refine s260_220.mpr (s260_221.mpr (s260_223.mpr ((s260_224 kM).mpr ?_)))
                                                  rw [mr_15 hR]
                                                  refine s260_227.mpr ?_
                                                  refine (s260_229 (hA.k (by decide) (by decide) rfl) (by first | assumption | omega) (by first | assumption | omega)).mpr ?_
                                                  try simp (disch := first | decide | assumption | omega) only [kon, knt_some, knt_none, Option.toList_some, Option.toList_none, List.cons_append, List.nil_append, upI_eq, upI_a, upI_i, upR_eq, upR_a, upR_i, h36, ht, E1, E2, E3, E4, E5, E6, E7, fAdd_id, fSub_id, fMul_id, e62, e63]
                                                  refine (s260_230 (by omega)).mpr ?_
                                                  refine m_inState ⟨v1, v2⟩ eth ?_
                                                  refine (s260_233 (hA.k (by decide) (by decide) rfl) (by first | assumption | omega) (by first | assumption | omega)).mpr ?_
                                                  try simp (disch := first | decide | assumption | omega) only [kon, knt_some, knt_none, Option.toList_some, Option.toList_none, List.cons_append, List.nil_append, upI_eq, upI_a, upI_i, upR_eq, upR_a, upR_i, h36, ht, E1, E2, E3, E4, E5, E6, E7, fAdd_id, fSub_id, fMul_id, e62, e63]
                                                  refine (s260_234).mpr ?_
                                                  first | (exfalso; omega) | (exact ok _ _ _ ((tsL_37b c1 hb).trans (onw_p ⟨by dsimp only; omega, ⟨hk, hT.1, hT.2⟩, c175, y186.2.2⟩)) (flw1 (by rw [c1]; decide)) (by repeat' (first | assumption | exact FW.rf | refine FW.up ?_ (by unfold wS; omega) | (refine FW.tr ?_ (by assumption)))) (by (try simp (disch := decide) only [upI_eq, upI_a, upI_i, upR_eq, upR_a, upR_i]); try assumption) (by (try simp (disch := decide) only [upI_eq, upI_a, upI_i, upR_eq, upR_a, upR_i]); try assumption) (by simp (disch := decide) only [scX, upI_eq, upI_a, upI_i, upR_eq, upR_a, upR_i, upI_ro, upI_rw, ht, E1, E2, E3, E4, E5, E6, E7]; rfl)) | (exact nob _ (fun h => h.2.2.1 c175) (by repeat' (first | assumption | exact FW.rf | refine FW.up ?_ (by unfold wS; omega) | (refine FW.tr ?_ (by assumption)))) (by (try simp (disch := decide) only [upI_eq, upI_a, upI_i, upR_eq, upR_a, upR_i]); try assumption)) | (exact nob _ (fun h => by rcases x186 with h9 | h9; omega; exact h9 ⟨by omega, h.2.2.2⟩) (by repeat' (first | assumption | exact FW.rf | refine FW.up ?_ (by unfold wS; omega) | (refine FW.tr ?_ (by assumption)))) (by (try simp (disch := decide) only [upI_eq, upI_a, upI_i, upR_eq, upR_a, upR_i]); try assumption))
                                            · skip
                                              refine s260_208.mpr ?_
                                              refine (s260_209 kM).mpr ?_
                                              try simp (disch := first | decide | assumption | omega) only [kon, knt_some, knt_none, Option.toList_some, Option.toList_none, List.cons_append, List.nil_append, upI_eq, upI_a, upI_i, upR_eq, upR_a, upR_i, h36, ht, E1, E2, E3, E4, E5, E6, E7, fAdd_id, fSub_id, fMul_id, e62, e63]
                                              refine s260_212.mpr (wif (fun c212 => ?_) (fun c212 => ?_))
                                              · first
                                                | (exfalso; omega)
                                                | skip
                                                  refine (s260_215).mpr ?_
                                                  first | (exfalso; omega) | (exact ok _ _ _ ((tsL_37b c1 hb).trans (onw_p ⟨by dsimp only; omega, ⟨hk, hT.1, hT.2⟩, c175, y186.2.2⟩)) (flw1 (by rw [c1]; decide)) (by repeat' (first | assumption | exact FW.rf | refine FW.up ?_ (by unfold wS; omega) | (refine FW.tr ?_ (by assumption)))) (by (try simp (disch := decide) only [upI_eq, upI_a, upI_i, upR_eq, upR_a, upR_i]); try assumption) (by (try simp (disch := decide) only [upI_eq, upI_a, upI_i, upR_eq, upR_a, upR_i]); try assumption) (by simp (disch := decide) only [scX, upI_eq, upI_a, upI_i, upR_eq, upR_a, upR_i, upI_ro, upI_rw, ht, E1, E2, E3, E4, E5, E6, E7]; rfl)) | (exact nob _ (fun h => h.2.2.1 c175) (by repeat' (first | assumption | exact FW.rf | refine FW.up ?_ (by unfold wS; omega) | (refine FW.tr ?_ (by assumption)))) (by (try simp (disch := decide) only [upI_eq, upI_a, upI_i, upR_eq, upR_a, upR_i]); try assumption)) | (exact nob _ (fun h => by rcases x186 with h9 | h9; omega; exact h9 ⟨by omega, h.2.2.2⟩) (by repeat' (first | assumption | exact FW.rf | refine FW.up ?_ (by unfold wS; omega) | (refine FW.tr ?_ (by assumption)))) (by (try simp (disch := decide) only [upI_eq, upI_a, upI_i, upR_eq, upR_a, upR_i]); try assumption))
                                              · first
                                                | (exfalso; omega)
                                                | skip
                                                  refine s260_216.mpr ((s260_217 kM).mpr ?_)
                                                  rw [mr_33 hR]
                                                  refine s260_220.mpr (s260_221.mpr (s260_223.mpr ((s260_224 kM).mpr ?_)))
                                                  rw [mr_15 hR]
                                                  refine s260_227.mpr ?_
                                                  refine (s260_229 (hA.k (by decide) (by decide) rfl) (by first | assumption | omega) (by first | assumption | omega)).mpr ?_
                                                  try simp (disch := first | decide | assumption | omega) only [kon, knt_some, knt_none, Option.toList_some, Option.toList_none, List.cons_append, List.nil_append, upI_eq, upI_a, upI_i, upR_eq, upR_a, upR_i, h36, ht, E1, E2, E3, E4, E5, E6, E7, fAdd_id, fSub_id, fMul_id, e62, e63]
                                                  refine (s260_230 (by omega)).mpr ?_
                                                  refine m_inState ⟨v1, v2⟩ eth ?_
                                                  refine (s260_233 (hA.k (by decide) (by decide) rfl) (by first | assumption | omega) (by first | assumption | omega)).mpr ?_
                                                  try simp (disch := first | decide | assumption | omega) only [kon, knt_some, knt_none, Option.toList_some, Option.toList_none, List.cons_append, List.nil_append, upI_eq, upI_a, upI_i, upR_eq, upR_a, upR_i, h36, ht, E1, E2, E3, E4, E5, E6, E7, fAdd_id, fSub_id, fMul_id, e62, e63]
                                                  refine (s260_234).mpr ?_
                                                  first | (exfalso; omega) | (exact ok _ _ _ ((tsL_37b c1 hb).trans (onw_p ⟨by dsimp only; omega, ⟨hk, hT.1, hT.2⟩, c175, y186.2.2⟩)) (flw1 (by rw [c1]; decide)) (by repeat' (first | assumption | exact FW.rf | refine FW.up ?_ (by unfold wS; omega) | (refine FW.tr ?_ (by assumption)))) (by (try simp (disch := decide) only [upI_eq, upI_a, upI_i, upR_eq, upR_a, upR_i]); try assumption) (by (try simp (disch := decide) only [upI_eq, upI_a, upI_i, upR_eq, upR_a, upR_i]); try assumption) (by simp (disch := decide) only [scX, upI_eq, upI_a, upI_i, upR_eq, upR_a, upR_i, upI_ro, upI_rw, ht, E1, E2, E3, E4, E5, E6, E7]; rfl)) | (exact nob _ (fun h => h.2.2.1 c175) (by repeat' (first | assumption | exact FW.rf | refine FW.up ?_ (by unfold wS; omega) | (refine FW.tr ?_ (by assumption)))) (by (try simp (disch := decide) only [upI_eq, upI_a, upI_i, upR_eq, upR_a, upR_i]); try assumption)) | (exact nob _ (fun h => by rcases x186 with h9 | h9; omega; exact h9 ⟨by omega, h.2.2.2⟩) (by repeat' (first | assumption | exact FW.rf | refine FW.up ?_ (by unfold wS; omega) | (refine FW.tr ?_ (by assumption)))) (by (try simp (disch := decide) only [upI_eq, upI_a, upI_i, upR_eq, upR_a, upR_i]); try assumption))
                                        · first
                                          | (exfalso; omega)
                                          | skip
                                            refine s260_204.mpr ?_
                                            refine (s260_205 (by omega) kM).mpr ?_
                                            refine m_wants hA (by omega) (by (try simp (disch := decide) only [upI_eq, upI_a, upI_i, upR_eq, upR_a, upR_i]); first | assumption | rfl) (by omega) (fun y205 => ?_) (fun y205 => ?_)
                                            · skip
                                              refine s260_208.mpr ?_
                                              refine (s260_209 kM).mpr ?_
                                              try simp (disch := first | decide | assumption | omega) only [kon, knt_some, knt_none, Option.toList_some, Option.toList_none, List.cons_append, List.nil_append, upI_eq, upI_a, upI_i, upR_eq, upR_a, upR_i, h36, ht, E1, E2, E3, E4, E5, E6, E7, fAdd_id, fSub_id, fMul_id, e62, e63]
                                              refine s260_212.mpr (wif (fun c212 => ?_) (fun c212 => ?_))
                                              · first
                                                | (exfalso; omega)
                                                | skip
                                                  refine (s260_215).mpr ?_
                                                  first | (exfalso; omega) | (exact ok _ _ _ ((tsL_37b c1 hb).trans (onw_p ⟨by dsimp only; omega, ⟨hk, hT.1, hT.2⟩, c175, y186.2.2⟩)) (flw1 (by rw [c1]; decide)) (by repeat' (first | assumption | exact FW.rf | refine FW.up ?_ (by unfold wS; omega) | (refine FW.tr ?_ (by assumption)))) (by (try simp (disch := decide) only [upI_eq, upI_a, upI_i, upR_eq, upR_a, upR_i]); try assumption) (by (try simp (disch := decide) only [upI_eq, upI_a, upI_i, upR_eq, upR_a, upR_i]); try assumption) (by simp (disch := decide) only [scX, upI_eq, upI_a, upI_i, upR_eq, upR_a, upR_i, upI_ro, upI_rw, ht, E1, E2, E3, E4, E5, E6, E7]; rfl)) | (exact nob _ (fun h => h.2.2.1 c175) (by repeat' (first | assumption | exact FW.rf | refine FW.up ?_ (by unfold wS; omega) | (refine FW.tr ?_ (by assumption)))) (by (try simp (disch := decide) only [upI_eq, upI_a, upI_i, upR_eq, upR_a, upR_i]); try assumption)) | (exact nob _ (fun h => by rcases x186 with h9 | h9; omega; exact h9 ⟨by omega, h.2.2.2⟩) (by repeat' (first | assumption | exact FW.rf | refine FW.up ?_ (by unfold wS; omega) | (refine FW.tr ?_ (by assumption)))) (by (try simp (disch := decide) only [upI_eq, upI_a, upI_i, upR_eq, upR_a, upR_i]); try assumption))
                                              · first
                                                | (exfalso; omega)
                                                | skip
                                                  refine s260_216.mpr ((s260_217 kM).mpr ?_)
                                                  rw [mr_33 hR]
                                                  refine s260_220.mpr (s260_221.mpr (s260_223.mpr ((s260_224 kM).mpr ?_)))
                                                  rw [mr_15 hR]
                                                  refine s260_227.mpr ?_
                                                  refine (s260_229 (hA.k (by decide) (by decide) rfl) (by first | assumption | omega) (by first | assumption | omega)).mpr ?_
                                                  try simp (disch := first | decide | assumption | omega) only [kon, knt_some, knt_none, Option.toList_some, Option.toList_none, List.cons_append, List.nil_append, upI_eq, upI_a, upI_i, upR_eq, upR_a, upR_i, h36, ht, E1, E2, E3, E4, E5, E6, E7, fAdd_id, fSub_id, fMul_id, e62, e63]
                                                  refine (s260_230 (by omega)).mpr ?_
                                                  refine m_inState ⟨v1, v2⟩ eth ?_
                                                  refine (s260_233 (hA.k (by decide) (by decide) rfl) (by first | assumption | omega) (by first | assumption | omega)).mpr ?_
                                                  try simp (disch := first | decide | assumption | omega) only [kon, knt_some, knt_none, Option.toList_some, Option.toList_none, List.cons_append, List.nil_append, upI_eq, upI_a, upI_i, upR_eq, upR_a, upR_i, h36, ht, E1, E2, E3, E4, E5, E6, E7, fAdd_id, fSub_id, fMul_id, e62, e63]
                                                  refine (s260_234).mpr ?_
                                                  first | (exfalso; omega) | (exact ok _ _ _ ((tsL_37b c1 hb).trans (onw_p ⟨by dsimp only; omega, ⟨hk, hT.1, hT.2⟩, c175, y186.2.2⟩)) (flw1 (by rw [c1]; decide)) (by repeat' (first | assumption | exact FW.rf | refine FW.up ?_ (by unfold wS; omega) | (refine FW.tr ?_ (by assumption)))) (by (try simp (disch := decide) only [upI_eq, upI_a, upI_i, upR_eq, upR_a, upR_i]); try assumption) (by (try simp (disch := decide) only [upI_eq, upI_a, upI_i, upR_eq, upR_a, upR_i]); try assumption) (by simp (disch := decide) only [scX, upI_eq, upI_a, upI_i, upR_eq, upR_a, upR_i, upI_ro, upI_rw, ht, E1, E2, E3, E4, E5, E6, E7]; rfl)) | (exact nob _ (fun h => h.2.2.1 c175) (by repeat' (first | assumption | exact FW.rf | refine FW.up ?_ (by unfold wS; omega) | (refine FW.tr ?_ (by assumption)))) (by (try simp (disch := decide) only [upI_eq, upI_a, upI_i, upR_eq, upR_a, upR_i]); try assumption)) | (exact nob _ (fun h => by rcases x186 with h9 | h9; omega; exact h9 ⟨by omega, h.2.2.2⟩) (by repeat' (first | assumption | exact FW.rf | refine FW.up ?_ (by unfold wS; omega) | (refine FW.tr ?_ (by assumption)))) (by (try simp (disch := decide) only [upI_eq, upI_a, upI_i, upR_eq, upR_a, upR_i]); try assumption))
                                            · skip
                                              refine s260_208.mpr ?_
                                              refine (s260_209 kM).mpr ?_
                                              try simp (disch := first | decide | assumption | omega) only [kon, knt_some, knt_none, Option.toList_some, Option.toList_none, List.cons_append, List.nil_append, upI_eq, upI_a, upI_i, upR_eq, upR_a, upR_i, h36, ht, E1, E2, E3, E4, E5, E6, E7, fAdd_id, fSub_id, fMul_id, e62, e63]
                                              refine s260_212.mpr (wif (fun c212 => ?_) (fun c212 => ?_))
                                              · first
                                                | (exfalso; omega)
                                                | skip
                                                  refine (s260_215).mpr ?_
                                                  first | (exfalso; omega) | (exact ok _ _ _ ((tsL_37b c1 hb).trans (onw_p ⟨by dsimp only; omega, ⟨hk, hT.1, hT.2⟩, c175, y186.2.2⟩)) (flw1 (by rw [c1]; decide)) (by repeat' (first | assumption | exact FW.rf | refine FW.up ?_ (by unfold wS; omega) | (refine FW.tr ?_ (by assumption)))) (by (try simp (disch := decide) only [upI_eq, upI_a, upI_i, upR_eq, upR_a, upR_i]); try assumption) (by (try simp (disch := decide) only [upI_eq, upI_a, upI_i, upR_eq, upR_a, upR_i]); try assumption) (by simp (disch := decide) only [scX, upI_eq, upI_a, upI_i, upR_eq, upR_a, upR_i, upI_ro, upI_rw, ht, E1, E2, E3, E4, E5, E6, E7]; rfl)) | (exact nob _ (fun h => h.2.2.1 c175) (by repeat' (first | assumption | exact FW.rf | refine FW.up ?_ (by unfold wS; omega) | (refine FW.tr ?_ (by assumption)))) (by (try simp (disch := decide) only [upI_eq, upI_a, upI_i, upR_eq, upR_a, upR_i]); try assumption)) | (exact nob _ (fun h => by rcases x186 with h9 | h9; omega; exact h9 ⟨by omega, h.2.2.2⟩) (by repeat' (first | assumption | exact FW.rf | refine FW.up ?_ (by unfold wS; omega) | (refine FW.tr ?_ (by assumption)))) (by (try simp (disch := decide) only [upI_eq, upI_a, upI_i, upR_eq, upR_a, upR_i]); try assumption))
                                              · first
                                                | (exfalso; omega)
                                                | skip
                                                  refine s260_216.mpr ((s260_217 kM).mpr ?_)
                                                  rw [mr_33 hR]
                                                  refine s260_220.mpr (s260_221.mpr (s260_223.mpr ((s260_224 kM).mpr ?_)))
                                                  rw [mr_15 hR]
                                                  refine s260_227.mpr ?_
                                                  refine (s260_229 (hA.k (by decide) (by decide) rfl) (by first | assumption | omega) (by first | assumption | omega)).mpr ?_
                                                  try simp (disch := first | decide | assumption | omega) only [kon, knt_some, knt_none, Option.toList_some, Option.toList_none, List.cons_append, List.nil_append, upI_eq, upI_a, upI_i, upR_eq, upR_a, upR_i, h36, ht, E1, E2, E3, E4, E5, E6, E7, fAdd_id, fSub_id, fMul_id, e62, e63]
                                                  refine (s260_230 (by omega)).mpr ?_
                                                  refine m_inState ⟨v1, v2⟩ eth ?_
                                                  refine (s260_233 (hA.k (by decide) (by decide) rfl) (by first | assumption | omega) (by first | assumption | omega)).mpr ?_
                                                  try simp (disch := first | decide | assumption | omega) only [kon, knt_some, knt_none, Option.toList_some, Option.toList_none, List.cons_append, List.nil_append, upI_eq, upI_a, upI_i, upR_eq, upR_a, upR_i, h36, ht, E1, E2, E3, E4, E5, E6, E7, fAdd_id, fSub_id, fMul_id, e62, e63]
                                                  refine (s260_234).mpr ?_
                                                  first | (exfalso; omega) | (exact ok _ _ _ ((tsL_37b c1 hb).trans (onw_p ⟨by dsimp only; omega, ⟨hk, hT.1, hT.2⟩, c175, y186.2.2⟩)) (flw1 (by rw [c1]; decide)) (by repeat' (first | assumption | exact FW.rf | refine FW.up ?_ (by unfold wS; omega) | (refine FW.tr ?_ (by assumption)))) (by (try simp (disch := decide) only [upI_eq, upI_a, upI_i, upR_eq, upR_a, upR_i]); try assumption) (by (try simp (disch := decide) only [upI_eq, upI_a, upI_i, upR_eq, upR_a, upR_i]); try assumption) (by simp (disch := decide) only [scX, upI_eq, upI_a, upI_i, upR_eq, upR_a, upR_i, upI_ro, upI_rw, ht, E1, E2, E3, E4, E5, E6, E7]; rfl)) | (exact nob _ (fun h => h.2.2.1 c175) (by repeat' (first | assumption | exact FW.rf | refine FW.up ?_ (by unfold wS; omega) | (refine FW.tr ?_ (by assumption)))) (by (try simp (disch := decide) only [upI_eq, upI_a, upI_i, upR_eq, upR_a, upR_i]); try assumption)) | (exact nob _ (fun h => by rcases x186 with h9 | h9; omega; exact h9 ⟨by omega, h.2.2.2⟩) (by repeat' (first | assumption | exact FW.rf | refine FW.up ?_ (by unfold wS; omega) | (refine FW.tr ?_ (by assumption)))) (by (try simp (disch := decide) only [upI_eq, upI_a, upI_i, upR_eq, upR_a, upR_i]); try assumption))
                                    · first
                                      | (exfalso; omega)
                                      | skip
                                        refine s260_178.mpr (s260_179.mpr ((s260_180 kM).mpr ?_))
                                        rw [mr_14 hR]
                                        refine s260_183.mpr ?_
                                        refine (s260_185 (hA.k (by decide) (by decide) rfl) (by first | assumption | omega) (by first | assumption | omega)).mpr ?_
                                        try simp (disch := first | decide | assumption | omega) only [kon, knt_some, knt_none, Option.toList_some, Option.toList_none, List.cons_append, List.nil_append, upI_eq, upI_a, upI_i, upR_eq, upR_a, upR_i, h36, ht, E1, E2, E3, E4, E5, E6, E7, fAdd_id, fSub_id, fMul_id, e62, e63]
                                        refine (s260_186 (by omega) kM).mpr ?_
                                        refine m_popFor hA hR (by omega) (by (try simp (disch := decide) only [upI_eq, upI_a, upI_i, upR_eq, upR_a, upR_i]); first | assumption | rfl) (by omega) (by (try simp (disch := decide) only [upI_eq, upI_a, upI_i, upR_eq, upR_a, upR_i]); first | assumption | rfl) (by omega) (fun y186 => ?_) (fun hi186 t186 w186 z186 u186 v186 x186 => ?_)
                                        · skip
                                          try simp (disch := decide) only [upI_eq, upI_a, upI_i, upR_eq, upR_a, upR_i, E1, E4] at y186
                                          try simp (disch := decide) only [upI_eq, upI_a, upI_i, upR_eq, upR_a, upR_i, E1, E4] at x186
                                          refine s260_189.mpr (s260_190.mpr ?_)
                                          refine (s260_191 kM).mpr ?_
                                          refine s260_194.mpr (s260_195.mpr (s260_196.mpr ?_))
                                          try simp (disch := first | decide | assumption | omega) only [kon, knt_some, knt_none, Option.toList_some, Option.toList_none, List.cons_append, List.nil_append, upI_eq, upI_a, upI_i, upR_eq, upR_a, upR_i, h36, ht, E1, E2, E3, E4, E5, E6, E7, fAdd_id, fSub_id, fMul_id, e62, e63]
                                          refine s260_197.mpr (wif (fun c197 => ?_) (fun c197 => ?_))
                                          · first
                                            | (exfalso; omega)
                                            | skip
                                              refine s260_200.mpr (s260_201.mpr ?_)
                                              refine (s260_205 (by omega) kM).mpr ?_
                                              refine m_wants hA (by omega) (by (try simp (disch := decide) only [upI_eq, upI_a, upI_i, upR_eq, upR_a, upR_i]); first | assumption | rfl) (by omega) (fun y205 => ?_) (fun y205 => ?_)
                                              · skip
                                                refine s260_208.mpr ?_
                                                refine (s260_209 kM).mpr ?_
                                                try simp (disch := first | decide | assumption | omega) only [kon, knt_some, knt_none, Option.toList_some, Option.toList_none, List.cons_append, List.nil_append, upI_eq, upI_a, upI_i, upR_eq, upR_a, upR_i, h36, ht, E1, E2, E3, E4, E5, E6, E7, fAdd_id, fSub_id, fMul_id, e62, e63]
                                                refine s260_212.mpr (wif (fun c212 => ?_) (fun c212 => ?_))
                                                · first
                                                  | (exfalso; omega)
                                                  | skip
                                                    refine (s260_215).mpr ?_
                                                    first | (exfalso; omega) | (exact ok _ _ _ ((tsL_37b c1 hb).trans (onw_p ⟨by dsimp only; omega, ⟨hk, hT.1, hT.2⟩, c175, y186.2.2⟩)) (flw1 (by rw [c1]; decide)) (by repeat' (first | assumption | exact FW.rf | refine FW.up ?_ (by unfold wS; omega) | (refine FW.tr ?_ (by assumption)))) (by (try simp (disch := decide) only [upI_eq, upI_a, upI_i, upR_eq, upR_a, upR_i]); try assumption) (by (try simp (disch := decide) only [upI_eq, upI_a, upI_i, upR_eq, upR_a, upR_i]); try assumption) (by simp (disch := decide) only [scX, upI_eq, upI_a, upI_i, upR_eq, upR_a, upR_i, upI_ro, upI_rw, ht, E1, E2, E3, E4, E5, E6, E7]; rfl)) | (exact nob _ (fun h => h.2.2.1 c175) (by repeat' (first | assumption | exact FW.rf | refine FW.up ?_ (by unfold wS; omega) | (refine FW.tr ?_ (by assumption)))) (by (try simp (disch := decide) only [upI_eq, upI_a, upI_i, upR_eq, upR_a, upR_i]); try assumption)) | (exact nob _ (fun h => by rcases x186 with h9 | h9; omega; exact h9 ⟨by omega, h.2.2.2⟩) (by repeat' (first | assumption | exact FW.rf | refine FW.up ?_ (by unfold wS; omega) | (refine FW.tr ?_ (by assumption)))) (by (try simp (disch := decide) only [upI_eq, upI_a, upI_i, upR_eq, upR_a, upR_i]); try assumption))
                                                · first
                                                  | (exfalso; omega)
                                                  | skip
                                                    refine s260_216.mpr ((s260_217 kM).mpr ?_)
                                                    rw [mr_33 hR]
                                                    refine s260_220.mpr (s260_221.mpr (s260_223.mpr ((s260_224 kM).mpr ?_)))
                                                    rw [mr_15 hR]
                                                    refine s260_227.mpr ?_
                                                    refine (s260_229 (hA.k (by decide) (by decide) rfl) (by first | assumption | omega) (by first | assumption | omega)).mpr ?_
                                                    try simp (disch := first | decide | assumption | omega) only [kon, knt_some, knt_none, Option.toList_some, Option.toList_none, List.cons_append, List.nil_append, upI_eq, upI_a, upI_i, upR_eq, upR_a, upR_i, h36, ht, E1, E2, E3, E4, E5, E6, E7, fAdd_id, fSub_id, fMul_id, e62, e63]
                                                    refine (s260_230 (by omega)).mpr ?_
                                                    refine m_inState ⟨v1, v2⟩ eth ?_
                                                    refine (s260_233 (hA.k (by decide) (by decide) rfl) (by first | assumption | omega) (by first | assumption | omega)).mpr ?_
                                                    try simp (disch := first | decide | assumption | omega) only [kon, knt_some, knt_none, Option.toList_some, Option.toList_none, List.cons_append, List.nil_append, upI_eq, upI_a, upI_i, upR_eq, upR_a, upR_i, h36, ht, E1, E2, E3, E4, E5, E6, E7, fAdd_id, fSub_id, fMul_id, e62, e63]
                                                    refine (s260_234).mpr ?_
                                                    first | (exfalso; omega) | (exact ok _ _ _ ((tsL_37b c1 hb).trans (onw_p ⟨by dsimp only; omega, ⟨hk, hT.1, hT.2⟩, c175, y186.2.2⟩)) (flw1 (by rw [c1]; decide)) (by repeat' (first | assumption | exact FW.rf | refine FW.up ?_ (by unfold wS; omega) | (refine FW.tr ?_ (by assumption)))) (by (try simp (disch := decide) only [upI_eq, upI_a, upI_i, upR_eq, upR_a, upR_i]); try assumption) (by (try simp (disch := decide) only [upI_eq, upI_a, upI_i, upR_eq, upR_a, upR_i]); try assumption) (by simp (disch := decide) only [scX, upI_eq, upI_a, upI_i, upR_eq, upR_a, upR_i, upI_ro, upI_rw, ht, E1, E2, E3, E4, E5, E6, E7]; rfl)) | (exact nob _ (fun h => h.2.2.1 c175) (by repeat' (first | assumption | exact FW.rf | refine FW.up ?_ (by unfold wS; omega) | (refine FW.tr ?_ (by assumption)))) (by (try simp (disch := decide) only [upI_eq, upI_a, upI_i, upR_eq, upR_a, upR_i]); try assumption)) | (exact nob _ (fun h => by rcases x186 with h9 | h9; omega; exact h9 ⟨by omega, h.2.2.2⟩) (by repeat' (first | assumption | exact FW.rf | refine FW.up ?_ (by unfold wS; omega) | (refine FW.tr ?_ (by assumption)))) (by (try simp (disch := decide) only [upI_eq, upI_a, upI_i, upR_eq, upR_a, upR_i]); try assumption))
                                              · skip
                                                refine s260_208.mpr ?_
                                                refine (s260_209 kM).mpr ?_
                                                try simp (disch := first | decide | assumption | omega) only [kon, knt_some, knt_none, Option.toList_some, Option.toList_none, List.cons_append, List.nil_append, upI_eq, upI_a, upI_i, upR_eq, upR_a, upR_i, h36, ht, E1, E2, E3, E4, E5, E6, E7, fAdd_id, fSub_id, fMul_id, e62, e63]
                                                refine s260_212.mpr (wif (fun c212 => ?_) (fun c212 => ?_))
                                                · first
                                                  | (exfalso; omega)
                                                  | skip
                                                    refine (s260_215).mpr ?_
                                                    first | (exfalso; omega) | (exact ok _ _ _ ((tsL_37b c1 hb).trans (onw_p ⟨by dsimp only; omega, ⟨hk, hT.1, hT.2⟩, c175, y186.2.2⟩)) (flw1 (by rw [c1]; decide)) (by repeat' (first | assumption | exact FW.rf | refine FW.up ?_ (by unfold wS; omega) | (refine FW.tr ?_ (by assumption)))) (by (try simp (disch := decide) only [upI_eq, upI_a, upI_i, upR_eq, upR_a, upR_i]); try assumption) (by (try simp (disch := decide) only [upI_eq, upI_a, upI_i, upR_eq, upR_a, upR_i]); try assumption) (by simp (disch := decide) only [scX, upI_eq, upI_a, upI_i, upR_eq, upR_a, upR_i, upI_ro, upI_rw, ht, E1, E2, E3, E4, E5, E6, E7]; rfl)) | (exact nob _ (fun h => h.2.2.1 c175) (by repeat' (first | assumption | exact FW.rf | refine FW.up ?_ (by unfold wS; omega) | (refine FW.tr ?_ (by assumption)))) (by (try simp (disch := decide) only [upI_eq, upI_a, upI_i, upR_eq, upR_a, upR_i]); try assumption)) | (exact nob _ (fun h => by rcases x186 with h9 | h9; omega; exact h9 ⟨by omega, h.2.2.2⟩) (by repeat' (first | assumption | exact FW.rf | refine FW.up ?_ (by unfold wS; omega) | (refine FW.tr ?_ (by assumption)))) (by (try simp (disch := decide) only [upI_eq, upI_a, upI_i, upR_eq, upR_a, upR_i]); try assumption))
                                                · first
                                                  | (exfalso; omega)
                                                  | skip
                                                    refine s260_216.mpr ((s260_217 kM).mpr ?_)
                                                    rw [mr_33 hR]
                                                    refine s260_220.mpr (s260_221.mpr (s260_223.mpr ((s260_224 kM).mpr ?_)))
                                                    rw [mr_15 hR]
                                                    refine s260_227.mpr ?_
                                                    refine (s260_229 (hA.k (by decide) (by decide) rfl) (by first | assumption | omega) (by first | assumption | omega)).mpr ?_
                                                    try simp (disch := first | decide | assumption | omega) only [kon, knt_some, knt_none, Option.toList_some, Option.toList_none, List.cons_append, List.nil_append, upI_eq, upI_a, upI_i, upR_eq, upR_a, upR_i, h36, ht, E1, E2, E3, E4, E5, E6, E7, fAdd_id, fSub_id, fMul_id, e62, e63]
                                                    refine (s260_230 (by omega)).mpr ?_
                                                    refine m_inState ⟨v1, v2⟩ eth ?_
                                                    refine (s260_233 (hA.k (by decide) (by decide) rfl) (by first | assumption | omega) (by first | assumption | omega)).mpr ?_
                                                    try simp (disch := first | decide | assumption | omega) only [kon, knt_some, knt_none, Option.toList_some, Option.toList_none, List.cons_append, List.nil_append, upI_eq, upI_a, upI_i, upR_eq, upR_a, upR_i, h36, ht, E1, E2, E3, E4, E5, E6, E7, fAdd_id, fSub_id, fMul_id, e62, e63]
                                                    refine (s260_234).mpr ?_
                                                    first | (exfalso; omega) | (exact ok _ _ _ ((tsL_37b c1 hb).trans (onw_p ⟨by dsimp only; omega, ⟨hk, hT.1, hT.2⟩, c175, y186.2.2⟩)) (flw1 (by rw [c1]; decide)) (by repeat' (first | assumption | exact FW.rf | refine FW.up ?_ (by unfold wS; omega) | (refine FW.tr ?_ (by assumption)))) (by (try simp (disch := decide) only [upI_eq, upI_a, upI_i, upR_eq, upR_a, upR_i]); try assumption) (by (try simp (disch := decide) only [upI_eq, upI_a, upI_i, upR_eq, upR_a, upR_i]); try assumption) (by simp (disch := decide) only [scX, upI_eq, upI_a, upI_i, upR_eq, upR_a, upR_i, upI_ro, upI_rw, ht, E1, E2, E3, E4, E5, E6, E7]; rfl)) | (exact nob _ (fun h => h.2.2.1 c175) (by repeat' (first | assumption | exact FW.rf | refine FW.up ?_ (by unfold wS; omega) | (refine FW.tr ?_ (by assumption)))) (by (try simp (disch := decide) only [upI_eq, upI_a, upI_i, upR_eq, upR_a, upR_i]); try assumption)) | (exact nob _ (fun h => by rcases x186 with h9 | h9; omega; exact h9 ⟨by omega, h.2.2.2⟩) (by repeat' (first | assumption | exact FW.rf | refine FW.up ?_ (by unfold wS; omega) | (refine FW.tr ?_ (by assumption)))) (by (try simp (disch := decide) only [upI_eq, upI_a, upI_i, upR_eq, upR_a, upR_i]); try assumption))
                                          · first
                                            | (exfalso; omega)
                                            | skip
                                              refine s260_204.mpr ?_
                                              refine (s260_205 (by omega) kM).mpr ?_
                                              refine m_wants hA (by omega) (by (try simp (disch := decide) only [upI_eq, upI_a, upI_i, upR_eq, upR_a, upR_i]); first | assumption | rfl) (by omega) (fun y205 => ?_) (fun y205 => ?_)
                                              · skip
                                                refine s260_208.mpr ?_
                                                refine (s260_209 kM).mpr ?_
                                                try simp (disch := first | decide | assumption | omega) only [kon, knt_some, knt_none, Option.toList_some, Option.toList_none, List.cons_append, List.nil_append, upI_eq, upI_a, upI_i, upR_eq, upR_a, upR_i, h36, ht, E1, E2, E3, E4, E5, E6, E7, fAdd_id, fSub_id, fMul_id, e62, e63]
                                                refine s260_212.mpr (wif (fun c212 => ?_) (fun c212 => ?_))
                                                · first
                                                  | (exfalso; omega)
                                                  | skip
                                                    refine (s260_215).mpr ?_
                                                    first | (exfalso; omega) | (exact ok _ _ _ ((tsL_37b c1 hb).trans (onw_p ⟨by dsimp only; omega, ⟨hk, hT.1, hT.2⟩, c175, y186.2.2⟩)) (flw1 (by rw [c1]; decide)) (by repeat' (first | assumption | exact FW.rf | refine FW.up ?_ (by unfold wS; omega) | (refine FW.tr ?_ (by assumption)))) (by (try simp (disch := decide) only [upI_eq, upI_a, upI_i, upR_eq, upR_a, upR_i]); try assumption) (by (try simp (disch := decide) only [upI_eq, upI_a, upI_i, upR_eq, upR_a, upR_i]); try assumption) (by simp (disch := decide) only [scX, upI_eq, upI_a, upI_i, upR_eq, upR_a, upR_i, upI_ro, upI_rw, ht, E1, E2, E3, E4, E5, E6, E7]; rfl)) | (exact nob _ (fun h => h.2.2.1 c175) (by repeat' (first | assumption | exact FW.rf | refine FW.up ?_ (by unfold wS; omega) | (refine FW.tr ?_ (by assumption)))) (by (try simp (disch := decide) only [upI_eq, upI_a, upI_i, upR_eq, upR_a, upR_i]); try assumption)) | (exact nob _ (fun h => by rcases x186 with h9 | h9; omega; exact h9 ⟨by omega, h.2.2.2⟩) (by repeat' (first | assumption | exact FW.rf | refine FW.up ?_ (by unfold wS; omega) | (refine FW.tr ?_ (by assumption)))) (by (try simp (disch := decide) only [upI_eq, upI_a, upI_i, upR_eq, upR_a, upR_i]); try assumption))
                                                · first
                                                  | (exfalso; omega)
                                                  | skip
                                                    refine s260_216.mpr ((s260_217 kM).mpr ?_)
                                                    rw [mr_33 hR]
                                                    refine s260_220.mpr (s260_221.mpr (s260_223.mpr ((s260_224 kM).mpr ?_)))
                                                    rw [mr_15 hR]
                                                    refine s260_227.mpr ?_
                                                    refine (s260_229 (hA.k (by decide) (by decide) rfl) (by first | assumption | omega) (by first | assumption | omega)).mpr ?_
                                                    try simp (disch := first | decide | assumption | omega) only [kon, knt_some, knt_none, Option.toList_some, Option.toList_none, List.cons_append, List.nil_append, upI_eq, upI_a, upI_i, upR_eq, upR_a, upR_i, h36, ht, E1, E2, E3, E4, E5, E6, E7, fAdd_id, fSub_id, fMul_id, e62, e63]
                                                    refine (s260_230 (by omega)).mpr ?_
                                                    refine m_inState ⟨v1, v2⟩ eth ?_
                                                    refine (s260_233 (hA.k (by decide) (by decide) rfl) (by first | assumption | omega) (by first | assumption | omega)).mpr ?_
                                                    try simp (disch := first | decide | assumption | omega) only [kon, knt_some, knt_none, Option.toList_some, Option.toList_none, List.cons_append, List.nil_append, upI_eq, upI_a, upI_i, upR_eq, upR_a, upR_i, h36, ht, E1, E2, E3, E4, E5, E6, E7, fAdd_id, fSub_id, fMul_id, e62, e63]
                                                    refine (s260_234).mpr ?_
                                                    first | (exfalso; omega) | (exact ok _ _ _ ((tsL_37b c1 hb).trans (onw_p ⟨by dsimp only; omega, ⟨hk, hT.1, hT.2⟩, c175, y186.2.2⟩)) (flw1 (by rw [c1]; decide)) (by repeat' (first | assumption | exact FW.rf | refine FW.up ?_ (by unfold wS; omega) | (refine FW.tr ?_ (by assumption)))) (by (try simp (disch := decide) only [upI_eq, upI_a, upI_i, upR_eq, upR_a, upR_i]); try assumption) (by (try simp (disch := decide) only [upI_eq, upI_a, upI_i, upR_eq, upR_a, upR_i]); try assumption) (by simp (disch := decide) only [scX, upI_eq, upI_a, upI_i, upR_eq, upR_a, upR_i, upI_ro, upI_rw, ht, E1, E2, E3, E4, E5, E6, E7]; rfl)) | (exact nob _ (fun h => h.2.2.1 c175) (by repeat' (first | assumption | exact FW.rf | refine FW.up ?_ (by unfold wS; omega) | (refine FW.tr ?_ (by assumption)))) (by (try simp (disch := decide) only [upI_eq, upI_a, upI_i, upR_eq, upR_a, upR_i]); try assumption)) | (exact nob _ (fun h => by rcases x186 with h9 | h9; omega; exact h9 ⟨by omega, h.2.2.2⟩) (by repeat' (first | assumption | exact FW.rf | refine FW.up ?_ (by unfold wS; omega) | (refine FW.tr ?_ (by assumption)))) (by (try simp (disch := decide) only [upI_eq, upI_a, upI_i, upR_eq, upR_a, upR_i]); try assumption))
                                              · skip
                                                refine s260_208.mpr ?_
                                                refine (s260_209 kM).mpr ?_
                                                try simp (disch := first | decide | assumption | omega) only [kon, knt_some, knt_none, Option.toList_some, Option.toList_none, List.cons_append, List.nil_append, upI_eq, upI_a, upI_i, upR_eq, upR_a, upR_i, h36, ht, E1, E2, E3, E4, E5, E6, E7, fAdd_id, fSub_id, fMul_id, e62, e63]
                                                refine s260_212.mpr (wif (fun c212 => ?_) (fun c212 => ?_))
                                                · first
                                                  | (exfalso; omega)
                                                  | skip
                                                    refine (s260_215).mpr ?_
                                                    first | (exfalso; omega) | (exact ok _ _ _ ((tsL_37b c1 hb).trans (onw_p ⟨by dsimp only; omega, ⟨hk, hT.1, hT.2⟩, c175, y186.2.2⟩)) (flw1 (by rw [c1]; decide)) (by repeat' (first | assumption | exact FW.rf | refine FW.up ?_ (by unfold wS; omega) | (refine FW.tr ?_ (by assumption)))) (by (try simp (disch := decide) only [upI_eq, upI_a, upI_i, upR_eq, upR_a, upR_i]); try assumption) (by (try simp (disch := decide) only [upI_eq, upI_a, upI_i, upR_eq, upR_a, upR_i]); try assumption) (by simp (disch := decide) only [scX, upI_eq, upI_a, upI_i, upR_eq, upR_a, upR_i, upI_ro, upI_rw, ht, E1, E2, E3, E4, E5, E6, E7]; rfl)) | (exact nob _ (fun h => h.2.2.1 c175) (by repeat' (first | assumption | exact FW.rf | refine FW.up ?_ (by unfold wS; omega) | (refine FW.tr ?_ (by assumption)))) (by (try simp (disch := decide) only [upI_eq, upI_a, upI_i, upR_eq, upR_a, upR_i]); try assumption)) | (exact nob _ (fun h => by rcases x186 with h9 | h9; omega; exact h9 ⟨by omega, h.2.2.2⟩) (by repeat' (first | assumption | exact FW.rf | refine FW.up ?_ (by unfold wS; omega) | (refine FW.tr ?_ (by assumption)))) (by (try simp (disch := decide) only [upI_eq, upI_a, upI_i, upR_eq, upR_a, upR_i]); try assumption))
                                                · first
                                                  | (exfalso; omega)
                                                  | skip
                                                    refine s260_216.mpr ((s260_217 kM).mpr ?_)
                                                    rw [mr_33 hR]
                                                    refine s260_220.mpr (s260_221.mpr (s260_223.mpr ((s260_224 kM).mpr ?_)))
                                                    rw [mr_15 hR]
                                                    refine s260_227.mpr ?_
                                                    refine (s260_229 (hA.k (by decide) (by decide) rfl) (by first | assumption | omega) (by first | assumption | omega)).mpr ?_
                                                    try simp (disch := first | decide | assumption | omega) only [kon, knt_some, knt_none, Option.toList_some, Option.toList_none, List.cons_append, List.nil_append, upI_eq, upI_a, upI_i, upR_eq, upR_a, upR_i, h36, ht, E1, E2, E3, E4, E5, E6, E7, fAdd_id, fSub_id, fMul_id, e62, e63]
                                                    refine (s260_230 (by omega)).mpr ?_
                                                    refine m_inState ⟨v1, v2⟩ eth ?_
                                                    refine (s260_233 (hA.k (by decide) (by decide) rfl) (by first | assumption | omega) (by first | assumption | omega)).mpr ?_
                                                    try simp (disch := first | decide | assumption | omega) only [kon, knt_some, knt_none, Option.toList_some, Option.toList_none, List.cons_append, List.nil_append, upI_eq, upI_a, upI_i, upR_eq, upR_a, upR_i, h36, ht, E1, E2, E3, E4, E5, E6, E7, fAdd_id, fSub_id, fMul_id, e62, e63]
                                                    refine (s260_234).mpr ?_
                                                    first | (exfalso; omega) | (exact ok _ _ _ ((tsL_37b c1 hb).trans (onw_p ⟨by dsimp only; omega, ⟨hk, hT.1, hT.2⟩, c175, y186.2.2⟩)) (flw1 (by rw [c1]; decide)) (by repeat' (first | assumption | exact FW.rf | refine FW.up ?_ (by unfold wS; omega) | (refine FW.tr ?_ (by assumption)))) (by (try simp (disch := decide) only [upI_eq, upI_a, upI_i, upR_eq, upR_a, upR_i]); try assumption) (by (try simp (disch := decide) only [upI_eq, upI_a, upI_i, upR_eq, upR_a, upR_i]); try assumption) (by simp (disch := decide) only [scX, upI_eq, upI_a, upI_i, upR_eq, upR_a, upR_i, upI_ro, upI_rw, ht, E1, E2, E3, E4, E5, E6, E7]; rfl)) | (exact nob _ (fun h => h.2.2.1 c175) (by repeat' (first | assumption | exact FW.rf | refine FW.up ?_ (by unfold wS; omega) | (refine FW.tr ?_ (by assumption)))) (by (try simp (disch := decide) only [upI_eq, upI_a, upI_i, upR_eq, upR_a, upR_i]); try assumption)) | (exact nob _ (fun h => by rcases x186 with h9 | h9; omega; exact h9 ⟨by omega, h.2.2.2⟩) (by repeat' (first | assumption | exact FW.rf | refine FW.up ?_ (by unfold wS; omega) | (refine FW.tr ?_ (by assumption)))) (by (try simp (disch := decide) only [upI_eq, upI_a, upI_i, upR_eq, upR_a, upR_i]); try assumption))
                                        · skip
                                          try simp (disch := decide) only [upI_eq, upI_a, upI_i, upR_eq, upR_a, upR_i, E1, E4] at y186
                                          try simp (disch := decide) only [upI_eq, upI_a, upI_i, upR_eq, upR_a, upR_i, E1, E4] at x186
                                          refine s260_189.mpr (s260_190.mpr ?_)
                                          refine (s260_191 kM).mpr ?_
                                          refine s260_194.mpr (s260_195.mpr (s260_196.mpr ?_))
                                          try simp (disch := first | decide | assumption | omega) only [kon, knt_some, knt_none, Option.toList_some, Option.toList_none, List.cons_append, List.nil_append, upI_eq, upI_a, upI_i, upR_eq, upR_a, upR_i, h36, ht, E1, E2, E3, E4, E5, E6, E7, fAdd_id, fSub_id, fMul_id, e62, e63]
                                          refine s260_197.mpr (wif (fun c197 => ?_) (fun c197 => ?_))
                                          · first
                                            | (exfalso; omega)
                                            | skip
                                              refine s260_200.mpr (s260_201.mpr ?_)
                                              refine (s260_205 (by omega) kM).mpr ?_
                                              refine m_wants hA (by omega) (by (try simp (disch := decide) only [upI_eq, upI_a, upI_i, upR_eq, upR_a, upR_i]); first | assumption | rfl) (by omega) (fun y205 => ?_) (fun y205 => ?_)
                                              · skip
                                                refine s260_208.mpr ?_
                                                refine (s260_209 kM).mpr ?_
                                                try simp (disch := first | decide | assumption | omega) only [kon, knt_some, knt_none, Option.toList_some, Option.toList_none, List.cons_append, List.nil_append, upI_eq, upI_a, upI_i, upR_eq, upR_a, upR_i, h36, ht, E1, E2, E3, E4, E5, E6, E7, fAdd_id, fSub_id, fMul_id, e62, e63]
                                                refine s260_212.mpr (wif (fun c212 => ?_) (fun c212 => ?_))
                                                · first
                                                  | (exfalso; omega)
                                                  | skip
                                                    refine (s260_215).mpr ?_
                                                    first | (exfalso; omega) | (exact ok _ _ _ ((tsL_37b c1 hb).trans (onw_p ⟨by dsimp only; omega, ⟨hk, hT.1, hT.2⟩, c175, y186.2.2⟩)) (flw1 (by rw [c1]; decide)) (by repeat' (first | assumption | exact FW.rf | refine FW.up ?_ (by unfold wS; omega) | (refine FW.tr ?_ (by assumption)))) (by (try simp (disch := decide) only [upI_eq, upI_a, upI_i, upR_eq, upR_a, upR_i]); try assumption) (by (try simp (disch := decide) only [upI_eq, upI_a, upI_i, upR_eq, upR_a, upR_i]); try assumption) (by simp (disch := decide) only [scX, upI_eq, upI_a, upI_i, upR_eq, upR_a, upR_i, upI_ro, upI_rw, ht, E1, E2, E3, E4, E5, E6, E7]; rfl)) | (exact nob _ (fun h => h.2.2.1 c175) (by repeat' (first | assumption | exact FW.rf | refine FW.up ?_ (by unfold wS; omega) | (refine FW.tr ?_ (by assumption)))) (by (try simp (disch := decide) only [upI_eq, upI_a, upI_i, upR_eq, upR_a, upR_i]); try assumption)) | (exact nob _ (fun h => by rcases x186 with h9 | h9; omega; exact h9 ⟨by omega, h.2.2.2⟩) (by repeat' (first | assumption | exact FW.rf | refine FW.up ?_ (by unfold wS; omega) | (refine FW.tr ?_ (by assumption)))) (by (try simp (disch := decide) only [upI_eq, upI_a, upI_i, upR_eq, upR_a, upR_i]); try assumption))
                                                · first
                                                  | (exfalso; omega)
                                                  | skip
                                                    refine s260_216.mpr ((s260_217 kM).mpr ?_)
                                                    rw [mr_33 hR]
                                                    refine s260_220.mpr (s260_221.mpr (s260_223.mpr ((s260_224 kM).mpr ?_)))
                                                    rw [mr_15 hR]
                                                    refine s260_227.mpr ?_
                                                    refine (s260_229 (hA.k (by decide) (by decide) rfl) (by first | assumption | omega) (by first | assumption | omega)).mpr ?_
                                                    try simp (disch := first | decide | assumption | omega) only [kon, knt_some, knt_none, Option.toList_some, Option.toList_none, List.cons_append, List.nil_append, upI_eq, upI_a, upI_i, upR_eq, upR_a, upR_i, h36, ht, E1, E2, E3, E4, E5, E6, E7, fAdd_id, fSub_id, fMul_id, e62, e63]
                                                    refine (s260_230 (by omega)).mpr ?_
                                                    refine m_inState ⟨v1, v2⟩ eth ?_
                                                    refine (s260_233 (hA.k (by decide) (by decide) rfl) (by first | assumption | omega) (by first | assumption | omega)).mpr ?_
                                                    try simp (disch := first | decide | assumption | omega) only [kon, knt_some, knt_none, Option.toList_some, Option.toList_none, List.cons_append, List.nil_append, upI_eq, upI_a, upI_i, upR_eq, upR_a, upR_i, h36, ht, E1, E2, E3, E4, E5, E6, E7, fAdd_id, fSub_id, fMul_id, e62, e63]
                                                    refine (s260_234).mpr ?_
                                                    first | (exfalso; omega) | (exact ok _ _ _ ((tsL_37b c1 hb).trans (onw_p ⟨by dsimp only; omega, ⟨hk, hT.1, hT.2⟩, c175, y186.2.2⟩)) (flw1 (by rw [c1]; decide)) (by repeat' (first | assumption | exact FW.rf | refine FW.up ?_ (by unfold wS; omega) | (refine FW.tr ?_ (by assumption)))) (by (try simp (disch := decide) only [upI_eq, upI_a, upI_i, upR_eq, upR_a, upR_i]); try assumption) (by (try simp (disch := decide) only [upI_eq, upI_a, upI_i, upR_eq, upR_a, upR_i]); try assumption) (by simp (disch := decide) only [scX, upI_eq, upI_a, upI_i, upR_eq, upR_a, upR_i, upI_ro, upI_rw, ht, E1, E2, E3, E4, E5, E6, E7]; rfl)) | (exact nob _ (fun h => h.2.2.1 c175) (by repeat' (first | assumption | exact FW.rf | refine FW.up ?_ (by unfold wS; omega) | (refine FW.tr ?_ (by assumption)))) (by (try simp (disch := decide) only [upI_eq, upI_a, upI_i, upR_eq, upR_a, upR_i]); try assumption)) | (exact nob _ (fun h => by rcases x186 with h9 | h9; omega; exact h9 ⟨by omega, h.2.2.2⟩) (by repeat' (first | assumption | exact FW.rf | refine FW.up ?_ (by unfold wS; omega) | (refine FW.tr ?_ (by assumption)))) (by (try simp (disch := decide) only [upI_eq, upI_a, upI_i, upR_eq, upR_a, upR_i]); try assumption))
                                              · skip
                                                refine s260_208.mpr ?_
                                                refine (s260_209 kM).mpr ?_
                                                try simp (disch := first | decide | assumption | omega) only [kon, knt_some, knt_none, Option.toList_some, Option.toList_none, List.cons_append, List.nil_append, upI_eq, upI_a, upI_i, upR_eq, upR_a, upR_i, h36, ht, E1, E2, E3, E4, E5, E6, E7, fAdd_id, fSub_id, fMul_id, e62, e63]
                                                refine s260_212.mpr (wif (fun c212 => ?_) (fun c212 => ?_))
                                                · first
                                                  | (exfalso; omega)
                                                  | skip
                                                    refine (s260_215).mpr ?_
                                                    first | (exfalso; omega) | (exact ok _ _ _ ((tsL_37b c1 hb).trans (onw_p ⟨by dsimp only; omega, ⟨hk, hT.1, hT.2⟩, c175, y186.2.2⟩)) (flw1 (by rw [c1]; decide)) (by repeat' (first | assumption | exact FW.rf | refine FW.up ?_ (by unfold wS; omega) | (refine FW.tr ?_ (by assumption)))) (by (try simp (disch := decide) only [upI_eq, upI_a, upI_i, upR_eq, upR_a, upR_i]); try assumption) (by (try simp (disch := decide) only [upI_eq, upI_a, upI_i, upR_eq, upR_a, upR_i]); try assumption) (by simp (disch := decide) only [scX, upI_eq, upI_a, upI_i, upR_eq, upR_a, upR_i, upI_ro, upI_rw, ht, E1, E2, E3, E4, E5, E6, E7]; rfl)) | (exact nob _ (fun h => h.2.2.1 c175) (by repeat' (first | assumption | exact FW.rf | refine FW.up ?_ (by unfold wS; omega) | (refine FW.tr ?_ (by assumption)))) (by (try simp (disch := decide) only [upI_eq, upI_a, upI_i, upR_eq, upR_a, upR_i]); try assumption)) | (exact nob _ (fun h => by rcases x186 with h9 | h9; omega; exact h9 ⟨by omega, h.2.2.2⟩) (by repeat' (first | assumption | exact FW.rf | refine FW.up ?_ (by unfold wS; omega) | (refine FW.tr ?_ (by assumption)))) (by (try simp (disch := decide) only [upI_eq, upI_a, upI_i, upR_eq, upR_a, upR_i]); try assumption))
                                                · first
                                                  | (exfalso; omega)
                                                  | skip
                                                    refine s260_216.mpr ((s260_217 kM).mpr ?_)
                                                    rw [mr_33 hR]
                                                    refine s260_220.mpr (s260_221.mpr (s260_223.mpr ((s260_224 kM).mpr ?_)))
                                                    rw [mr_15 hR]
                                                    refine s260_227.mpr ?_
                                                    refine (s260_229 (hA.k (by decide) (by decide) rfl) (by first | assumption | omega) (by first | assumption | omega)).mpr ?_
                                                    try simp (disch := first | decide | assumption | omega) only [kon, knt_some, knt_none, Option.toList_some, Option.toList_none, List.cons_append, List.nil_append, upI_eq, upI_a, upI_i, upR_eq, upR_a, upR_i, h36, ht, E1, E2, E3, E4, E5, E6, E7, fAdd_id, fSub_id, fMul_id, e62, e63]
                                                    refine (s260_230 (by omega)).mpr ?_
                                                    refine m_inState ⟨v1, v2⟩ eth ?_
                                                    refine (s260_233 (hA.k (by decide) (by decide) rfl) (by first | assumption | omega) (by first | assumption | omega)).mpr ?_
                                                    try simp (disch := first | decide | assumption | omega) only [kon, knt_some, knt_none, Option.toList_some, Option.toList_none, List.cons_append, List.nil_append, upI_eq, upI_a, upI_i, upR_eq, upR_a, upR_i, h36, ht, E1, E2, E3, E4, E5, E6, E7, fAdd_id, fSub_id, fMul_id, e62, e63]
                                                    refine (s260_234).mpr ?_
                                                    first | (exfalso; omega) | (exact ok _ _ _ ((tsL_37b c1 hb).trans (onw_p ⟨by dsimp only; omega, ⟨hk, hT.1, hT.2⟩, c175, y186.2.2⟩)) (flw1 (by rw [c1]; decide)) (by repeat' (first | assumption | exact FW.rf | refine FW.up ?_ (by unfold wS; omega) | (refine FW.tr ?_ (by assumption)))) (by (try simp (disch := decide) only [upI_eq, upI_a, upI_i, upR_eq, upR_a, upR_i]); try assumption) (by (try simp (disch := decide) only [upI_eq, upI_a, upI_i, upR_eq, upR_a, upR_i]); try assumption) (by simp (disch := decide) only [scX, upI_eq, upI_a, upI_i, upR_eq, upR_a, upR_i, upI_ro, upI_rw, ht, E1, E2, E3, E4, E5, E6, E7]; rfl)) | (exact nob _ (fun h => h.2.2.1 c175) (by repeat' (first | assumption | exact FW.rf | refine FW.up ?_ (by unfold wS; omega) | (refine FW.tr ?_ (by assumption)))) (by (try simp (disch := decide) only [upI_eq, upI_a, upI_i, upR_eq, upR_a, upR_i]); try assumption)) | (exact nob _ (fun h => by rcases x186 with h9 | h9; omega; exact h9 ⟨by omega, h.2.2.2⟩) (by repeat' (first | assumption | exact FW.rf | refine FW.up ?_ (by unfold wS; omega) | (refine FW.tr ?_ (by assumption)))) (by (try simp (disch := decide) only [upI_eq, upI_a, upI_i, upR_eq, upR_a, upR_i]); try assumption))
                                          · first
                                            | (exfalso; omega)
                                            | skip
                                              refine s260_204.mpr ?_
                                              refine (s260_205 (by omega) kM).mpr ?_
                                              refine m_wants hA (by omega) (by (try simp (disch := decide) only [upI_eq, upI_a, upI_i, upR_eq, upR_a, upR_i]); first | assumption | rfl) (by omega) (fun y205 => ?_) (fun y205 => ?_)
                                              · skip
                                                refine s260_208.mpr ?_
                                                refine (s260_209 kM).mpr ?_
                                                try simp (disch := first | decide | assumption | omega) only [kon, knt_some, knt_none, Option.toList_some, Option.toList_none, List.cons_append, List.nil_append, upI_eq, upI_a, upI_i, upR_eq, upR_a, upR_i, h36, ht, E1, E2, E3, E4, E5, E6, E7, fAdd_id, fSub_id, fMul_id, e62, e63]
                                                refine s260_212.mpr (wif (fun c212 => ?_) (fun c212 => ?_))
                                                · first
                                                  | (exfalso; omega)
                                                  | skip
                                                    refine (s260_215).mpr ?_
                                                    first | (exfalso; omega) | (exact ok _ _ _ ((tsL_37b c1 hb).trans (onw_p ⟨by dsimp only; omega, ⟨hk, hT.1, hT.2⟩, c175, y186.2.2⟩)) (flw1 (by rw [c1]; decide)) (by repeat' (first | assumption | exact FW.rf | refine FW.up ?_ (by unfold wS; omega) | (refine FW.tr ?_ (by assumption)))) (by (try simp (disch := decide) only [upI_eq, upI_a, upI_i, upR_eq, upR_a, upR_i]); try assumption) (by (try simp (disch := decide) only [upI_eq, upI_a, upI_i, upR_eq, upR_a, upR_i]); try assumption) (by simp (disch := decide) only [scX, upI_eq, upI_a, upI_i, upR_eq, upR_a, upR_i, upI_ro, upI_rw, ht, E1, E2, E3, E4, E5, E6, E7]; rfl)) | (exact nob _ (fun h => h.2.2.1 c175) (by repeat' (first | assumption | exact FW.rf | refine FW.up ?_ (by unfold wS; omega) | (refine FW.tr ?_ (by assumption)))) (by (try simp (disch := decide) only [upI_eq, upI_a, upI_i, upR_eq, upR_a, upR_i]); try assumption)) | (exact nob _ (fun h => by rcases x186 with h9 | h9; omega; exact h9 ⟨by omega, h.2.2.2⟩) (by repeat' (first | assumption | exact FW.rf | refine FW.up ?_ (by unfold wS; omega) | (refine FW.tr ?_ (by assumption)))) (by (try simp (disch := decide) only [upI_eq, upI_a, upI_i, upR_eq, upR_a, upR_i]); try assumption))
                                                · first
                                                  | (exfalso; omega)
                                                  | skip
                                                    refine s260_216.mpr ((s260_217 kM).mpr ?_)
                                                    rw [mr_33 hR]
                                                    refine s260_220.mpr (s260_221.mpr (s260_223.mpr ((s260_224 kM).mpr ?_)))
                                                    rw [mr_15 hR]
                                                    refine s260_227.mpr ?_
                                                    refine (s260_229 (hA.k (by decide) (by decide) rfl) (by first | assumption | omega) (by first | assumption | omega)).mpr ?_
                                                    try simp (disch := first | decide | assumption | omega) only [kon, knt_some, knt_none, Option.toList_some, Option.toList_none, List.cons_append, List.nil_append, upI_eq, upI_a, upI_i, upR_eq, upR_a, upR_i, h36, ht, E1, E2, E3, E4, E5, E6, E7, fAdd_id, fSub_id, fMul_id, e62, e63]
                                                    refine (s260_230 (by omega)).mpr ?_
                                                    refine m_inState ⟨v1, v2⟩ eth ?_
                                                    refine (s260_233 (hA.k (by decide) (by decide) rfl) (by first | assumption | omega) (by first | assumption | omega)).mpr ?_
                                                    try simp (disch := first | decide | assumption | omega) only [kon, knt_some, knt_none, Option.toList_some, Option.toList_none, List.cons_append, List.nil_append, upI_eq, upI_a, upI_i, upR_eq, upR_a, upR_i, h36, ht, E1, E2, E3, E4, E5, E6, E7, fAdd_id, fSub_id, fMul_id, e62, e63]
                                                    refine (s260_234).mpr ?_
                                                    first | (exfalso; omega) | (exact ok _ _ _ ((tsL_37b c1 hb).trans (onw_p ⟨by dsimp only; omega, ⟨hk, hT.1, hT.2⟩, c175, y186.2.2⟩)) (flw1 (by rw [c1]; decide)) (by repeat' (first | assumption | exact FW.rf | refine FW.up ?_ (by unfold wS; omega) | (refine FW.tr ?_ (by assumption)))) (by (try simp (disch := decide) only [upI_eq, upI_a, upI_i, upR_eq, upR_a, upR_i]); try assumption) (by (try simp (disch := decide) only [upI_eq, upI_a, upI_i, upR_eq, upR_a, upR_i]); try assumption) (by simp (disch := decide) only [scX, upI_eq, upI_a, upI_i, upR_eq, upR_a, upR_i, upI_ro, upI_rw, ht, E1, E2, E3, E4, E5, E6, E7]; rfl)) | (exact nob _ (fun h => h.2.2.1 c175) (by repeat' (first | assumption | exact FW.rf | refine FW.up ?_ (by unfold wS; omega) | (refine FW.tr ?_ (by assumption)))) (by (try simp (disch := decide) only [upI_eq, upI_a, upI_i, upR_eq, upR_a, upR_i]); try assumption)) | (exact nob _ (fun h => by rcases x186 with h9 | h9; omega; exact h9 ⟨by omega, h.2.2.2⟩) (by repeat' (first | assumption | exact FW.rf | refine FW.up ?_ (by unfold wS; omega) | (refine FW.tr ?_ (by assumption)))) (by (try simp (disch := decide) only [upI_eq, upI_a, upI_i, upR_eq, upR_a, upR_i]); try assumption))
                                              · skip
                                                refine s260_208.mpr ?_
                                                refine (s260_209 kM).mpr ?_
                                                try simp (disch := first | decide | assumption | omega) only [kon, knt_some, knt_none, Option.toList_some, Option.toList_none, List.cons_append, List.nil_append, upI_eq, upI_a, upI_i, upR_eq, upR_a, upR_i, h36, ht, E1, E2, E3, E4, E5, E6, E7, fAdd_id, fSub_id, fMul_id, e62, e63]
                                                refine s260_212.mpr (wif (fun c212 => ?_) (fun c212 => ?_))
                                                · first
                                                  | (exfalso; omega)
                                                  | skip
                                                    refine (s260_215).mpr ?_
                                                    first | (exfalso; omega) | (exact ok _ _ _ ((tsL_37b c1 hb).trans (onw_p ⟨by dsimp only; omega, ⟨hk, hT.1, hT.2⟩, c175, y186.2.2⟩)) (flw1 (by rw [c1]; decide)) (by repeat' (first | assumption | exact FW.rf | refine FW.up ?_ (by unfold wS; omega) | (refine FW.tr ?_ (by assumption)))) (by (try simp (disch := decide) only [upI_eq, upI_a, upI_i, upR_eq, upR_a, upR_i]); try assumption) (by (try simp (disch := decide) only [upI_eq, upI_a, upI_i, upR_eq, upR_a, upR_i]); try assumption) (by simp (disch := decide) only [scX, upI_eq, upI_a, upI_i, upR_eq, upR_a, upR_i, upI_ro, upI_rw, ht, E1, E2, E3, E4, E5, E6, E7]; rfl)) | (exact nob _ (fun h => h.2.2.1 c175) (by repeat' (first | assumption | exact FW.rf | refine FW.up ?_ (by unfold wS; omega) | (refine FW.tr ?_ (by assumption)))) (by (try simp (disch := decide) only [upI_eq, upI_a, upI_i, upR_eq, upR_a, upR_i]); try assumption)) | (exact nob _ (fun h => by rcases x186 with h9 | h9; omega; exact h9 ⟨by omega, h.2.2.2⟩) (by repeat' (first | assumption | exact FW.rf | refine FW.up ?_ (by unfold wS; omega) | (refine FW.tr ?_ (by assumption)))) (by (try simp (disch := decide) only [upI_eq, upI_a, upI_i, upR_eq, upR_a, upR_i]); try assumption))
                                                · first
                                                  | (exfalso; omega)
                                                  | skip
                                                    refine s260_216.mpr ((s260_217 kM).mpr ?_)
                                                    rw [mr_33 hR]
                                                    refine s260_220.mpr (s260_221.mpr (s260_223.mpr ((s260_224 kM).mpr ?_)))
                                                    rw [mr_15 hR]
                                                    refine s260_227.mpr ?_
                                                    refine (s260_229 (hA.k (by decide) (by decide) rfl) (by first | assumption | omega) (by first | assumption | omega)).mpr ?_
                                                    try simp (disch := first | decide | assumption | omega) only [kon, knt_some, knt_none, Option.toList_some, Option.toList_none, List.cons_append, List.nil_append, upI_eq, upI_a, upI_i, upR_eq, upR_a, upR_i, h36, ht, E1, E2, E3, E4, E5, E6, E7, fAdd_id, fSub_id, fMul_id, e62, e63]
                                                    refine (s260_230 (by omega)).mpr ?_
                                                    refine m_inState ⟨v1, v2⟩ eth ?_
                                                    refine (s260_233 (hA.k (by decide) (by decide) rfl) (by first | assumption | omega) (by first | assumption | omega)).mpr ?_
                                                    try simp (disch := first | decide | assumption | omega) only [kon, knt_some, knt_none, Option.toList_some, Option.toList_none, List.cons_append, List.nil_append, upI_eq, upI_a, upI_i, upR_eq, upR_a, upR_i, h36, ht, E1, E2, E3, E4, E5, E6, E7, fAdd_id, fSub_id, fMul_id, e62, e63]
                                                    refine (s260_234).mpr ?_
                                                    first | (exfalso; omega) | (exact ok _ _ _ ((tsL_37b c1 hb).trans (onw_p ⟨by dsimp only; omega, ⟨hk, hT.1, hT.2⟩, c175, y186.2.2⟩)) (flw1 (by rw [c1]; decide)) (by repeat' (first | assumption | exact FW.rf | refine FW.up ?_ (by unfold wS; omega) | (refine FW.tr ?_ (by assumption)))) (by (try simp (disch := decide) only [upI_eq, upI_a, upI_i, upR_eq, upR_a, upR_i]); try assumption) (by (try simp (disch := decide) only [upI_eq, upI_a, upI_i, upR_eq, upR_a, upR_i]); try assumption) (by simp (disch := decide) only [scX, upI_eq, upI_a, upI_i, upR_eq, upR_a, upR_i, upI_ro, upI_rw, ht, E1, E2, E3, E4, E5, E6, E7]; rfl)) | (exact nob _ (fun h => h.2.2.1 c175) (by repeat' (first | assumption | exact FW.rf | refine FW.up ?_ (by unfold wS; omega) | (refine FW.tr ?_ (by assumption)))) (by (try simp (disch := decide) only [upI_eq, upI_a, upI_i, upR_eq, upR_a, upR_i]); try assumption)) | (exact nob _ (fun h => by rcases x186 with h9 | h9; omega; exact h9 ⟨by omega, h.2.2.2⟩) (by repeat' (first | assumption | exact FW.rf | refine FW.up ?_ (by unfold wS; omega) | (refine FW.tr ?_ (by assumption)))) (by (try simp (disch := decide) only [upI_eq, upI_a, upI_i, upR_eq, upR_a, upR_i]); try assumption))
                    · first
                      | (exfalso; omega)
                      | skip
                        exfalso; omega
              · skip
                refine s260_102.mpr ?_
                refine (s260_103 kM).mpr ?_
                try simp (disch := first | decide | assumption | omega) only [kon, knt_some, knt_none, Option.toList_some, Option.toList_none, List.cons_append, List.nil_append, upI_eq, upI_a, upI_i, upR_eq, upR_a, upR_i, h36, ht, E1, E2, E3, E4, E5, E6, E7, fAdd_id, fSub_id, fMul_id, e62, e63]
                refine s260_106.mpr (wif (fun c106 => ?_) (fun c106 => ?_))
                · first
                  | (exfalso; omega)
                  | skip
                    exfalso; omega
                · first
                  | (exfalso; omega)
                  | skip
                    refine s260_110.mpr ((s260_111 kM).mpr ?_)
                    rw [mr_33 hR]
                    refine s260_114.mpr ?_
                    refine (s260_115 (hA.k (by decide) (by decide) rfl) (by first | assumption | omega) (by first | assumption | omega)).mpr ?_
                    refine s260_116.mpr (s260_118.mpr (s260_119.mpr ?_))
                    try simp (disch := first | decide | assumption | omega) only [kon, knt_some, knt_none, Option.toList_some, Option.toList_none, List.cons_append, List.nil_append, upI_eq, upI_a, upI_i, upR_eq, upR_a, upR_i, h36, ht, E1, E2, E3, E4, E5, E6, E7, fAdd_id, fSub_id, fMul_id, e62, e63]
                    refine (s260_121 (by omega)).mpr ?_
                    refine m_kind.mpr ?_
                    refine s260_124.mpr ?_
                    refine s260_125.mpr (wif (fun c125 => ?_) (fun c125 => ?_))
                    · first
                      | (exfalso; omega)
                      | skip
                        refine s260_128.mpr (s260_129.mpr (s260_130.mpr (s260_132.mpr ?_)))
                        refine (s260_133 (by omega) kM).mpr ?_
                        refine m_isTurn (B := B) hA hR (by omega) hM hS hE (fun y133 z133 => ?_) (fun y133 => ?_)
                        · skip
                          refine s260_136.mpr (wif (fun c136 => ?_) (fun c136 => ?_))
                          · first
                            | (exfalso; omega)
                            | skip
                              exfalso; omega
                          · first
                            | (exfalso; omega)
                            | skip
                              refine s260_139.mpr (s260_140.mpr ?_)
                              refine (s260_144 (by omega) kM).mpr ?_
                              refine m_wants hA (by omega) (by (try simp (disch := decide) only [upI_eq, upI_a, upI_i, upR_eq, upR_a, upR_i]); first | assumption | rfl) (by omega) (fun y144 => ?_) (fun y144 => ?_)
                              · skip
                                refine s260_147.mpr ?_
                                refine (s260_148 kM).mpr ?_
                                try simp (disch := first | decide | assumption | omega) only [kon, knt_some, knt_none, Option.toList_some, Option.toList_none, List.cons_append, List.nil_append, upI_eq, upI_a, upI_i, upR_eq, upR_a, upR_i, h36, ht, E1, E2, E3, E4, E5, E6, E7, fAdd_id, fSub_id, fMul_id, e62, e63]
                                refine s260_151.mpr (wif (fun c151 => ?_) (fun c151 => ?_))
                                · first
                                  | (exfalso; omega)
                                  | skip
                                    exfalso; omega
                                · first
                                  | (exfalso; omega)
                                  | skip
                                    refine s260_155.mpr (s260_156.mpr (s260_157.mpr ?_))
                                    refine (s260_159 (by omega)).mpr ?_
                                    refine m_stateOf (by omega) ⟨hm0, hm1⟩ hr9 ?_
                                    refine s260_162.mpr (s260_163.mpr (s260_164.mpr (s260_165.mpr (s260_167.mpr ((s260_168 kM).mpr ?_)))))
                                    rw [mr_14 hR]
                                    refine s260_171.mpr ?_
                                    try simp (disch := first | decide | assumption | omega) only [kon, knt_some, knt_none, Option.toList_some, Option.toList_none, List.cons_append, List.nil_append, upI_eq, upI_a, upI_i, upR_eq, upR_a, upR_i, h36, ht, E1, E2, E3, E4, E5, E6, E7, fAdd_id, fSub_id, fMul_id, e62, e63]
                                    refine (s260_173 (hA.k (by decide) (by decide) rfl) (by first | assumption | omega) (by first | assumption | omega)).mpr ?_
                                    refine s260_174.mpr ?_
                                    try simp (disch := first | decide | assumption | omega) only [kon, knt_some, knt_none, Option.toList_some, Option.toList_none, List.cons_append, List.nil_append, upI_eq, upI_a, upI_i, upR_eq, upR_a, upR_i, h36, ht, E1, E2, E3, E4, E5, E6, E7, fAdd_id, fSub_id, fMul_id, e62, e63]
                                    refine s260_175.mpr (wif (fun c175 => ?_) (fun c175 => ?_))
                                    · first
                                      | (exfalso; omega)
                                      | skip
                                        refine s260_189.mpr (s260_190.mpr ?_)
                                        refine (s260_191 kM).mpr ?_
                                        refine s260_194.mpr (s260_195.mpr (s260_196.mpr ?_))
                                        try simp (disch := first | decide | assumption | omega) only [kon, knt_some, knt_none, Option.toList_some, Option.toList_none, List.cons_append, List.nil_append, upI_eq, upI_a, upI_i, upR_eq, upR_a, upR_i, h36, ht, E1, E2, E3, E4, E5, E6, E7, fAdd_id, fSub_id, fMul_id, e62, e63]
                                        refine s260_197.mpr (wif (fun c197 => ?_) (fun c197 => ?_))
                                        · first
                                          | (exfalso; omega)
                                          | skip
                                            refine s260_200.mpr (s260_201.mpr ?_)
                                            refine (s260_205 (by omega) kM).mpr ?_
                                            refine m_wants hA (by omega) (by (try simp (disch := decide) only [upI_eq, upI_a, upI_i, upR_eq, upR_a, upR_i]); first | assumption | rfl) (by omega) (fun y205 => ?_) (fun y205 => ?_)
                                            · skip
                                              refine s260_208.mpr ?_
                                              refine (s260_209 kM).mpr ?_
                                              try simp (disch := first | decide | assumption | omega) only [kon, knt_some, knt_none, Option.toList_some, Option.toList_none, List.cons_append, List.nil_append, upI_eq, upI_a, upI_i, upR_eq, upR_a, upR_i, h36, ht, E1, E2, E3, E4, E5, E6, E7, fAdd_id, fSub_id, fMul_id, e62, e63]
                                              refine s260_212.mpr (wif (fun c212 => ?_) (fun c212 => ?_))
                                              · first
                                                | (exfalso; omega)
                                                | skip
                                                  refine (s260_215).mpr ?_
                                                  first | (exfalso; omega) | (exact ok _ _ _ ((tsL_37b c1 hb).trans (onw_p ⟨by dsimp only; omega, ⟨hk, hT.1, hT.2⟩, c175, y186.2.2⟩)) (flw1 (by rw [c1]; decide)) (by repeat' (first | assumption | exact FW.rf | refine FW.up ?_ (by unfold wS; omega) | (refine FW.tr ?_ (by assumption)))) (by (try simp (disch := decide) only [upI_eq, upI_a, upI_i, upR_eq, upR_a, upR_i]); try assumption) (by (try simp (disch := decide) only [upI_eq, upI_a, upI_i, upR_eq, upR_a, upR_i]); try assumption) (by simp (disch := decide) only [scX, upI_eq, upI_a, upI_i, upR_eq, upR_a, upR_i, upI_ro, upI_rw, ht, E1, E2, E3, E4, E5, E6, E7]; rfl)) | (exact nob _ (fun h => h.2.2.1 c175) (by repeat' (first | assumption | exact FW.rf | refine FW.up ?_ (by unfold wS; omega) | (refine FW.tr ?_ (by assumption)))) (by (try simp (disch := decide) only [upI_eq, upI_a, upI_i, upR_eq, upR_a, upR_i]); try assumption)) | (exact nob _ (fun h => by rcases x186 with h9 | h9; omega; exact h9 ⟨by omega, h.2.2.2⟩) (by repeat' (first | assumption | exact FW.rf | refine FW.up ?_ (by unfold wS; omega) | (refine FW.tr ?_ (by assumption)))) (by (try simp (disch := decide) only [upI_eq, upI_a, upI_i, upR_eq, upR_a, upR_i]); try assumption))
                                              · first
                                                | (exfalso; omega)
                                                | skip
                                                  refine s260_216.mpr ((s260_217 kM).mpr ?_)
                                                  rw [mr_33 hR]
                                                  refine s260_220.mpr (s260_221.mpr (s260_223.mpr ((s260_224 kM).mpr ?_)))
                                                  rw [mr_15 hR]
                                                  refine s260_227.mpr ?_
                                                  refine (s260_229 (hA.k (by decide) (by decide) rfl) (by first | assumption | omega) (by first | assumption | omega)).mpr ?_
                                                  try simp (disch := first | decide | assumption | omega) only [kon, knt_some, knt_none, Option.toList_some, Option.toList_none, List.cons_append, List.nil_append, upI_eq, upI_a, upI_i, upR_eq, upR_a, upR_i, h36, ht, E1, E2, E3, E4, E5, E6, E7, fAdd_id, fSub_id, fMul_id, e62, e63]
                                                  refine (s260_230 (by omega)).mpr ?_
                                                  refine m_inState ⟨v1, v2⟩ eth ?_
                                                  refine (s260_233 (hA.k (by decide) (by decide) rfl) (by first | assumption | omega) (by first | assumption | omega)).mpr ?_
                                                  try simp (disch := first | decide | assumption | omega) only [kon, knt_some, knt_none, Option.toList_some, Option.toList_none, List.cons_append, List.nil_append, upI_eq, upI_a, upI_i, upR_eq, upR_a, upR_i, h36, ht, E1, E2, E3, E4, E5, E6, E7, fAdd_id, fSub_id, fMul_id, e62, e63]
                                                  refine (s260_234).mpr ?_
                                                  first | (exfalso; omega) | (exact ok _ _ _ ((tsL_37b c1 hb).trans (onw_p ⟨by dsimp only; omega, ⟨hk, hT.1, hT.2⟩, c175, y186.2.2⟩)) (flw1 (by rw [c1]; decide)) (by repeat' (first | assumption | exact FW.rf | refine FW.up ?_ (by unfold wS; omega) | (refine FW.tr ?_ (by assumption)))) (by (try simp (disch := decide) only [upI_eq, upI_a, upI_i, upR_eq, upR_a, upR_i]); try assumption) (by (try simp (disch := decide) only [upI_eq, upI_a, upI_i, upR_eq, upR_a, upR_i]); try assumption) (by simp (disch := decide) only [scX, upI_eq, upI_a, upI_i, upR_eq, upR_a, upR_i, upI_ro, upI_rw, ht, E1, E2, E3, E4, E5, E6, E7]; rfl)) | (exact nob _ (fun h => h.2.2.1 c175) (by repeat' (first | assumption | exact FW.rf | refine FW.up ?_ (by unfold wS; omega) | (refine FW.tr ?_ (by assumption)))) (by (try simp (disch := decide) only [upI_eq, upI_a, upI_i, upR_eq, upR_a, upR_i]); try assumption)) | (exact nob _ (fun h => by rcases x186 with h9 | h9; omega; exact h9 ⟨by omega, h.2.2.2⟩) (by repeat' (first | assumption | exact FW.rf | refine FW.up ?_ (by unfold wS; omega) | (refine FW.tr ?_ (by assumption)))) (by (try simp (disch := decide) only [upI_eq, upI_a, upI_i, upR_eq, upR_a, upR_i]); try assumption))
                                            · skip
                                              refine s260_208.mpr ?_
                                              refine (s260_209 kM).mpr ?_
                                              try simp (disch := first | decide | assumption | omega) only [kon, knt_some, knt_none, Option.toList_some, Option.toList_none, List.cons_append, List.nil_append, upI_eq, upI_a, upI_i, upR_eq, upR_a, upR_i, h36, ht, E1, E2, E3, E4, E5, E6, E7, fAdd_id, fSub_id, fMul_id, e62, e63]
                                              refine s260_212.mpr (wif (fun c212 => ?_) (fun c212 => ?_))
                                              · first
                                                | (exfalso; omega)
                                                | skip
                                                  refine (s260_215).mpr ?_
                                                  first | (exfalso; omega) | (exact ok _ _ _ ((tsL_37b c1 hb).trans (onw_p ⟨by dsimp only; omega, ⟨hk, hT.1, hT.2⟩, c175, y186.2.2⟩)) (flw1 (by rw [c1]; decide)) (by repeat' (first | assumption | exact FW.rf | refine FW.up ?_ (by unfold wS; omega) | (refine FW.tr ?_ (by assumption)))) (by (try simp (disch := decide) only [upI_eq, upI_a, upI_i, upR_eq, upR_a, upR_i]); try assumption) (by (try simp (disch := decide) only [upI_eq, upI_a, upI_i, upR_eq, upR_a, upR_i]); try assumption) (by simp (disch := decide) only [scX, upI_eq, upI_a, upI_i, upR_eq, upR_a, upR_i, upI_ro, upI_rw, ht, E1, E2, E3, E4, E5, E6, E7]; rfl)) | (exact nob _ (fun h => h.2.2.1 c175) (by repeat' (first | assumption | exact FW.rf | refine FW.up ?_ (by unfold wS; omega) | (refine FW.tr ?_ (by assumption)))) (by (try simp (disch := decide) only [upI_eq, upI_a, upI_i, upR_eq, upR_a, upR_i]); try assumption)) | (exact nob _ (fun h => by rcases x186 with h9 | h9; omega; exact h9 ⟨by omega, h.2.2.2⟩) (by repeat' (first | assumption | exact FW.rf | refine FW.up ?_ (by unfold wS; omega) | (refine FW.tr ?_ (by assumption)))) (by (try simp (disch := decide) only [upI_eq, upI_a, upI_i, upR_eq, upR_a, upR_i]); try assumption))
                                              · first
                                                | (exfalso; omega)
                                                | skip
                                                  refine s260_216.mpr ((s260_217 kM).mpr ?_)
                                                  rw [mr_33 hR]
                                                  refine s260_220.mpr (s260_221.mpr (s260_223.mpr ((s260_224 kM).mpr ?_)))
                                                  rw [mr_15 hR]
                                                  refine s260_227.mpr ?_
                                                  refine (s260_229 (hA.k (by decide) (by decide) rfl) (by first | assumption | omega) (by first | assumption | omega)).mpr ?_
                                                  try simp (disch := first | decide | assumption | omega) only [kon, knt_some, knt_none, Option.toList_some, Option.toList_none, List.cons_append, List.nil_append, upI_eq, upI_a, upI_i, upR_eq, upR_a, upR_i, h36, ht, E1, E2, E3, E4, E5, E6, E7, fAdd_id, fSub_id, fMul_id, e62, e63]
                                                  refine (s260_230 (by omega)).mpr ?_
                                                  refine m_inState ⟨v1, v2⟩ eth ?_
                                                  refine (s260_233 (hA.k (by decide) (by decide) rfl) (by first | assumption | omega) (by first | assumption | omega)).mpr ?_
                                                  try simp (disch := first | decide | assumption | omega) only [kon, knt_some, knt_none, Option.toList_some, Option.toList_none, List.cons_append, List.nil_append, upI_eq, upI_a, upI_i, upR_eq, upR_a, upR_i, h36, ht, E1, E2, E3, E4, E5, E6, E7, fAdd_id, fSub_id, fMul_id, e62, e63]
                                                  refine (s260_234).mpr ?_
                                                  first | (exfalso; omega) | (exact ok _ _ _ ((tsL_37b c1 hb).trans (onw_p ⟨by dsimp only; omega, ⟨hk, hT.1, hT.2⟩, c175, y186.2.2⟩)) (flw1 (by rw [c1]; decide)) (by repeat' (first | assumption | exact FW.rf | refine FW.up ?_ (by unfold wS; omega) | (refine FW.tr ?_ (by assumption)))) (by (try simp (disch := decide) only [upI_eq, upI_a, upI_i, upR_eq, upR_a, upR_i]); try assumption) (by (try simp (disch := decide) only [upI_eq, upI_a, upI_i, upR_eq, upR_a, upR_i]); try assumption) (by simp (disch := decide) only [scX, upI_eq, upI_a, upI_i, upR_eq, upR_a, upR_i, upI_ro, upI_rw, ht, E1, E2, E3, E4, E5, E6, E7]; rfl)) | (exact nob _ (fun h => h.2.2.1 c175) (by repeat' (first | assumption | exact FW.rf | refine FW.up ?_ (by unfold wS; omega) | (refine FW.tr ?_ (by assumption)))) (by (try simp (disch := decide) only [upI_eq, upI_a, upI_i, upR_eq, upR_a, upR_i]); try assumption)) | (exact nob _ (fun h => by rcases x186 with h9 | h9; omega; exact h9 ⟨by omega, h.2.2.2⟩) (by repeat' (first | assumption | exact FW.rf | refine FW.up ?_ (by unfold wS; omega) | (refine FW.tr ?_ (by assumption)))) (by (try simp (disch := decide) only [upI_eq, upI_a, upI_i, upR_eq, upR_a, upR_i]); try assumption))
                                        · first
                                          | (exfalso; omega)
                                          | skip
                                            refine s260_204.mpr ?_
                                            refine (s260_205 (by omega) kM).mpr ?_
                                            refine m_wants hA (by omega) (by (try simp (disch := decide) only [upI_eq, upI_a, upI_i, upR_eq, upR_a, upR_i]); first | assumption | rfl) (by omega) (fun y205 => ?_) (fun y205 => ?_)
                                            · skip
                                              refine s260_208.mpr ?_
                                              refine (s260_209 kM).mpr ?_
                                              try simp (disch := first | decide | assumption | omega) only [kon, knt_some, knt_none, Option.toList_some, Option.toList_none, List.cons_append, List.nil_append, upI_eq, upI_a, upI_i, upR_eq, upR_a, upR_i, h36, ht, E1, E2, E3, E4, E5, E6, E7, fAdd_id, fSub_id, fMul_id, e62, e63]
                                              refine s260_212.mpr (wif (fun c212 => ?_) (fun c212 => ?_))
                                              · first
                                                | (exfalso; omega)
                                                | skip
                                                  refine (s260_215).mpr ?_
                                                  first | (exfalso; omega) | (exact ok _ _ _ ((tsL_37b c1 hb).trans (onw_p ⟨by dsimp only; omega, ⟨hk, hT.1, hT.2⟩, c175, y186.2.2⟩)) (flw1 (by rw [c1]; decide)) (by repeat' (first | assumption | exact FW.rf | refine FW.up ?_ (by unfold wS; omega) | (refine FW.tr ?_ (by assumption)))) (by (try simp (disch := decide) only [upI_eq, upI_a, upI_i, upR_eq, upR_a, upR_i]); try assumption) (by (try simp (disch := decide) only [upI_eq, upI_a, upI_i, upR_eq, upR_a, upR_i]); try assumption) (by simp (disch := decide) only [scX, upI_eq, upI_a, upI_i, upR_eq, upR_a, upR_i, upI_ro, upI_rw, ht, E1, E2, E3, E4, E5, E6, E7]; rfl)) | (exact nob _ (fun h => h.2.2.1 c175) (by repeat' (first | assumption | exact FW.rf | refine FW.up ?_ (by unfold wS; omega) | (refine FW.tr ?_ (by assumption)))) (by (try simp (disch := decide) only [upI_eq, upI_a, upI_i, upR_eq, upR_a, upR_i]); try assumption)) | (exact nob _ (fun h => by rcases x186 with h9 | h9; omega; exact h9 ⟨by omega, h.2.2.2⟩) (by repeat' (first | assumption | exact FW.rf | refine FW.up ?_ (by unfold wS; omega) | (refine FW.tr ?_ (by assumption)))) (by (try simp (disch := decide) only [upI_eq, upI_a, upI_i, upR_eq, upR_a, upR_i]); try assumption))
                                              · first
                                                | (exfalso; omega)
                                                | skip
                                                  refine s260_216.mpr ((s260_217 kM).mpr ?_)
                                                  rw [mr_33 hR]
                                                  refine s260_220.mpr (s260_221.mpr (s260_223.mpr ((s260_224 kM).mpr ?_)))
                                                  rw [mr_15 hR]
                                                  refine s260_227.mpr ?_
                                                  refine (s260_229 (hA.k (by decide) (by decide) rfl) (by first | assumption | omega) (by first | assumption | omega)).mpr ?_
                                                  try simp (disch := first | decide | assumption | omega) only [kon, knt_some, knt_none, Option.toList_some, Option.toList_none, List.cons_append, List.nil_append, upI_eq, upI_a, upI_i, upR_eq, upR_a, upR_i, h36, ht, E1, E2, E3, E4, E5, E6, E7, fAdd_id, fSub_id, fMul_id, e62, e63]
                                                  refine (s260_230 (by omega)).mpr ?_
                                                  refine m_inState ⟨v1, v2⟩ eth ?_
                                                  refine (s260_233 (hA.k (by decide) (by decide) rfl) (by first | assumption | omega) (by first | assumption | omega)).mpr ?_
                                                  try simp (disch := first | decide | assumption | omega) only [kon, knt_some, knt_none, Option.toList_some, Option.toList_none, List.cons_append, List.nil_append, upI_eq, upI_a, upI_i, upR_eq, upR_a, upR_i, h36, ht, E1, E2, E3, E4, E5, E6, E7, fAdd_id, fSub_id, fMul_id, e62, e63]
                                                  refine (s260_234).mpr ?_
                                                  first | (exfalso; omega) | (exact ok _ _ _ ((tsL_37b c1 hb).trans (onw_p ⟨by dsimp only; omega, ⟨hk, hT.1, hT.2⟩, c175, y186.2.2⟩)) (flw1 (by rw [c1]; decide)) (by repeat' (first | assumption | exact FW.rf | refine FW.up ?_ (by unfold wS; omega) | (refine FW.tr ?_ (by assumption)))) (by (try simp (disch := decide) only [upI_eq, upI_a, upI_i, upR_eq, upR_a, upR_i]); try assumption) (by (try simp (disch := decide) only [upI_eq, upI_a, upI_i, upR_eq, upR_a, upR_i]); try assumption) (by simp (disch := decide) only [scX, upI_eq, upI_a, upI_i, upR_eq, upR_a, upR_i, upI_ro, upI_rw, ht, E1, E2, E3, E4, E5, E6, E7]; rfl)) | (exact nob _ (fun h => h.2.2.1 c175) (by repeat' (first | assumption | exact FW.rf | refine FW.up ?_ (by unfold wS; omega) | (refine FW.tr ?_ (by assumption)))) (by (try simp (disch := decide) only [upI_eq, upI_a, upI_i, upR_eq, upR_a, upR_i]); try assumption)) | (exact nob _ (fun h => by rcases x186 with h9 | h9; omega; exact h9 ⟨by omega, h.2.2.2⟩) (by repeat' (first | assumption | exact FW.rf | refine FW.up ?_ (by unfold wS; omega) | (refine FW.tr ?_ (by assumption)))) (by (try simp (disch := decide) only [upI_eq, upI_a, upI_i, upR_eq, upR_a, upR_i]); try assumption))
                                            · skip
                                              refine s260_208.mpr ?_
                                              refine (s260_209 kM).mpr ?_
                                              try simp (disch := first | decide | assumption | omega) only [kon, knt_some, knt_none, Option.toList_some, Option.toList_none, List.cons_append, List.nil_append, upI_eq, upI_a, upI_i, upR_eq, upR_a, upR_i, h36, ht, E1, E2, E3, E4, E5, E6, E7, fAdd_id, fSub_id, fMul_id, e62, e63]
                                              refine s260_212.mpr (wif (fun c212 => ?_) (fun c212 => ?_))
                                              · first
                                                | (exfalso; omega)
                                                | skip
                                                  refine (s260_215).mpr ?_
                                                  first | (exfalso; omega) | (exact ok _ _ _ ((tsL_37b c1 hb).trans (onw_p ⟨by dsimp only; omega, ⟨hk, hT.1, hT.2⟩, c175, y186.2.2⟩)) (flw1 (by rw [c1]; decide)) (by repeat' (first | assumption | exact FW.rf | refine FW.up ?_ (by unfold wS; omega) | (refine FW.tr ?_ (by assumption)))) (by (try simp (disch := decide) only [upI_eq, upI_a, upI_i, upR_eq, upR_a, upR_i]); try assumption) (by (try simp (disch := decide) only [upI_eq, upI_a, upI_i, upR_eq, upR_a, upR_i]); try assumption) (by simp (disch := decide) only [scX, upI_eq, upI_a, upI_i, upR_eq, upR_a, upR_i, upI_ro, upI_rw, ht, E1, E2, E3, E4, E5, E6, E7]; rfl)) | (exact nob _ (fun h => h.2.2.1 c175) (by repeat' (first | assumption | exact FW.rf | refine FW.up ?_ (by unfold wS; omega) | (refine FW.tr ?_ (by assumption)))) (by (try simp (disch := decide) only [upI_eq, upI_a, upI_i, upR_eq, upR_a, upR_i]); try assumption)) | (exact nob _ (fun h => by rcases x186 with h9 | h9; omega; exact h9 ⟨by omega, h.2.2.2⟩) (by repeat' (first | assumption | exact FW.rf | refine FW.up ?_ (by unfold wS; omega) | (refine FW.tr ?_ (by assumption)))) (by (try simp (disch := decide) only [upI_eq, upI_a, upI_i, upR_eq, upR_a, upR_i]); try assumption))
                                              · first
                                                | (exfalso; omega)
                                                | skip
                                                  refine s260_216.mpr ((s260_217 kM).mpr ?_)
                                                  rw [mr_33 hR]
                                                  refine s260_220.mpr (s260_221.mpr (s260_223.mpr ((s260_224 kM).mpr ?_)))
                                                  rw [mr_15 hR]
                                                  refine s260_227.mpr ?_
                                                  refine (s260_229 (hA.k (by decide) (by decide) rfl) (by first | assumption | omega) (by first | assumption | omega)).mpr ?_
                                                  try simp (disch := first | decide | assumption | omega) only [kon, knt_some, knt_none, Option.toList_some, Option.toList_none, List.cons_append, List.nil_append, upI_eq, upI_a, upI_i, upR_eq, upR_a, upR_i, h36, ht, E1, E2, E3, E4, E5, E6, E7, fAdd_id, fSub_id, fMul_id, e62, e63]
                                                  refine (s260_230 (by omega)).mpr ?_
                                                  refine m_inState ⟨v1, v2⟩ eth ?_
                                                  refine (s260_233 (hA.k (by decide) (by decide) rfl) (by first | assumption | omega) (by first | assumption | omega)).mpr ?_
                                                  try simp (disch := first | decide | assumption | omega) only [kon, knt_some, knt_none, Option.toList_some, Option.toList_none, List.cons_append, List.nil_append, upI_eq, upI_a, upI_i, upR_eq, upR_a, upR_i, h36, ht, E1, E2, E3, E4, E5, E6, E7, fAdd_id, fSub_id, fMul_id, e62, e63]
                                                  refine (s260_234).mpr ?_
                                                  first | (exfalso; omega) | (exact ok _ _ _ ((tsL_37b c1 hb).trans (onw_p ⟨by dsimp only; omega, ⟨hk, hT.1, hT.2⟩, c175, y186.2.2⟩)) (flw1 (by rw [c1]; decide)) (by repeat' (first | assumption | exact FW.rf | refine FW.up ?_ (by unfold wS; omega) | (refine FW.tr ?_ (by assumption)))) (by (try simp (disch := decide) only [upI_eq, upI_a, upI_i, upR_eq, upR_a, upR_i]); try assumption) (by (try simp (disch := decide) only [upI_eq, upI_a, upI_i, upR_eq, upR_a, upR_i]); try assumption) (by simp (disch := decide) only [scX, upI_eq, upI_a, upI_i, upR_eq, upR_a, upR_i, upI_ro, upI_rw, ht, E1, E2, E3, E4, E5, E6, E7]; rfl)) | (exact nob _ (fun h => h.2.2.1 c175) (by repeat' (first | assumption | exact FW.rf | refine FW.up ?_ (by unfold wS; omega) | (refine FW.tr ?_ (by assumption)))) (by (try simp (disch := decide) only [upI_eq, upI_a, upI_i, upR_eq, upR_a, upR_i]); try assumption)) | (exact nob _ (fun h => by rcases x186 with h9 | h9; omega; exact h9 ⟨by omega, h.2.2.2⟩) (by repeat' (first | assumption | exact FW.rf | refine FW.up ?_ (by unfold wS; omega) | (refine FW.tr ?_ (by assumption)))) (by (try simp (disch := decide) only [upI_eq, upI_a, upI_i, upR_eq, upR_a, upR_i]); try assumption))
                                    · first
                                      | (exfalso; omega)
                                      | skip
                                        refine s260_178.mpr (s260_179.mpr ((s260_180 kM).mpr ?_))
                                        rw [mr_14 hR]
                                        refine s260_183.mpr ?_
                                        refine (s260_185 (hA.k (by decide) (by decide) rfl) (by first | assumption | omega) (by first | assumption | omega)).mpr ?_
                                        try simp (disch := first | decide | assumption | omega) only [kon, knt_some, knt_none, Option.toList_some, Option.toList_none, List.cons_append, List.nil_append, upI_eq, upI_a, upI_i, upR_eq, upR_a, upR_i, h36, ht, E1, E2, E3, E4, E5, E6, E7, fAdd_id, fSub_id, fMul_id, e62, e63]
                                        refine (s260_186 (by omega) kM).mpr ?_
                                        refine m_popFor hA hR (by omega) (by (try simp (disch := decide) only [upI_eq, upI_a, upI_i, upR_eq, upR_a, upR_i]); first | assumption | rfl) (by omega) (by (try simp (disch := decide) only [upI_eq, upI_a, upI_i, upR_eq, upR_a, upR_i]); first | assumption | rfl) (by omega) (fun y186 => ?_) (fun hi186 t186 w186 z186 u186 v186 x186 => ?_)
                                        · skip
                                          try simp (disch := decide) only [upI_eq, upI_a, upI_i, upR_eq, upR_a, upR_i, E1, E4] at y186
                                          try simp (disch := decide) only [upI_eq, upI_a, upI_i, upR_eq, upR_a, upR_i, E1, E4] at x186
                                          refine s260_189.mpr (s260_190.mpr ?_)
                                          refine (s260_191 kM).mpr ?_
                                          refine s260_194.mpr (s260_195.mpr (s260_196.mpr ?_))
                                          try simp (disch := first | decide | assumption | omega) only [kon, knt_some, knt_none, Option.toList_some, Option.toList_none, List.cons_append, List.nil_append, upI_eq, upI_a, upI_i, upR_eq, upR_a, upR_i, h36, ht, E1, E2, E3, E4, E5, E6, E7, fAdd_id, fSub_id, fMul_id, e62, e63]
                                          refine s260_197.mpr (wif (fun c197 => ?_) (fun c197 => ?_))
                                          · first
                                            | (exfalso; omega)
                                            | skip
                                              refine s260_200.mpr (s260_201.mpr ?_)
                                              refine (s260_205 (by omega) kM).mpr ?_
                                              refine m_wants hA (by omega) (by (try simp (disch := decide) only [upI_eq, upI_a, upI_i, upR_eq, upR_a, upR_i]); first | assumption | rfl) (by omega) (fun y205 => ?_) (fun y205 => ?_)
                                              · skip
                                                refine s260_208.mpr ?_
                                                refine (s260_209 kM).mpr ?_
                                                try simp (disch := first | decide | assumption | omega) only [kon, knt_some, knt_none, Option.toList_some, Option.toList_none, List.cons_append, List.nil_append, upI_eq, upI_a, upI_i, upR_eq, upR_a, upR_i, h36, ht, E1, E2, E3, E4, E5, E6, E7, fAdd_id, fSub_id, fMul_id, e62, e63]
                                                refine s260_212.mpr (wif (fun c212 => ?_) (fun c212 => ?_))
                                                · first
                                                  | (exfalso; omega)
                                                  | skip
                                                    refine (s260_215).mpr ?_
                                                    first | (exfalso; omega) | (exact ok _ _ _ ((tsL_37b c1 hb).trans (onw_p ⟨by dsimp only; omega, ⟨hk, hT.1, hT.2⟩, c175, y186.2.2⟩)) (flw1 (by rw [c1]; decide)) (by repeat' (first | assumption | exact FW.rf | refine FW.up ?_ (by unfold wS; omega) | (refine FW.tr ?_ (by assumption)))) (by (try simp (disch := decide) only [upI_eq, upI_a, upI_i, upR_eq, upR_a, upR_i]); try assumption) (by (try simp (disch := decide) only [upI_eq, upI_a, upI_i, upR_eq, upR_a, upR_i]); try assumption) (by simp (disch := decide) only [scX, upI_eq, upI_a, upI_i, upR_eq, upR_a, upR_i, upI_ro, upI_rw, ht, E1, E2, E3, E4, E5, E6, E7]; rfl)) | (exact nob _ (fun h => h.2.2.1 c175) (by repeat' (first | assumption | exact FW.rf | refine FW.up ?_ (by unfold wS; omega) | (refine FW.tr ?_ (by assumption)))) (by (try simp (disch := decide) only [upI_eq, upI_a, upI_i, upR_eq, upR_a, upR_i]); try assumption)) | (exact nob _ (fun h => by rcases x186 with h9 | h9; omega; exact h9 ⟨by omega, h.2.2.2⟩) (by repeat' (first | assumption | exact FW.rf | refine FW.up ?_ (by unfold wS; omega) | (refine FW.tr ?_ (by assumption)))) (by (try simp (disch := decide) only [upI_eq, upI_a, upI_i, upR_eq, upR_a, upR_i]); try assumption))
                                                · first
                                                  | (exfalso; omega)
                                                  | skip
                                                    refine s260_216.mpr ((s260_217 kM).mpr ?_)
                                                    rw [mr_33 hR]
                                                    refine s260_220.mpr (s260_221.mpr (s260_223.mpr ((s260_224 kM).mpr ?_)))
                                                    rw [mr_15 hR]
                                                    refine s260_227.mpr ?_
                                                    refine (s260_229 (hA.k (by decide) (by decide) rfl) (by first | assumption | omega) (by first | assumption | omega)).mpr ?_
                                                    try simp (disch := first | decide | assumption | omega) only [kon, knt_some, knt_none, Option.toList_some, Option.toList_none, List.cons_append, List.nil_append, upI_eq, upI_a, upI_i, upR_eq, upR_a, upR_i, h36, ht, E1, E2, E3, E4, E5, E6, E7, fAdd_id, fSub_id, fMul_id, e62, e63]
                                                    refine (s260_230 (by omega)).mpr ?_
                                                    refine m_inState ⟨v1, v2⟩ eth ?_
                                                    refine (s260_233 (hA.k (by decide) (by decide) rfl) (by first | assumption | omega) (by first | assumption | omega)).mpr ?_
                                                    try simp (disch := first | decide | assumption | omega) only [kon, knt_some, knt_none, Option.toList_some, Option.toList_none, List.cons_append, List.nil_append, upI_eq, upI_a, upI_i, upR_eq, upR_a, upR_i, h36, ht, E1, E2, E3, E4, E5, E6, E7, fAdd_id, fSub_id, fMul_id, e62, e63]
                                                    refine (s260_234).mpr ?_
                                                    first | (exfalso; omega) | (exact ok _ _ _ ((tsL_37b c1 hb).trans (onw_p ⟨by dsimp only; omega, ⟨hk, hT.1, hT.2⟩, c175, y186.2.2⟩)) (flw1 (by rw [c1]; decide)) (by repeat' (first | assumption | exact FW.rf | refine FW.up ?_ (by unfold wS; omega) | (refine FW.tr ?_ (by assumption)))) (by (try simp (disch := decide) only [upI_eq, upI_a, upI_i, upR_eq, upR_a, upR_i]); try assumption) (by (try simp (disch := decide) only [upI_eq, upI_a, upI_i, upR_eq, upR_a, upR_i]); try assumption) (by simp (disch := decide) only [scX, upI_eq, upI_a, upI_i, upR_eq, upR_a, upR_i, upI_ro, upI_rw, ht, E1, E2, E3, E4, E5, E6, E7]; rfl)) | (exact nob _ (fun h => h.2.2.1 c175) (by repeat' (first | assumption | exact FW.rf | refine FW.up ?_ (by unfold wS; omega) | (refine FW.tr ?_ (by assumption)))) (by (try simp (disch := decide) only [upI_eq, upI_a, upI_i, upR_eq, upR_a, upR_i]); try assumption)) | (exact nob _ (fun h => by rcases x186 with h9 | h9; omega; exact h9 ⟨by omega, h.2.2.2⟩) (by repeat' (first | assumption | exact FW.rf | refine FW.up ?_ (by unfold wS; omega) | (refine FW.tr ?_ (by assumption)))) (by (try simp (disch := decide) only [upI_eq, upI_a, upI_i, upR_eq, upR_a, upR_i]); try assumption))
                                              · skip
                                                refine s260_208.mpr ?_
                                                refine (s260_209 kM).mpr ?_
                                                try simp (disch := first | decide | assumption | omega) only [kon, knt_some, knt_none, Option.toList_some, Option.toList_none, List.cons_append, List.nil_append, upI_eq, upI_a, upI_i, upR_eq, upR_a, upR_i, h36, ht, E1, E2, E3, E4, E5, E6, E7, fAdd_id, fSub_id, fMul_id, e62, e63]
                                                refine s260_212.mpr (wif (fun c212 => ?_) (fun c212 => ?_))
                                                · first
                                                  | (exfalso; omega)
                                                  | skip
                                                    refine (s260_215).mpr ?_
                                                    first | (exfalso; omega) | (exact ok _ _ _ ((tsL_37b c1 hb).trans (onw_p ⟨by dsimp only; omega, ⟨hk, hT.1, hT.2⟩, c175, y186.2.2⟩)) (flw1 (by rw [c1]; decide)) (by repeat' (first | assumption | exact FW.rf | refine FW.up ?_ (by unfold wS; omega) | (refine FW.tr ?_ (by assumption)))) (by (try simp (disch := decide) only [upI_eq, upI_a, upI_i, upR_eq, upR_a, upR_i]); try assumption) (by (try simp (disch := decide) only [upI_eq, upI_a, upI_i, upR_eq, upR_a, upR_i]); try assumption) (by simp (disch := decide) only [scX, upI_eq, upI_a, upI_i, upR_eq, upR_a, upR_i, upI_ro, upI_rw, ht, E1, E2, E3, E4, E5, E6, E7]; rfl)) | (exact nob _ (fun h => h.2.2.1 c175) (by repeat' (first | assumption | exact FW.rf | refine FW.up ?_ (by unfold wS; omega) | (refine FW.tr ?_ (by assumption)))) (by (try simp (disch := decide) only [upI_eq, upI_a, upI_i, upR_eq, upR_a, upR_i]); try assumption)) | (exact nob _ (fun h => by rcases x186 with h9 | h9; omega; exact h9 ⟨by omega, h.2.2.2⟩) (by repeat' (first | assumption | exact FW.rf | refine FW.up ?_ (by unfold wS; omega) | (refine FW.tr ?_ (by assumption)))) (by (try simp (disch := decide) only [upI_eq, upI_a, upI_i, upR_eq, upR_a, upR_i]); try assumption))
                                                · first
                                                  | (exfalso; omega)
                                                  | skip
                                                    refine s260_216.mpr ((s260_217 kM).mpr ?_)
                                                    rw [mr_33 hR]
                                                    refine s260_220.mpr (s260_221.mpr (s260_223.mpr ((s260_224 kM).mpr ?_)))
                                                    rw [mr_15 hR]
                                                    refine s260_227.mpr ?_
                                                    refine (s260_229 (hA.k (by decide) (by decide) rfl) (by first | assumption | omega) (by first | assumption | omega)).mpr ?_
                                                    try simp (disch := first | decide | assumption | omega) only [kon, knt_some, knt_none, Option.toList_some, Option.toList_none, List.cons_append, List.nil_append, upI_eq, upI_a, upI_i, upR_eq, upR_a, upR_i, h36, ht, E1, E2, E3, E4, E5, E6, E7, fAdd_id, fSub_id, fMul_id, e62, e63]
                                                    refine (s260_230 (by omega)).mpr ?_
                                                    refine m_inState ⟨v1, v2⟩ eth ?_
                                                    refine (s260_233 (hA.k (by decide) (by decide) rfl) (by first | assumption | omega) (by first | assumption | omega)).mpr ?_
                                                    try simp (disch := first | decide | assumption | omega) only [kon, knt_some, knt_none, Option.toList_some, Option.toList_none, List.cons_append, List.nil_append, upI_eq, upI_a, upI_i, upR_eq, upR_a, upR_i, h36, ht, E1, E2, E3, E4, E5, E6, E7, fAdd_id, fSub_id, fMul_id, e62, e63]
                                                    refine (s260_234).mpr ?_
                                                    first | (exfalso; omega) | (exact ok _ _ _ ((tsL_37b c1 hb).trans (onw_p ⟨by dsimp only; omega, ⟨hk, hT.1, hT.2⟩, c175, y186.2.2⟩)) (flw1 (by rw [c1]; decide)) (by repeat' (first | assumption | exact FW.rf | refine FW.up ?_ (by unfold wS; omega) | (refine FW.tr ?_ (by assumption)))) (by (try simp (disch := decide) only [upI_eq, upI_a, upI_i, upR_eq, upR_a, upR_i]); try assumption) (by (try simp (disch := decide) only [upI_eq, upI_a, upI_i, upR_eq, upR_a, upR_i]); try assumption) (by simp (disch := decide) only [scX, upI_eq, upI_a, upI_i, upR_eq, upR_a, upR_i, upI_ro, upI_rw, ht, E1, E2, E3, E4, E5, E6, E7]; rfl)) | (exact nob _ (fun h => h.2.2.1 c175) (by repeat' (first | assumption | exact FW.rf | refine FW.up ?_ (by unfold wS; omega) | (refine FW.tr ?_ (by assumption)))) (by (try simp (disch := decide) only [upI_eq, upI_a, upI_i, upR_eq, upR_a, upR_i]); try assumption)) | (exact nob _ (fun h => by rcases x186 with h9 | h9; omega; exact h9 ⟨by omega, h.2.2.2⟩) (by repeat' (first | assumption | exact FW.rf | refine FW.up ?_ (by unfold wS; omega) | (refine FW.tr ?_ (by assumption)))) (by (try simp (disch := decide) only [upI_eq, upI_a, upI_i, upR_eq, upR_a, upR_i]); try assumption))
                                          · first
                                            | (exfalso; omega)
                                            | skip
                                              refine s260_204.mpr ?_
                                              refine (s260_205 (by omega) kM).mpr ?_
                                              refine m_wants hA (by omega) (by (try simp (disch := decide) only [upI_eq, upI_a, upI_i, upR_eq, upR_a, upR_i]); first | assumption | rfl) (by omega) (fun y205 => ?_) (fun y205 => ?_)
                                              · skip
                                                refine s260_208.mpr ?_
                                                refine (s260_209 kM).mpr ?_
                                                try simp (disch := first | decide | assumption | omega) only [kon, knt_some, knt_none, Option.toList_some, Option.toList_none, List.cons_append, List.nil_append, upI_eq, upI_a, upI_i, upR_eq, upR_a, upR_i, h36, ht, E1, E2, E3, E4, E5, E6, E7, fAdd_id, fSub_id, fMul_id, e62, e63]
                                                refine s260_212.mpr (wif (fun c212 => ?_) (fun c212 => ?_))
                                                · first
                                                  | (exfalso; omega)
                                                  | skip
                                                    refine (s260_215).mpr ?_
                                                    first | (exfalso; omega) | (exact ok _ _ _ ((tsL_37b c1 hb).trans (onw_p ⟨by dsimp only; omega, ⟨hk, hT.1, hT.2⟩, c175, y186.2.2⟩)) (flw1 (by rw [c1]; decide)) (by repeat' (first | assumption | exact FW.rf | refine FW.up ?_ (by unfold wS; omega) | (refine FW.tr ?_ (by assumption)))) (by (try simp (disch := decide) only [upI_eq, upI_a, upI_i, upR_eq, upR_a, upR_i]); try assumption) (by (try simp (disch := decide) only [upI_eq, upI_a, upI_i, upR_eq, upR_a, upR_i]); try assumption) (by simp (disch := decide) only [scX, upI_eq, upI_a, upI_i, upR_eq, upR_a, upR_i, upI_ro, upI_rw, ht, E1, E2, E3, E4, E5, E6, E7]; rfl)) | (exact nob _ (fun h => h.2.2.1 c175) (by repeat' (first | assumption | exact FW.rf | refine FW.up ?_ (by unfold wS; omega) | (refine FW.tr ?_ (by assumption)))) (by (try simp (disch := decide) only [upI_eq, upI_a, upI_i, upR_eq, upR_a, upR_i]); try assumption)) | (exact nob _ (fun h => by rcases x186 with h9 | h9; omega; exact h9 ⟨by omega, h.2.2.2⟩) (by repeat' (first | assumption | exact FW.rf | refine FW.up ?_ (by unfold wS; omega) | (refine FW.tr ?_ (by assumption)))) (by (try simp (disch := decide) only [upI_eq, upI_a, upI_i, upR_eq, upR_a, upR_i]); try assumption))
                                                · first
                                                  | (exfalso; omega)
                                                  | skip
                                                    refine s260_216.mpr ((s260_217 kM).mpr ?_)
                                                    rw [mr_33 hR]
                                                    refine s260_220.mpr (s260_221.mpr (s260_223.mpr ((s260_224 kM).mpr ?_)))
                                                    rw [mr_15 hR]
                                                    refine s260_227.mpr ?_
                                                    refine (s260_229 (hA.k (by decide) (by decide) rfl) (by first | assumption | omega) (by first | assumption | omega)).mpr ?_
                                                    try simp (disch := first | decide | assumption | omega) only [kon, knt_some, knt_none, Option.toList_some, Option.toList_none, List.cons_append, List.nil_append, upI_eq, upI_a, upI_i, upR_eq, upR_a, upR_i, h36, ht, E1, E2, E3, E4, E5, E6, E7, fAdd_id, fSub_id, fMul_id, e62, e63]
                                                    refine (s260_230 (by omega)).mpr ?_
                                                    refine m_inState ⟨v1, v2⟩ eth ?_
                                                    refine (s260_233 (hA.k (by decide) (by decide) rfl) (by first | assumption | omega) (by first | assumption | omega)).mpr ?_
                                                    try simp (disch := first | decide | assumption | omega) only [kon, knt_some, knt_none, Option.toList_some, Option.toList_none, List.cons_append, List.nil_append, upI_eq, upI_a, upI_i, upR_eq, upR_a, upR_i, h36, ht, E1, E2, E3, E4, E5, E6, E7, fAdd_id, fSub_id, fMul_id, e62, e63]
                                                    refine (s260_234).mpr ?_
                                                    first | (exfalso; omega) | (exact ok _ _ _ ((tsL_37b c1 hb).trans (onw_p ⟨by dsimp only; omega, ⟨hk, hT.1, hT.2⟩, c175, y186.2.2⟩)) (flw1 (by rw [c1]; decide)) (by repeat' (first | assumption | exact FW.rf | refine FW.up ?_ (by unfold wS; omega) | (refine FW.tr ?_ (by assumption)))) (by (try simp (disch := decide) only [upI_eq, upI_a, upI_i, upR_eq, upR_a, upR_i]); try assumption) (by (try simp (disch := decide) only [upI_eq, upI_a, upI_i, upR_eq, upR_a, upR_i]); try assumption) (by simp (disch := decide) only [scX, upI_eq, upI_a, upI_i, upR_eq, upR_a, upR_i, upI_ro, upI_rw, ht, E1, E2, E3, E4, E5, E6, E7]; rfl)) | (exact nob _ (fun h => h.2.2.1 c175) (by repeat' (first | assumption | exact FW.rf | refine FW.up ?_ (by unfold wS; omega) | (refine FW.tr ?_ (by assumption)))) (by (try simp (disch := decide) only [upI_eq, upI_a, upI_i, upR_eq, upR_a, upR_i]); try assumption)) | (exact nob _ (fun h => by rcases x186 with h9 | h9; omega; exact h9 ⟨by omega, h.2.2.2⟩) (by repeat' (first | assumption | exact FW.rf | refine FW.up ?_ (by unfold wS; omega) | (refine FW.tr ?_ (by assumption)))) (by (try simp (disch := decide) only [upI_eq, upI_a, upI_i, upR_eq, upR_a, upR_i]); try assumption))
                                              · skip
                                                refine s260_208.mpr ?_
                                                refine (s260_209 kM).mpr ?_
                                                try simp (disch := first | decide | assumption | omega) only [kon, knt_some, knt_none, Option.toList_some, Option.toList_none, List.cons_append, List.nil_append, upI_eq, upI_a, upI_i, upR_eq, upR_a, upR_i, h36, ht, E1, E2, E3, E4, E5, E6, E7, fAdd_id, fSub_id, fMul_id, e62, e63]
                                                refine s260_212.mpr (wif (fun c212 => ?_) (fun c212 => ?_))
                                                · first
                                                  | (exfalso; omega)
                                                  | skip
                                                    refine (s260_215).mpr ?_
                                                    first | (exfalso; omega) | (exact ok _ _ _ ((tsL_37b c1 hb).trans (onw_p ⟨by dsimp only; omega, ⟨hk, hT.1, hT.2⟩, c175, y186.2.2⟩)) (flw1 (by rw [c1]; decide)) (by repeat' (first | assumption | exact FW.rf | refine FW.up ?_ (by unfold wS; omega) | (refine FW.tr ?_ (by assumption)))) (by (try simp (disch := decide) only [upI_eq, upI_a, upI_i, upR_eq, upR_a, upR_i]); try assumption) (by (try simp (disch := decide) only [upI_eq, upI_a, upI_i, upR_eq, upR_a, upR_i]); try assumption) (by simp (disch := decide) only [scX, upI_eq, upI_a, upI_i, upR_eq, upR_a, upR_i, upI_ro, upI_rw, ht, E1, E2, E3, E4, E5, E6, E7]; rfl)) | (exact nob _ (fun h => h.2.2.1 c175) (by repeat' (first | assumption | exact FW.rf | refine FW.up ?_ (by unfold wS; omega) | (refine FW.tr ?_ (by assumption)))) (by (try simp (disch := decide) only [upI_eq, upI_a, upI_i, upR_eq, upR_a, upR_i]); try assumption)) | (exact nob _ (fun h => by rcases x186 with h9 | h9; omega; exact h9 ⟨by omega, h.2.2.2⟩) (by repeat' (first | assumption | exact FW.rf | refine FW.up ?_ (by unfold wS; omega) | (refine FW.tr ?_ (by assumption)))) (by (try simp (disch := decide) only [upI_eq, upI_a, upI_i, upR_eq, upR_a, upR_i]); try assumption))
                                                · first
                                                  | (exfalso; omega)
                                                  | skip
                                                    refine s260_216.mpr ((s260_217 kM).mpr ?_)
                                                    rw [mr_33 hR]
                                                    refine s260_220.mpr (s260_221.mpr (s260_223.mpr ((s260_224 kM).mpr ?_)))
                                                    rw [mr_15 hR]
                                                    refine s260_227.mpr ?_
                                                    refine (s260_229 (hA.k (by decide) (by decide) rfl) (by first | assumption | omega) (by first | assumption | omega)).mpr ?_
                                                    try simp (disch := first | decide | assumption | omega) only [kon, knt_some, knt_none, Option.toList_some, Option.toList_none, List.cons_append, List.nil_append, upI_eq, upI_a, upI_i, upR_eq, upR_a, upR_i, h36, ht, E1, E2, E3, E4, E5, E6, E7, fAdd_id, fSub_id, fMul_id, e62, e63]
                                                    refine (s260_230 (by omega)).mpr ?_
                                                    refine m_inState ⟨v1, v2⟩ eth ?_
                                                    refine (s260_233 (hA.k (by decide) (by decide) rfl) (by first | assumption | omega) (by first | assumption | omega)).mpr ?_
                                                    try simp (disch := first | decide | assumption | omega) only [kon, knt_some, knt_none, Option.toList_some, Option.toList_none, List.cons_append, List.nil_append, upI_eq, upI_a, upI_i, upR_eq, upR_a, upR_i, h36, ht, E1, E2, E3, E4, E5, E6, E7, fAdd_id, fSub_id, fMul_id, e62, e63]
                                                    refine (s260_234).mpr ?_
                                                    first | (exfalso; omega) | (exact ok _ _ _ ((tsL_37b c1 hb).trans (onw_p ⟨by dsimp only; omega, ⟨hk, hT.1, hT.2⟩, c175, y186.2.2⟩)) (flw1 (by rw [c1]; decide)) (by repeat' (first | assumption | exact FW.rf | refine FW.up ?_ (by unfold wS; omega) | (refine FW.tr ?_ (by assumption)))) (by (try simp (disch := decide) only [upI_eq, upI_a, upI_i, upR_eq, upR_a, upR_i]); try assumption) (by (try simp (disch := decide) only [upI_eq, upI_a, upI_i, upR_eq, upR_a, upR_i]); try assumption) (by simp (disch := decide) only [scX, upI_eq, upI_a, upI_i, upR_eq, upR_a, upR_i, upI_ro, upI_rw, ht, E1, E2, E3, E4, E5, E6, E7]; rfl)) | (exact nob _ (fun h => h.2.2.1 c175) (by repeat' (first | assumption | exact FW.rf | refine FW.up ?_ (by unfold wS; omega) | (refine FW.tr ?_ (by assumption)))) (by (try simp (disch := decide) only [upI_eq, upI_a, upI_i, upR_eq, upR_a, upR_i]); try assumption)) | (exact nob _ (fun h => by rcases x186 with h9 | h9; omega; exact h9 ⟨by omega, h.2.2.2⟩) (by repeat' (first | assumption | exact FW.rf | refine FW.up ?_ (by unfold wS; omega) | (refine FW.tr ?_ (by assumption)))) (by (try simp (disch := decide) only [upI_eq, upI_a, upI_i, upR_eq, upR_a, upR_i]); try assumption))
                                        · skip
                                          try simp (disch := decide) only [upI_eq, upI_a, upI_i, upR_eq, upR_a, upR_i, E1, E4] at y186
                                          try simp (disch := decide) only [upI_eq, upI_a, upI_i, upR_eq, upR_a, upR_i, E1, E4] at x186
                                          refine s260_189.mpr (s260_190.mpr ?_)
                                          refine (s260_191 kM).mpr ?_
                                          refine s260_194.mpr (s260_195.mpr (s260_196.mpr ?_))
                                          try simp (disch := first | decide | assumption | omega) only [kon, knt_some, knt_none, Option.toList_some, Option.toList_none, List.cons_append, List.nil_append, upI_eq, upI_a, upI_i, upR_eq, upR_a, upR_i, h36, ht, E1, E2, E3, E4, E5, E6, E7, fAdd_id, fSub_id, fMul_id, e62, e63]
                                          refine s260_197.mpr (wif (fun c197 => ?_) (fun c197 => ?_))
                                          · first
                                            | (exfalso; omega)
                                            | skip
                                              refine s260_200.mpr (s260_201.mpr ?_)
                                              refine (s260_205 (by omega) kM).mpr ?_
                                              refine m_wants hA (by omega) (by (try simp (disch := decide) only [upI_eq, upI_a, upI_i, upR_eq, upR_a, upR_i]); first | assumption | rfl) (by omega) (fun y205 => ?_) (fun y205 => ?_)
                                              · skip
                                                refine s260_208.mpr ?_
                                                refine (s260_209 kM).mpr ?_
                                                try simp (disch := first | decide | assumption | omega) only [kon, knt_some, knt_none, Option.toList_some, Option.toList_none, List.cons_append, List.nil_append, upI_eq, upI_a, upI_i, upR_eq, upR_a, upR_i, h36, ht, E1, E2, E3, E4, E5, E6, E7, fAdd_id, fSub_id, fMul_id, e62, e63]
                                                refine s260_212.mpr (wif (fun c212 => ?_) (fun c212 => ?_))
                                                · first
                                                  | (exfalso; omega)
                                                  | skip
                                                    refine (s260_215).mpr ?_
                                                    first | (exfalso; omega) | (exact ok _ _ _ ((tsL_37b c1 hb).trans (onw_p ⟨by dsimp only; omega, ⟨hk, hT.1, hT.2⟩, c175, y186.2.2⟩)) (flw1 (by rw [c1]; decide)) (by repeat' (first | assumption | exact FW.rf | refine FW.up ?_ (by unfold wS; omega) | (refine FW.tr ?_ (by assumption)))) (by (try simp (disch := decide) only [upI_eq, upI_a, upI_i, upR_eq, upR_a, upR_i]); try assumption) (by (try simp (disch := decide) only [upI_eq, upI_a, upI_i, upR_eq, upR_a, upR_i]); try assumption) (by simp (disch := decide) only [scX, upI_eq, upI_a, upI_i, upR_eq, upR_a, upR_i, upI_ro, upI_rw, ht, E1, E2, E3, E4, E5, E6, E7]; rfl)) | (exact nob _ (fun h => h.2.2.1 c175) (by repeat' (first | assumption | exact FW.rf | refine FW.up ?_ (by unfold wS; omega) | (refine FW.tr ?_ (by assumption)))) (by (try simp (disch := decide) only [upI_eq, upI_a, upI_i, upR_eq, upR_a, upR_i]); try assumption)) | (exact nob _ (fun h => by rcases x186 with h9 | h9; omega; exact h9 ⟨by omega, h.2.2.2⟩) (by repeat' (first | assumption | exact FW.rf | refine FW.up ?_ (by unfold wS; omega) | (refine FW.tr ?_ (by assumption)))) (by (try simp (disch := decide) only [upI_eq, upI_a, upI_i, upR_eq, upR_a, upR_i]); try assumption))
                                                · first
                                                  | (exfalso; omega)
                                                  | skip
                                                    refine s260_216.mpr ((s260_217 kM).mpr ?_)
                                                    rw [mr_33 hR]
                                                    refine s260_220.mpr (s260_221.mpr (s260_223.mpr ((s260_224 kM).mpr ?_)))
                                                    rw [mr_15 hR]
                                                    refine s260_227.mpr ?_
                                                    refine (s260_229 (hA.k (by decide) (by decide) rfl) (by first | assumption | omega) (by first | assumption | omega)).mpr ?_
                                                    try simp (disch := first | decide | assumption | omega) only [kon, knt_some, knt_none, Option.toList_some, Option.toList_none, List.cons_append, List.nil_append, upI_eq, upI_a, upI_i, upR_eq, upR_a, upR_i, h36, ht, E1, E2, E3, E4, E5, E6, E7, fAdd_id, fSub_id, fMul_id, e62, e63]
                                                    refine (s260_230 (by omega)).mpr ?_
                                                    refine m_inState ⟨v1, v2⟩ eth ?_
                                                    refine (s260_233 (hA.k (by decide) (by decide) rfl) (by first | assumption | omega) (by first | assumption | omega)).mpr ?_
                                                    try simp (disch := first | decide | assumption | omega) only [kon, knt_some, knt_none, Option.toList_some, Option.toList_none, List.cons_append, List.nil_append, upI_eq, upI_a, upI_i, upR_eq, upR_a, upR_i, h36, ht, E1, E2, E3, E4, E5, E6, E7, fAdd_id, fSub_id, fMul_id, e62, e63]
                                                    refine (s260_234).mpr ?_
                                                    first | (exfalso; omega) | (exact ok _ _ _ ((tsL_37b c1 hb).trans (onw_p ⟨by dsimp only; omega, ⟨hk, hT.1, hT.2⟩, c175, y186.2.2⟩)) (flw1 (by rw [c1]; decide)) (by repeat' (first | assumption | exact FW.rf | refine FW.up ?_ (by unfold wS; omega) | (refine FW.tr ?_ (by assumption)))) (by (try simp (disch := decide) only [upI_eq, upI_a, upI_i, upR_eq, upR_a, upR_i]); try assumption) (by (try simp (disch := decide) only [upI_eq, upI_a, upI_i, upR_eq, upR_a, upR_i]); try assumption) (by simp (disch := decide) only [scX, upI_eq, upI_a, upI_i, upR_eq, upR_a, upR_i, upI_ro, upI_rw, ht, E1, E2, E3, E4, E5, E6, E7]; rfl)) | (exact nob _ (fun h => h.2.2.1 c175) (by repeat' (first | assumption | exact FW.rf | refine FW.up ?_ (by unfold wS; omega) | (refine FW.tr ?_ (by assumption)))) (by (try simp (disch := decide) only [upI_eq, upI_a, upI_i, upR_eq, upR_a, upR_i]); try assumption)) | (exact nob _ (fun h => by rcases x186 with h9 | h9; omega; exact h9 ⟨by omega, h.2.2.2⟩) (by repeat' (first | assumption | exact FW.rf | refine FW.up ?_ (by unfold wS; omega) | (refine FW.tr ?_ (by assumption)))) (by (try simp (disch := decide) only [upI_eq, upI_a, upI_i, upR_eq, upR_a, upR_i]); try assumption))
                                              · skip
                                                refine s260_208.mpr ?_
                                                refine (s260_209 kM).mpr ?_
                                                try simp (disch := first | decide | assumption | omega) only [kon, knt_some, knt_none, Option.toList_some, Option.toList_none, List.cons_append, List.nil_append, upI_eq, upI_a, upI_i, upR_eq, upR_a, upR_i, h36, ht, E1, E2, E3, E4, E5, E6, E7, fAdd_id, fSub_id, fMul_id, e62, e63]
                                                refine s260_212.mpr (wif (fun c212 => ?_) (fun c212 => ?_))
                                                · first
                                                  | (exfalso; omega)
                                                  | skip
                                                    refine (s260_215).mpr ?_
                                                    first | (exfalso; omega) | (exact ok _ _ _ ((tsL_37b c1 hb).trans (onw_p ⟨by dsimp only; omega, ⟨hk, hT.1, hT.2⟩, c175, y186.2.2⟩)) (flw1 (by rw [c1]; decide)) (by repeat' (first | assumption | exact FW.rf | refine FW.up ?_ (by unfold wS; omega) | (refine FW.tr ?_ (by assumption)))) (by (try simp (disch := decide) only [upI_eq, upI_a, upI_i, upR_eq, upR_a, upR_i]); try assumption) (by (try simp (disch := decide) only [upI_eq, upI_a, upI_i, upR_eq, upR_a, upR_i]); try assumption) (by simp (disch := decide) only [scX, upI_eq, upI_a, upI_i, upR_eq, upR_a, upR_i, upI_ro, upI_rw, ht, E1, E2, E3, E4, E5, E6, E7]; rfl)) | (exact nob _ (fun h => h.2.2.1 c175) (by repeat' (first | assumption | exact FW.rf | refine FW.up ?_ (by unfold wS; omega) | (refine FW.tr ?_ (by assumption)))) (by (try simp (disch := decide) only [upI_eq, upI_a, upI_i, upR_eq, upR_a, upR_i]); try assumption)) | (exact nob _ (fun h => by rcases x186 with h9 | h9; omega; exact h9 ⟨by omega, h.2.2.2⟩) (by repeat' (first | assumption | exact FW.rf | refine FW.up ?_ (by unfold wS; omega) | (refine FW.tr ?_ (by assumption)))) (by (try simp (disch := decide) only [upI_eq, upI_a, upI_i, upR_eq, upR_a, upR_i]); try assumption))
                                                · first
                                                  | (exfalso; omega)
                                                  | skip
                                                    refine s260_216.mpr ((s260_217 kM).mpr ?_)
                                                    rw [mr_33 hR]
                                                    refine s260_220.mpr (s260_221.mpr (s260_223.mpr ((s260_224 kM).mpr ?_)))
                                                    rw [mr_15 hR]
                                                    refine s260_227.mpr ?_
                                                    refine (s260_229 (hA.k (by decide) (by decide) rfl) (by first | assumption | omega) (by first | assumption | omega)).mpr ?_
                                                    try simp (disch := first | decide | assumption | omega) only [kon, knt_some, knt_none, Option.toList_some, Option.toList_none, List.cons_append, List.nil_append, upI_eq, upI_a, upI_i, upR_eq, upR_a, upR_i, h36, ht, E1, E2, E3, E4, E5, E6, E7, fAdd_id, fSub_id, fMul_id, e62, e63]
                                                    refine (s260_230 (by omega)).mpr ?_
                                                    refine m_inState ⟨v1, v2⟩ eth ?_
                                                    refine (s260_233 (hA.k (by decide) (by decide) rfl) (by first | assumption | omega) (by first | assumption | omega)).mpr ?_
                                                    try simp (disch := first | decide | assumption | omega) only [kon, knt_some, knt_none, Option.toList_some, Option.toList_none, List.cons_append, List.nil_append, upI_eq, upI_a, upI_i, upR_eq, upR_a, upR_i, h36, ht, E1, E2, E3, E4, E5, E6, E7, fAdd_id, fSub_id, fMul_id, e62, e63]
                                                    refine (s260_234).mpr ?_
                                                    first | (exfalso; omega) | (exact ok _ _ _ ((tsL_37b c1 hb).trans (onw_p ⟨by dsimp only; omega, ⟨hk, hT.1, hT.2⟩, c175, y186.2.2⟩)) (flw1 (by rw [c1]; decide)) (by repeat' (first | assumption | exact FW.rf | refine FW.up ?_ (by unfold wS; omega) | (refine FW.tr ?_ (by assumption)))) (by (try simp (disch := decide) only [upI_eq, upI_a, upI_i, upR_eq, upR_a, upR_i]); try assumption) (by (try simp (disch := decide) only [upI_eq, upI_a, upI_i, upR_eq, upR_a, upR_i]); try assumption) (by simp (disch := decide) only [scX, upI_eq, upI_a, upI_i, upR_eq, upR_a, upR_i, upI_ro, upI_rw, ht, E1, E2, E3, E4, E5, E6, E7]; rfl)) | (exact nob _ (fun h => h.2.2.1 c175) (by repeat' (first | assumption | exact FW.rf | refine FW.up ?_ (by unfold wS; omega) | (refine FW.tr ?_ (by assumption)))) (by (try simp (disch := decide) only [upI_eq, upI_a, upI_i, upR_eq, upR_a, upR_i]); try assumption)) | (exact nob _ (fun h => by rcases x186 with h9 | h9; omega; exact h9 ⟨by omega, h.2.2.2⟩) (by repeat' (first | assumption | exact FW.rf | refine FW.up ?_ (by unfold wS; omega) | (refine FW.tr ?_ (by assumption)))) (by (try simp (disch := decide) only [upI_eq, upI_a, upI_i, upR_eq, upR_a, upR_i]); try assumption))
                                          · first
                                            | (exfalso; omega)
                                            | skip
                                              refine s260_204.mpr ?_
                                              refine (s260_205 (by omega) kM).mpr ?_
                                              refine m_wants hA (by omega) (by (try simp (disch := decide) only [upI_eq, upI_a, upI_i, upR_eq, upR_a, upR_i]); first | assumption | rfl) (by omega) (fun y205 => ?_) (fun y205 => ?_)
                                              · skip
                                                refine s260_208.mpr ?_
                                                refine (s260_209 kM).mpr ?_
                                                try simp (disch := first | decide | assumption | omega) only [kon, knt_some, knt_none, Option.toList_some, Option.toList_none, List.cons_append, List.nil_append, upI_eq, upI_a, upI_i, upR_eq, upR_a, upR_i, h36, ht, E1, E2, E3, E4, E5, E6, E7, fAdd_id, fSub_id, fMul_id, e62, e63]
                                                refine s260_212.mpr (wif (fun c212 => ?_) (fun c212 => ?_))
                                                · first
                                                  | (exfalso; omega)
                                                  | skip
                                                    refine (s260_215).mpr ?_
                                                    first | (exfalso; omega) | (exact ok _ _ _ ((tsL_37b c1 hb).trans (onw_p ⟨by dsimp only; omega, ⟨hk, hT.1, hT.2⟩, c175, y186.2.2⟩)) (flw1 (by rw [c1]; decide)) (by repeat' (first | assumption | exact FW.rf | refine FW.up ?_ (by unfold wS; omega) | (refine FW.tr ?_ (by assumption)))) (by (try simp (disch := decide) only [upI_eq, upI_a, upI_i, upR_eq, upR_a, upR_i]); try assumption) (by (try simp (disch := decide) only [upI_eq, upI_a, upI_i, upR_eq, upR_a, upR_i]); try assumption) (by simp (disch := decide) only [scX, upI_eq, upI_a, upI_i, upR_eq, upR_a, upR_i, upI_ro, upI_rw, ht, E1, E2, E3, E4, E5, E6, E7]; rfl)) | (exact nob _ (fun h => h.2.2.1 c175) (by repeat' (first | assumption | exact FW.rf | refine FW.up ?_ (by unfold wS; omega) | (refine FW.tr ?_ (by assumption)))) (by (try simp (disch := decide) only [upI_eq, upI_a, upI_i, upR_eq, upR_a, upR_i]); try assumption)) | (exact nob _ (fun h => by rcases x186 with h9 | h9; omega; exact h9 ⟨by omega, h.2.2.2⟩) (by repeat' (first | assumption | exact FW.rf | refine FW.up ?_ (by unfold wS; omega) | (refine FW.tr ?_ (by assumption)))) (by (try simp (disch := decide) only [upI_eq, upI_a, upI_i, upR_eq, upR_a, upR_i]); try assumption))
                                                · first
                                                  | (exfalso; omega)
                                                  | skip
                                                    refine s260_216.mpr ((s260_217 kM).mpr ?_)
                                                    rw [mr_33 hR]
                                                    refine s260_220.mpr (s260_221.mpr (s260_223.mpr ((s260_224 kM).mpr ?_)))
                                                    rw [mr_15 hR]
                                                    refine s260_227.mpr ?_
                                                    refine (s260_229 (hA.k (by decide) (by decide) rfl) (by first | assumption | omega) (by first | assumption | omega)).mpr ?_
                                                    try simp (disch := first | decide | assumption | omega) only [kon, knt_some, knt_none, Option.toList_some, Option.toList_none, List.cons_append, List.nil_append, upI_eq, upI_a, upI_i, upR_eq, upR_a, upR_i, h36, ht, E1, E2, E3, E4, E5, E6, E7, fAdd_id, fSub_id, fMul_id, e62, e63]
                                                    refine (s260_230 (by omega)).mpr ?_
                                                    refine m_inState ⟨v1, v2⟩ eth ?_
                                                    refine (s260_233 (hA.k (by decide) (by decide) rfl) (by first | assumption | omega) (by first | assumption | omega)).mpr ?_
                                                    try simp (disch := first | decide | assumption | omega) only [kon, knt_some, knt_none, Option.toList_some, Option.toList_none, List.cons_append, List.nil_append, upI_eq, upI_a, upI_i, upR_eq, upR_a, upR_i, h36, ht, E1, E2, E3, E4, E5, E6, E7, fAdd_id, fSub_id, fMul_id, e62, e63]
                                                    refine (s260_234).mpr ?_
                                                    first | (exfalso; omega) | (exact ok _ _ _ ((tsL_37b c1 hb).trans (onw_p ⟨by dsimp only; omega, ⟨hk, hT.1, hT.2⟩, c175, y186.2.2⟩)) (flw1 (by rw [c1]; decide)) (by repeat' (first | assumption | exact FW.rf | refine FW.up ?_ (by unfold wS; omega) | (refine FW.tr ?_ (by assumption)))) (by (try simp (disch := decide) only [upI_eq, upI_a, upI_i, upR_eq, upR_a, upR_i]); try assumption) (by (try simp (disch := decide) only [upI_eq, upI_a, upI_i, upR_eq, upR_a, upR_i]); try assumption) (by simp (disch := decide) only [scX, upI_eq, upI_a, upI_i, upR_eq, upR_a, upR_i, upI_ro, upI_rw, ht, E1, E2, E3, E4, E5, E6, E7]; rfl)) | (exact nob _ (fun h => h.2.2.1 c175) (by repeat' (first | assumption | exact FW.rf | refine FW.up ?_ (by unfold wS; omega) | (refine FW.tr ?_ (by assumption)))) (by (try simp (disch := decide) only [upI_eq, upI_a, upI_i, upR_eq, upR_a, upR_i]); try assumption)) | (exact nob _ (fun h => by rcases x186 with h9 | h9; omega; exact h9 ⟨by omega, h.2.2.2⟩) (by repeat' (first | assumption | exact FW.rf | refine FW.up ?_ (by unfold wS; omega) | (refine FW.tr ?_ (by assumption)))) (by (try simp (disch := decide) only [upI_eq, upI_a, upI_i, upR_eq, upR_a, upR_i]); try assumption))
                                              · skip
                                                refine s260_208.mpr ?_
                                                refine (s260_209 kM).mpr ?_
                                                try simp (disch := first | decide | assumption | omega) only [kon, knt_some, knt_none, Option.toList_some, Option.toList_none, List.cons_append, List.nil_append, upI_eq, upI_a, upI_i, upR_eq, upR_a, upR_i, h36, ht, E1, E2, E3, E4, E5, E6, E7, fAdd_id, fSub_id, fMul_id, e62, e63]
                                                refine s260_212.mpr (wif (fun c212 => ?_) (fun c212 => ?_))
                                                · first
                                                  | (exfalso; omega)
                                                  | skip
                                                    refine (s260_215).mpr ?_
                                                    first | (exfalso; omega) | (exact ok _ _ _ ((tsL_37b c1 hb).trans (onw_p ⟨by dsimp only; omega, ⟨hk, hT.1, hT.2⟩, c175, y186.2.2⟩)) (flw1 (by rw [c1]; decide)) (by repeat' (first | assumption | exact FW.rf | refine FW.up ?_ (by unfold wS; omega) | (refine FW.tr ?_ (by assumption)))) (by (try simp (disch := decide) only [upI_eq, upI_a, upI_i, upR_eq, upR_a, upR_i]); try assumption) (by (try simp (disch := decide) only [upI_eq, upI_a, upI_i, upR_eq, upR_a, upR_i]); try assumption) (by simp (disch := decide) only [scX, upI_eq, upI_a, upI_i, upR_eq, upR_a, upR_i, upI_ro, upI_rw, ht, E1, E2, E3, E4, E5, E6, E7]; rfl)) | (exact nob _ (fun h => h.2.2.1 c175) (by repeat' (first | assumption | exact FW.rf | refine FW.up ?_ (by unfold wS; omega) | (refine FW.tr ?_ (by assumption)))) (by (try simp (disch := decide) only [upI_eq, upI_a, upI_i, upR_eq, upR_a, upR_i]); try assumption)) | (exact nob _ (fun h => by rcases x186 with h9 | h9; omega; exact h9 ⟨by omega, h.2.2.2⟩) (by repeat' (first | assumption | exact FW.rf | refine FW.up ?_ (by unfold wS; omega) | (refine FW.tr ?_ (by assumption)))) (by (try simp (disch := decide) only [upI_eq, upI_a, upI_i, upR_eq, upR_a, upR_i]); try assumption))
                                                · first
                                                  | (exfalso; omega)
                                                  | skip
                                                    refine s260_216.mpr ((s260_217 kM).mpr ?_)
                                                    rw [mr_33 hR]
                                                    refine s260_220.mpr (s260_221.mpr (s260_223.mpr ((s260_224 kM).mpr ?_)))
                                                    rw [mr_15 hR]
                                                    refine s260_227.mpr ?_
                                                    refine (s260_229 (hA.k (by decide) (by decide) rfl) (by first | assumption | omega) (by first | assumption | omega)).mpr ?_
                                                    try simp (disch := first | decide | assumption | omega) only [kon, knt_some, knt_none, Option.toList_some, Option.toList_none, List.cons_append, List.nil_append, upI_eq, upI_a, upI_i, upR_eq, upR_a, upR_i, h36, ht, E1, E2, E3, E4, E5, E6, E7, fAdd_id, fSub_id, fMul_id, e62, e63]
                                                    refine (s260_230 (by omega)).mpr ?_
                                                    refine m_inState ⟨v1, v2⟩ eth ?_
                                                    refine (s260_233 (hA.k (by decide) (by decide) rfl) (by first | assumption | omega) (by first | assumption | omega)).mpr ?_
                                                    try simp (disch := first | decide | assumption | omega) only [kon, knt_some, knt_none, Option.toList_some, Option.toList_none, List.cons_append, List.nil_append, upI_eq, upI_a, upI_i, upR_eq, upR_a, upR_i, h36, ht, E1, E2, E3, E4, E5, E6, E7, fAdd_id, fSub_id, fMul_id, e62, e63]
                                                    refine (s260_234).mpr ?_
                                                    first | (exfalso; omega) | (exact ok _ _ _ ((tsL_37b c1 hb).trans (onw_p ⟨by dsimp only; omega, ⟨hk, hT.1, hT.2⟩, c175, y186.2.2⟩)) (flw1 (by rw [c1]; decide)) (by repeat' (first | assumption | exact FW.rf | refine FW.up ?_ (by unfold wS; omega) | (refine FW.tr ?_ (by assumption)))) (by (try simp (disch := decide) only [upI_eq, upI_a, upI_i, upR_eq, upR_a, upR_i]); try assumption) (by (try simp (disch := decide) only [upI_eq, upI_a, upI_i, upR_eq, upR_a, upR_i]); try assumption) (by simp (disch := decide) only [scX, upI_eq, upI_a, upI_i, upR_eq, upR_a, upR_i, upI_ro, upI_rw, ht, E1, E2, E3, E4, E5, E6, E7]; rfl)) | (exact nob _ (fun h => h.2.2.1 c175) (by repeat' (first | assumption | exact FW.rf | refine FW.up ?_ (by unfold wS; omega) | (refine FW.tr ?_ (by assumption)))) (by (try simp (disch := decide) only [upI_eq, upI_a, upI_i, upR_eq, upR_a, upR_i]); try assumption)) | (exact nob _ (fun h => by rcases x186 with h9 | h9; omega; exact h9 ⟨by omega, h.2.2.2⟩) (by repeat' (first | assumption | exact FW.rf | refine FW.up ?_ (by unfold wS; omega) | (refine FW.tr ?_ (by assumption)))) (by (try simp (disch := decide) only [upI_eq, upI_a, upI_i, upR_eq, upR_a, upR_i]); try assumption))
                              · skip
                                refine s260_147.mpr ?_
                                refine (s260_148 kM).mpr ?_
                                try simp (disch := first | decide | assumption | omega) only [kon, knt_some, knt_none, Option.toList_some, Option.toList_none, List.cons_append, List.nil_append, upI_eq, upI_a, upI_i, upR_eq, upR_a, upR_i, h36, ht, E1, E2, E3, E4, E5, E6, E7, fAdd_id, fSub_id, fMul_id, e62, e63]
                                refine s260_151.mpr (wif (fun c151 => ?_) (fun c151 => ?_))
                                · first
                                  | (exfalso; omega)
                                  | skip
                                    exfalso; omega
                                · first
                                  | (exfalso; omega)
                                  | skip
                                    refine s260_155.mpr (s260_156.mpr (s260_157.mpr ?_))
                                    refine (s260_159 (by omega)).mpr ?_
                                    refine m_stateOf (by omega) ⟨hm0, hm1⟩ hr9 ?_
                                    refine s260_162.mpr (s260_163.mpr (s260_164.mpr (s260_165.mpr (s260_167.mpr ((s260_168 kM).mpr ?_)))))
                                    rw [mr_14 hR]
                                    refine s260_171.mpr ?_
                                    try simp (disch := first | decide | assumption | omega) only [kon, knt_some, knt_none, Option.toList_some, Option.toList_none, List.cons_append, List.nil_append, upI_eq, upI_a, upI_i, upR_eq, upR_a, upR_i, h36, ht, E1, E2, E3, E4, E5, E6, E7, fAdd_id, fSub_id, fMul_id, e62, e63]
                                    refine (s260_173 (hA.k (by decide) (by decide) rfl) (by first | assumption | omega) (by first | assumption | omega)).mpr ?_
                                    refine s260_174.mpr ?_
                                    try simp (disch := first | decide | assumption | omega) only [kon, knt_some, knt_none, Option.toList_some, Option.toList_none, List.cons_append, List.nil_append, upI_eq, upI_a, upI_i, upR_eq, upR_a, upR_i, h36, ht, E1, E2, E3, E4, E5, E6, E7, fAdd_id, fSub_id, fMul_id, e62, e63]
                                    refine s260_175.mpr (wif (fun c175 => ?_) (fun c175 => ?_))
                                    · first
                                      | (exfalso; omega)
                                      | skip
                                        refine s260_189.mpr (s260_190.mpr ?_)
                                        refine (s260_191 kM).mpr ?_
                                        refine s260_194.mpr (s260_195.mpr (s260_196.mpr ?_))
                                        try simp (disch := first | decide | assumption | omega) only [kon, knt_some, knt_none, Option.toList_some, Option.toList_none, List.cons_append, List.nil_append, upI_eq, upI_a, upI_i, upR_eq, upR_a, upR_i, h36, ht, E1, E2, E3, E4, E5, E6, E7, fAdd_id, fSub_id, fMul_id, e62, e63]
                                        refine s260_197.mpr (wif (fun c197 => ?_) (fun c197 => ?_))
                                        · first
                                          | (exfalso; omega)
                                          | skip
                                            refine s260_200.mpr (s260_201.mpr ?_)
                                            refine (s260_205 (by omega) kM).mpr ?_
                                            refine m_wants hA (by omega) (by (try simp (disch := decide) only [upI_eq, upI_a, upI_i, upR_eq, upR_a, upR_i]); first | assumption | rfl) (by omega) (fun y205 => ?_) (fun y205 => ?_)
                                            · skip
                                              refine s260_208.mpr ?_
                                              refine (s260_209 kM).mpr ?_
                                              try simp (disch := first | decide | assumption | omega) only [kon, knt_some, knt_none, Option.toList_some, Option.toList_none, List.cons_append, List.nil_append, upI_eq, upI_a, upI_i, upR_eq, upR_a, upR_i, h36, ht, E1, E2, E3, E4, E5, E6, E7, fAdd_id, fSub_id, fMul_id, e62, e63]
                                              refine s260_212.mpr (wif (fun c212 => ?_) (fun c212 => ?_))
                                              · first
                                                | (exfalso; omega)
                                                | skip
                                                  refine (s260_215).mpr ?_
                                                  first | (exfalso; omega) | (exact ok _ _ _ ((tsL_37b c1 hb).trans (onw_p ⟨by dsimp only; omega, ⟨hk, hT.1, hT.2⟩, c175, y186.2.2⟩)) (flw1 (by rw [c1]; decide)) (by repeat' (first | assumption | exact FW.rf | refine FW.up ?_ (by unfold wS; omega) | (refine FW.tr ?_ (by assumption)))) (by (try simp (disch := decide) only [upI_eq, upI_a, upI_i, upR_eq, upR_a, upR_i]); try assumption) (by (try simp (disch := decide) only [upI_eq, upI_a, upI_i, upR_eq, upR_a, upR_i]); try assumption) (by simp (disch := decide) only [scX, upI_eq, upI_a, upI_i, upR_eq, upR_a, upR_i, upI_ro, upI_rw, ht, E1, E2, E3, E4, E5, E6, E7]; rfl)) | (exact nob _ (fun h => h.2.2.1 c175) (by repeat' (first | assumption | exact FW.rf | refine FW.up ?_ (by unfold wS; omega) | (refine FW.tr ?_ (by assumption)))) (by (try simp (disch := decide) only [upI_eq, upI_a, upI_i, upR_eq, upR_a, upR_i]); try assumption)) | (exact nob _ (fun h => by rcases x186 with h9 | h9; omega; exact h9 ⟨by omega, h.2.2.2⟩) (by repeat' (first | assumption | exact FW.rf | refine FW.up ?_ (by unfold wS; omega) | (refine FW.tr ?_ (by assumption)))) (by (try simp (disch := decide) only [upI_eq, upI_a, upI_i, upR_eq, upR_a, upR_i]); try assumption))
                                              · first
                                                | (exfalso; omega)
                                                | skip
                                                  refine s260_216.mpr ((s260_217 kM).mpr ?_)
                                                  rw [mr_33 hR]
                                                  refine s260_220.mpr (s260_221.mpr (s260_223.mpr ((s260_224 kM).mpr ?_)))
                                                  rw [mr_15 hR]
                                                  refine s260_227.mpr ?_
                                                  refine (s260_229 (hA.k (by decide) (by decide) rfl) (by first | assumption | omega) (by first | assumption | omega)).mpr ?_
                                                  try simp (disch := first | decide | assumption | omega) only [kon, knt_some, knt_none, Option.toList_some, Option.toList_none, List.cons_append, List.nil_append, upI_eq, upI_a, upI_i, upR_eq, upR_a, upR_i, h36, ht, E1, E2, E3, E4, E5, E6, E7, fAdd_id, fSub_id, fMul_id, e62, e63]
                                                  refine (s260_230 (by omega)).mpr ?_
                                                  refine m_inState ⟨v1, v2⟩ eth ?_
                                                  refine (s260_233 (hA.k (by decide) (by decide) rfl) (by first | assumption | omega) (by first | assumption | omega)).mpr ?_
                                                  try simp (disch := first | decide | assumption | omega) only [kon, knt_some, knt_none, Option.toList_some, Option.toList_none, List.cons_append, List.nil_append, upI_eq, upI_a, upI_i, upR_eq, upR_a, upR_i, h36, ht, E1, E2, E3, E4, E5, E6, E7, fAdd_id, fSub_id, fMul_id, e62, e63]
                                                  refine (s260_234).mpr ?_
                                                  first | (exfalso; omega) | (exact ok _ _ _ ((tsL_37b c1 hb).trans (onw_p ⟨by dsimp only; omega, ⟨hk, hT.1, hT.2⟩, c175, y186.2.2⟩)) (flw1 (by rw [c1]; decide)) (by repeat' (first | assumption | exact FW.rf | refine FW.up ?_ (by unfold wS; omega) | (refine FW.tr ?_ (by assumption)))) (by (try simp (disch := decide) only [upI_eq, upI_a, upI_i, upR_eq, upR_a, upR_i]); try assumption) (by (try simp (disch := decide) only [upI_eq, upI_a, upI_i, upR_eq, upR_a, upR_i]); try assumption) (by simp (disch := decide) only [scX, upI_eq, upI_a, upI_i, upR_eq, upR_a, upR_i, upI_ro, upI_rw, ht, E1, E2, E3, E4, E5, E6, E7]; rfl)) | (exact nob _ (fun h => h.2.2.1 c175) (by repeat' (first | assumption | exact FW.rf | refine FW.up ?_ (by unfold wS; omega) | (refine FW.tr ?_ (by assumption)))) (by (try simp (disch := decide) only [upI_eq, upI_a, upI_i, upR_eq, upR_a, upR_i]); try assumption)) | (exact nob _ (fun h => by rcases x186 with h9 | h9; omega; exact h9 ⟨by omega, h.2.2.2⟩) (by repeat' (first | assumption | exact FW.rf | refine FW.up ?_ (by unfold wS; omega) | (refine FW.tr ?_ (by assumption)))) (by (try simp (disch := decide) only [upI_eq, upI_a, upI_i, upR_eq, upR_a, upR_i]); try assumption))
                                            · skip
                                              refine s260_208.mpr ?_
                                              refine (s260_209 kM).mpr ?_
                                              try simp (disch := first | decide | assumption | omega) only [kon, knt_some, knt_none, Option.toList_some, Option.toList_none, List.cons_append, List.nil_append, upI_eq, upI_a, upI_i, upR_eq, upR_a, upR_i, h36, ht, E1, E2, E3, E4, E5, E6, E7, fAdd_id, fSub_id, fMul_id, e62, e63]
                                              refine s260_212.mpr (wif (fun c212 => ?_) (fun c212 => ?_))
                                              · first
                                                | (exfalso; omega)
                                                | skip
                                                  refine (s260_215).mpr ?_
                                                  first | (exfalso; omega) | (exact ok _ _ _ ((tsL_37b c1 hb).trans (onw_p ⟨by dsimp only; omega, ⟨hk, hT.1, hT.2⟩, c175, y186.2.2⟩)) (flw1 (by rw [c1]; decide)) (by repeat' (first | assumption | exact FW.rf | refine FW.up ?_ (by unfold wS; omega) | (refine FW.tr ?_ (by assumption)))) (by (try simp (disch := decide) only [upI_eq, upI_a, upI_i, upR_eq, upR_a, upR_i]); try assumption) (by (try simp (disch := decide) only [upI_eq, upI_a, upI_i, upR_eq, upR_a, upR_i]); try assumption) (by simp (disch := decide) only [scX, upI_eq, upI_a, upI_i, upR_eq, upR_a, upR_i, upI_ro, upI_rw, ht, E1, E2, E3, E4, E5, E6, E7]; rfl)) | (exact nob _ (fun h => h.2.2.1 c175) (by repeat' (first | assumption | exact FW.rf | refine FW.up ?_ (by unfold wS; omega) | (refine FW.tr ?_ (by assumption)))) (by (try simp (disch := decide) only [upI_eq, upI_a, upI_i, upR_eq, upR_a, upR_i]); try assumption)) | (exact nob _ (fun h => by rcases x186 with h9 | h9; omega; exact h9 ⟨by omega, h.2.2.2⟩) (by repeat' (first | assumption | exact FW.rf | refine FW.up ?_ (by unfold wS; omega) | (refine FW.tr ?_ (by assumption)))) (by (try simp (disch := decide) only [upI_eq, upI_a, upI_i, upR_eq, upR_a, upR_i]); try assumption))
                                              · first
                                                | (exfalso; omega)
                                                | skip
                                                  refine s260_216.mpr ((s260_217 kM).mpr ?_)
                                                  rw [mr_33 hR]
                                                  refine s260_220.mpr (s260_221.mpr (s260_223.mpr ((s260_224 kM).mpr ?_)))
                                                  rw [mr_15 hR]
                                                  refine s260_227.mpr ?_
                                                  refine (s260_229 (hA.k (by decide) (by decide) rfl) (by first | assumption | omega) (by first | assumption | omega)).mpr ?_
                                                  try simp (disch := first | decide | assumption | omega) only [kon, knt_some, knt_none, Option.toList_some, Option.toList_none, List.cons_append, List.nil_append, upI_eq, upI_a, upI_i, upR_eq, upR_a, upR_i, h36, ht, E1, E2, E3, E4, E5, E6, E7, fAdd_id, fSub_id, fMul_id, e62, e63]
                                                  refine (s260_230 (by omega)).mpr ?_
                                                  refine m_inState ⟨v1, v2⟩ eth ?_
                                                  refine (s260_233 (hA.k (by decide) (by decide) rfl) (by first | assumption | omega) (by first | assumption | omega)).mpr ?_
                                                  try simp (disch := first | decide | assumption | omega) only [kon, knt_some, knt_none, Option.toList_some, Option.toList_none, List.cons_append, List.nil_append, upI_eq, upI_a, upI_i, upR_eq, upR_a, upR_i, h36, ht, E1, E2, E3, E4, E5, E6, E7, fAdd_id, fSub_id, fMul_id, e62, e63]
                                                  refine (s260_234).mpr ?_
                                                  first | (exfalso; omega) | (exact ok _ _ _ ((tsL_37b c1 hb).trans (onw_p ⟨by dsimp only; omega, ⟨hk, hT.1, hT.2⟩, c175, y186.2.2⟩)) (flw1 (by rw [c1]; decide)) (by repeat' (first | assumption | exact FW.rf | refine FW.up ?_ (by unfold wS; omega) | (refine FW.tr ?_ (by assumption)))) (by (try simp (disch := decide) only [upI_eq, upI_a, upI_i, upR_eq, upR_a, upR_i]); try assumption) (by (try simp (disch := decide) only [upI_eq, upI_a, upI_i, upR_eq, upR_a, upR_i]); try assumption) (by simp (disch := decide) only [scX, upI_eq, upI_a, upI_i, upR_eq, upR_a, upR_i, upI_ro, upI_rw, ht, E1, E2, E3, E4, E5, E6, E7]; rfl)) | (exact nob _ (fun h => h.2.2.1 c175) (by repeat' (first | assumption | exact FW.rf | refine FW.up ?_ (by unfold wS; omega) | (refine FW.tr ?_ (by assumption)))) (by (try simp (disch := decide) only [upI_eq, upI_a, upI_i, upR_eq, upR_a, upR_i]); try assumption)) | (exact nob _ (fun h => by rcases x186 with h9 | h9; omega; exact h9 ⟨by omega, h.2.2.2⟩) (by repeat' (first | assumption | exact FW.rf | refine FW.up ?_ (by unfold wS; omega) | (refine FW.tr ?_ (by assumption)))) (by (try simp (disch := decide) only [upI_eq, upI_a, upI_i, upR_eq, upR_a, upR_i]); try assumption))
                                        · first
                                          | (exfalso; omega)
                                          | skip
                                            refine s260_204.mpr ?_
                                            refine (s260_205 (by omega) kM).mpr ?_
                                            refine m_wants hA (by omega) (by (try simp (disch := decide) only [upI_eq, upI_a, upI_i, upR_eq, upR_a, upR_i]); first | assumption | rfl) (by omega) (fun y205 => ?_) (fun y205 => ?_)
                                            · skip
                                              refine s260_208.mpr ?_
                                              refine (s260_209 kM).mpr ?_
                                              try simp (disch := first | decide | assumption | omega) only [kon, knt_some, knt_none, Option.toList_some, Option.toList_none, List.cons_append, List.nil_append, upI_eq, upI_a, upI_i, upR_eq, upR_a, upR_i, h36, ht, E1, E2, E3, E4, E5, E6, E7, fAdd_id, fSub_id, fMul_id, e62, e63]
                                              refine s260_212.mpr (wif (fun c212 => ?_) (fun c212 => ?_))
                                              · first
                                                | (exfalso; omega)
                                                | skip
                                                  refine (s260_215).mpr ?_
                                                  first | (exfalso; omega) | (exact ok _ _ _ ((tsL_37b c1 hb).trans (onw_p ⟨by dsimp only; omega, ⟨hk, hT.1, hT.2⟩, c175, y186.2.2⟩)) (flw1 (by rw [c1]; decide)) (by repeat' (first | assumption | exact FW.rf | refine FW.up ?_ (by unfold wS; omega) | (refine FW.tr ?_ (by assumption)))) (by (try simp (disch := decide) only [upI_eq, upI_a, upI_i, upR_eq, upR_a, upR_i]); try assumption) (by (try simp (disch := decide) only [upI_eq, upI_a, upI_i, upR_eq, upR_a, upR_i]); try assumption) (by simp (disch := decide) only [scX, upI_eq, upI_a, upI_i, upR_eq, upR_a, upR_i, upI_ro, upI_rw, ht, E1, E2, E3, E4, E5, E6, E7]; rfl)) | (exact nob _ (fun h => h.2.2.1 c175) (by repeat' (first | assumption | exact FW.rf | refine FW.up ?_ (by unfold wS; omega) | (refine FW.tr ?_ (by assumption)))) (by (try simp (disch := decide) only [upI_eq, upI_a, upI_i, upR_eq, upR_a, upR_i]); try assumption)) | (exact nob _ (fun h => by rcases x186 with h9 | h9; omega; exact h9 ⟨by omega, h.2.2.2⟩) (by repeat' (first | assumption | exact FW.rf | refine FW.up ?_ (by unfold wS; omega) | (refine FW.tr ?_ (by assumption)))) (by (try simp (disch := decide) only [upI_eq, upI_a, upI_i, upR_eq, upR_a, upR_i]); try assumption))
                                              · first
                                                | (exfalso; omega)
                                                | skip
                                                  refine s260_216.mpr ((s260_217 kM).mpr ?_)
                                                  rw [mr_33 hR]
                                                  refine s260_220.mpr (s260_221.mpr (s260_223.mpr ((s260_224 kM).mpr ?_)))
                                                  rw [mr_15 hR]
                                                  refine s260_227.mpr ?_
                                                  refine (s260_229 (hA.k (by decide) (by decide) rfl) (by first | assumption | omega) (by first | assumption | omega)).mpr ?_
                                                  try simp (disch := first | decide | assumption | omega) only [kon, knt_some, knt_none, Option.toList_some, Option.toList_none, List.cons_append, List.nil_append, upI_eq, upI_a, upI_i, upR_eq, upR_a, upR_i, h36, ht, E1, E2, E3, E4, E5, E6, E7, fAdd_id, fSub_id, fMul_id, e62, e63]
                                                  refine (s260_230 (by omega)).mpr ?_
                                                  refine m_inState ⟨v1, v2⟩ eth ?_
                                                  refine (s260_233 (hA.k (by decide) (by decide) rfl) (by first | assumption | omega) (by first | assumption | omega)).mpr ?_
                                                  try simp (disch := first | decide | assumption | omega) only [kon, knt_some, knt_none, Option.toList_some, Option.toList_none, List.cons_append, List.nil_append, upI_eq, upI_a, upI_i, upR_eq, upR_a, upR_i, h36, ht, E1, E2, E3, E4, E5, E6, E7, fAdd_id, fSub_id, fMul_id, e62, e63]
                                                  refine (s260_234).mpr ?_
                                                  first | (exfalso; omega) | (exact ok _ _ _ ((tsL_37b c1 hb).trans (onw_p ⟨by dsimp only; omega, ⟨hk, hT.1, hT.2⟩, c175, y186.2.2⟩)) (flw1 (by rw [c1]; decide)) (by repeat' (first | assumption | exact FW.rf | refine FW.up ?_ (by unfold wS; omega) | (refine FW.tr ?_ (by assumption)))) (by (try simp (disch := decide) only [upI_eq, upI_a, upI_i, upR_eq, upR_a, upR_i]); try assumption) (by (try simp (disch := decide) only [upI_eq, upI_a, upI_i, upR_eq, upR_a, upR_i]); try assumption) (by simp (disch := decide) only [scX, upI_eq, upI_a, upI_i, upR_eq, upR_a, upR_i, upI_ro, upI_rw, ht, E1, E2, E3, E4, E5, E6, E7]; rfl)) | (exact nob _ (fun h => h.2.2.1 c175) (by repeat' (first | assumption | exact FW.rf | refine FW.up ?_ (by unfold wS; omega) | (refine FW.tr ?_ (by assumption)))) (by (try simp (disch := decide) only [upI_eq, upI_a, upI_i, upR_eq, upR_a, upR_i]); try assumption)) | (exact nob _ (fun h => by rcases x186 with h9 | h9; omega; exact h9 ⟨by omega, h.2.2.2⟩) (by repeat' (first | assumption | exact FW.rf | refine FW.up ?_ (by unfold wS; omega) | (refine FW.tr ?_ (by assumption)))) (by (try simp (disch := decide) only [upI_eq, upI_a, upI_i, upR_eq, upR_a, upR_i]); try assumption))
                                            · skip
                                              refine s260_208.mpr ?_
                                              refine (s260_209 kM).mpr ?_
                                              try simp (disch := first | decide | assumption | omega) only [kon, knt_some, knt_none, Option.toList_some, Option.toList_none, List.cons_append, List.nil_append, upI_eq, upI_a, upI_i, upR_eq, upR_a, upR_i, h36, ht, E1, E2, E3, E4, E5, E6, E7, fAdd_id, fSub_id, fMul_id, e62, e63]
                                              refine s260_212.mpr (wif (fun c212 => ?_) (fun c212 => ?_))
                                              · first
                                                | (exfalso; omega)
                                                | skip
                                                  refine (s260_215).mpr ?_
                                                  first | (exfalso; omega) | (exact ok _ _ _ ((tsL_37b c1 hb).trans (onw_p ⟨by dsimp only; omega, ⟨hk, hT.1, hT.2⟩, c175, y186.2.2⟩)) (flw1 (by rw [c1]; decide)) (by repeat' (first | assumption | exact FW.rf | refine FW.up ?_ (by unfold wS; omega) | (refine FW.tr ?_ (by assumption)))) (by (try simp (disch := decide) only [upI_eq, upI_a, upI_i, upR_eq, upR_a, upR_i]); try assumption) (by (try simp (disch := decide) only [upI_eq, upI_a, upI_i, upR_eq, upR_a, upR_i]); try assumption) (by simp (disch := decide) only [scX, upI_eq, upI_a, upI_i, upR_eq, upR_a, upR_i, upI_ro, upI_rw, ht, E1, E2, E3, E4, E5, E6, E7]; rfl)) | (exact nob _ (fun h => h.2.2.1 c175) (by repeat' (first | assumption | exact FW.rf | refine FW.up ?_ (by unfold wS; omega) | (refine FW.tr ?_ (by assumption)))) (by (try simp (disch := decide) only [upI_eq, upI_a, upI_i, upR_eq, upR_a, upR_i]); try assumption)) | (exact nob _ (fun h => by rcases x186 with h9 | h9; omega; exact h9 ⟨by omega, h.2.2.2⟩) (by repeat' (first | assumption | exact FW.rf | refine FW.up ?_ (by unfold wS; omega) | (refine FW.tr ?_ (by assumption)))) (by (try simp (disch := decide) only [upI_eq, upI_a, upI_i, upR_eq, upR_a, upR_i]); try assumption))
                                              · first
                                                | (exfalso; omega)
                                                | skip
                                                  refine s260_216.mpr ((s260_217 kM).mpr ?_)
                                                  rw [mr_33 hR]
                                                  refine s260_220.mpr (s260_221.mpr (s260_223.mpr ((s260_224 kM).mpr ?_)))
                                                  rw [mr_15 hR]
                                                  refine s260_227.mpr ?_
                                                  refine (s260_229 (hA.k (by decide) (by decide) rfl) (by first | assumption | omega) (by first | assumption | omega)).mpr ?_
                                                  try simp (disch := first | decide | assumption | omega) only [kon, knt_some, knt_none, Option.toList_some, Option.toList_none, List.cons_append, List.nil_append, upI_eq, upI_a, upI_i, upR_eq, upR_a, upR_i, h36, ht, E1, E2, E3, E4, E5, E6, E7, fAdd_id, fSub_id, fMul_id, e62, e63]
                                                  refine (s260_230 (by omega)).mpr ?_
                                                  refine m_inState ⟨v1, v2⟩ eth ?_
                                                  refine (s260_233 (hA.k (by decide) (by decide) rfl) (by first | assumption | omega) (by first | assumption | omega)).mpr ?_
                                                  try simp (disch := first | decide | assumption | omega) only [kon, knt_some, knt_none, Option.toList_some, Option.toList_none, List.cons_append, List.nil_append, upI_eq, upI_a, upI_i, upR_eq, upR_a, upR_i, h36, ht, E1, E2, E3, E4, E5, E6, E7, fAdd_id, fSub_id, fMul_id, e62, e63]
                                                  refine (s260_234).mpr ?_
                                                  first | (exfalso; omega) | (exact ok _ _ _ ((tsL_37b c1 hb).trans (onw_p ⟨by dsimp only; omega, ⟨hk, hT.1, hT.2⟩, c175, y186.2.2⟩)) (flw1 (by rw [c1]; decide)) (by repeat' (first | assumption | exact FW.rf | refine FW.up ?_ (by unfold wS; omega) | (refine FW.tr ?_ (by assumption)))) (by (try simp (disch := decide) only [upI_eq, upI_a, upI_i, upR_eq, upR_a, upR_i]); try assumption) (by (try simp (disch := decide) only [upI_eq, upI_a, upI_i, upR_eq, upR_a, upR_i]); try assumption) (by simp (disch := decide) only [scX, upI_eq, upI_a, upI_i, upR_eq, upR_a, upR_i, upI_ro, upI_rw, ht, E1, E2, E3, E4, E5, E6, E7]; rfl)) | (exact nob _ (fun h => h.2.2.1 c175) (by repeat' (first | assumption | exact FW.rf | refine FW.up ?_ (by unfold wS; omega) | (refine FW.tr ?_ (by assumption)))) (by (try simp (disch := decide) only [upI_eq, upI_a, upI_i, upR_eq, upR_a, upR_i]); try assumption)) | (exact nob _ (fun h => by rcases x186 with h9 | h9; omega; exact h9 ⟨by omega, h.2.2.2⟩) (by repeat' (first | assumption | exact FW.rf | refine FW.up ?_ (by unfold wS; omega) | (refine FW.tr ?_ (by assumption)))) (by (try simp (disch := decide) only [upI_eq, upI_a, upI_i, upR_eq, upR_a, upR_i]); try assumption))
                                    · first
                                      | (exfalso; omega)
                                      | skip
                                        refine s260_178.mpr (s260_179.mpr ((s260_180 kM).mpr ?_))
                                        rw [mr_14 hR]
                                        refine s260_183.mpr ?_
                                        refine (s260_185 (hA.k (by decide) (by decide) rfl) (by first | assumption | omega) (by first | assumption | omega)).mpr ?_
                                        try simp (disch := first | decide | assumption | omega) only [kon, knt_some, knt_none, Option.toList_some, Option.toList_none, List.cons_append, List.nil_append, upI_eq, upI_a, upI_i, upR_eq, upR_a, upR_i, h36, ht, E1, E2, E3, E4, E5, E6, E7, fAdd_id, fSub_id, fMul_id, e62, e63]
                                        refine (s260_186 (by omega) kM).mpr ?_
                                        refine m_popFor hA hR (by omega) (by (try simp (disch := decide) only [upI_eq, upI_a, upI_i, upR_eq, upR_a, upR_i]); first | assumption | rfl) (by omega) (by (try simp (disch := decide) only [upI_eq, upI_a, upI_i, upR_eq, upR_a, upR_i]); first | assumption | rfl) (by omega) (fun y186 => ?_) (fun hi186 t186 w186 z186 u186 v186 x186 => ?_)
                                        · skip
                                          try simp (disch := decide) only [upI_eq, upI_a, upI_i, upR_eq, upR_a, upR_i, E1, E4] at y186
                                          try simp (disch := decide) only [upI_eq, upI_a, upI_i, upR_eq, upR_a, upR_i, E1, E4] at x186
                                          refine s260_189.mpr (s260_190.mpr ?_)
                                          refine (s260_191 kM).mpr ?_
                                          refine s260_194.mpr (s260_195.mpr (s260_196.mpr ?_))
                                          try simp (disch := first | decide | assumption | omega) only [kon, knt_some, knt_none, Option.toList_some, Option.toList_none, List.cons_append, List.nil_append, upI_eq, upI_a, upI_i, upR_eq, upR_a, upR_i, h36, ht, E1, E2, E3, E4, E5, E6, E7, fAdd_id, fSub_id, fMul_id, e62, e63]
                                          refine s260_197.mpr (wif (fun c197 => ?_) (fun c197 => ?_))
                                          · first
                                            | (exfalso; omega)
                                            | skip
                                              refine s260_200.mpr (s260_201.mpr ?_)
                                              refine (s260_205 (by omega) kM).mpr ?_
                                              refine m_wants hA (by omega) (by (try simp (disch := decide) only [upI_eq, upI_a, upI_i, upR_eq, upR_a, upR_i]); first | assumption | rfl) (by omega) (fun y205 => ?_) (fun y205 => ?_)
                                              · skip
                                                refine s260_208.mpr ?_
                                                refine (s260_209 kM).mpr ?_
                                                try simp (disch := first | decide | assumption | omega) only [kon, knt_some, knt_none, Option.toList_some, Option.toList_none, List.cons_append, List.nil_append, upI_eq, upI_a, upI_i, upR_eq, upR_a, upR_i, h36, ht, E1, E2, E3, E4, E5, E6, E7, fAdd_id, fSub_id, fMul_id, e62, e63]
                                                refine s260_212.mpr (wif (fun c212 => ?_) (fun c212 => ?_))
                                                · first
                                                  | (exfalso; omega)
                                                  | skip
                                                    refine (s260_215).mpr ?_
                                                    first | (exfalso; omega) | (exact ok _ _ _ ((tsL_37b c1 hb).trans (onw_p ⟨by dsimp only; omega, ⟨hk, hT.1, hT.2⟩, c175, y186.2.2⟩)) (flw1 (by rw [c1]; decide)) (by repeat' (first | assumption | exact FW.rf | refine FW.up ?_ (by unfold wS; omega) | (refine FW.tr ?_ (by assumption)))) (by (try simp (disch := decide) only [upI_eq, upI_a, upI_i, upR_eq, upR_a, upR_i]); try assumption) (by (try simp (disch := decide) only [upI_eq, upI_a, upI_i, upR_eq, upR_a, upR_i]); try assumption) (by simp (disch := decide) only [scX, upI_eq, upI_a, upI_i, upR_eq, upR_a, upR_i, upI_ro, upI_rw, ht, E1, E2, E3, E4, E5, E6, E7]; rfl)) | (exact nob _ (fun h => h.2.2.1 c175) (by repeat' (first | assumption | exact FW.rf | refine FW.up ?_ (by unfold wS; omega) | (refine FW.tr ?_ (by assumption)))) (by (try simp (disch := decide) only [upI_eq, upI_a, upI_i, upR_eq, upR_a, upR_i]); try assumption)) | (exact nob _ (fun h => by rcases x186 with h9 | h9; omega; exact h9 ⟨by omega, h.2.2.2⟩) (by repeat' (first | assumption | exact FW.rf | refine FW.up ?_ (by unfold wS; omega) | (refine FW.tr ?_ (by assumption)))) (by (try simp (disch := decide) only [upI_eq, upI_a, upI_i, upR_eq, upR_a, upR_i]); try assumption))
                                                · first
                                                  | (exfalso; omega)
                                                  | skip
                                                    refine s260_216.mpr ((s260_217 kM).mpr ?_)
                                                    rw [mr_33 hR]
                                                    refine s260_220.mpr (s260_221.mpr (s260_223.mpr ((s260_224 kM).mpr ?_)))
                                                    rw [mr_15 hR]
                                                    refine s260_227.mpr ?_
                                                    refine (s260_229 (hA.k (by decide) (by decide) rfl) (by first | assumption | omega) (by first | assumption | omega)).mpr ?_
                                                    try simp (disch := first | decide | assumption | omega) only [kon, knt_some, knt_none, Option.toList_some, Option.toList_none, List.cons_append, List.nil_append, upI_eq, upI_a, upI_i, upR_eq, upR_a, upR_i, h36, ht, E1, E2, E3, E4, E5, E6, E7, fAdd_id, fSub_id, fMul_id, e62, e63]
                                                    refine (s260_230 (by omega)).mpr ?_
                                                    refine m_inState ⟨v1, v2⟩ eth ?_
                                                    refine (s260_233 (hA.k (by decide) (by decide) rfl) (by first | assumption | omega) (by first | assumption | omega)).mpr ?_
                                                    try simp (disch := first | decide | assumption | omega) only [kon, knt_some, knt_none, Option.toList_some, Option.toList_none, List.cons_append, List.nil_append, upI_eq, upI_a, upI_i, upR_eq, upR_a, upR_i, h36, ht, E1, E2, E3, E4, E5, E6, E7, fAdd_id, fSub_id, fMul_id, e62, e63]
                                                    refine (s260_234).mpr ?_
                                                    first | (exfalso; omega) | (exact ok _ _ _ ((tsL_37b c1 hb).trans (onw_p ⟨by dsimp only; omega, ⟨hk, hT.1, hT.2⟩, c175, y186.2.2⟩)) (flw1 (by rw [c1]; decide)) (by repeat' (first | assumption | exact FW.rf | refine FW.up ?_ (by unfold wS; omega) | (refine FW.tr ?_ (by assumption)))) (by (try simp (disch := decide) only [upI_eq, upI_a, upI_i, upR_eq, upR_a, upR_i]); try assumption) (by (try simp (disch := decide) only [upI_eq, upI_a, upI_i, upR_eq, upR_a, upR_i]); try assumption) (by simp (disch := decide) only [scX, upI_eq, upI_a, upI_i, upR_eq, upR_a, upR_i, upI_ro, upI_rw, ht, E1, E2, E3, E4, E5, E6, E7]; rfl)) | (exact nob _ (fun h => h.2.2.1 c175) (by repeat' (first | assumption | exact FW.rf | refine FW.up ?_ (by unfold wS; omega) | (refine FW.tr ?_ (by assumption)))) (by (try simp (disch := decide) only [upI_eq, upI_a, upI_i, upR_eq, upR_a, upR_i]); try assumption)) | (exact nob _ (fun h => by rcases x186 with h9 | h9; omega; exact h9 ⟨by omega, h.2.2.2⟩) (by repeat' (first | assumption | exact FW.rf | refine FW.up ?_ (by unfold wS; omega) | (refine FW.tr ?_ (by assumption)))) (by (try simp (disch := decide) only [upI_eq, upI_a, upI_i, upR_eq, upR_a, upR_i]); try assumption))
                                              · skip
                                                refine s260_208.mpr ?_
                                                refine (s260_209 kM).mpr ?_
                                                try simp (disch := first | decide | assumption | omega) only [kon, knt_some, knt_none, Option.toList_some, Option.toList_none, List.cons_append, List.nil_append, upI_eq, upI_a, upI_i, upR_eq, upR_a, upR_i, h36, ht, E1, E2, E3, E4, E5, E6, E7, fAdd_id, fSub_id, fMul_id, e62, e63]
                                                refine s260_212.mpr (wif (fun c212 => ?_) (fun c212 => ?_))
                                                · first
                                                  | (exfalso; omega)
                                                  | skip
                                                    refine (s260_215).mpr ?_
                                                    first | (exfalso; omega) | (exact ok _ _ _ ((tsL_37b c1 hb).trans (onw_p ⟨by dsimp only; omega, ⟨hk, hT.1, hT.2⟩, c175, y186.2.2⟩)) (flw1 (by rw [c1]; decide)) (by repeat' (first | assumption | exact FW.rf | refine FW.up ?_ (by unfold wS; omega) | (refine FW.tr ?_ (by assumption)))) (by (try simp (disch := decide) only [upI_eq, upI_a, upI_i, upR_eq, upR_a, upR_i]); try assumption) (by (try simp (disch := decide) only [upI_eq, upI_a, upI_i, upR_eq, upR_a, upR_i]); try assumption) (by simp (disch := decide) only [scX, upI_eq, upI_a, upI_i, upR_eq, upR_a, upR_i, upI_ro, upI_rw, ht, E1, E2, E3, E4, E5, E6, E7]; rfl)) | (exact nob _ (fun h => h.2.2.1 c175) (by repeat' (first | assumption | exact FW.rf | refine FW.up ?_ (by unfold wS; omega) | (refine FW.tr ?_ (by assumption)))) (by (try simp (disch := decide) only [upI_eq, upI_a, upI_i, upR_eq, upR_a, upR_i]); try assumption)) | (exact nob _ (fun h => by rcases x186 with h9 | h9; omega; exact h9 ⟨by omega, h.2.2.2⟩) (by repeat' (first | assumption | exact FW.rf | refine FW.up ?_ (by unfold wS; omega) | (refine FW.tr ?_ (by assumption)))) (by (try simp (disch := decide) only [upI_eq, upI_a, upI_i, upR_eq, upR_a, upR_i]); try assumption))
                                                · first
                                                  | (exfalso; omega)
                                                  | skip
                                                    refine s260_216.mpr ((s260_217 kM).mpr ?_)
                                                    rw [mr_33 hR]
                                                    refine s260_220.mpr (s260_221.mpr (s260_223.mpr ((s260_224 kM).mpr ?_)))
                                                    rw [mr_15 hR]
                                                    refine s260_227.mpr ?_
                                                    refine (s260_229 (hA.k (by decide) (by decide) rfl) (by first | assumption | omega) (by first | assumption | omega)).mpr ?_
                                                    try simp (disch := first | decide | assumption | omega) only [kon, knt_some, knt_none, Option.toList_some, Option.toList_none, List.cons_append, List.nil_append, upI_eq, upI_a, upI_i, upR_eq, upR_a, upR_i, h36, ht, E1, E2, E3, E4, E5, E6, E7, fAdd_id, fSub_id, fMul_id, e62, e63]
                                                    refine (s260_230 (by omega)).mpr ?_
                                                    refine m_inState ⟨v1, v2⟩ eth ?_
                                                    refine (s260_233 (hA.k (by decide) (by decide) rfl) (by first | assumption | omega) (by first | assumption | omega)).mpr ?_
                                                    try simp (disch := first | decide | assumption | omega) only [kon, knt_some, knt_none, Option.toList_some, Option.toList_none, List.cons_append, List.nil_append, upI_eq, upI_a, upI_i, upR_eq, upR_a, upR_i, h36, ht, E1, E2, E3, E4, E5, E6, E7, fAdd_id, fSub_id, fMul_id, e62, e63]
                                                    refine (s260_234).mpr ?_
                                                    first | (exfalso; omega) | (exact ok _ _ _ ((tsL_37b c1 hb).trans (onw_p ⟨by dsimp only; omega, ⟨hk, hT.1, hT.2⟩, c175, y186.2.2⟩)) (flw1 (by rw [c1]; decide)) (by repeat' (first | assumption | exact FW.rf | refine FW.up ?_ (by unfold wS; omega) | (refine FW.tr ?_ (by assumption)))) (by (try simp (disch := decide) only [upI_eq, upI_a, upI_i, upR_eq, upR_a, upR_i]); try assumption) (by (try simp (disch := decide) only [upI_eq, upI_a, upI_i, upR_eq, upR_a, upR_i]); try assumption) (by simp (disch := decide) only [scX, upI_eq, upI_a, upI_i, upR_eq, upR_a, upR_i, upI_ro, upI_rw, ht, E1, E2, E3, E4, E5, E6, E7]; rfl)) | (exact nob _ (fun h => h.2.2.1 c175) (by repeat' (first | assumption | exact FW.rf | refine FW.up ?_ (by unfold wS; omega) | (refine FW.tr ?_ (by assumption)))) (by (try simp (disch := decide) only [upI_eq, upI_a, upI_i, upR_eq, upR_a, upR_i]); try assumption)) | (exact nob _ (fun h => by rcases x186 with h9 | h9; omega; exact h9 ⟨by omega, h.2.2.2⟩) (by repeat' (first | assumption | exact FW.rf | refine FW.up ?_ (by unfold wS; omega) | (refine FW.tr ?_ (by assumption)))) (by (try simp (disch := decide) only [upI_eq, upI_a, upI_i, upR_eq, upR_a, upR_i]); try assumption))
                                          · first
                                            | (exfalso; omega)
                                            | skip
                                              refine s260_204.mpr ?_
                                              refine (s260_205 (by omega) kM).mpr ?_
                                              refine m_wants hA (by omega) (by (try simp (disch := decide) only [upI_eq, upI_a, upI_i, upR_eq, upR_a, upR_i]); first | assumption | rfl) (by omega) (fun y205 => ?_) (fun y205 => ?_)
                                              · skip
                                                refine s260_208.mpr ?_
                                                refine (s260_209 kM).mpr ?_
                                                try simp (disch := first | decide | assumption | omega) only [kon, knt_some, knt_none, Option.toList_some, Option.toList_none, List.cons_append, List.nil_append, upI_eq, upI_a, upI_i, upR_eq, upR_a, upR_i, h36, ht, E1, E2, E3, E4, E5, E6, E7, fAdd_id, fSub_id, fMul_id, e62, e63]
                                                refine s260_212.mpr (wif (fun c212 => ?_) (fun c212 => ?_))
                                                · first
                                                  | (exfalso; omega)
                                                  | skip
                                                    refine (s260_215).mpr ?_
                                                    first | (exfalso; omega) | (exact ok _ _ _ ((tsL_37b c1 hb).trans (onw_p ⟨by dsimp only; omega, ⟨hk, hT.1, hT.2⟩, c175, y186.2.2⟩)) (flw1 (by rw [c1]; decide)) (by repeat' (first | assumption | exact FW.rf | refine FW.up ?_ (by unfold wS; omega) | (refine FW.tr ?_ (by assumption)))) (by (try simp (disch := decide) only [upI_eq, upI_a, upI_i, upR_eq, upR_a, upR_i]); try assumption) (by (try simp (disch := decide) only [upI_eq, upI_a, upI_i, upR_eq, upR_a, upR_i]); try assumption) (by simp (disch := decide) only [scX, upI_eq, upI_a, upI_i, upR_eq, upR_a, upR_i, upI_ro, upI_rw, ht, E1, E2, E3, E4, E5, E6, E7]; rfl)) | (exact nob _ (fun h => h.2.2.1 c175) (by repeat' (first | assumption | exact FW.rf | refine FW.up ?_ (by unfold wS; omega) | (refine FW.tr ?_ (by assumption)))) (by (try simp (disch := decide) only [upI_eq, upI_a, upI_i, upR_eq, upR_a, upR_i]); try assumption)) | (exact nob _ (fun h => by rcases x186 with h9 | h9; omega; exact h9 ⟨by omega, h.2.2.2⟩) (by repeat' (first | assumption | exact FW.rf | refine FW.up ?_ (by unfold wS; omega) | (refine FW.tr ?_ (by assumption)))) (by (try simp (disch := decide) only [upI_eq, upI_a, upI_i, upR_eq, upR_a, upR_i]); try assumption))
                                                · first
                                                  | (exfalso; omega)
                                                  | skip
                                                    refine s260_216.mpr ((s260_217 kM).mpr ?_)
                                                    rw [mr_33 hR]
                                                    refine s260_220.mpr (s260_221.mpr (s260_223.mpr ((s260_224 kM).mpr ?_)))
                                                    rw [mr_15 hR]
                                                    refine s260_227.mpr ?_
                                                    refine (s260_229 (hA.k (by decide) (by decide) rfl) (by first | assumption | omega) (by first | assumption | omega)).mpr ?_
                                                    try simp (disch := first | decide | assumption | omega) only [kon, knt_some, knt_none, Option.toList_some, Option.toList_none, List.cons_append, List.nil_append, upI_eq, upI_a, upI_i, upR_eq, upR_a, upR_i, h36, ht, E1, E2, E3, E4, E5, E6, E7, fAdd_id, fSub_id, fMul_id, e62, e63]
                                                    refine (s260_230 (by omega)).mpr ?_
                                                    refine m_inState ⟨v1, v2⟩ eth ?_
                                                    refine (s260_233 (hA.k (by decide) (by decide) rfl) (by first | assumption | omega) (by first | assumption | omega)).mpr ?_
                                                    try simp (disch := first | decide | assumption | omega) only [kon, knt_some, knt_none, Option.toList_some, Option.toList_none, List.cons_append, List.nil_append, upI_eq, upI_a, upI_i, upR_eq, upR_a, upR_i, h36, ht, E1, E2, E3, E4, E5, E6, E7, fAdd_id, fSub_id, fMul_id, e62, e63]
                                                    refine (s260_234).mpr ?_
                                                    first | (exfalso; omega) | (exact ok _ _ _ ((tsL_37b c1 hb).trans (onw_p ⟨by dsimp only; omega, ⟨hk, hT.1, hT.2⟩, c175, y186.2.2⟩)) (flw1 (by rw [c1]; decide)) (by repeat' (first | assumption | exact FW.rf | refine FW.up ?_ (by unfold wS; omega) | (refine FW.tr ?_ (by assumption)))) (by (try simp (disch := decide) only [upI_eq, upI_a, upI_i, upR_eq, upR_a, upR_i]); try assumption) (by (try simp (disch := decide) only [upI_eq, upI_a, upI_i, upR_eq, upR_a, upR_i]); try assumption) (by simp (disch := decide) only [scX, upI_eq, upI_a, upI_i, upR_eq, upR_a, upR_i, upI_ro, upI_rw, ht, E1, E2, E3, E4, E5, E6, E7]; rfl)) | (exact nob _ (fun h => h.2.2.1 c175) (by repeat' (first | assumption | exact FW.rf | refine FW.up ?_ (by unfold wS; omega) | (refine FW.tr ?_ (by assumption)))) (by (try simp (disch := decide) only [upI_eq, upI_a, upI_i, upR_eq, upR_a, upR_i]); try assumption)) | (exact nob _ (fun h => by rcases x186 with h9 | h9; omega; exact h9 ⟨by omega, h.2.2.2⟩) (by repeat' (first | assumption | exact FW.rf | refine FW.up ?_ (by unfold wS; omega) | (refine FW.tr ?_ (by assumption)))) (by (try simp (disch := decide) only [upI_eq, upI_a, upI_i, upR_eq, upR_a, upR_i]); try assumption))
                                              · skip
                                                refine s260_208.mpr ?_
                                                refine (s260_209 kM).mpr ?_
                                                try simp (disch := first | decide | assumption | omega) only [kon, knt_some, knt_none, Option.toList_some, Option.toList_none, List.cons_append, List.nil_append, upI_eq, upI_a, upI_i, upR_eq, upR_a, upR_i, h36, ht, E1, E2, E3, E4, E5, E6, E7, fAdd_id, fSub_id, fMul_id, e62, e63]
                                                refine s260_212.mpr (wif (fun c212 => ?_) (fun c212 => ?_))
                                                · first
                                                  | (exfalso; omega)
                                                  | skip
                                                    refine (s260_215).mpr ?_
                                                    first | (exfalso; omega) | (exact ok _ _ _ ((tsL_37b c1 hb).trans (onw_p ⟨by dsimp only; omega, ⟨hk, hT.1, hT.2⟩, c175, y186.2.2⟩)) (flw1 (by rw [c1]; decide)) (by repeat' (first | assumption | exact FW.rf | refine FW.up ?_ (by unfold wS; omega) | (refine FW.tr ?_ (by assumption)))) (by (try simp (disch := decide) only [upI_eq, upI_a, upI_i, upR_eq, upR_a, upR_i]); try assumption) (by (try simp (disch := decide) only [upI_eq, upI_a, upI_i, upR_eq, upR_a, upR_i]); try assumption) (by simp (disch := decide) only [scX, upI_eq, upI_a, upI_i, upR_eq, upR_a, upR_i, upI_ro, upI_rw, ht, E1, E2, E3, E4, E5, E6, E7]; rfl)) | (exact nob _ (fun h => h.2.2.1 c175) (by repeat' (first | assumption | exact FW.rf | refine FW.up ?_ (by unfold wS; omega) | (refine FW.tr ?_ (by assumption)))) (by (try simp (disch := decide) only [upI_eq, upI_a, upI_i, upR_eq, upR_a, upR_i]); try assumption)) | (exact nob _ (fun h => by rcases x186 with h9 | h9; omega; exact h9 ⟨by omega, h.2.2.2⟩) (by repeat' (first | assumption | exact FW.rf | refine FW.up ?_ (by unfold wS; omega) | (refine FW.tr ?_ (by assumption)))) (by (try simp (disch := decide) only [upI_eq, upI_a, upI_i, upR_eq, upR_a, upR_i]); try assumption))
                                                · first
                                                  | (exfalso; omega)
                                                  | skip
                                                    refine s260_216.mpr ((s260_217 kM).mpr ?_)
                                                    rw [mr_33 hR]
                                                    refine s260_220.mpr (s260_221.mpr (s260_223.mpr ((s260_224 kM).mpr ?_)))
                                                    rw [mr_15 hR]
                                                    refine s260_227.mpr ?_
                                                    refine (s260_229 (hA.k (by decide) (by decide) rfl) (by first | assumption | omega) (by first | assumption | omega)).mpr ?_
                                                    try simp (disch := first | decide | assumption | omega) only [kon, knt_some, knt_none, Option.toList_some, Option.toList_none, List.cons_append, List.nil_append, upI_eq, upI_a, upI_i, upR_eq, upR_a, upR_i, h36, ht, E1, E2, E3, E4, E5, E6, E7, fAdd_id, fSub_id, fMul_id, e62, e63]
                                                    refine (s260_230 (by omega)).mpr ?_
                                                    refine m_inState ⟨v1, v2⟩ eth ?_
                                                    refine (s260_233 (hA.k (by decide) (by decide) rfl) (by first | assumption | omega) (by first | assumption | omega)).mpr ?_
                                                    try simp (disch := first | decide | assumption | omega) only [kon, knt_some, knt_none, Option.toList_some, Option.toList_none, List.cons_append, List.nil_append, upI_eq, upI_a, upI_i, upR_eq, upR_a, upR_i, h36, ht, E1, E2, E3, E4, E5, E6, E7, fAdd_id, fSub_id, fMul_id, e62, e63]
                                                    refine (s260_234).mpr ?_
                                                    first | (exfalso; omega) | (exact ok _ _ _ ((tsL_37b c1 hb).trans (onw_p ⟨by dsimp only; omega, ⟨hk, hT.1, hT.2⟩, c175, y186.2.2⟩)) (flw1 (by rw [c1]; decide)) (by repeat' (first | assumption | exact FW.rf | refine FW.up ?_ (by unfold wS; omega) | (refine FW.tr ?_ (by assumption)))) (by (try simp (disch := decide) only [upI_eq, upI_a, upI_i, upR_eq, upR_a, upR_i]); try assumption) (by (try simp (disch := decide) only [upI_eq, upI_a, upI_i, upR_eq, upR_a, upR_i]); try assumption) (by simp (disch := decide) only [scX, upI_eq, upI_a, upI_i, upR_eq, upR_a, upR_i, upI_ro, upI_rw, ht, E1, E2, E3, E4, E5, E6, E7]; rfl)) | (exact nob _ (fun h => h.2.2.1 c175) (by repeat' (first | assumption | exact FW.rf | refine FW.up ?_ (by unfold wS; omega) | (refine FW.tr ?_ (by assumption)))) (by (try simp (disch := decide) only [upI_eq, upI_a, upI_i, upR_eq, upR_a, upR_i]); try assumption)) | (exact nob _ (fun h => by rcases x186 with h9 | h9; omega; exact h9 ⟨by omega, h.2.2.2⟩) (by repeat' (first | assumption | exact FW.rf | refine FW.up ?_ (by unfold wS; omega) | (refine FW.tr ?_ (by assumption)))) (by (try simp (disch := decide) only [upI_eq, upI_a, upI_i, upR_eq, upR_a, upR_i]); try assumption))
                                        · skip
                                          try simp (disch := decide) only [upI_eq, upI_a, upI_i, upR_eq, upR_a, upR_i, E1, E4] at y186
                                          try simp (disch := decide) only [upI_eq, upI_a, upI_i, upR_eq, upR_a, upR_i, E1, E4] at x186
                                          refine s260_189.mpr (s260_190.mpr ?_)
                                          refine (s260_191 kM).mpr ?_
                                          refine s260_194.mpr (s260_195.mpr (s260_196.mpr ?_))
                                          try simp (disch := first | decide | assumption | omega) only [kon, knt_some, knt_none, Option.toList_some, Option.toList_none, List.cons_append, List.nil_append, upI_eq, upI_a, upI_i, upR_eq, upR_a, upR_i, h36, ht, E1, E2, E3, E4, E5, E6, E7, fAdd_id, fSub_id, fMul_id, e62, e63]
                                          refine s260_197.mpr (wif (fun c197 => ?_) (fun c197 => ?_))
                                          · first
                                            | (exfalso; omega)
                                            | skip
                                              refine s260_200.mpr (s260_201.mpr ?_)
                                              refine (s260_205 (by omega) kM).mpr ?_
                                              refine m_wants hA (by omega) (by (try simp (disch := decide) only [upI_eq, upI_a, upI_i, upR_eq, upR_a, upR_i]); first | assumption | rfl) (by omega) (fun y205 => ?_) (fun y205 => ?_)
                                              · skip
                                                refine s260_208.mpr ?_
                                                refine (s260_209 kM).mpr ?_
                                                try simp (disch := first | decide | assumption | omega) only [kon, knt_some, knt_none, Option.toList_some, Option.toList_none, List.cons_append, List.nil_append, upI_eq, upI_a, upI_i, upR_eq, upR_a, upR_i, h36, ht, E1, E2, E3, E4, E5, E6, E7, fAdd_id, fSub_id, fMul_id, e62, e63]
                                                refine s260_212.mpr (wif (fun c212 => ?_) (fun c212 => ?_))
                                                · first
                                                  | (exfalso; omega)
                                                  | skip
                                                    refine (s260_215).mpr ?_
                                                    first | (exfalso; omega) | (exact ok _ _ _ ((tsL_37b c1 hb).trans (onw_p ⟨by dsimp only; omega, ⟨hk, hT.1, hT.2⟩, c175, y186.2.2⟩)) (flw1 (by rw [c1]; decide)) (by repeat' (first | assumption | exact FW.rf | refine FW.up ?_ (by unfold wS; omega) | (refine FW.tr ?_ (by assumption)))) (by (try simp (disch := decide) only [upI_eq, upI_a, upI_i, upR_eq, upR_a, upR_i]); try assumption) (by (try simp (disch := decide) only [upI_eq, upI_a, upI_i, upR_eq, upR_a, upR_i]); try assumption) (by simp (disch := decide) only [scX, upI_eq, upI_a, upI_i, upR_eq, upR_a, upR_i, upI_ro, upI_rw, ht, E1, E2, E3, E4, E5, E6, E7]; rfl)) | (exact nob _ (fun h => h.2.2.1 c175) (by repeat' (first | assumption | exact FW.rf | refine FW.up ?_ (by unfold wS; omega) | (refine FW.tr ?_ (by assumption)))) (by (try simp (disch := decide) only [upI_eq, upI_a, upI_i, upR_eq, upR_a, upR_i]); try assumption)) | (exact nob _ (fun h => by rcases x186 with h9 | h9; omega; exact h9 ⟨by omega, h.2.2.2⟩) (by repeat' (first | assumption | exact FW.rf | refine FW.up ?_ (by unfold wS; omega) | (refine FW.tr ?_ (by assumption)))) (by (try simp (disch := decide) only [upI_eq, upI_a, upI_i, upR_eq, upR_a, upR_i]); try assumption))
                                                · first
                                                  | (exfalso; omega)
                                                  | skip
                                                    refine s260_216.mpr ((s260_217 kM).mpr ?_)
                                                    rw [mr_33 hR]
                                                    refine s260_220.mpr (s260_221.mpr (s260_223.mpr ((s260_224 kM).mpr ?_)))
                                                    rw [mr_15 hR]
                                                    refine s260_227.mpr ?_
                                                    refine (s260_229 (hA.k (by decide) (by decide) rfl) (by first | assumption | omega) (by first | assumption | omega)).mpr ?_
                                                    try simp (disch := first | decide | assumption | omega) only [kon, knt_some, knt_none, Option.toList_some, Option.toList_none, List.cons_append, List.nil_append, upI_eq, upI_a, upI_i, upR_eq, upR_a, upR_i, h36, ht, E1, E2, E3, E4, E5, E6, E7, fAdd_id, fSub_id, fMul_id, e62, e63]
                                                    refine (s260_230 (by omega)).mpr ?_
                                                    refine m_inState ⟨v1, v2⟩ eth ?_
                                                    refine (s260_233 (hA.k (by decide) (by decide) rfl) (by first | assumption | omega) (by first | assumption | omega)).mpr ?_
                                                    try simp (disch := first | decide | assumption | omega) only [kon, knt_some, knt_none, Option.toList_some, Option.toList_none, List.cons_append, List.nil_append, upI_eq, upI_a, upI_i, upR_eq, upR_a, upR_i, h36, ht, E1, E2, E3, E4, E5, E6, E7, fAdd_id, fSub_id, fMul_id, e62, e63]
                                                    refine (s260_234).mpr ?_
                                                    first | (exfalso; omega) | (exact ok _ _ _ ((tsL_37b c1 hb).trans (onw_p ⟨by dsimp only; omega, ⟨hk, hT.1, hT.2⟩, c175, y186.2.2⟩)) (flw1 (by rw [c1]; decide)) (by repeat' (first | assumption | exact FW.rf | refine FW.up ?_ (by unfold wS; omega) | (refine FW.tr ?_ (by assumption)))) (by (try simp (disch := decide) only [upI_eq, upI_a, upI_i, upR_eq, upR_a, upR_i]); try assumption) (by (try simp (disch := decide) only [upI_eq, upI_a, upI_i, upR_eq, upR_a, upR_i]); try assumption) (by simp (disch := decide) only [scX, upI_eq, upI_a, upI_i, upR_eq, upR_a, upR_i, upI_ro, upI_rw, ht, E1, E2, E3, E4, E5, E6, E7]; rfl)) | (exact nob _ (fun h => h.2.2.1 c175) (by repeat' (first | assumption | exact FW.rf | refine FW.up ?_ (by unfold wS; omega) | (refine FW.tr ?_ (by assumption)))) (by (try simp (disch := decide) only [upI_eq, upI_a, upI_i, upR_eq, upR_a, upR_i]); try assumption)) | (exact nob _ (fun h => by rcases x186 with h9 | h9; omega; exact h9 ⟨by omega, h.2.2.2⟩) (by repeat' (first | assumption | exact FW.rf | refine FW.up ?_ (by unfold wS; omega) | (refine FW.tr ?_ (by assumption)))) (by (try simp (disch := decide) only [upI_eq, upI_a, upI_i, upR_eq, upR_a, upR_i]); try assumption))
                                              · skip
                                                refine s260_208.mpr ?_
                                                refine (s260_209 kM).mpr ?_
                                                try simp (disch := first | decide | assumption | omega) only [kon, knt_some, knt_none, Option.toList_some, Option.toList_none, List.cons_append, List.nil_append, upI_eq, upI_a, upI_i, upR_eq, upR_a, upR_i, h36, ht, E1, E2, E3, E4, E5, E6, E7, fAdd_id, fSub_id, fMul_id, e62, e63]
                                                refine s260_212.mpr (wif (fun c212 => ?_) (fun c212 => ?_))
                                                · first
                                                  | (exfalso; omega)
                                                  | skip
                                                    refine (s260_215).mpr ?_
                                                    first | (exfalso; omega) | (exact ok _ _ _ ((tsL_37b c1 hb).trans (onw_p ⟨by dsimp only; omega, ⟨hk, hT.1, hT.2⟩, c175, y186.2.2⟩)) (flw1 (by rw [c1]; decide)) (by repeat' (first | assumption | exact FW.rf | refine FW.up ?_ (by unfold wS; omega) | (refine FW.tr ?_ (by assumption)))) (by (try simp (disch := decide) only [upI_eq, upI_a, upI_i, upR_eq, upR_a, upR_i]); try assumption) (by (try simp (disch := decide) only [upI_eq, upI_a, upI_i, upR_eq, upR_a, upR_i]); try assumption) (by simp (disch := decide) only [scX, upI_eq, upI_a, upI_i, upR_eq, upR_a, upR_i, upI_ro, upI_rw, ht, E1, E2, E3, E4, E5, E6, E7]; rfl)) | (exact nob _ (fun h => h.2.2.1 c175) (by repeat' (first | assumption | exact FW.rf | refine FW.up ?_ (by unfold wS; omega) | (refine FW.tr ?_ (by assumption)))) (by (try simp (disch := decide) only [upI_eq, upI_a, upI_i, upR_eq, upR_a, upR_i]); try assumption)) | (exact nob _ (fun h => by rcases x186 with h9 | h9; omega; exact h9 ⟨by omega, h.2.2.2⟩) (by repeat' (first | assumption | exact FW.rf | refine FW.up ?_ (by unfold wS; omega) | (refine FW.tr ?_ (by assumption)))) (by (try simp (disch := decide) only [upI_eq, upI_a, upI_i, upR_eq, upR_a, upR_i]); try assumption))
                                                · first
                                                  | (exfalso; omega)
                                                  | skip
                                                    refine s260_216.mpr ((s260_217 kM).mpr ?_)
                                                    rw [mr_33 hR]
                                                    refine s260_220.mpr (s260_221.mpr (s260_223.mpr ((s260_224 kM).mpr ?_)))
                                                    rw [mr_15 hR]
                                                    refine s260_227.mpr ?_
                                                    refine (s260_229 (hA.k (by decide) (by decide) rfl) (by first | assumption | omega) (by first | assumption | omega)).mpr ?_
                                                    try simp (disch := first | decide | assumption | omega) only [kon, knt_some, knt_none, Option.toList_some, Option.toList_none, List.cons_append, List.nil_append, upI_eq, upI_a, upI_i, upR_eq, upR_a, upR_i, h36, ht, E1, E2, E3, E4, E5, E6, E7, fAdd_id, fSub_id, fMul_id, e62, e63]
                                                    refine (s260_230 (by omega)).mpr ?_
                                                    refine m_inState ⟨v1, v2⟩ eth ?_
                                                    refine (s260_233 (hA.k (by decide) (by decide) rfl) (by first | assumption | omega) (by first | assumption | omega)).mpr ?_
                                                    try simp (disch := first | decide | assumption | omega) only [kon, knt_some, knt_none, Option.toList_some, Option.toList_none, List.cons_append, List.nil_append, upI_eq, upI_a, upI_i, upR_eq, upR_a, upR_i, h36, ht, E1, E2, E3, E4, E5, E6, E7, fAdd_id, fSub_id, fMul_id, e62, e63]
                                                    refine (s260_234).mpr ?_
                                                    first | (exfalso; omega) | (exact ok _ _ _ ((tsL_37b c1 hb).trans (onw_p ⟨by dsimp only; omega, ⟨hk, hT.1, hT.2⟩, c175, y186.2.2⟩)) (flw1 (by rw [c1]; decide)) (by repeat' (first | assumption | exact FW.rf | refine FW.up ?_ (by unfold wS; omega) | (refine FW.tr ?_ (by assumption)))) (by (try simp (disch := decide) only [upI_eq, upI_a, upI_i, upR_eq, upR_a, upR_i]); try assumption) (by (try simp (disch := decide) only [upI_eq, upI_a, upI_i, upR_eq, upR_a, upR_i]); try assumption) (by simp (disch := decide) only [scX, upI_eq, upI_a, upI_i, upR_eq, upR_a, upR_i, upI_ro, upI_rw, ht, E1, E2, E3, E4, E5, E6, E7]; rfl)) | (exact nob _ (fun h => h.2.2.1 c175) (by repeat' (first | assumption | exact FW.rf | refine FW.up ?_ (by unfold wS; omega) | (refine FW.tr ?_ (by assumption)))) (by (try simp (disch := decide) only [upI_eq, upI_a, upI_i, upR_eq, upR_a, upR_i]); try assumption)) | (exact nob _ (fun h => by rcases x186 with h9 | h9; omega; exact h9 ⟨by omega, h.2.2.2⟩) (by repeat' (first | assumption | exact FW.rf | refine FW.up ?_ (by unfold wS; omega) | (refine FW.tr ?_ (by assumption)))) (by (try simp (disch := decide) only [upI_eq, upI_a, upI_i, upR_eq, upR_a, upR_i]); try assumption))
                                          · first
                                            | (exfalso; omega)
                                            | skip
                                              refine s260_204.mpr ?_
                                              refine (s260_205 (by omega) kM).mpr ?_
                                              refine m_wants hA (by omega) (by (try simp (disch := decide) only [upI_eq, upI_a, upI_i, upR_eq, upR_a, upR_i]); first | assumption | rfl) (by omega) (fun y205 => ?_) (fun y205 => ?_)
                                              · skip
                                                refine s260_208.mpr ?_
                                                refine (s260_209 kM).mpr ?_
                                                try simp (disch := first | decide | assumption | omega) only [kon, knt_some, knt_none, Option.toList_some, Option.toList_none, List.cons_append, List.nil_append, upI_eq, upI_a, upI_i, upR_eq, upR_a, upR_i, h36, ht, E1, E2, E3, E4, E5, E6, E7, fAdd_id, fSub_id, fMul_id, e62, e63]
                                                refine s260_212.mpr (wif (fun c212 => ?_) (fun c212 => ?_))
                                                · first
                                                  | (exfalso; omega)
                                                  | skip
                                                    refine (s260_215).mpr ?_
                                                    first | (exfalso; omega) | (exact ok _ _ _ ((tsL_37b c1 hb).trans (onw_p ⟨by dsimp only; omega, ⟨hk, hT.1, hT.2⟩, c175, y186.2.2⟩)) (flw1 (by rw [c1]; decide)) (by repeat' (first | assumption | exact FW.rf | refine FW.up ?_ (by unfold wS; omega) | (refine FW.tr ?_ (by assumption)))) (by (try simp (disch := decide) only [upI_eq, upI_a, upI_i, upR_eq, upR_a, upR_i]); try assumption) (by (try simp (disch := decide) only [upI_eq, upI_a, upI_i, upR_eq, upR_a, upR_i]); try assumption) (by simp (disch := decide) only [scX, upI_eq, upI_a, upI_i, upR_eq, upR_a, upR_i, upI_ro, upI_rw, ht, E1, E2, E3, E4, E5, E6, E7]; rfl)) | (exact nob _ (fun h => h.2.2.1 c175) (by repeat' (first | assumption | exact FW.rf | refine FW.up ?_ (by unfold wS; omega) | (refine FW.tr ?_ (by assumption)))) (by (try simp (disch := decide) only [upI_eq, upI_a, upI_i, upR_eq, upR_a, upR_i]); try assumption)) | (exact nob _ (fun h => by rcases x186 with h9 | h9; omega; exact h9 ⟨by omega, h.2.2.2⟩) (by repeat' (first | assumption | exact FW.rf | refine FW.up ?_ (by unfold wS; omega) | (refine FW.tr ?_ (by assumption)))) (by (try simp (disch := decide) only [upI_eq, upI_a, upI_i, upR_eq, upR_a, upR_i]); try assumption))
                                                · first
                                                  | (exfalso; omega)
                                                  | skip
                                                    refine s260_216.mpr ((s260_217 kM).mpr ?_)
                                                    rw [mr_33 hR]
                                                    refine s260_220.mpr (s260_221.mpr (s260_223.mpr ((s260_224 kM).mpr ?_)))
                                                    rw [mr_15 hR]
                                                    refine s260_227.mpr ?_
                                                    refine (s260_229 (hA.k (by decide) (by decide) rfl) (by first | assumption | omega) (by first | assumption | omega)).mpr ?_
                                                    try simp (disch := first | decide | assumption | omega) only [kon, knt_some, knt_none, Option.toList_some, Option.toList_none, List.cons_append, List.nil_append, upI_eq, upI_a, upI_i, upR_eq, upR_a, upR_i, h36, ht, E1, E2, E3, E4, E5, E6, E7, fAdd_id, fSub_id, fMul_id, e62, e63]
                                                    refine (s260_230 (by omega)).mpr ?_
                                                    refine m_inState ⟨v1, v2⟩ eth ?_
                                                    refine (s260_233 (hA.k (by decide) (by decide) rfl) (by first | assumption | omega) (by first | assumption | omega)).mpr ?_
                                                    try simp (disch := first | decide | assumption | omega) only [kon, knt_some, knt_none, Option.toList_some, Option.toList_none, List.cons_append, List.nil_append, upI_eq, upI_a, upI_i, upR_eq, upR_a, upR_i, h36, ht, E1, E2, E3, E4, E5, E6, E7, fAdd_id, fSub_id, fMul_id, e62, e63]
                                                    refine (s260_234).mpr ?_
                                                    first | (exfalso; omega) | (exact ok _ _ _ ((tsL_37b c1 hb).trans (onw_p ⟨by dsimp only; omega, ⟨hk, hT.1, hT.2⟩, c175, y186.2.2⟩)) (flw1 (by rw [c1]; decide)) (by repeat' (first | assumption | exact FW.rf | refine FW.up ?_ (by unfold wS; omega) | (refine FW.tr ?_ (by assumption)))) (by (try simp (disch := decide) only [upI_eq, upI_a, upI_i, upR_eq, upR_a, upR_i]); try assumption) (by (try simp (disch := decide) only [upI_eq, upI_a, upI_i, upR_eq, upR_a, upR_i]); try assumption) (by simp (disch := decide) only [scX, upI_eq, upI_a, upI_i, upR_eq, upR_a, upR_i, upI_ro, upI_rw, ht, E1, E2, E3, E4, E5, E6, E7]; rfl)) | (exact nob _ (fun h => h.2.2.1 c175) (by repeat' (first | assumption | exact FW.rf | refine FW.up ?_ (by unfold wS; omega) | (refine FW.tr ?_ (by assumption)))) (by (try simp (disch := decide) only [upI_eq, upI_a, upI_i, upR_eq, upR_a, upR_i]); try assumption)) | (exact nob _ (fun h => by rcases x186 with h9 | h9; omega; exact h9 ⟨by omega, h.2.2.2⟩) (by repeat' (first | assumption | exact FW.rf | refine FW.up ?_ (by unfold wS; omega) | (refine FW.tr ?_ (by assumption)))) (by (try simp (disch := decide) only [upI_eq, upI_a, upI_i, upR_eq, upR_a, upR_i]); try assumption))
                                              · skip
                                                refine s260_208.mpr ?_
                                                refine (s260_209 kM).mpr ?_
                                                try simp (disch := first | decide | assumption | omega) only [kon, knt_some, knt_none, Option.toList_some, Option.toList_none, List.cons_append, List.nil_append, upI_eq, upI_a, upI_i, upR_eq, upR_a, upR_i, h36, ht, E1, E2, E3, E4, E5, E6, E7, fAdd_id, fSub_id, fMul_id, e62, e63]
                                                refine s260_212.mpr (wif (fun c212 => ?_) (fun c212 => ?_))
                                                · first
                                                  | (exfalso; omega)
                                                  | skip
                                                    refine (s260_215).mpr ?_
                                                    first | (exfalso; omega) | (exact ok _ _ _ ((tsL_37b c1 hb).trans (onw_p ⟨by dsimp only; omega, ⟨hk, hT.1, hT.2⟩, c175, y186.2.2⟩)) (flw1 (by rw [c1]; decide)) (by repeat' (first | assumption | exact FW.rf | refine FW.up ?_ (by unfold wS; omega) | (refine FW.tr ?_ (by assumption)))) (by (try simp (disch := decide) only [upI_eq, upI_a, upI_i, upR_eq, upR_a, upR_i]); try assumption) (by (try simp (disch := decide) only [upI_eq, upI_a, upI_i, upR_eq, upR_a, upR_i]); try assumption) (by simp (disch := decide) only [scX, upI_eq, upI_a, upI_i, upR_eq, upR_a, upR_i, upI_ro, upI_rw, ht, E1, E2, E3, E4, E5, E6, E7]; rfl)) | (exact nob _ (fun h => h.2.2.1 c175) (by repeat' (first | assumption | exact FW.rf | refine FW.up ?_ (by unfold wS; omega) | (refine FW.tr ?_ (by assumption)))) (by (try simp (disch := decide) only [upI_eq, upI_a, upI_i, upR_eq, upR_a, upR_i]); try assumption)) | (exact nob _ (fun h => by rcases x186 with h9 | h9; omega; exact h9 ⟨by omega, h.2.2.2⟩) (by repeat' (first | assumption | exact FW.rf | refine FW.up ?_ (by unfold wS; omega) | (refine FW.tr ?_ (by assumption)))) (by (try simp (disch := decide) only [upI_eq, upI_a, upI_i, upR_eq, upR_a, upR_i]); try assumption))
                                                · first
                                                  | (exfalso; omega)
                                                  | skip
                                                    refine s260_216.mpr ((s260_217 kM).mpr ?_)
                                                    rw [mr_33 hR]
                                                    refine s260_220.mpr (s260_221.mpr (s260_223.mpr ((s260_224 kM).mpr ?_)))
                                                    rw [mr_15 hR]
                                                    refine s260_227.mpr ?_
                                                    refine (s260_229 (hA.k (by decide) (by decide) rfl) (by first | assumption | omega) (by first | assumption | omega)).mpr ?_
                                                    try simp (disch := first | decide | assumption | omega) only [kon, knt_some, knt_none, Option.toList_some, Option.toList_none, List.cons_append, List.nil_append, upI_eq, upI_a, upI_i, upR_eq, upR_a, upR_i, h36, ht, E1, E2, E3, E4, E5, E6, E7, fAdd_id, fSub_id, fMul_id, e62, e63]
                                                    refine (s260_230 (by omega)).mpr ?_
                                                    refine m_inState ⟨v1, v2⟩ eth ?_
                                                    refine (s260_233 (hA.k (by decide) (by decide) rfl) (by first | assumption | omega) (by first | assumption | omega)).mpr ?_
                                                    try simp (disch := first | decide | assumption | omega) only [kon, knt_some, knt_none, Option.toList_some, Option.toList_none, List.cons_append, List.nil_append, upI_eq, upI_a, upI_i, upR_eq, upR_a, upR_i, h36, ht, E1, E2, E3, E4, E5, E6, E7, fAdd_id, fSub_id, fMul_id, e62, e63]
                                                    refine (s260_234).mpr ?_
                                                    first | (exfalso; omega) | (exact ok _ _ _ ((tsL_37b c1 hb).trans (onw_p ⟨by dsimp only; omega, ⟨hk, hT.1, hT.2⟩, c175, y186.2.2⟩)) (flw1 (by rw [c1]; decide)) (by repeat' (first | assumption | exact FW.rf | refine FW.up ?_ (by unfold wS; omega) | (refine FW.tr ?_ (by assumption)))) (by (try simp (disch := decide) only [upI_eq, upI_a, upI_i, upR_eq, upR_a, upR_i]); try assumption) (by (try simp (disch := decide) only [upI_eq, upI_a, upI_i, upR_eq, upR_a, upR_i]); try assumption) (by simp (disch := decide) only [scX, upI_eq, upI_a, upI_i, upR_eq, upR_a, upR_i, upI_ro, upI_rw, ht, E1, E2, E3, E4, E5, E6, E7]; rfl)) | (exact nob _ (fun h => h.2.2.1 c175) (by repeat' (first | assumption | exact FW.rf | refine FW.up ?_ (by unfold wS; omega) | (refine FW.tr ?_ (by assumption)))) (by (try simp (disch := decide) only [upI_eq, upI_a, upI_i, upR_eq, upR_a, upR_i]); try assumption)) | (exact nob _ (fun h => by rcases x186 with h9 | h9; omega; exact h9 ⟨by omega, h.2.2.2⟩) (by repeat' (first | assumption | exact FW.rf | refine FW.up ?_ (by unfold wS; omega) | (refine FW.tr ?_ (by assumption)))) (by (try simp (disch := decide) only [upI_eq, upI_a, upI_i, upR_eq, upR_a, upR_i]); try assumption))
                        · skip
                          refine s260_136.mpr (wif (fun c136 => ?_) (fun c136 => ?_))
                          · first
                            | (exfalso; omega)
                            | skip
                              exfalso; omega
                          · first
                            | (exfalso; omega)
                            | skip
                              refine s260_139.mpr (s260_140.mpr ?_)
                              refine (s260_144 (by omega) kM).mpr ?_
                              refine m_wants hA (by omega) (by (try simp (disch := decide) only [upI_eq, upI_a, upI_i, upR_eq, upR_a, upR_i]); first | assumption | rfl) (by omega) (fun y144 => ?_) (fun y144 => ?_)
                              · skip
                                refine s260_147.mpr ?_
                                refine (s260_148 kM).mpr ?_
                                try simp (disch := first | decide | assumption | omega) only [kon, knt_some, knt_none, Option.toList_some, Option.toList_none, List.cons_append, List.nil_append, upI_eq, upI_a, upI_i, upR_eq, upR_a, upR_i, h36, ht, E1, E2, E3, E4, E5, E6, E7, fAdd_id, fSub_id, fMul_id, e62, e63]
                                refine s260_151.mpr (wif (fun c151 => ?_) (fun c151 => ?_))
                                · first
                                  | (exfalso; omega)
                                  | skip
                                    exfalso; omega
                                · first
                                  | (exfalso; omega)
                                  | skip
                                    refine s260_155.mpr (s260_156.mpr (s260_157.mpr ?_))
                                    refine (s260_159 (by omega)).mpr ?_
                                    refine m_stateOf (by omega) ⟨hm0, hm1⟩ hr9 ?_
                                    refine s260_162.mpr (s260_163.mpr (s260_164.mpr (s260_165.mpr (s260_167.mpr ((s260_168 kM).mpr ?_)))))
                                    rw [mr_14 hR]
                                    refine s260_171.mpr ?_
                                    try simp (disch := first | decide | assumption | omega) only [kon, knt_some, knt_none, Option.toList_some, Option.toList_none, List.cons_append, List.nil_append, upI_eq, upI_a, upI_i, upR_eq, upR_a, upR_i, h36, ht, E1, E2, E3, E4, E5, E6, E7, fAdd_id, fSub_id, fMul_id, e62, e63]
                                    refine (s260_173 (hA.k (by decide) (by decide) rfl) (by first | assumption | omega) (by first | assumption | omega)).mpr ?_
                                    refine s260_174.mpr ?_
                                    try simp (disch := first | decide | assumption | omega) only [kon, knt_some, knt_none, Option.toList_some, Option.toList_none, List.cons_append, List.nil_append, upI_eq, upI_a, upI_i, upR_eq, upR_a, upR_i, h36, ht, E1, E2, E3, E4, E5, E6, E7, fAdd_id, fSub_id, fMul_id, e62, e63]
                                    refine s260_175.mpr (wif (fun c175 => ?_) (fun c175 => ?_))
                                    · first
                                      | (exfalso; omega)
                                      | skip
                                        refine s260_189.mpr (s260_190.mpr ?_)
                                        refine (s260_191 kM).mpr ?_
                                        refine s260_194.mpr (s260_195.mpr (s260_196.mpr ?_))
                                        try simp (disch := first | decide | assumption | omega) only [kon, knt_some, knt_none, Option.toList_some, Option.toList_none, List.cons_append, List.nil_append, upI_eq, upI_a, upI_i, upR_eq, upR_a, upR_i, h36, ht, E1, E2, E3, E4, E5, E6, E7, fAdd_id, fSub_id, fMul_id, e62, e63]
                                        refine s260_197.mpr (wif (fun c197 => ?_) (fun c197 => ?_))
                                        · first
                                          | (exfalso; omega)
                                          | skip
                                            refine s260_200.mpr (s260_201.mpr ?_)
                                            refine (s260_205 (by omega) kM).mpr ?_
                                            refine m_wants hA (by omega) (by (try simp (disch := decide) only [upI_eq, upI_a, upI_i, upR_eq, upR_a, upR_i]); first | assumption | rfl) (by omega) (fun y205 => ?_) (fun y205 => ?_)
                                            · skip
                                              refine s260_208.mpr ?_
                                              refine (s260_209 kM).mpr ?_
                                              try simp (disch := first | decide | assumption | omega) only [kon, knt_some, knt_none, Option.toList_some, Option.toList_none, List.cons_append, List.nil_append, upI_eq, upI_a, upI_i, upR_eq, upR_a, upR_i, h36, ht, E1, E2, E3, E4, E5, E6, E7, fAdd_id, fSub_id, fMul_id, e62, e63]
                                              refine s260_212.mpr (wif (fun c212 => ?_) (fun c212 => ?_))
                                              · first
                                                | (exfalso; omega)
                                                | skip
                                                  refine (s260_215).mpr ?_
                                                  first | (exfalso; omega) | (exact ok _ _ _ ((tsL_37b c1 hb).trans (onw_p ⟨by dsimp only; omega, ⟨hk, hT.1, hT.2⟩, c175, y186.2.2⟩)) (flw1 (by rw [c1]; decide)) (by repeat' (first | assumption | exact FW.rf | refine FW.up ?_ (by unfold wS; omega) | (refine FW.tr ?_ (by assumption)))) (by (try simp (disch := decide) only [upI_eq, upI_a, upI_i, upR_eq, upR_a, upR_i]); try assumption) (by (try simp (disch := decide) only [upI_eq, upI_a, upI_i, upR_eq, upR_a, upR_i]); try assumption) (by simp (disch := decide) only [scX, upI_eq, upI_a, upI_i, upR_eq, upR_a, upR_i, upI_ro, upI_rw, ht, E1, E2, E3, E4, E5, E6, E7]; rfl)) | (exact nob _ (fun h => h.2.2.1 c175) (by repeat' (first | assumption | exact FW.rf | refine FW.up ?_ (by unfold wS; omega) | (refine FW.tr ?_ (by assumption)))) (by (try simp (disch := decide) only [upI_eq, upI_a, upI_i, upR_eq, upR_a, upR_i]); try assumption)) | (exact nob _ (fun h => by rcases x186 with h9 | h9; omega; exact h9 ⟨by omega, h.2.2.2⟩) (by repeat' (first | assumption | exact FW.rf | refine FW.up ?_ (by unfold wS; omega) | (refine FW.tr ?_ (by assumption)))) (by (try simp (disch := decide) only [upI_eq, upI_a, upI_i, upR_eq, upR_a, upR_i]); try assumption))
                                              · first
                                                | (exfalso; omega)
                                                | skip
                                                  refine s260_216.mpr ((s260_217 kM).mpr ?_)
                                                  rw [mr_33 hR]
                                                  refine s260_220.mpr (s260_221.mpr (s260_223.mpr ((s260_224 kM).mpr ?_)))
                                                  rw [mr_15 hR]
                                                  refine s260_227.mpr ?_
                                                  refine (s260_229 (hA.k (by decide) (by decide) rfl) (by first | assumption | omega) (by first | assumption | omega)).mpr ?_
                                                  try simp (disch := first | decide | assumption | omega) only [kon, knt_some, knt_none, Option.toList_some, Option.toList_none, List.cons_append, List.nil_append, upI_eq, upI_a, upI_i, upR_eq, upR_a, upR_i, h36, ht, E1, E2, E3, E4, E5, E6, E7, fAdd_id, fSub_id, fMul_id, e62, e63]
                                                  refine (s260_230 (by omega)).mpr ?_
                                                  refine m_inState ⟨v1, v2⟩ eth ?_
                                                  refine (s260_233 (hA.k (by decide) (by decide) rfl) (by first | assumption | omega) (by first | assumption | omega)).mpr ?_
                                                  try simp (disch := first | decide | assumption | omega) only [kon, knt_some, knt_none, Option.toList_some, Option.toList_none, List.cons_append, List.nil_append, upI_eq, upI_a, upI_i, upR_eq, upR_a, upR_i, h36, ht, E1, E2, E3, E4, E5, E6, E7, fAdd_id, fSub_id, fMul_id, e62, e63]
                                                  refine (s260_234).mpr ?_
                                                  first | (exfalso; omega) | (exact ok _ _ _ ((tsL_37b c1 hb).trans (onw_p ⟨by dsimp only; omega, ⟨hk, hT.1, hT.2⟩, c175, y186.2.2⟩)) (flw1 (by rw [c1]; decide)) (by repeat' (first | assumption | exact FW.rf | refine FW.up ?_ (by unfold wS; omega) | (refine FW.tr ?_ (by assumption)))) (by (try simp (disch := decide) only [upI_eq, upI_a, upI_i, upR_eq, upR_a, upR_i]); try assumption) (by (try simp (disch := decide) only [upI_eq, upI_a, upI_i, upR_eq, upR_a, upR_i]); try assumption) (by simp (disch := decide) only [scX, upI_eq, upI_a, upI_i, upR_eq, upR_a, upR_i, upI_ro, upI_rw, ht, E1, E2, E3, E4, E5, E6, E7]; rfl)) | (exact nob _ (fun h => h.2.2.1 c175) (by repeat' (first | assumption | exact FW.rf | refine FW.up ?_ (by unfold wS; omega) | (refine FW.tr ?_ (by assumption)))) (by (try simp (disch := decide) only [upI_eq, upI_a, upI_i, upR_eq, upR_a, upR_i]); try assumption)) | (exact nob _ (fun h => by rcases x186 with h9 | h9; omega; exact h9 ⟨by omega, h.2.2.2⟩) (by repeat' (first | assumption | exact FW.rf | refine FW.up ?_ (by unfold wS; omega) | (refine FW.tr ?_ (by assumption)))) (by (try simp (disch := decide) only [upI_eq, upI_a, upI_i, upR_eq, upR_a, upR_i]); try assumption))
                                            · skip
                                              refine s260_208.mpr ?_
                                              refine (s260_209 kM).mpr ?_
                                              try simp (disch := first | decide | assumption | omega) only [kon, knt_some, knt_none, Option.toList_some, Option.toList_none, List.cons_append, List.nil_append, upI_eq, upI_a, upI_i, upR_eq, upR_a, upR_i, h36, ht, E1, E2, E3, E4, E5, E6, E7, fAdd_id, fSub_id, fMul_id, e62, e63]
                                              refine s260_212.mpr (wif (fun c212 => ?_) (fun c212 => ?_))
                                              · first
                                                | (exfalso; omega)
                                                | skip
                                                  refine (s260_215).mpr ?_
                                                  first | (exfalso; omega) | (exact ok _ _ _ ((tsL_37b c1 hb).trans (onw_p ⟨by dsimp only; omega, ⟨hk, hT.1, hT.2⟩, c175, y186.2.2⟩)) (flw1 (by rw [c1]; decide)) (by repeat' (first | assumption | exact FW.rf | refine FW.up ?_ (by unfold wS; omega) | (refine FW.tr ?_ (by assumption)))) (by (try simp (disch := decide) only [upI_eq, upI_a, upI_i, upR_eq, upR_a, upR_i]); try assumption) (by (try simp (disch := decide) only [upI_eq, upI_a, upI_i, upR_eq, upR_a, upR_i]); try assumption) (by simp (disch := decide) only [scX, upI_eq, upI_a, upI_i, upR_eq, upR_a, upR_i, upI_ro, upI_rw, ht, E1, E2, E3, E4, E5, E6, E7]; rfl)) | (exact nob _ (fun h => h.2.2.1 c175) (by repeat' (first | assumption | exact FW.rf | refine FW.up ?_ (by unfold wS; omega) | (refine FW.tr ?_ (by assumption)))) (by (try simp (disch := decide) only [upI_eq, upI_a, upI_i, upR_eq, upR_a, upR_i]); try assumption)) | (exact nob _ (fun h => by rcases x186 with h9 | h9; omega; exact h9 ⟨by omega, h.2.2.2⟩) (by repeat' (first | assumption | exact FW.rf | refine FW.up ?_ (by unfold wS; omega) | (refine FW.tr ?_ (by assumption)))) (by (try simp (disch := decide) only [upI_eq, upI_a, upI_i, upR_eq, upR_a, upR_i]); try assumption))
                                              · first
                                                | (exfalso; omega)
                                                | skip
                                                  refine s260_216.mpr ((s260_217 kM).mpr ?_)
                                                  rw [mr_33 hR]
                                                  refine s260_220.mpr (s260_221.mpr (s260_223.mpr ((s260_224 kM).mpr ?_)))
                                                  rw [mr_15 hR]
                                                  refine s260_227.mpr ?_
                                                  refine (s260_229 (hA.k (by decide) (by decide) rfl) (by first | assumption | omega) (by first | assumption | omega)).mpr ?_
                                                  try simp (disch := first | decide | assumption | omega) only [kon, knt_some, knt_none, Option.toList_some, Option.toList_none, List.cons_append, List.nil_append, upI_eq, upI_a, upI_i, upR_eq, upR_a, upR_i, h36, ht, E1, E2, E3, E4, E5, E6, E7, fAdd_id, fSub_id, fMul_id, e62, e63]
                                                  refine (s260_230 (by omega)).mpr ?_
                                                  refine m_inState ⟨v1, v2⟩ eth ?_
                                                  refine (s260_233 (hA.k (by decide) (by decide) rfl) (by first | assumption | omega) (by first | assumption | omega)).mpr ?_
                                                  try simp (disch := first | decide | assumption | omega) only [kon, knt_some, knt_none, Option.toList_some, Option.toList_none, List.cons_append, List.nil_append, upI_eq, upI_a, upI_i, upR_eq, upR_a, upR_i, h36, ht, E1, E2, E3, E4, E5, E6, E7, fAdd_id, fSub_id, fMul_id, e62, e63]
                                                  refine (s260_234).mpr ?_
                                                  first | (exfalso; omega) | (exact ok _ _ _ ((tsL_37b c1 hb).trans (onw_p ⟨by dsimp only; omega, ⟨hk, hT.1, hT.2⟩, c175, y186.2.2⟩)) (flw1 (by rw [c1]; decide)) (by repeat' (first | assumption | exact FW.rf | refine FW.up ?_ (by unfold wS; omega) | (refine FW.tr ?_ (by assumption)))) (by (try simp (disch := decide) only [upI_eq, upI_a, upI_i, upR_eq, upR_a, upR_i]); try assumption) (by (try simp (disch := decide) only [upI_eq, upI_a, upI_i, upR_eq, upR_a, upR_i]); try assumption) (by simp (disch := decide) only [scX, upI_eq, upI_a, upI_i, upR_eq, upR_a, upR_i, upI_ro, upI_rw, ht, E1, E2, E3, E4, E5, E6, E7]; rfl)) | (exact nob _ (fun h => h.2.2.1 c175) (by repeat' (first | assumption | exact FW.rf | refine FW.up ?_ (by unfold wS; omega) | (refine FW.tr ?_ (by assumption)))) (by (try simp (disch := decide) only [upI_eq, upI_a, upI_i, upR_eq, upR_a, upR_i]); try assumption)) | (exact nob _ (fun h => by rcases x186 with h9 | h9; omega; exact h9 ⟨by omega, h.2.2.2⟩) (by repeat' (first | assumption | exact FW.rf | refine FW.up ?_ (by unfold wS; omega) | (refine FW.tr ?_ (by assumption)))) (by (try simp (disch := decide) only [upI_eq, upI_a, upI_i, upR_eq, upR_a, upR_i]); try assumption))
                                        · first
                                          | (exfalso; omega)
                                          | skip
                                            refine s260_204.mpr ?_
                                            refine (s260_205 (by omega) kM).mpr ?_
                                            refine m_wants hA (by omega) (by (try simp (disch := decide) only [upI_eq, upI_a, upI_i, upR_eq, upR_a, upR_i]); first | assumption | rfl) (by omega) (fun y205 => ?_) (fun y205 => ?_)
                                            · skip
                                              refine s260_208.mpr ?_
                                              refine (s260_209 kM).mpr ?_
                                              try simp (disch := first | decide | assumption | omega) only [kon, knt_some, knt_none, Option.toList_some, Option.toList_none, List.cons_append, List.nil_append, upI_eq, upI_a, upI_i, upR_eq, upR_a, upR_i, h36, ht, E1, E2, E3, E4, E5, E6, E7, fAdd_id, fSub_id, fMul_id, e62, e63]
                                              refine s260_212.mpr (wif (fun c212 => ?_) (fun c212 => ?_))
                                              · first
                                                | (exfalso; omega)
                                                | skip
                                                  refine (s260_215).mpr ?_
                                                  first | (exfalso; omega) | (exact ok _ _ _ ((tsL_37b c1 hb).trans (onw_p ⟨by dsimp only; omega, ⟨hk, hT.1, hT.2⟩, c175, y186.2.2⟩)) (flw1 (by rw [c1]; decide)) (by repeat' (first | assumption | exact FW.rf | refine FW.up ?_ (by unfold wS; omega) | (refine FW.tr ?_ (by assumption)))) (by (try simp (disch := decide) only [upI_eq, upI_a, upI_i, upR_eq, upR_a, upR_i]); try assumption) (by (try simp (disch := decide) only [upI_eq, upI_a, upI_i, upR_eq, upR_a, upR_i]); try assumption) (by simp (disch := decide) only [scX, upI_eq, upI_a, upI_i, upR_eq, upR_a, upR_i, upI_ro, upI_rw, ht, E1, E2, E3, E4, E5, E6, E7]; rfl)) | (exact nob _ (fun h => h.2.2.1 c175) (by repeat' (first | assumption | exact FW.rf | refine FW.up ?_ (by unfold wS; omega) | (refine FW.tr ?_ (by assumption)))) (by (try simp (disch := decide) only [upI_eq, upI_a, upI_i, upR_eq, upR_a, upR_i]); try assumption)) | (exact nob _ (fun h => by rcases x186 with h9 | h9; omega; exact h9 ⟨by omega, h.2.2.2⟩) (by repeat' (first | assumption | exact FW.rf | refine FW.up ?_ (by unfold wS; omega) | (refine FW.tr ?_ (by assumption)))) (by (try simp (disch := decide) only [upI_eq, upI_a, upI_i, upR_eq, upR_a, upR_i]); try assumption))
                                              · first
                                                | (exfalso; omega)
                                                | skip
                                                  refine s260_216.mpr ((s260_217 kM).mpr ?_)
                                                  rw [mr_33 hR]
                                                  refine s260_220.mpr (s260_221.mpr (s260_223.mpr ((s260_224 kM).mpr ?_)))
                                                  rw [mr_15 hR]
                                                  refine s260_227.mpr ?_
                                                  refine (s260_229 (hA.k (by decide) (by decide) rfl) (by first | assumption | omega) (by first | assumption | omega)).mpr ?_
                                                  try simp (disch := first | decide | assumption | omega) only [kon, knt_some, knt_none, Option.toList_some, Option.toList_none, List.cons_append, List.nil_append, upI_eq, upI_a, upI_i, upR_eq, upR_a, upR_i, h36, ht, E1, E2, E3, E4, E5, E6, E7, fAdd_id, fSub_id, fMul_id, e62, e63]
                                                  refine (s260_230 (by omega)).mpr ?_
                                                  refine m_inState ⟨v1, v2⟩ eth ?_
                                                  refine (s260_233 (hA.k (by decide) (by decide) rfl) (by first | assumption | omega) (by first | assumption | omega)).mpr ?_
                                                  try simp (disch := first | decide | assumption | omega) only [kon, knt_some, knt_none, Option.toList_some, Option.toList_none, List.cons_append, List.nil_append, upI_eq, upI_a, upI_i, upR_eq, upR_a, upR_i, h36, ht, E1, E2, E3, E4, E5, E6, E7, fAdd_id, fSub_id, fMul_id, e62, e63]
                                                  refine (s260_234).mpr ?_
                                                  first | (exfalso; omega) | (exact ok _ _ _ ((tsL_37b c1 hb).trans (onw_p ⟨by dsimp only; omega, ⟨hk, hT.1, hT.2⟩, c175, y186.2.2⟩)) (flw1 (by rw [c1]; decide)) (by repeat' (first | assumption | exact FW.rf | refine FW.up ?_ (by unfold wS; omega) | (refine FW.tr ?_ (by assumption)))) (by (try simp (disch := decide) only [upI_eq, upI_a, upI_i, upR_eq, upR_a, upR_i]); try assumption) (by (try simp (disch := decide) only [upI_eq, upI_a, upI_i, upR_eq, upR_a, upR_i]); try assumption) (by simp (disch := decide) only [scX, upI_eq, upI_a, upI_i, upR_eq, upR_a, upR_i, upI_ro, upI_rw, ht, E1, E2, E3, E4, E5, E6, E7]; rfl)) | (exact nob _ (fun h => h.2.2.1 c175) (by repeat' (first | assumption | exact FW.rf | refine FW.up ?_ (by unfold wS; omega) | (refine FW.tr ?_ (by assumption)))) (by (try simp (disch := decide) only [upI_eq, upI_a, upI_i, upR_eq, upR_a, upR_i]); try assumption)) | (exact nob _ (fun h => by rcases x186 with h9 | h9; omega; exact h9 ⟨by omega, h.2.2.2⟩) (by repeat' (first | assumption | exact FW.rf | refine FW.up ?_ (by unfold wS; omega) | (refine FW.tr ?_ (by assumption)))) (by (try simp (disch := decide) only [upI_eq, upI_a, upI_i, upR_eq, upR_a, upR_i]); try assumption))
                                            · skip
                                              refine s260_208.mpr ?_
                                              refine (s260_209 kM).mpr ?_
                                              try simp (disch := first | decide | assumption | omega) only [kon, knt_some, knt_none, Option.toList_some, Option.toList_none, List.cons_append, List.nil_append, upI_eq, upI_a, upI_i, upR_eq, upR_a, upR_i, h36, ht, E1, E2, E3, E4, E5, E6, E7, fAdd_id, fSub_id, fMul_id, e62, e63]
                                              refine s260_212.mpr (wif (fun c212 => ?_) (fun c212 => ?_))
                                              · first
                                                | (exfalso; omega)
                                                | skip
                                                  refine (s260_215).mpr ?_
                                                  first | (exfalso; omega) | (exact ok _ _ _ ((tsL_37b c1 hb).trans (onw_p ⟨by dsimp only; omega, ⟨hk, hT.1, hT.2⟩, c175, y186.2.2⟩)) (flw1 (by rw [c1]; decide)) (by repeat' (first | assumption | exact FW.rf | refine FW.up ?_ (by unfold wS; omega) | (refine FW.tr ?_ (by assumption)))) (by (try simp (disch := decide) only [upI_eq, upI_a, upI_i, upR_eq, upR_a, upR_i]); try assumption) (by (try simp (disch := decide) only [upI_eq, upI_a, upI_i, upR_eq, upR_a, upR_i]); try assumption) (by simp (disch := decide) only [scX, upI_eq, upI_a, upI_i, upR_eq, upR_a, upR_i, upI_ro, upI_rw, ht, E1, E2, E3, E4, E5, E6, E7]; rfl)) | (exact nob _ (fun h => h.2.2.1 c175) (by repeat' (first | assumption | exact FW.rf | refine FW.up ?_ (by unfold wS; omega) | (refine FW.tr ?_ (by assumption)))) (by (try simp (disch := decide) only [upI_eq, upI_a, upI_i, upR_eq, upR_a, upR_i]); try assumption)) | (exact nob _ (fun h => by rcases x186 with h9 | h9; omega; exact h9 ⟨by omega, h.2.2.2⟩) (by repeat' (first | assumption | exact FW.rf | refine FW.up ?_ (by unfold wS; omega) | (refine FW.tr ?_ (by assumption)))) (by (try simp (disch := decide) only [upI_eq, upI_a, upI_i, upR_eq, upR_a, upR_i]); try assumption))
                                              · first
                                                | (exfalso; omega)
                                                | skip
                                                  refine s260_216.mpr ((s260_217 kM).mpr ?_)
                                                  rw [mr_33 hR]
                                                  refine s260_220.mpr (s260_221.mpr (s260_223.mpr ((s260_224 kM).mpr ?_)))
                                                  rw [mr_15 hR]
                                                  refine s260_227.mpr ?_
                                                  refine (s260_229 (hA.k (by decide) (by decide) rfl) (by first | assumption | omega) (by first | assumption | omega)).mpr ?_
                                                  try simp (disch := first | decide | assumption | omega) only [kon, knt_some, knt_none, Option.toList_some, Option.toList_none, List.cons_append, List.nil_append, upI_eq, upI_a, upI_i, upR_eq, upR_a, upR_i, h36, ht, E1, E2, E3, E4, E5, E6, E7, fAdd_id, fSub_id, fMul_id, e62, e63]
                                                  refine (s260_230 (by omega)).mpr ?_
                                                  refine m_inState ⟨v1, v2⟩ eth ?_
                                                  refine (s260_233 (hA.k (by decide) (by decide) rfl) (by first | assumption | omega) (by first | assumption | omega)).mpr ?_
                                                  try simp (disch := first | decide | assumption | omega) only [kon, knt_some, knt_none, Option.toList_some, Option.toList_none, List.cons_append, List.nil_append, upI_eq, upI_a, upI_i, upR_eq, upR_a, upR_i, h36, ht, E1, E2, E3, E4, E5, E6, E7, fAdd_id, fSub_id, fMul_id, e62, e63]
                                                  refine (s260_234).mpr ?_
                                                  first | (exfalso; omega) | (exact ok _ _ _ ((tsL_37b c1 hb).trans (onw_p ⟨by dsimp only; omega, ⟨hk, hT.1, hT.2⟩, c175, y186.2.2⟩)) (flw1 (by rw [c1]; decide)) (by repeat' (first | assumption | exact FW.rf | refine FW.up ?_ (by unfold wS; omega) | (refine FW.tr ?_ (by assumption)))) (by (try simp (disch := decide) only [upI_eq, upI_a, upI_i, upR_eq, upR_a, upR_i]); try assumption) (by (try simp (disch := decide) only [upI_eq, upI_a, upI_i, upR_eq, upR_a, upR_i]); try assumption) (by simp (disch := decide) only [scX, upI_eq, upI_a, upI_i, upR_eq, upR_a, upR_i, upI_ro, upI_rw, ht, E1, E2, E3, E4, E5, E6, E7]; rfl)) | (exact nob _ (fun h => h.2.2.1 c175) (by repeat' (first | assumption | exact FW.rf | refine FW.up ?_ (by unfold wS; omega) | (refine FW.tr ?_ (by assumption)))) (by (try simp (disch := decide) only [upI_eq, upI_a, upI_i, upR_eq, upR_a, upR_i]); try assumption)) | (exact nob _ (fun h => by rcases x186 with h9 | h9; omega; exact h9 ⟨by omega, h.2.2.2⟩) (by repeat' (first | assumption | exact FW.rf | refine FW.up ?_ (by unfold wS; omega) | (refine FW.tr ?_ (by assumption)))) (by (try simp (disch := decide) only [upI_eq, upI_a, upI_i, upR_eq, upR_a, upR_i]); try assumption))
                                    · first
                                      | (exfalso; omega)
                                      | skip
                                        refine s260_178.mpr (s260_179.mpr ((s260_180 kM).mpr ?_))
                                        rw [mr_14 hR]
                                        refine s260_183.mpr ?_
                                        refine (s260_185 (hA.k (by decide) (by decide) rfl) (by first | assumption | omega) (by first | assumption | omega)).mpr ?_
                                        try simp (disch := first | decide | assumption | omega) only [kon, knt_some, knt_none, Option.toList_some, Option.toList_none, List.cons_append, List.nil_append, upI_eq, upI_a, upI_i, upR_eq, upR_a, upR_i, h36, ht, E1, E2, E3, E4, E5, E6, E7, fAdd_id, fSub_id, fMul_id, e62, e63]
                                        refine (s260_186 (by omega) kM).mpr ?_
                                        refine m_popFor hA hR (by omega) (by (try simp (disch := decide) only [upI_eq, upI_a, upI_i, upR_eq, upR_a, upR_i]); first | assumption | rfl) (by omega) (by (try simp (disch := decide) only [upI_eq, upI_a, upI_i, upR_eq, upR_a, upR_i]); first | assumption | rfl) (by omega) (fun y186 => ?_) (fun hi186 t186 w186 z186 u186 v186 x186 => ?_)
                                        · skip
                                          try simp (disch := decide) only [upI_eq, upI_a, upI_i, upR_eq, upR_a, upR_i, E1, E4] at y186
                                          try simp (disch := decide) only [upI_eq, upI_a, upI_i, upR_eq, upR_a, upR_i, E1, E4] at x186
                                          refine s260_189.mpr (s260_190.mpr ?_)
                                          refine (s260_191 kM).mpr ?_
                                          refine s260_194.mpr (s260_195.mpr (s260_196.mpr ?_))
                                          try simp (disch := first | decide | assumption | omega) only [kon, knt_some, knt_none, Option.toList_some, Option.toList_none, List.cons_append, List.nil_append, upI_eq, upI_a, upI_i, upR_eq, upR_a, upR_i, h36, ht, E1, E2, E3, E4, E5, E6, E7, fAdd_id, fSub_id, fMul_id, e62, e63]
                                          refine s260_197.mpr (wif (fun c197 => ?_) (fun c197 => ?_))
                                          · first
                                            | (exfalso; omega)
                                            | skip
                                              refine s260_200.mpr (s260_201.mpr ?_)
                                              refine (s260_205 (by omega) kM).mpr ?_
                                              refine m_wants hA (by omega) (by (try simp (disch := decide) only [upI_eq, upI_a, upI_i, upR_eq, upR_a, upR_i]); first | assumption | rfl) (by omega) (fun y205 => ?_) (fun y205 => ?_)
                                              · skip
                                                refine s260_208.mpr ?_
                                                refine (s260_209 kM).mpr ?_
                                                try simp (disch := first | decide | assumption | omega) only [kon, knt_some, knt_none, Option.toList_some, Option.toList_none, List.cons_append, List.nil_append, upI_eq, upI_a, upI_i, upR_eq, upR_a, upR_i, h36, ht, E1, E2, E3, E4, E5, E6, E7, fAdd_id, fSub_id, fMul_id, e62, e63]
                                                refine s260_212.mpr (wif (fun c212 => ?_) (fun c212 => ?_))
                                                · first
                                                  | (exfalso; omega)
                                                  | skip
                                                    refine (s260_215).mpr ?_
                                                    first | (exfalso; omega) | (exact ok _ _ _ ((tsL_37b c1 hb).trans (onw_p ⟨by dsimp only; omega, ⟨hk, hT.1, hT.2⟩, c175, y186.2.2⟩)) (flw1 (by rw [c1]; decide)) (by repeat' (first | assumption | exact FW.rf | refine FW.up ?_ (by unfold wS; omega) | (refine FW.tr ?_ (by assumption)))) (by (try simp (disch := decide) only [upI_eq, upI_a, upI_i, upR_eq, upR_a, upR_i]); try assumption) (by (try simp (disch := decide) only [upI_eq, upI_a, upI_i, upR_eq, upR_a, upR_i]); try assumption) (by simp (disch := decide) only [scX, upI_eq, upI_a, upI_i, upR_eq, upR_a, upR_i, upI_ro, upI_rw, ht, E1, E2, E3, E4, E5, E6, E7]; rfl)) | (exact nob _ (fun h => h.2.2.1 c175) (by repeat' (first | assumption | exact FW.rf | refine FW.up ?_ (by unfold wS; omega) | (refine FW.tr ?_ (by assumption)))) (by (try simp (disch := decide) only [upI_eq, upI_a, upI_i, upR_eq, upR_a, upR_i]); try assumption)) | (exact nob _ (fun h => by rcases x186 with h9 | h9; omega; exact h9 ⟨by omega, h.2.2.2⟩) (by repeat' (first | assumption | exact FW.rf | refine FW.up ?_ (by unfold wS; omega) | (refine FW.tr ?_ (by assumption)))) (by (try simp (disch := decide) only [upI_eq, upI_a, upI_i, upR_eq, upR_a, upR_i]); try assumption))
                                                · first
                                                  | (exfalso; omega)
                                                  | skip
                                                    refine s260_216.mpr ((s260_217 kM).mpr ?_)
                                                    rw [mr_33 hR]
                                                    refine s260_220.mpr (s260_221.mpr (s260_223.mpr ((s260_224 kM).mpr ?_)))
                                                    rw [mr_15 hR]
                                                    refine s260_227.mpr ?_
                                                    refine (s260_229 (hA.k (by decide) (by decide) rfl) (by first | assumption | omega) (by first | assumption | omega)).mpr ?_
                                                    try simp (disch := first | decide | assumption | omega) only [kon, knt_some, knt_none, Option.toList_some, Option.toList_none, List.cons_append, List.nil_append, upI_eq, upI_a, upI_i, upR_eq, upR_a, upR_i, h36, ht, E1, E2, E3, E4, E5, E6, E7, fAdd_id, fSub_id, fMul_id, e62, e63]
                                                    refine (s260_230 (by omega)).mpr ?_
                                                    refine m_inState ⟨v1, v2⟩ eth ?_
                                                    refine (s260_233 (hA.k (by decide) (by decide) rfl) (by first | assumption | omega) (by first | assumption | omega)).mpr ?_
                                                    try simp (disch := first | decide | assumption | omega) only [kon, knt_some, knt_none, Option.toList_some, Option.toList_none, List.cons_append, List.nil_append, upI_eq, upI_a, upI_i, upR_eq, upR_a, upR_i, h36, ht, E1, E2, E3, E4, E5, E6, E7, fAdd_id, fSub_id, fMul_id, e62, e63]
                                                    refine (s260_234).mpr ?_
                                                    first | (exfalso; omega) | (exact ok _ _ _ ((tsL_37b c1 hb).trans (onw_p ⟨by dsimp only; omega, ⟨hk, hT.1, hT.2⟩, c175, y186.2.2⟩)) (flw1 (by rw [c1]; decide)) (by repeat' (first | assumption | exact FW.rf | refine FW.up ?_ (by unfold wS; omega) | (refine FW.tr ?_ (by assumption)))) (by (try simp (disch := decide) only [upI_eq, upI_a, upI_i, upR_eq, upR_a, upR_i]); try assumption) (by (try simp (disch := decide) only [upI_eq, upI_a, upI_i, upR_eq, upR_a, upR_i]); try assumption) (by simp (disch := decide) only [scX, upI_eq, upI_a, upI_i, upR_eq, upR_a, upR_i, upI_ro, upI_rw, ht, E1, E2, E3, E4, E5, E6, E7]; rfl)) | (exact nob _ (fun h => h.2.2.1 c175) (by repeat' (first | assumption | exact FW.rf | refine FW.up ?_ (by unfold wS; omega) | (refine FW.tr ?_ (by assumption)))) (by (try simp (disch := decide) only [upI_eq, upI_a, upI_i, upR_eq, upR_a, upR_i]); try assumption)) | (exact nob _ (fun h => by rcases x186 with h9 | h9; omega; exact h9 ⟨by omega, h.2.2.2⟩) (by repeat' (first | assumption | exact FW.rf | refine FW.up ?_ (by unfold wS; omega) | (refine FW.tr ?_ (by assumption)))) (by (try simp (disch := decide) only [upI_eq, upI_a, upI_i, upR_eq, upR_a, upR_i]); try assumption))
                                              · skip
                                                refine s260_208.mpr ?_
                                                refine (s260_209 kM).mpr ?_
                                                try simp (disch := first | decide | assumption | omega) only [kon, knt_some, knt_none, Option.toList_some, Option.toList_none, List.cons_append, List.nil_append, upI_eq, upI_a, upI_i, upR_eq, upR_a, upR_i, h36, ht, E1, E2, E3, E4, E5, E6, E7, fAdd_id, fSub_id, fMul_id, e62, e63]
                                                refine s260_212.mpr (wif (fun c212 => ?_) (fun c212 => ?_))
                                                · first
                                                  | (exfalso; omega)
                                                  | skip
                                                    refine (s260_215).mpr ?_
                                                    first | (exfalso; omega) | (exact ok _ _ _ ((tsL_37b c1 hb).trans (onw_p ⟨by dsimp only; omega, ⟨hk, hT.1, hT.2⟩, c175, y186.2.2⟩)) (flw1 (by rw [c1]; decide)) (by repeat' (first | assumption | exact FW.rf | refine FW.up ?_ (by unfold wS; omega) | (refine FW.tr ?_ (by assumption)))) (by (try simp (disch := decide) only [upI_eq, upI_a, upI_i, upR_eq, upR_a, upR_i]); try assumption) (by (try simp (disch := decide) only [upI_eq, upI_a, upI_i, upR_eq, upR_a, upR_i]); try assumption) (by simp (disch := decide) only [scX, upI_eq, upI_a, upI_i, upR_eq, upR_a, upR_i, upI_ro, upI_rw, ht, E1, E2, E3, E4, E5, E6, E7]; rfl)) | (exact nob _ (fun h => h.2.2.1 c175) (by repeat' (first | assumption | exact FW.rf | refine FW.up ?_ (by unfold wS; omega) | (refine FW.tr ?_ (by assumption)))) (by (try simp (disch := decide) only [upI_eq, upI_a, upI_i, upR_eq, upR_a, upR_i]); try assumption)) | (exact nob _ (fun h => by rcases x186 with h9 | h9; omega; exact h9 ⟨by omega, h.2.2.2⟩) (by repeat' (first | assumption | exact FW.rf | refine FW.up ?_ (by unfold wS; omega) | (refine FW.tr ?_ (by assumption)))) (by (try simp (disch := decide) only [upI_eq, upI_a, upI_i, upR_eq, upR_a, upR_i]); try assumption))
                                                · first
                                                  | (exfalso; omega)
                                                  | skip
                                                    refine s260_216.mpr ((s260_217 kM).mpr ?_)
                                                    rw [mr_33 hR]
                                                    refine s260_220.mpr (s260_221.mpr (s260_223.mpr ((s260_224 kM).mpr ?_)))
                                                    rw [mr_15 hR]
                                                    refine s260_227.mpr ?_
                                                    refine (s260_229 (hA.k (by decide) (by decide) rfl) (by first | assumption | omega) (by first | assumption | omega)).mpr ?_
                                                    try simp (disch := first | decide | assumption | omega) only [kon, knt_some, knt_none, Option.toList_some, Option.toList_none, List.cons_append, List.nil_append, upI_eq, upI_a, upI_i, upR_eq, upR_a, upR_i, h36, ht, E1, E2, E3, E4, E5, E6, E7, fAdd_id, fSub_id, fMul_id, e62, e63]
                                                    refine (s260_230 (by omega)).mpr ?_
                                                    refine m_inState ⟨v1, v2⟩ eth ?_
                                                    refine (s260_233 (hA.k (by decide) (by decide) rfl) (by first | assumption | omega) (by first | assumption | omega)).mpr ?_
                                                    try simp (disch := first | decide | assumption | omega) only [kon, knt_some, knt_none, Option.toList_some, Option.toList_none, List.cons_append, List.nil_append, upI_eq, upI_a, upI_i, upR_eq, upR_a, upR_i, h36, ht, E1, E2, E3, E4, E5, E6, E7, fAdd_id, fSub_id, fMul_id, e62, e63]
                                                    refine (s260_234).mpr ?_
                                                    first | (exfalso; omega) | (exact ok _ _ _ ((tsL_37b c1 hb).trans (onw_p ⟨by dsimp only; omega, ⟨hk, hT.1, hT.2⟩, c175, y186.2.2⟩)) (flw1 (by rw [c1]; decide)) (by repeat' (first | assumption | exact FW.rf | refine FW.up ?_ (by unfold wS; omega) | (refine FW.tr ?_ (by assumption)))) (by (try simp (disch := decide) only [upI_eq, upI_a, upI_i, upR_eq, upR_a, upR_i]); try assumption) (by (try simp (disch := decide) only [upI_eq, upI_a, upI_i, upR_eq, upR_a, upR_i]); try assumption) (by simp (disch := decide) only [scX, upI_eq, upI_a, upI_i, upR_eq, upR_a, upR_i, upI_ro, upI_rw, ht, E1, E2, E3, E4, E5, E6, E7]; rfl)) | (exact nob _ (fun h => h.2.2.1 c175) (by repeat' (first | assumption | exact FW.rf | refine FW.up ?_ (by unfold wS; omega) | (refine FW.tr ?_ (by assumption)))) (by (try simp (disch := decide) only [upI_eq, upI_a, upI_i, upR_eq, upR_a, upR_i]); try assumption)) | (exact nob _ (fun h => by rcases x186 with h9 | h9; omega; exact h9 ⟨by omega, h.2.2.2⟩) (by repeat' (first | assumption | exact FW.rf | refine FW.up ?_ (by unfold wS; omega) | (refine FW.tr ?_ (by assumption)))) (by (try simp (disch := decide) only [upI_eq, upI_a, upI_i, upR_eq, upR_a, upR_i]); try assumption))
                                          · first
                                            | (exfalso; omega)
                                            | skip
                                              refine s260_204.mpr ?_
                                              refine (s260_205 (by omega) kM).mpr ?_
                                              refine m_wants hA (by omega) (by (try simp (disch := decide) only [upI_eq, upI_a, upI_i, upR_eq, upR_a, upR_i]); first | assumption | rfl) (by omega) (fun y205 => ?_) (fun y205 => ?_)
                                              · skip
                                                refine s260_208.mpr ?_
                                                refine (s260_209 kM).mpr ?_
                                                try simp (disch := first | decide | assumption | omega) only [kon, knt_some, knt_none, Option.toList_some, Option.toList_none, List.cons_append, List.nil_append, upI_eq, upI_a, upI_i, upR_eq, upR_a, upR_i, h36, ht, E1, E2, E3, E4, E5, E6, E7, fAdd_id, fSub_id, fMul_id, e62, e63]
                                                refine s260_212.mpr (wif (fun c212 => ?_) (fun c212 => ?_))
                                                · first
                                                  | (exfalso; omega)
                                                  | skip
                                                    refine (s260_215).mpr ?_
                                                    first | (exfalso; omega) | (exact ok _ _ _ ((tsL_37b c1 hb).trans (onw_p ⟨by dsimp only; omega, ⟨hk, hT.1, hT.2⟩, c175, y186.2.2⟩)) (flw1 (by rw [c1]; decide)) (by repeat' (first | assumption | exact FW.rf | refine FW.up ?_ (by unfold wS; omega) | (refine FW.tr ?_ (by assumption)))) (by (try simp (disch := decide) only [upI_eq, upI_a, upI_i, upR_eq, upR_a, upR_i]); try assumption) (by (try simp (disch := decide) only [upI_eq, upI_a, upI_i, upR_eq, upR_a, upR_i]); try assumption) (by simp (disch := decide) only [scX, upI_eq, upI_a, upI_i, upR_eq, upR_a, upR_i, upI_ro, upI_rw, ht, E1, E2, E3, E4, E5, E6, E7]; rfl)) | (exact nob _ (fun h => h.2.2.1 c175) (by repeat' (first | assumption | exact FW.rf | refine FW.up ?_ (by unfold wS; omega) | (refine FW.tr ?_ (by assumption)))) (by (try simp (disch := decide) only [upI_eq, upI_a, upI_i, upR_eq, upR_a, upR_i]); try assumption)) | (exact nob _ (fun h => by rcases x186 with h9 | h9; omega; exact h9 ⟨by omega, h.2.2.2⟩) (by repeat' (first | assumption | exact FW.rf | refine FW.up ?_ (by unfold wS; omega) | (refine FW.tr ?_ (by assumption)))) (by (try simp (disch := decide) only [upI_eq, upI_a, upI_i, upR_eq, upR_a, upR_i]); try assumption))
                                                · first
                                                  | (exfalso; omega)
                                                  | skip
                                                    refine s260_216.mpr ((s260_217 kM).mpr ?_)
                                                    rw [mr_33 hR]
                                                    refine s260_220.mpr (s260_221.mpr (s260_223.mpr ((s260_224 kM).mpr ?_)))
                                                    rw [mr_15 hR]
                                                    refine s260_227.mpr ?_
                                                    refine (s260_229 (hA.k (by decide) (by decide) rfl) (by first | assumption | omega) (by first | assumption | omega)).mpr ?_
                                                    try simp (disch := first | decide | assumption | omega) only [kon, knt_some, knt_none, Option.toList_some, Option.toList_none, List.cons_append, List.nil_append, upI_eq, upI_a, upI_i, upR_eq, upR_a, upR_i, h36, ht, E1, E2, E3, E4, E5, E6, E7, fAdd_id, fSub_id, fMul_id, e62, e63]
                                                    refine (s260_230 (by omega)).mpr ?_
                                                    refine m_inState ⟨v1, v2⟩ eth ?_
                                                    refine (s260_233 (hA.k (by decide) (by decide) rfl) (by first | assumption | omega) (by first | assumption | omega)).mpr ?_
                                                    try simp (disch := first | decide | assumption | omega) only [kon, knt_some, knt_none, Option.toList_some, Option.toList_none, List.cons_append, List.nil_append, upI_eq, upI_a, upI_i, upR_eq, upR_a, upR_i, h36, ht, E1, E2, E3, E4, E5, E6, E7, fAdd_id, fSub_id, fMul_id, e62, e63]
                                                    refine (s260_234).mpr ?_
                                                    first | (exfalso; omega) | (exact ok _ _ _ ((tsL_37b c1 hb).trans (onw_p ⟨by dsimp only; omega, ⟨hk, hT.1, hT.2⟩, c175, y186.2.2⟩)) (flw1 (by rw [c1]; decide)) (by repeat' (first | assumption | exact FW.rf | refine FW.up ?_ (by unfold wS; omega) | (refine FW.tr ?_ (by assumption)))) (by (try simp (disch := decide) only [upI_eq, upI_a, upI_i, upR_eq, upR_a, upR_i]); try assumption) (by (try simp (disch := decide) only [upI_eq, upI_a, upI_i, upR_eq, upR_a, upR_i]); try assumption) (by simp (disch := decide) only [scX, upI_eq, upI_a, upI_i, upR_eq, upR_a, upR_i, upI_ro, upI_rw, ht, E1, E2, E3, E4, E5, E6, E7]; rfl)) | (exact nob _ (fun h => h.2.2.1 c175) (by repeat' (first | assumption | exact FW.rf | refine FW.up ?_ (by unfold wS; omega) | (refine FW.tr ?_ (by assumption)))) (by (try simp (disch := decide) only [upI_eq, upI_a, upI_i, upR_eq, upR_a, upR_i]); try assumption)) | (exact nob _ (fun h => by rcases x186 with h9 | h9; omega; exact h9 ⟨by omega, h.2.2.2⟩) (by repeat' (first | assumption | exact FW.rf | refine FW.up ?_ (by unfold wS; omega) | (refine FW.tr ?_ (by assumption)))) (by (try simp (disch := decide) only [upI_eq, upI_a, upI_i, upR_eq, upR_a, upR_i]); try assumption))
                                              · skip
                                                refine s260_208.mpr ?_
                                                refine (s260_209 kM).mpr ?_
                                                try simp (disch := first | decide | assumption | omega) only [kon, knt_some, knt_none, Option.toList_some, Option.toList_none, List.cons_append, List.nil_append, upI_eq, upI_a, upI_i, upR_eq, upR_a, upR_i, h36, ht, E1, E2, E3, E4, E5, E6, E7, fAdd_id, fSub_id, fMul_id, e62, e63]
                                                refine s260_212.mpr (wif (fun c212 => ?_) (fun c212 => ?_))
                                                · first
                                                  | (exfalso; omega)
                                                  | skip
                                                    refine (s260_215).mpr ?_
                                                    first | (exfalso; omega) | (exact ok _ _ _ ((tsL_37b c1 hb).trans (onw_p ⟨by dsimp only; omega, ⟨hk, hT.1, hT.2⟩, c175, y186.2.2⟩)) (flw1 (by rw [c1]; decide)) (by repeat' (first | assumption | exact FW.rf | refine FW.up ?_ (by unfold wS; omega) | (refine FW.tr ?_ (by assumption)))) (by (try simp (disch := decide) only [upI_eq, upI_a, upI_i, upR_eq, upR_a, upR_i]); try assumption) (by (try simp (disch := decide) only [upI_eq, upI_a, upI_i, upR_eq, upR_a, upR_i]); try assumption) (by simp (disch := decide) only [scX, upI_eq, upI_a, upI_i, upR_eq, upR_a, upR_i, upI_ro, upI_rw, ht, E1, E2, E3, E4, E5, E6, E7]; rfl)) | (exact nob _ (fun h => h.2.2.1 c175) (by repeat' (first | assumption | exact FW.rf | refine FW.up ?_ (by unfold wS; omega) | (refine FW.tr ?_ (by assumption)))) (by (try simp (disch := decide) only [upI_eq, upI_a, upI_i, upR_eq, upR_a, upR_i]); try assumption)) | (exact nob _ (fun h => by rcases x186 with h9 | h9; omega; exact h9 ⟨by omega, h.2.2.2⟩) (by repeat' (first | assumption | exact FW.rf | refine FW.up ?_ (by unfold wS; omega) | (refine FW.tr ?_ (by assumption)))) (by (try simp (disch := decide) only [upI_eq, upI_a, upI_i, upR_eq, upR_a, upR_i]); try assumption))
                                                · first
                                                  | (exfalso; omega)
                                                  | skip
                                                    refine s260_216.mpr ((s260_217 kM).mpr ?_)
                                                    rw [mr_33 hR]
                                                    refine s260_220.mpr (s260_221.mpr (s260_223.mpr ((s260_224 kM).mpr ?_)))
                                                    rw [mr_15 hR]
                                                    refine s260_227.mpr ?_
                                                    refine (s260_229 (hA.k (by decide) (by decide) rfl) (by first | assumption | omega) (by first | assumption | omega)).mpr ?_
                                                    try simp (disch := first | decide | assumption | omega) only [kon, knt_some, knt_none, Option.toList_some, Option.toList_none, List.cons_append, List.nil_append, upI_eq, upI_a, upI_i, upR_eq, upR_a, upR_i, h36, ht, E1, E2, E3, E4, E5, E6, E7, fAdd_id, fSub_id, fMul_id, e62, e63]
                                                    refine (s260_230 (by omega)).mpr ?_
                                                    refine m_inState ⟨v1, v2⟩ eth ?_
                                                    refine (s260_233 (hA.k (by decide) (by decide) rfl) (by first | assumption | omega) (by first | assumption | omega)).mpr ?_
                                                    try simp (disch := first | decide | assumption | omega) only [kon, knt_some, knt_none, Option.toList_some, Option.toList_none, List.cons_append, List.nil_append, upI_eq, upI_a, upI_i, upR_eq, upR_a, upR_i, h36, ht, E1, E2, E3, E4, E5, E6, E7, fAdd_id, fSub_id, fMul_id, e62, e63]
                                                    refine (s260_234).mpr ?_
                                                    first | (exfalso; omega) | (exact ok _ _ _ ((tsL_37b c1 hb).trans (onw_p ⟨by dsimp only; omega, ⟨hk, hT.1, hT.2⟩, c175, y186.2.2⟩)) (flw1 (by rw [c1]; decide)) (by repeat' (first | assumption | exact FW.rf | refine FW.up ?_ (by unfold wS; omega) | (refine FW.tr ?_ (by assumption)))) (by (try simp (disch := decide) only [upI_eq, upI_a, upI_i, upR_eq, upR_a, upR_i]); try assumption) (by (try simp (disch := decide) only [upI_eq, upI_a, upI_i, upR_eq, upR_a, upR_i]); try assumption) (by simp (disch := decide) only [scX, upI_eq, upI_a, upI_i, upR_eq, upR_a, upR_i, upI_ro, upI_rw, ht, E1, E2, E3, E4, E5, E6, E7]; rfl)) | (exact nob _ (fun h => h.2.2.1 c175) (by repeat' (first | assumption | exact FW.rf | refine FW.up ?_ (by unfold wS; omega) | (refine FW.tr ?_ (by assumption)))) (by (try simp (disch := decide) only [upI_eq, upI_a, upI_i, upR_eq, upR_a, upR_i]); try assumption)) | (exact nob _ (fun h => by rcases x186 with h9 | h9; omega; exact h9 ⟨by omega, h.2.2.2⟩) (by repeat' (first | assumption | exact FW.rf | refine FW.up ?_ (by unfold wS; omega) | (refine FW.tr ?_ (by assumption)))) (by (try simp (disch := decide) only [upI_eq, upI_a, upI_i, upR_eq, upR_a, upR_i]); try assumption))
                                        · skip
                                          try simp (disch := decide) only [upI_eq, upI_a, upI_i, upR_eq, upR_a, upR_i, E1, E4] at y186
                                          try simp (disch := decide) only [upI_eq, upI_a, upI_i, upR_eq, upR_a, upR_i, E1, E4] at x186
                                          refine s260_189.mpr (s260_190.mpr ?_)
                                          refine (s260_191 kM).mpr ?_
                                          refine s260_194.mpr (s260_195.mpr (s260_196.mpr ?_))
                                          try simp (disch := first | decide | assumption | omega) only [kon, knt_some, knt_none, Option.toList_some, Option.toList_none, List.cons_append, List.nil_append, upI_eq, upI_a, upI_i, upR_eq, upR_a, upR_i, h36, ht, E1, E2, E3, E4, E5, E6, E7, fAdd_id, fSub_id, fMul_id, e62, e63]
                                          refine s260_197.mpr (wif (fun c197 => ?_) (fun c197 => ?_))
                                          · first
                                            | (exfalso; omega)
                                            | skip
                                              refine s260_200.mpr (s260_201.mpr ?_)
                                              refine (s260_205 (by omega) kM).mpr ?_
                                              refine m_wants hA (by omega) (by (try simp (disch := decide) only [upI_eq, upI_a, upI_i, upR_eq, upR_a, upR_i]); first | assumption | rfl) (by omega) (fun y205 => ?_) (fun y205 => ?_)
                                              · skip
                                                refine s260_208.mpr ?_
                                                refine (s260_209 kM).mpr ?_
                                                try simp (disch := first | decide | assumption | omega) only [kon, knt_some, knt_none, Option.toList_some, Option.toList_none, List.cons_append, List.nil_append, upI_eq, upI_a, upI_i, upR_eq, upR_a, upR_i, h36, ht, E1, E2, E3, E4, E5, E6, E7, fAdd_id, fSub_id, fMul_id, e62, e63]
                                                refine s260_212.mpr (wif (fun c212 => ?_) (fun c212 => ?_))
                                                · first
                                                  | (exfalso; omega)
                                                  | skip
                                                    refine (s260_215).mpr ?_
                                                    first | (exfalso; omega) | (exact ok _ _ _ ((tsL_37b c1 hb).trans (onw_p ⟨by dsimp only; omega, ⟨hk, hT.1, hT.2⟩, c175, y186.2.2⟩)) (flw1 (by rw [c1]; decide)) (by repeat' (first | assumption | exact FW.rf | refine FW.up ?_ (by unfold wS; omega) | (refine FW.tr ?_ (by assumption)))) (by (try simp (disch := decide) only [upI_eq, upI_a, upI_i, upR_eq, upR_a, upR_i]); try assumption) (by (try simp (disch := decide) only [upI_eq, upI_a, upI_i, upR_eq, upR_a, upR_i]); try assumption) (by simp (disch := decide) only [scX, upI_eq, upI_a, upI_i, upR_eq, upR_a, upR_i, upI_ro, upI_rw, ht, E1, E2, E3, E4, E5, E6, E7]; rfl)) | (exact nob _ (fun h => h.2.2.1 c175) (by repeat' (first | assumption | exact FW.rf | refine FW.up ?_ (by unfold wS; omega) | (refine FW.tr ?_ (by assumption)))) (by (try simp (disch := decide) only [upI_eq, upI_a, upI_i, upR_eq, upR_a, upR_i]); try assumption)) | (exact nob _ (fun h => by rcases x186 with h9 | h9; omega; exact h9 ⟨by omega, h.2.2.2⟩) (by repeat' (first | assumption | exact FW.rf | refine FW.up ?_ (by unfold wS; omega) | (refine FW.tr ?_ (by assumption)))) (by (try simp (disch := decide) only [upI_eq, upI_a, upI_i, upR_eq, upR_a, upR_i]); try assumption))
                                                · first
                                                  | (exfalso; omega)
                                                  | skip
                                                    refine s260_216.mpr ((s260_217 kM).mpr ?_)
                                                    rw [mr_33 hR]
                                                    refine s260_220.mpr (s260_221.mpr (s260_223.mpr ((s260_224 kM).mpr ?_)))
                                                    rw [mr_15 hR]
                                                    refine s260_227.mpr ?_
                                                    refine (s260_229 (hA.k (by decide) (by decide) rfl) (by first | assumption | omega) (by first | assumption | omega)).mpr ?_
                                                    try simp (disch := first | decide | assumption | omega) only [kon, knt_some, knt_none, Option.toList_some, Option.toList_none, List.cons_append, List.nil_append, upI_eq, upI_a, upI_i, upR_eq, upR_a, upR_i, h36, ht, E1, E2, E3, E4, E5, E6, E7, fAdd_id, fSub_id, fMul_id, e62, e63]
                                                    refine (s260_230 (by omega)).mpr ?_
                                                    refine m_inState ⟨v1, v2⟩ eth ?_
                                                    refine (s260_233 (hA.k (by decide) (by decide) rfl) (by first | assumption | omega) (by first | assumption | omega)).mpr ?_
                                                    try simp (disch := first | decide | assumption | omega) only [kon, knt_some, knt_none, Option.toList_some, Option.toList_none, List.cons_append, List.nil_append, upI_eq, upI_a, upI_i, upR_eq, upR_a, upR_i, h36, ht, E1, E2, E3, E4, E5, E6, E7, fAdd_id, fSub_id, fMul_id, e62, e63]
                                                    refine (s260_234).mpr ?_
                                                    first | (exfalso; omega) | (exact ok _ _ _ ((tsL_37b c1 hb).trans (onw_p ⟨by dsimp only; omega, ⟨hk, hT.1, hT.2⟩, c175, y186.2.2⟩)) (flw1 (by rw [c1]; decide)) (by repeat' (first | assumption | exact FW.rf | refine FW.up ?_ (by unfold wS; omega) | (refine FW.tr ?_ (by assumption)))) (by (try simp (disch := decide) only [upI_eq, upI_a, upI_i, upR_eq, upR_a, upR_i]); try assumption) (by (try simp (disch := decide) only [upI_eq, upI_a, upI_i, upR_eq, upR_a, upR_i]); try assumption) (by simp (disch := decide) only [scX, upI_eq, upI_a, upI_i, upR_eq, upR_a, upR_i, upI_ro, upI_rw, ht, E1, E2, E3, E4, E5, E6, E7]; rfl)) | (exact nob _ (fun h => h.2.2.1 c175) (by repeat' (first | assumption | exact FW.rf | refine FW.up ?_ (by unfold wS; omega) | (refine FW.tr ?_ (by assumption)))) (by (try simp (disch := decide) only [upI_eq, upI_a, upI_i, upR_eq, upR_a, upR_i]); try assumption)) | (exact nob _ (fun h => by rcases x186 with h9 | h9; omega; exact h9 ⟨by omega, h.2.2.2⟩) (by repeat' (first | assumption | exact FW.rf | refine FW.up ?_ (by unfold wS; omega) | (refine FW.tr ?_ (by assumption)))) (by (try simp (disch := decide) only [upI_eq, upI_a, upI_i, upR_eq, upR_a, upR_i]); try assumption))
                                              · skip
                                                refine s260_208.mpr ?_
                                                refine (s260_209 kM).mpr ?_
                                                try simp (disch := first | decide | assumption | omega) only [kon, knt_some, knt_none, Option.toList_some, Option.toList_none, List.cons_append, List.nil_append, upI_eq, upI_a, upI_i, upR_eq, upR_a, upR_i, h36, ht, E1, E2, E3, E4, E5, E6, E7, fAdd_id, fSub_id, fMul_id, e62, e63]
                                                refine s260_212.mpr (wif (fun c212 => ?_) (fun c212 => ?_))
                                                · first
                                                  | (exfalso; omega)
                                                  | skip
                                                    refine (s260_215).mpr ?_
                                                    first | (exfalso; omega) | (exact ok _ _ _ ((tsL_37b c1 hb).trans (onw_p ⟨by dsimp only; omega, ⟨hk, hT.1, hT.2⟩, c175, y186.2.2⟩)) (flw1 (by rw [c1]; decide)) (by repeat' (first | assumption | exact FW.rf | refine FW.up ?_ (by unfold wS; omega) | (refine FW.tr ?_ (by assumption)))) (by (try simp (disch := decide) only [upI_eq, upI_a, upI_i, upR_eq, upR_a, upR_i]); try assumption) (by (try simp (disch := decide) only [upI_eq, upI_a, upI_i, upR_eq, upR_a, upR_i]); try assumption) (by simp (disch := decide) only [scX, upI_eq, upI_a, upI_i, upR_eq, upR_a, upR_i, upI_ro, upI_rw, ht, E1, E2, E3, E4, E5, E6, E7]; rfl)) | (exact nob _ (fun h => h.2.2.1 c175) (by repeat' (first | assumption | exact FW.rf | refine FW.up ?_ (by unfold wS; omega) | (refine FW.tr ?_ (by assumption)))) (by (try simp (disch := decide) only [upI_eq, upI_a, upI_i, upR_eq, upR_a, upR_i]); try assumption)) | (exact nob _ (fun h => by rcases x186 with h9 | h9; omega; exact h9 ⟨by omega, h.2.2.2⟩) (by repeat' (first | assumption | exact FW.rf | refine FW.up ?_ (by unfold wS; omega) | (refine FW.tr ?_ (by assumption)))) (by (try simp (disch := decide) only [upI_eq, upI_a, upI_i, upR_eq, upR_a, upR_i]); try assumption))
                                                · first
                                                  | (exfalso; omega)
                                                  | skip
                                                    refine s260_216.mpr ((s260_217 kM).mpr ?_)
                                                    rw [mr_33 hR]
                                                    refine s260_220.mpr (s260_221.mpr (s260_223.mpr ((s260_224 kM).mpr ?_)))
                                                    rw [mr_15 hR]
                                                    refine s260_227.mpr ?_
                                                    refine (s260_229 (hA.k (by decide) (by decide) rfl) (by first | assumption | omega) (by first | assumption | omega)).mpr ?_
                                                    try simp (disch := first | decide | assumption | omega) only [kon, knt_some, knt_none, Option.toList_some, Option.toList_none, List.cons_append, List.nil_append, upI_eq, upI_a, upI_i, upR_eq, upR_a, upR_i, h36, ht, E1, E2, E3, E4, E5, E6, E7, fAdd_id, fSub_id, fMul_id, e62, e63]
                                                    refine (s260_230 (by omega)).mpr ?_
                                                    refine m_inState ⟨v1, v2⟩ eth ?_
                                                    refine (s260_233 (hA.k (by decide) (by decide) rfl) (by first | assumption | omega) (by first | assumption | omega)).mpr ?_
                                                    try simp (disch := first | decide | assumption | omega) only [kon, knt_some, knt_none, Option.toList_some, Option.toList_none, List.cons_append, List.nil_append, upI_eq, upI_a, upI_i, upR_eq, upR_a, upR_i, h36, ht, E1, E2, E3, E4, E5, E6, E7, fAdd_id, fSub_id, fMul_id, e62, e63]
                                                    refine (s260_234).mpr ?_
                                                    first | (exfalso; omega) | (exact ok _ _ _ ((tsL_37b c1 hb).trans (onw_p ⟨by dsimp only; omega, ⟨hk, hT.1, hT.2⟩, c175, y186.2.2⟩)) (flw1 (by rw [c1]; decide)) (by repeat' (first | assumption | exact FW.rf | refine FW.up ?_ (by unfold wS; omega) | (refine FW.tr ?_ (by assumption)))) (by (try simp (disch := decide) only [upI_eq, upI_a, upI_i, upR_eq, upR_a, upR_i]); try assumption) (by (try simp (disch := decide) only [upI_eq, upI_a, upI_i, upR_eq, upR_a, upR_i]); try assumption) (by simp (disch := decide) only [scX, upI_eq, upI_a, upI_i, upR_eq, upR_a, upR_i, upI_ro, upI_rw, ht, E1, E2, E3, E4, E5, E6, E7]; rfl)) | (exact nob _ (fun h => h.2.2.1 c175) (by repeat' (first | assumption | exact FW.rf | refine FW.up ?_ (by unfold wS; omega) | (refine FW.tr ?_ (by assumption)))) (by (try simp (disch := decide) only [upI_eq, upI_a, upI_i, upR_eq, upR_a, upR_i]); try assumption)) | (exact nob _ (fun h => by rcases x186 with h9 | h9; omega; exact h9 ⟨by omega, h.2.2.2⟩) (by repeat' (first | assumption | exact FW.rf | refine FW.up ?_ (by unfold wS; omega) | (refine FW.tr ?_ (by assumption)))) (by (try simp (disch := decide) only [upI_eq, upI_a, upI_i, upR_eq, upR_a, upR_i]); try assumption))
                                          · first
                                            | (exfalso; omega)
                                            | skip
                                              refine s260_204.mpr ?_
                                              refine (s260_205 (by omega) kM).mpr ?_
                                              refine m_wants hA (by omega) (by (try simp (disch := decide) only [upI_eq, upI_a, upI_i, upR_eq, upR_a, upR_i]); first | assumption | rfl) (by omega) (fun y205 => ?_) (fun y205 => ?_)
                                              · skip
                                                refine s260_208.mpr ?_
                                                refine (s260_209 kM).mpr ?_
                                                try simp (disch := first | decide | assumption | omega) only [kon, knt_some, knt_none, Option.toList_some, Option.toList_none, List.cons_append, List.nil_append, upI_eq, upI_a, upI_i, upR_eq, upR_a, upR_i, h36, ht, E1, E2, E3, E4, E5, E6, E7, fAdd_id, fSub_id, fMul_id, e62, e63]
                                                refine s260_212.mpr (wif (fun c212 => ?_) (fun c212 => ?_))
                                                · first
                                                  | (exfalso; omega)
                                                  | skip
                                                    refine (s260_215).mpr ?_
                                                    first | (exfalso; omega) | (exact ok _ _ _ ((tsL_37b c1 hb).trans (onw_p ⟨by dsimp only; omega, ⟨hk, hT.1, hT.2⟩, c175, y186.2.2⟩)) (flw1 (by rw [c1]; decide)) (by repeat' (first | assumption | exact FW.rf | refine FW.up ?_ (by unfold wS; omega) | (refine FW.tr ?_ (by assumption)))) (by (try simp (disch := decide) only [upI_eq, upI_a, upI_i, upR_eq, upR_a, upR_i]); try assumption) (by (try simp (disch := decide) only [upI_eq, upI_a, upI_i, upR_eq, upR_a, upR_i]); try assumption) (by simp (disch := decide) only [scX, upI_eq, upI_a, upI_i, upR_eq, upR_a, upR_i, upI_ro, upI_rw, ht, E1, E2, E3, E4, E5, E6, E7]; rfl)) | (exact nob _ (fun h => h.2.2.1 c175) (by repeat' (first | assumption | exact FW.rf | refine FW.up ?_ (by unfold wS; omega) | (refine FW.tr ?_ (by assumption)))) (by (try simp (disch := decide) only [upI_eq, upI_a, upI_i, upR_eq, upR_a, upR_i]); try assumption)) | (exact nob _ (fun h => by rcases x186 with h9 | h9; omega; exact h9 ⟨by omega, h.2.2.2⟩) (by repeat' (first | assumption | exact FW.rf | refine FW.up ?_ (by unfold wS; omega) | (refine FW.tr ?_ (by assumption)))) (by (try simp (disch := decide) only [upI_eq, upI_a, upI_i, upR_eq, upR_a, upR_i]); try assumption))
                                                · first
                                                  | (exfalso; omega)
                                                  | skip
                                                    refine s260_216.mpr ((s260_217 kM).mpr ?_)
                                                    rw [mr_33 hR]
                                                    refine s260_220.mpr (s260_221.mpr (s260_223.mpr ((s260_224 kM).mpr ?_)))
                                                    rw [mr_15 hR]
                                                    refine s260_227.mpr ?_
                                                    refine (s260_229 (hA.k (by decide) (by decide) rfl) (by first | assumption | omega) (by first | assumption | omega)).mpr ?_
                                                    try simp (disch := first | decide | assumption | omega) only [kon, knt_some, knt_none, Option.toList_some, Option.toList_none, List.cons_append, List.nil_append, upI_eq, upI_a, upI_i, upR_eq, upR_a, upR_i, h36, ht, E1, E2, E3, E4, E5, E6, E7, fAdd_id, fSub_id, fMul_id, e62, e63]
                                                    refine (s260_230 (by omega)).mpr ?_
                                                    refine m_inState ⟨v1, v2⟩ eth ?_
                                                    refine (s260_233 (hA.k (by decide) (by decide) rfl) (by first | assumption | omega) (by first | assumption | omega)).mpr ?_
                                                    try simp (disch := first | decide | assumption | omega) only [kon, knt_some, knt_none, Option.toList_some, Option.toList_none, List.cons_append, List.nil_append, upI_eq, upI_a, upI_i, upR_eq, upR_a, upR_i, h36, ht, E1, E2, E3, E4, E5, E6, E7, fAdd_id, fSub_id, fMul_id, e62, e63]
                                                    refine (s260_234).mpr ?_
                                                    first | (exfalso; omega) | (exact ok _ _ _ ((tsL_37b c1 hb).trans (onw_p ⟨by dsimp only; omega, ⟨hk, hT.1, hT.2⟩, c175, y186.2.2⟩)) (flw1 (by rw [c1]; decide)) (by repeat' (first | assumption | exact FW.rf | refine FW.up ?_ (by unfold wS; omega) | (refine FW.tr ?_ (by assumption)))) (by (try simp (disch := decide) only [upI_eq, upI_a, upI_i, upR_eq, upR_a, upR_i]); try assumption) (by (try simp (disch := decide) only [upI_eq, upI_a, upI_i, upR_eq, upR_a, upR_i]); try assumption) (by simp (disch := decide) only [scX, upI_eq, upI_a, upI_i, upR_eq, upR_a, upR_i, upI_ro, upI_rw, ht, E1, E2, E3, E4, E5, E6, E7]; rfl)) | (exact nob _ (fun h => h.2.2.1 c175) (by repeat' (first | assumption | exact FW.rf | refine FW.up ?_ (by unfold wS; omega) | (refine FW.tr ?_ (by assumption)))) (by (try simp (disch := decide) only [upI_eq, upI_a, upI_i, upR_eq, upR_a, upR_i]); try assumption)) | (exact nob _ (fun h => by rcases x186 with h9 | h9; omega; exact h9 ⟨by omega, h.2.2.2⟩) (by repeat' (first | assumption | exact FW.rf | refine FW.up ?_ (by unfold wS; omega) | (refine FW.tr ?_ (by assumption)))) (by (try simp (disch := decide) only [upI_eq, upI_a, upI_i, upR_eq, upR_a, upR_i]); try assumption))
                                              · skip
                                                refine s260_208.mpr ?_
                                                refine (s260_209 kM).mpr ?_
                                                try simp (disch := first | decide | assumption | omega) only [kon, knt_some, knt_none, Option.toList_some, Option.toList_none, List.cons_append, List.nil_append, upI_eq, upI_a, upI_i, upR_eq, upR_a, upR_i, h36, ht, E1, E2, E3, E4, E5, E6, E7, fAdd_id, fSub_id, fMul_id, e62, e63]
                                                refine s260_212.mpr (wif (fun c212 => ?_) (fun c212 => ?_))
                                                · first
                                                  | (exfalso; omega)
                                                  | skip
                                                    refine (s260_215).mpr ?_
                                                    first | (exfalso; omega) | (exact ok _ _ _ ((tsL_37b c1 hb).trans (onw_p ⟨by dsimp only; omega, ⟨hk, hT.1, hT.2⟩, c175, y186.2.2⟩)) (flw1 (by rw [c1]; decide)) (by repeat' (first | assumption | exact FW.rf | refine FW.up ?_ (by unfold wS; omega) | (refine FW.tr ?_ (by assumption)))) (by (try simp (disch := decide) only [upI_eq, upI_a, upI_i, upR_eq, upR_a, upR_i]); try assumption) (by (try simp (disch := decide) only [upI_eq, upI_a, upI_i, upR_eq, upR_a, upR_i]); try assumption) (by simp (disch := decide) only [scX, upI_eq, upI_a, upI_i, upR_eq, upR_a, upR_i, upI_ro, upI_rw, ht, E1, E2, E3, E4, E5, E6, E7]; rfl)) | (exact nob _ (fun h => h.2.2.1 c175) (by repeat' (first | assumption | exact FW.rf | refine FW.up ?_ (by unfold wS; omega) | (refine FW.tr ?_ (by assumption)))) (by (try simp (disch := decide) only [upI_eq, upI_a, upI_i, upR_eq, upR_a, upR_i]); try assumption)) | (exact nob _ (fun h => by rcases x186 with h9 | h9; omega; exact h9 ⟨by omega, h.2.2.2⟩) (by repeat' (first | assumption | exact FW.rf | refine FW.up ?_ (by unfold wS; omega) | (refine FW.tr ?_ (by assumption)))) (by (try simp (disch := decide) only [upI_eq, upI_a, upI_i, upR_eq, upR_a, upR_i]); try assumption))
                                                · first
                                                  | (exfalso; omega)
                                                  | skip
                                                    refine s260_216.mpr ((s260_217 kM).mpr ?_)
                                                    rw [mr_33 hR]
                                                    refine s260_220.mpr (s260_221.mpr (s260_223.mpr ((s260_224 kM).mpr ?_)))
                                                    rw [mr_15 hR]
                                                    refine s260_227.mpr ?_
                                                    refine (s260_229 (hA.k (by decide) (by decide) rfl) (by first | assumption | omega) (by first | assumption | omega)).mpr ?_
                                                    try simp (disch := first | decide | assumption | omega) only [kon, knt_some, knt_none, Option.toList_some, Option.toList_none, List.cons_append, List.nil_append, upI_eq, upI_a, upI_i, upR_eq, upR_a, upR_i, h36, ht, E1, E2, E3, E4, E5, E6, E7, fAdd_id, fSub_id, fMul_id, e62, e63]
                                                    refine (s260_230 (by omega)).mpr ?_
                                                    refine m_inState ⟨v1, v2⟩ eth ?_
                                                    refine (s260_233 (hA.k (by decide) (by decide) rfl) (by first | assumption | omega) (by first | assumption | omega)).mpr ?_
                                                    try simp (disch := first | decide | assumption | omega) only [kon, knt_some, knt_none, Option.toList_some, Option.toList_none, List.cons_append, List.nil_append, upI_eq, upI_a, upI_i, upR_eq, upR_a, upR_i, h36, ht, E1, E2, E3, E4, E5, E6, E7, fAdd_id, fSub_id, fMul_id, e62, e63]
                                                    refine (s260_234).mpr ?_
                                                    first | (exfalso; omega) | (exact ok _ _ _ ((tsL_37b c1 hb).trans (onw_p ⟨by dsimp only; omega, ⟨hk, hT.1, hT.2⟩, c175, y186.2.2⟩)) (flw1 (by rw [c1]; decide)) (by repeat' (first | assumption | exact FW.rf | refine FW.up ?_ (by unfold wS; omega) | (refine FW.tr ?_ (by assumption)))) (by (try simp (disch := decide) only [upI_eq, upI_a, upI_i, upR_eq, upR_a, upR_i]); try assumption) (by (try simp (disch := decide) only [upI_eq, upI_a, upI_i, upR_eq, upR_a, upR_i]); try assumption) (by simp (disch := decide) only [scX, upI_eq, upI_a, upI_i, upR_eq, upR_a, upR_i, upI_ro, upI_rw, ht, E1, E2, E3, E4, E5, E6, E7]; rfl)) | (exact nob _ (fun h => h.2.2.1 c175) (by repeat' (first | assumption | exact FW.rf | refine FW.up ?_ (by unfold wS; omega) | (refine FW.tr ?_ (by assumption)))) (by (try simp (disch := decide) only [upI_eq, upI_a, upI_i, upR_eq, upR_a, upR_i]); try assumption)) | (exact nob _ (fun h => by rcases x186 with h9 | h9; omega; exact h9 ⟨by omega, h.2.2.2⟩) (by repeat' (first | assumption | exact FW.rf | refine FW.up ?_ (by unfold wS; omega) | (refine FW.tr ?_ (by assumption)))) (by (try simp (disch := decide) only [upI_eq, upI_a, upI_i, upR_eq, upR_a, upR_i]); try assumption))
                              · skip
                                refine s260_147.mpr ?_
                                refine (s260_148 kM).mpr ?_
                                try simp (disch := first | decide | assumption | omega) only [kon, knt_some, knt_none, Option.toList_some, Option.toList_none, List.cons_append, List.nil_append, upI_eq, upI_a, upI_i, upR_eq, upR_a, upR_i, h36, ht, E1, E2, E3, E4, E5, E6, E7, fAdd_id, fSub_id, fMul_id, e62, e63]
                                refine s260_151.mpr (wif (fun c151 => ?_) (fun c151 => ?_))
                                · first
                                  | (exfalso; omega)
                                  | skip
                                    exfalso; omega
                                · first
                                  | (exfalso; omega)
                                  | skip
                                    refine s260_155.mpr (s260_156.mpr (s260_157.mpr ?_))
                                    refine (s260_159 (by omega)).mpr ?_
                                    refine m_stateOf (by omega) ⟨hm0, hm1⟩ hr9 ?_
                                    refine s260_162.mpr (s260_163.mpr (s260_164.mpr (s260_165.mpr (s260_167.mpr ((s260_168 kM).mpr ?_)))))
                                    rw [mr_14 hR]
                                    refine s260_171.mpr ?_
                                    try simp (disch := first | decide | assumption | omega) only [kon, knt_some, knt_none, Option.toList_some, Option.toList_none, List.cons_append, List.nil_append, upI_eq, upI_a, upI_i, upR_eq, upR_a, upR_i, h36, ht, E1, E2, E3, E4, E5, E6, E7, fAdd_id, fSub_id, fMul_id, e62, e63]
                                    refine (s260_173 (hA.k (by decide) (by decide) rfl) (by first | assumption | omega) (by first | assumption | omega)).mpr ?_
                                    refine s260_174.mpr ?_
                                    try simp (disch := first | decide | assumption | omega) only [kon, knt_some, knt_none, Option.toList_some, Option.toList_none, List.cons_append, List.nil_append, upI_eq, upI_a, upI_i, upR_eq, upR_a, upR_i, h36, ht, E1, E2, E3, E4, E5, E6, E7, fAdd_id, fSub_id, fMul_id, e62, e63]
                                    refine s260_175.mpr (wif (fun c175 => ?_) (fun c175 => ?_))
                                    · first
                                      | (exfalso; omega)
                                      | skip
                                        refine s260_189.mpr (s260_190.mpr ?_)
                                        refine (s260_191 kM).mpr ?_
                                        refine s260_194.mpr (s260_195.mpr (s260_196.mpr ?_))
                                        try simp (disch := first | decide | assumption | omega) only [kon, knt_some, knt_none, Option.toList_some, Option.toList_none, List.cons_append, List.nil_append, upI_eq, upI_a, upI_i, upR_eq, upR_a, upR_i, h36, ht, E1, E2, E3, E4, E5, E6, E7, fAdd_id, fSub_id, fMul_id, e62, e63]
                                        refine s260_197.mpr (wif (fun c197 => ?_) (fun c197 => ?_))
                                        · first
                                          | (exfalso; omega)
                                          | skip
                                            refine s260_200.mpr (s260_201.mpr ?_)
                                            refine (s260_205 (by omega) kM).mpr ?_
                                            refine m_wants hA (by omega) (by (try simp (disch := decide) only [upI_eq, upI_a, upI_i, upR_eq, upR_a, upR_i]); first | assumption | rfl) (by omega) (fun y205 => ?_) (fun y205 => ?_)
                                            · skip
                                              refine s260_208.mpr ?_
                                              refine (s260_209 kM).mpr ?_
                                              try simp (disch := first | decide | assumption | omega) only [kon, knt_some, knt_none, Option.toList_some, Option.toList_none, List.cons_append, List.nil_append, upI_eq, upI_a, upI_i, upR_eq, upR_a, upR_i, h36, ht, E1, E2, E3, E4, E5, E6, E7, fAdd_id, fSub_id, fMul_id, e62, e63]
                                              refine s260_212.mpr (wif (fun c212 => ?_) (fun c212 => ?_))
                                              · first
                                                | (exfalso; omega)
                                                | skip
                                                  refine (s260_215).mpr ?_
                                                  first | (exfalso; omega) | (exact ok _ _ _ ((tsL_37b c1 hb).trans (onw_p ⟨by dsimp only; omega, ⟨hk, hT.1, hT.2⟩, c175, y186.2.2⟩)) (flw1 (by rw [c1]; decide)) (by repeat' (first | assumption | exact FW.rf | refine FW.up ?_ (by unfold wS; omega) | (refine FW.tr ?_ (by assumption)))) (by (try simp (disch := decide) only [upI_eq, upI_a, upI_i, upR_eq, upR_a, upR_i]); try assumption) (by (try simp (disch := decide) only [upI_eq, upI_a, upI_i, upR_eq, upR_a, upR_i]); try assumption) (by simp (disch := decide) only [scX, upI_eq, upI_a, upI_i, upR_eq, upR_a, upR_i, upI_ro, upI_rw, ht, E1, E2, E3, E4, E5, E6, E7]; rfl)) | (exact nob _ (fun h => h.2.2.1 c175) (by repeat' (first | assumption | exact FW.rf | refine FW.up ?_ (by unfold wS; omega) | (refine FW.tr ?_ (by assumption)))) (by (try simp (disch := decide) only [upI_eq, upI_a, upI_i, upR_eq, upR_a, upR_i]); try assumption)) | (exact nob _ (fun h => by rcases x186 with h9 | h9; omega; exact h9 ⟨by omega, h.2.2.2⟩) (by repeat' (first | assumption | exact FW.rf | refine FW.up ?_ (by unfold wS; omega) | (refine FW.tr ?_ (by assumption)))) (by (try simp (disch := decide) only [upI_eq, upI_a, upI_i, upR_eq, upR_a, upR_i]); try assumption))
                                              · first
                                                | (exfalso; omega)
                                                | skip
                                                  refine s260_216.mpr ((s260_217 kM).mpr ?_)
                                                  rw [mr_33 hR]
                                                  refine s260_220.mpr (s260_221.mpr (s260_223.mpr ((s260_224 kM).mpr ?_)))
                                                  rw [mr_15 hR]
                                                  refine s260_227.mpr ?_
                                                  refine (s260_229 (hA.k (by decide) (by decide) rfl) (by first | assumption | omega) (by first | assumption | omega)).mpr ?_
                                                  try simp (disch := first | decide | assumption | omega) only [kon, knt_some, knt_none, Option.toList_some, Option.toList_none, List.cons_append, List.nil_append, upI_eq, upI_a, upI_i, upR_eq, upR_a, upR_i, h36, ht, E1, E2, E3, E4, E5, E6, E7, fAdd_id, fSub_id, fMul_id, e62, e63]
                                                  refine (s260_230 (by omega)).mpr ?_
                                                  refine m_inState ⟨v1, v2⟩ eth ?_
                                                  refine (s260_233 (hA.k (by decide) (by decide) rfl) (by first | assumption | omega) (by first | assumption | omega)).mpr ?_
                                                  try simp (disch := first | decide | assumption | omega) only [kon, knt_some, knt_none, Option.toList_some, Option.toList_none, List.cons_append, List.nil_append, upI_eq, upI_a, upI_i, upR_eq, upR_a, upR_i, h36, ht, E1, E2, E3, E4, E5, E6, E7, fAdd_id, fSub_id, fMul_id, e62, e63]
                                                  refine (s260_234).mpr ?_
                                                  first | (exfalso; omega) | (exact ok _ _ _ ((tsL_37b c1 hb).trans (onw_p ⟨by dsimp only; omega, ⟨hk, hT.1, hT.2⟩, c175, y186.2.2⟩)) (flw1 (by rw [c1]; decide)) (by repeat' (first | assumption | exact FW.rf | refine FW.up ?_ (by unfold wS; omega) | (refine FW.tr ?_ (by assumption)))) (by (try simp (disch := decide) only [upI_eq, upI_a, upI_i, upR_eq, upR_a, upR_i]); try assumption) (by (try simp (disch := decide) only [upI_eq, upI_a, upI_i, upR_eq, upR_a, upR_i]); try assumption) (by simp (disch := decide) only [scX, upI_eq, upI_a, upI_i, upR_eq, upR_a, upR_i, upI_ro, upI_rw, ht, E1, E2, E3, E4, E5, E6, E7]; rfl)) | (exact nob _ (fun h => h.2.2.1 c175) (by repeat' (first | assumption | exact FW.rf | refine FW.up ?_ (by unfold wS; omega) | (refine FW.tr ?_ (by assumption)))) (by (try simp (disch := decide) only [upI_eq, upI_a, upI_i, upR_eq, upR_a, upR_i]); try assumption)) | (exact nob _ (fun h => by rcases x186 with h9 | h9; omega; exact h9 ⟨by omega, h.2.2.2⟩) (by repeat' (first | assumption | exact FW.rf | refine FW.up ?_ (by unfold wS; omega) | (refine FW.tr ?_ (by assumption)))) (by (try simp (disch := decide) only [upI_eq, upI_a, upI_i, upR_eq, upR_a, upR_i]); try assumption))
                                            · skip
                                              refine s260_208.mpr ?_
                                              refine (s260_209 kM).mpr ?_
                                              try simp (disch := first | decide | assumption | omega) only [kon, knt_some, knt_none, Option.toList_some, Option.toList_none, List.cons_append, List.nil_append, upI_eq, upI_a, upI_i, upR_eq, upR_a, upR_i, h36, ht, E1, E2, E3, E4, E5, E6, E7, fAdd_id, fSub_id, fMul_id, e62, e63]
                                              refine s260_212.mpr (wif (fun c212 => ?_) (fun c212 => ?_))
                                              · first
                                                | (exfalso; omega)
                                                | skip
                                                  refine (s260_215).mpr ?_
                                                  first | (exfalso; omega) | (exact ok _ _ _ ((tsL_37b c1 hb).trans (onw_p ⟨by dsimp only; omega, ⟨hk, hT.1, hT.2⟩, c175, y186.2.2⟩)) (flw1 (by rw [c1]; decide)) (by repeat' (first | assumption | exact FW.rf | refine FW.up ?_ (by unfold wS; omega) | (refine FW.tr ?_ (by assumption)))) (by (try simp (disch := decide) only [upI_eq, upI_a, upI_i, upR_eq, upR_a, upR_i]); try assumption) (by (try simp (disch := decide) only [upI_eq, upI_a, upI_i, upR_eq, upR_a, upR_i]); try assumption) (by simp (disch := decide) only [scX, upI_eq, upI_a, upI_i, upR_eq, upR_a, upR_i, upI_ro, upI_rw, ht, E1, E2, E3, E4, E5, E6, E7]; rfl)) | (exact nob _ (fun h => h.2.2.1 c175) (by repeat' (first | assumption | exact FW.rf | refine FW.up ?_ (by unfold wS; omega) | (refine FW.tr ?_ (by assumption)))) (by (try simp (disch := decide) only [upI_eq, upI_a, upI_i, upR_eq, upR_a, upR_i]); try assumption)) | (exact nob _ (fun h => by rcases x186 with h9 | h9; omega; exact h9 ⟨by omega, h.2.2.2⟩) (by repeat' (first | assumption | exact FW.rf | refine FW.up ?_ (by unfold wS; omega) | (refine FW.tr ?_ (by assumption)))) (by (try simp (disch := decide) only [upI_eq, upI_a, upI_i, upR_eq, upR_a, upR_i]); try assumption))
                                              · first
                                                | (exfalso; omega)
                                                | skip
                                                  refine s260_216.mpr ((s260_217 kM).mpr ?_)
                                                  rw [mr_33 hR]
                                                  refine s260_220.mpr (s260_221.mpr (s260_223.mpr ((s260_224 kM).mpr ?_)))
                                                  rw [mr_15 hR]
                                                  refine s260_227.mpr ?_
                                                  refine (s260_229 (hA.k (by decide) (by decide) rfl) (by first | assumption | omega) (by first | assumption | omega)).mpr ?_
                                                  try simp (disch := first | decide | assumption | omega) only [kon, knt_some, knt_none, Option.toList_some, Option.toList_none, List.cons_append, List.nil_append, upI_eq, upI_a, upI_i, upR_eq, upR_a, upR_i, h36, ht, E1, E2, E3, E4, E5, E6, E7, fAdd_id, fSub_id, fMul_id, e62, e63]
                                                  refine (s260_230 (by omega)).mpr ?_
                                                  refine m_inState ⟨v1, v2⟩ eth ?_
                                                  refine (s260_233 (hA.k (by decide) (by decide) rfl) (by first | assumption | omega) (by first | assumption | omega)).mpr ?_
                                                  try simp (disch := first | decide | assumption | omega) only [kon, knt_some, knt_none, Option.toList_some, Option.toList_none, List.cons_append, List.nil_append, upI_eq, upI_a, upI_i, upR_eq, upR_a, upR_i, h36, ht, E1, E2, E3, E4, E5, E6, E7, fAdd_id, fSub_id, fMul_id, e62, e63]
                                                  refine (s260_234).mpr ?_
                                                  first | (exfalso; omega) | (exact ok _ _ _ ((tsL_37b c1 hb).trans (onw_p ⟨by dsimp only; omega, ⟨hk, hT.1, hT.2⟩, c175, y186.2.2⟩)) (flw1 (by rw [c1]; decide)) (by repeat' (first | assumption | exact FW.rf | refine FW.up ?_ (by unfold wS; omega) | (refine FW.tr ?_ (by assumption)))) (by (try simp (disch := decide) only [upI_eq, upI_a, upI_i, upR_eq, upR_a, upR_i]); try assumption) (by (try simp (disch := decide) only [upI_eq, upI_a, upI_i, upR_eq, upR_a, upR_i]); try assumption) (by simp (disch := decide) only [scX, upI_eq, upI_a, upI_i, upR_eq, upR_a, upR_i, upI_ro, upI_rw, ht, E1, E2, E3, E4, E5, E6, E7]; rfl)) | (exact nob _ (fun h => h.2.2.1 c175) (by repeat' (first | assumption | exact FW.rf | refine FW.up ?_ (by unfold wS; omega) | (refine FW.tr ?_ (by assumption)))) (by (try simp (disch := decide) only [upI_eq, upI_a, upI_i, upR_eq, upR_a, upR_i]); try assumption)) | (exact nob _ (fun h => by rcases x186 with h9 | h9; omega; exact h9 ⟨by omega, h.2.2.2⟩) (by repeat' (first | assumption | exact FW.rf | refine FW.up ?_ (by unfold wS; omega) | (refine FW.tr ?_ (by assumption)))) (by (try simp (disch := decide) only [upI_eq, upI_a, upI_i, upR_eq, upR_a, upR_i]); try assumption))
                                        · first
                                          | (exfalso; omega)
                                          | skip
                                            refine s260_204.mpr ?_
                                            refine (s260_205 (by omega) kM).mpr ?_
                                            refine m_wants hA (by omega) (by (try simp (disch := decide) only [upI_eq, upI_a, upI_i, upR_eq, upR_a, upR_i]); first | assumption | rfl) (by omega) (fun y205 => ?_) (fun y205 => ?_)
                                            · skip
                                              refine s260_208.mpr ?_
                                              refine (s260_209 kM).mpr ?_
                                              try simp (disch := first | decide | assumption | omega) only [kon, knt_some, knt_none, Option.toList_some, Option.toList_none, List.cons_append, List.nil_append, upI_eq, upI_a, upI_i, upR_eq, upR_a, upR_i, h36, ht, E1, E2, E3, E4, E5, E6, E7, fAdd_id, fSub_id, fMul_id, e62, e63]
                                              refine s260_212.mpr (wif (fun c212 => ?_) (fun c212 => ?_))
                                              · first
                                                | (exfalso; omega)
                                                | skip
                                                  refine (s260_215).mpr ?_
                                                  first | (exfalso; omega) | (exact ok _ _ _ ((tsL_37b c1 hb).trans (onw_p ⟨by dsimp only; omega, ⟨hk, hT.1, hT.2⟩, c175, y186.2.2⟩)) (flw1 (by rw [c1]; decide)) (by repeat' (first | assumption | exact FW.rf | refine FW.up ?_ (by unfold wS; omega) | (refine FW.tr ?_ (by assumption)))) (by (try simp (disch := decide) only [upI_eq, upI_a, upI_i, upR_eq, upR_a, upR_i]); try assumption) (by (try simp (disch := decide) only [upI_eq, upI_a, upI_i, upR_eq, upR_a, upR_i]); try assumption) (by simp (disch := decide) only [scX, upI_eq, upI_a, upI_i, upR_eq, upR_a, upR_i, upI_ro, upI_rw, ht, E1, E2, E3, E4, E5, E6, E7]; rfl)) | (exact nob _ (fun h => h.2.2.1 c175) (by repeat' (first | assumption | exact FW.rf | refine FW.up ?_ (by unfold wS; omega) | (refine FW.tr ?_ (by assumption)))) (by (try simp (disch := decide) only [upI_eq, upI_a, upI_i, upR_eq, upR_a, upR_i]); try assumption)) | (exact nob _ (fun h => by rcases x186 with h9 | h9; omega; exact h9 ⟨by omega, h.2.2.2⟩) (by repeat' (first | assumption | exact FW.rf | refine FW.up ?_ (by unfold wS; omega) | (refine FW.tr ?_ (by assumption)))) (by (try simp (disch := decide) only [upI_eq, upI_a, upI_i, upR_eq, upR_a, upR_i]); try assumption))
                                              · first
                                                | (exfalso; omega)
                                                | skip
                                                  refine s260_216.mpr ((s260_217 kM).mpr ?_)
                                                  rw [mr_33 hR]
                                                  refine s260_220.mpr (s260_221.mpr (s260_223.mpr ((s260_224 kM).mpr ?_)))
                                                  rw [mr_15 hR]
                                                  refine s260_227.mpr ?_
                                                  refine (s260_229 (hA.k (by decide) (by decide) rfl) (by first | assumption | omega) (by first | assumption | omega)).mpr ?_
                                                  try simp (disch := first | decide | assumption | omega) only [kon, knt_some, knt_none, Option.toList_some, Option.toList_none, List.cons_append, List.nil_append, upI_eq, upI_a, upI_i, upR_eq, upR_a, upR_i, h36, ht, E1, E2, E3, E4, E5, E6, E7, fAdd_id, fSub_id, fMul_id, e62, e63]
                                                  refine (s260_230 (by omega)).mpr ?_
                                                  refine m_inState ⟨v1, v2⟩ eth ?_
                                                  refine (s260_233 (hA.k (by decide) (by decide) rfl) (by first | assumption | omega) (by first | assumption | omega)).mpr ?_
                                                  try simp (disch := first | decide | assumption | omega) only [kon, knt_some, knt_none, Option.toList_some, Option.toList_none, List.cons_append, List.nil_append, upI_eq, upI_a, upI_i, upR_eq, upR_a, upR_i, h36, ht, E1, E2, E3, E4, E5, E6, E7, fAdd_id, fSub_id, fMul_id, e62, e63]
                                                  refine (s260_234).mpr ?_
                                                  first | (exfalso; omega) | (exact ok _ _ _ ((tsL_37b c1 hb).trans (onw_p ⟨by dsimp only; omega, ⟨hk, hT.1, hT.2⟩, c175, y186.2.2⟩)) (flw1 (by rw [c1]; decide)) (by repeat' (first | assumption | exact FW.rf | refine FW.up ?_ (by unfold wS; omega) | (refine FW.tr ?_ (by assumption)))) (by (try simp (disch := decide) only [upI_eq, upI_a, upI_i, upR_eq, upR_a, upR_i]); try assumption) (by (try simp (disch := decide) only [upI_eq, upI_a, upI_i, upR_eq, upR_a, upR_i]); try assumption) (by simp (disch := decide) only [scX, upI_eq, upI_a, upI_i, upR_eq, upR_a, upR_i, upI_ro, upI_rw, ht, E1, E2, E3, E4, E5, E6, E7]; rfl)) | (exact nob _ (fun h => h.2.2.1 c175) (by repeat' (first | assumption | exact FW.rf | refine FW.up ?_ (by unfold wS; omega) | (refine FW.tr ?_ (by assumption)))) (by (try simp (disch := decide) only [upI_eq, upI_a, upI_i, upR_eq, upR_a, upR_i]); try assumption)) | (exact nob _ (fun h => by rcases x186 with h9 | h9; omega; exact h9 ⟨by omega, h.2.2.2⟩) (by repeat' (first | assumption | exact FW.rf | refine FW.up ?_ (by unfold wS; omega) | (refine FW.tr ?_ (by assumption)))) (by (try simp (disch := decide) only [upI_eq, upI_a, upI_i, upR_eq, upR_a, upR_i]); try assumption))
                                            · skip
                                              refine s260_208.mpr ?_
                                              refine (s260_209 kM).mpr ?_
                                              try simp (disch := first | decide | assumption | omega) only [kon, knt_some, knt_none, Option.toList_some, Option.toList_none, List.cons_append, List.nil_append, upI_eq, upI_a, upI_i, upR_eq, upR_a, upR_i, h36, ht, E1, E2, E3, E4, E5, E6, E7, fAdd_id, fSub_id, fMul_id, e62, e63]
                                              refine s260_212.mpr (wif (fun c212 => ?_) (fun c212 => ?_))
                                              · first
                                                | (exfalso; omega)
                                                | skip
                                                  refine (s260_215).mpr ?_
                                                  first | (exfalso; omega) | (exact ok _ _ _ ((tsL_37b c1 hb).trans (onw_p ⟨by dsimp only; omega, ⟨hk, hT.1, hT.2⟩, c175, y186.2.2⟩)) (flw1 (by rw [c1]; decide)) (by repeat' (first | assumption | exact FW.rf | refine FW.up ?_ (by unfold wS; omega) | (refine FW.tr ?_ (by assumption)))) (by (try simp (disch := decide) only [upI_eq, upI_a, upI_i, upR_eq, upR_a, upR_i]); try assumption) (by (try simp (disch := decide) only [upI_eq, upI_a, upI_i, upR_eq, upR_a, upR_i]); try assumption) (by simp (disch := decide) only [scX, upI_eq, upI_a, upI_i, upR_eq, upR_a, upR_i, upI_ro, upI_rw, ht, E1, E2, E3, E4, E5, E6, E7]; rfl)) | (exact nob _ (fun h => h.2.2.1 c175) (by repeat' (first | assumption | exact FW.rf | refine FW.up ?_ (by unfold wS; omega) | (refine FW.tr ?_ (by assumption)))) (by (try simp (disch := decide) only [upI_eq, upI_a, upI_i, upR_eq, upR_a, upR_i]); try assumption)) | (exact nob _ (fun h => by rcases x186 with h9 | h9; omega; exact h9 ⟨by omega, h.2.2.2⟩) (by repeat' (first | assumption | exact FW.rf | refine FW.up ?_ (by unfold wS; omega) | (refine FW.tr ?_ (by assumption)))) (by (try simp (disch := decide) only [upI_eq, upI_a, upI_i, upR_eq, upR_a, upR_i]); try assumption))
                                              · first
                                                | (exfalso; omega)
                                                | skip
                                                  refine s260_216.mpr ((s260_217 kM).mpr ?_)
                                                  rw [mr_33 hR]
                                                  refine s260_220.mpr (s260_221.mpr (s260_223.mpr ((s260_224 kM).mpr ?_)))
                                                  rw [mr_15 hR]
                                                  refine s260_227.mpr ?_
                                                  refine (s260_229 (hA.k (by decide) (by decide) rfl) (by first | assumption | omega) (by first | assumption | omega)).mpr ?_
                                                  try simp (disch := first | decide | assumption | omega) only [kon, knt_some, knt_none, Option.toList_some, Option.toList_none, List.cons_append, List.nil_append, upI_eq, upI_a, upI_i, upR_eq, upR_a, upR_i, h36, ht, E1, E2, E3, E4, E5, E6, E7, fAdd_id, fSub_id, fMul_id, e62, e63]
                                                  refine (s260_230 (by omega)).mpr ?_
                                                  refine m_inState ⟨v1, v2⟩ eth ?_
                                                  refine (s260_233 (hA.k (by decide) (by decide) rfl) (by first | assumption | omega) (by first | assumption | omega)).mpr ?_
                                                  try simp (disch := first | decide | assumption | omega) only [kon, knt_some, knt_none, Option.toList_some, Option.toList_none, List.cons_append, List.nil_append, upI_eq, upI_a, upI_i, upR_eq, upR_a, upR_i, h36, ht, E1, E2, E3, E4, E5, E6, E7, fAdd_id, fSub_id, fMul_id, e62, e63]
                                                  refine (s260_234).mpr ?_
                                                  first | (exfalso; omega) | (exact ok _ _ _ ((tsL_37b c1 hb).trans (onw_p ⟨by dsimp only; omega, ⟨hk, hT.1, hT.2⟩, c175, y186.2.2⟩)) (flw1 (by rw [c1]; decide)) (by repeat' (first | assumption | exact FW.rf | refine FW.up ?_ (by unfold wS; omega) | (refine FW.tr ?_ (by assumption)))) (by (try simp (disch := decide) only [upI_eq, upI_a, upI_i, upR_eq, upR_a, upR_i]); try assumption) (by (try simp (disch := decide) only [upI_eq, upI_a, upI_i, upR_eq, upR_a, upR_i]); try assumption) (by simp (disch := decide) only [scX, upI_eq, upI_a, upI_i, upR_eq, upR_a, upR_i, upI_ro, upI_rw, ht, E1, E2, E3, E4, E5, E6, E7]; rfl)) | (exact nob _ (fun h => h.2.2.1 c175) (by repeat' (first | assumption | exact FW.rf | refine FW.up ?_ (by unfold wS; omega) | (refine FW.tr ?_ (by assumption)))) (by (try simp (disch := decide) only [upI_eq, upI_a, upI_i, upR_eq, upR_a, upR_i]); try assumption)) | (exact nob _ (fun h => by rcases x186 with h9 | h9; omega; exact h9 ⟨by omega, h.2.2.2⟩) (by repeat' (first | assumption | exact FW.rf | refine FW.up ?_ (by unfold wS; omega) | (refine FW.tr ?_ (by assumption)))) (by (try simp (disch := decide) only [upI_eq, upI_a, upI_i, upR_eq, upR_a, upR_i]); try assumption))
                                    · first
                                      | (exfalso; omega)
                                      | skip
                                        refine s260_178.mpr (s260_179.mpr ((s260_180 kM).mpr ?_))
                                        rw [mr_14 hR]
                                        refine s260_183.mpr ?_
                                        refine (s260_185 (hA.k (by decide) (by decide) rfl) (by first | assumption | omega) (by first | assumption | omega)).mpr ?_
                                        try simp (disch := first | decide | assumption | omega) only [kon, knt_some, knt_none, Option.toList_some, Option.toList_none, List.cons_append, List.nil_append, upI_eq, upI_a, upI_i, upR_eq, upR_a, upR_i, h36, ht, E1, E2, E3, E4, E5, E6, E7, fAdd_id, fSub_id, fMul_id, e62, e63]
                                        refine (s260_186 (by omega) kM).mpr ?_
                                        refine m_popFor hA hR (by omega) (by (try simp (disch := decide) only [upI_eq, upI_a, upI_i, upR_eq, upR_a, upR_i]); first | assumption | rfl) (by omega) (by (try simp (disch := decide) only [upI_eq, upI_a, upI_i, upR_eq, upR_a, upR_i]); first | assumption | rfl) (by omega) (fun y186 => ?_) (fun hi186 t186 w186 z186 u186 v186 x186 => ?_)
                                        · skip
                                          try simp (disch := decide) only [upI_eq, upI_a, upI_i, upR_eq, upR_a, upR_i, E1, E4] at y186
                                          try simp (disch := decide) only [upI_eq, upI_a, upI_i, upR_eq, upR_a, upR_i, E1, E4] at x186
                                          refine s260_189.mpr (s260_190.mpr ?_)
                                          refine (s260_191 kM).mpr ?_
                                          refine s260_194.mpr (s260_195.mpr (s260_196.mpr ?_))
                                          try simp (disch := first | decide | assumption | omega) only [kon, knt_some, knt_none, Option.toList_some, Option.toList_none, List.cons_append, List.nil_append, upI_eq, upI_a, upI_i, upR_eq, upR_a, upR_i, h36, ht, E1, E2, E3, E4, E5, E6, E7, fAdd_id, fSub_id, fMul_id, e62, e63]
                                          refine s260_197.mpr (wif (fun c197 => ?_) (fun c197 => ?_))
                                          · first
                                            | (exfalso; omega)
                                            | skip
                                              refine s260_200.mpr (s260_201.mpr ?_)
                                              refine (s260_205 (by omega) kM).mpr ?_
                                              refine m_wants hA (by omega) (by (try simp (disch := decide) only [upI_eq, upI_a, upI_i, upR_eq, upR_a, upR_i]); first | assumption | rfl) (by omega) (fun y205 => ?_) (fun y205 => ?_)
                                              · skip
                                                refine s260_208.mpr ?_
                                                refine (s260_209 kM).mpr ?_
                                                try simp (disch := first | decide | assumption | omega) only [kon, knt_some, knt_none, Option.toList_some, Option.toList_none, List.cons_append, List.nil_append, upI_eq, upI_a, upI_i, upR_eq, upR_a, upR_i, h36, ht, E1, E2, E3, E4, E5, E6, E7, fAdd_id, fSub_id, fMul_id, e62, e63]
                                                refine s260_212.mpr (wif (fun c212 => ?_) (fun c212 => ?_))
                                                · first
                                                  | (exfalso; omega)
                                                  | skip
                                                    refine (s260_215).mpr ?_
                                                    first | (exfalso; omega) | (exact ok _ _ _ ((tsL_37b c1 hb).trans (onw_p ⟨by dsimp only; omega, ⟨hk, hT.1, hT.2⟩, c175, y186.2.2⟩)) (flw1 (by rw [c1]; decide)) (by repeat' (first | assumption | exact FW.rf | refine FW.up ?_ (by unfold wS; omega) | (refine FW.tr ?_ (by assumption)))) (by (try simp (disch := decide) only [upI_eq, upI_a, upI_i, upR_eq, upR_a, upR_i]); try assumption) (by (try simp (disch := decide) only [upI_eq, upI_a, upI_i, upR_eq, upR_a, upR_i]); try assumption) (by simp (disch := decide) only [scX, upI_eq, upI_a, upI_i, upR_eq, upR_a, upR_i, upI_ro, upI_rw, ht, E1, E2, E3, E4, E5, E6, E7]; rfl)) | (exact nob _ (fun h => h.2.2.1 c175) (by repeat' (first | assumption | exact FW.rf | refine FW.up ?_ (by unfold wS; omega) | (refine FW.tr ?_ (by assumption)))) (by (try simp (disch := decide) only [upI_eq, upI_a, upI_i, upR_eq, upR_a, upR_i]); try assumption)) | (exact nob _ (fun h => by rcases x186 with h9 | h9; omega; exact h9 ⟨by omega, h.2.2.2⟩) (by repeat' (first | assumption | exact FW.rf | refine FW.up ?_ (by unfold wS; omega) | (refine FW.tr ?_ (by assumption)))) (by (try simp (disch := decide) only [upI_eq, upI_a, upI_i, upR_eq, upR_a, upR_i]); try assumption))
                                                · first
                                                  | (exfalso; omega)
                                                  | skip
                                                    refine s260_216.mpr ((s260_217 kM).mpr ?_)
                                                    rw [mr_33 hR]
                                                    refine s260_220.mpr (s260_221.mpr (s260_223.mpr ((s260_224 kM).mpr ?_)))
                                                    rw [mr_15 hR]
                                                    refine s260_227.mpr ?_
                                                    refine (s260_229 (hA.k (by decide) (by decide) rfl) (by first | assumption | omega) (by first | assumption | omega)).mpr ?_
                                                    try simp (disch := first | decide | assumption | omega) only [kon, knt_some, knt_none, Option.toList_some, Option.toList_none, List.cons_append, List.nil_append, upI_eq, upI_a, upI_i, upR_eq, upR_a, upR_i, h36, ht, E1, E2, E3, E4, E5, E6, E7, fAdd_id, fSub_id, fMul_id, e62, e63]
                                                    refine (s260_230 (by omega)).mpr ?_
                                                    refine m_inState ⟨v1, v2⟩ eth ?_
                                                    refine (s260_233 (hA.k (by decide) (by decide) rfl) (by first | assumption | omega) (by first | assumption | omega)).mpr ?_
                                                    try simp (disch := first | decide | assumption | omega) only [kon, knt_some, knt_none, Option.toList_some, Option.toList_none, List.cons_append, List.nil_append, upI_eq, upI_a, upI_i, upR_eq, upR_a, upR_i, h36, ht, E1, E2, E3, E4, E5, E6, E7, fAdd_id, fSub_id, fMul_id, e62, e63]
                                                    refine (s260_234).mpr ?_
                                                    first | (exfalso; omega) | (exact ok _ _ _ ((tsL_37b c1 hb).trans (onw_p ⟨by dsimp only; omega, ⟨hk, hT.1, hT.2⟩, c175, y186.2.2⟩)) (flw1 (by rw [c1]; decide)) (by repeat' (first | assumption | exact FW.rf | refine FW.up ?_ (by unfold wS; omega) | (refine FW.tr ?_ (by assumption)))) (by (try simp (disch := decide) only [upI_eq, upI_a, upI_i, upR_eq, upR_a, upR_i]); try assumption) (by (try simp (disch := decide) only [upI_eq, upI_a, upI_i, upR_eq, upR_a, upR_i]); try assumption) (by simp (disch := decide) only [scX, upI_eq, upI_a, upI_i, upR_eq, upR_a, upR_i, upI_ro, upI_rw, ht, E1, E2, E3, E4, E5, E6, E7]; rfl)) | (exact nob _ (fun h => h.2.2.1 c175) (by repeat' (first | assumption | exact FW.rf | refine FW.up ?_ (by unfold wS; omega) | (refine FW.tr ?_ (by assumption)))) (by (try simp (disch := decide) only [upI_eq, upI_a, upI_i, upR_eq, upR_a, upR_i]); try assumption)) | (exact nob _ (fun h => by rcases x186 with h9 | h9; omega; exact h9 ⟨by omega, h.2.2.2⟩) (by repeat' (first | assumption | exact FW.rf | refine FW.up ?_ (by unfold wS; omega) | (refine FW.tr ?_ (by assumption)))) (by (try simp (disch := decide) only [upI_eq, upI_a, upI_i, upR_eq, upR_a, upR_i]); try assumption))
                                              · skip
                                                refine s260_208.mpr ?_
                                                refine (s260_209 kM).mpr ?_
                                                try simp (disch := first | decide | assumption | omega) only [kon, knt_some, knt_none, Option.toList_some, Option.toList_none, List.cons_append, List.nil_append, upI_eq, upI_a, upI_i, upR_eq, upR_a, upR_i, h36, ht, E1, E2, E3, E4, E5, E6, E7, fAdd_id, fSub_id, fMul_id, e62, e63]
                                                refine s260_212.mpr (wif (fun c212 => ?_) (fun c212 => ?_))
                                                · first
                                                  | (exfalso; omega)
                                                  | skip
                                                    refine (s260_215).mpr ?_
                                                    first | (exfalso; omega) | (exact ok _ _ _ ((tsL_37b c1 hb).trans (onw_p ⟨by dsimp only; omega, ⟨hk, hT.1, hT.2⟩, c175, y186.2.2⟩)) (flw1 (by rw [c1]; decide)) (by repeat' (first | assumption | exact FW.rf | refine FW.up ?_ (by unfold wS; omega) | (refine FW.tr ?_ (by assumption)))) (by (try simp (disch := decide) only [upI_eq, upI_a, upI_i, upR_eq, upR_a, upR_i]); try assumption) (by (try simp (disch := decide) only [upI_eq, upI_a, upI_i, upR_eq, upR_a, upR_i]); try assumption) (by simp (disch := decide) only [scX, upI_eq, upI_a, upI_i, upR_eq, upR_a, upR_i, upI_ro, upI_rw, ht, E1, E2, E3, E4, E5, E6, E7]; rfl)) | (exact nob _ (fun h => h.2.2.1 c175) (by repeat' (first | assumption | exact FW.rf | refine FW.up ?_ (by unfold wS; omega) | (refine FW.tr ?_ (by assumption)))) (by (try simp (disch := decide) only [upI_eq, upI_a, upI_i, upR_eq, upR_a, upR_i]); try assumption)) | (exact nob _ (fun h => by rcases x186 with h9 | h9; omega; exact h9 ⟨by omega, h.2.2.2⟩) (by repeat' (first | assumption | exact FW.rf | refine FW.up ?_ (by unfold wS; omega) | (refine FW.tr ?_ (by assumption)))) (by (try simp (disch := decide) only [upI_eq, upI_a, upI_i, upR_eq, upR_a, upR_i]); try assumption))
                                                · first
                                                  | (exfalso; omega)
                                                  | skip
                                                    refine s260_216.mpr ((s260_217 kM).mpr ?_)
                                                    rw [mr_33 hR]
                                                    refine s260_220.mpr (s260_221.mpr (s260_223.mpr ((s260_224 kM).mpr ?_)))
                                                    rw [mr_15 hR]
                                                    refine s260_227.mpr ?_
                                                    refine (s260_229 (hA.k (by decide) (by decide) rfl) (by first | assumption | omega) (by first | assumption | omega)).mpr ?_
                                                    try simp (disch := first | decide | assumption | omega) only [kon, knt_some, knt_none, Option.toList_some, Option.toList_none, List.cons_append, List.nil_append, upI_eq, upI_a, upI_i, upR_eq, upR_a, upR_i, h36, ht, E1, E2, E3, E4, E5, E6, E7, fAdd_id, fSub_id, fMul_id, e62, e63]
                                                    refine (s260_230 (by omega)).mpr ?_
                                                    refine m_inState ⟨v1, v2⟩ eth ?_
                                                    refine (s260_233 (hA.k (by decide) (by decide) rfl) (by first | assumption | omega) (by first | assumption | omega)).mpr ?_
                                                    try simp (disch := first | decide | assumption | omega) only [kon, knt_some, knt_none, Option.toList_some, Option.toList_none, List.cons_append, List.nil_append, upI_eq, upI_a, upI_i, upR_eq, upR_a, upR_i, h36, ht, E1, E2, E3, E4, E5, E6, E7, fAdd_id, fSub_id, fMul_id, e62, e63]
                                                    refine (s260_234).mpr ?_
                                                    first | (exfalso; omega) | (exact ok _ _ _ ((tsL_37b c1 hb).trans (onw_p ⟨by dsimp only; omega, ⟨hk, hT.1, hT.2⟩, c175, y186.2.2⟩)) (flw1 (by rw [c1]; decide)) (by repeat' (first | assumption | exact FW.rf | refine FW.up ?_ (by unfold wS; omega) | (refine FW.tr ?_ (by assumption)))) (by (try simp (disch := decide) only [upI_eq, upI_a, upI_i, upR_eq, upR_a, upR_i]); try assumption) (by (try simp (disch := decide) only [upI_eq, upI_a, upI_i, upR_eq, upR_a, upR_i]); try assumption) (by simp (disch := decide) only [scX, upI_eq, upI_a, upI_i, upR_eq, upR_a, upR_i, upI_ro, upI_rw, ht, E1, E2, E3, E4, E5, E6, E7]; rfl)) | (exact nob _ (fun h => h.2.2.1 c175) (by repeat' (first | assumption | exact FW.rf | refine FW.up ?_ (by unfold wS; omega) | (refine FW.tr ?_ (by assumption)))) (by (try simp (disch := decide) only [upI_eq, upI_a, upI_i, upR_eq, upR_a, upR_i]); try assumption)) | (exact nob _ (fun h => by rcases x186 with h9 | h9; omega; exact h9 ⟨by omega, h.2.2.2⟩) (by repeat' (first | assumption | exact FW.rf | refine FW.up ?_ (by unfold wS; omega) | (refine FW.tr ?_ (by assumption)))) (by (try simp (disch := decide) only [upI_eq, upI_a, upI_i, upR_eq, upR_a, upR_i]); try assumption))
                                          · first
                                            | (exfalso; omega)
                                            | skip
                                              refine s260_204.mpr ?_
                                              refine (s260_205 (by omega) kM).mpr ?_
                                              refine m_wants hA (by omega) (by (try simp (disch := decide) only [upI_eq, upI_a, upI_i, upR_eq, upR_a, upR_i]); first | assumption | rfl) (by omega) (fun y205 => ?_) (fun y205 => ?_)
                                              · skip
                                                refine s260_208.mpr ?_
                                                refine (s260_209 kM).mpr ?_
                                                try simp (disch := first | decide | assumption | omega) only [kon, knt_some, knt_none, Option.toList_some, Option.toList_none, List.cons_append, List.nil_append, upI_eq, upI_a, upI_i, upR_eq, upR_a, upR_i, h36, ht, E1, E2, E3, E4, E5, E6, E7, fAdd_id, fSub_id, fMul_id, e62, e63]
                                                refine s260_212.mpr (wif (fun c212 => ?_) (fun c212 => ?_))
                                                · first
                                                  | (exfalso; omega)
                                                  | skip
                                                    refine (s260_215).mpr ?_
                                                    first | (exfalso; omega) | (exact ok _ _ _ ((tsL_37b c1 hb).trans (onw_p ⟨by dsimp only; omega, ⟨hk, hT.1, hT.2⟩, c175, y186.2.2⟩)) (flw1 (by rw [c1]; decide)) (by repeat' (first | assumption | exact FW.rf | refine FW.up ?_ (by unfold wS; omega) | (refine FW.tr ?_ (by assumption)))) (by (try simp (disch := decide) only [upI_eq, upI_a, upI_i, upR_eq, upR_a, upR_i]); try assumption) (by (try simp (disch := decide) only [upI_eq, upI_a, upI_i, upR_eq, upR_a, upR_i]); try assumption) (by simp (disch := decide) only [scX, upI_eq, upI_a, upI_i, upR_eq, upR_a, upR_i, upI_ro, upI_rw, ht, E1, E2, E3, E4, E5, E6, E7]; rfl)) | (exact nob _ (fun h => h.2.2.1 c175) (by repeat' (first | assumption | exact FW.rf | refine FW.up ?_ (by unfold wS; omega) | (refine FW.tr ?_ (by assumption)))) (by (try simp (disch := decide) only [upI_eq, upI_a, upI_i, upR_eq, upR_a, upR_i]); try assumption)) | (exact nob _ (fun h => by rcases x186 with h9 | h9; omega; exact h9 ⟨by omega, h.2.2.2⟩) (by repeat' (first | assumption | exact FW.rf | refine FW.up ?_ (by unfold wS; omega) | (refine FW.tr ?_ (by assumption)))) (by (try simp (disch := decide) only [upI_eq, upI_a, upI_i, upR_eq, upR_a, upR_i]); try assumption))
                                                · first
                                                  | (exfalso; omega)
                                                  | skip
                                                    refine s260_216.mpr ((s260_217 kM).mpr ?_)
                                                    rw [mr_33 hR]
                                                    refine s260_220.mpr (s260_221.mpr (s260_223.mpr ((s260_224 kM).mpr ?_)))
                                                    rw [mr_15 hR]
                                                    refine s260_227.mpr ?_
                                                    refine (s260_229 (hA.k (by decide) (by decide) rfl) (by first | assumption | omega) (by first | assumption | omega)).mpr ?_
                                                    try simp (disch := first | decide | assumption | omega) only [kon, knt_some, knt_none, Option.toList_some, Option.toList_none, List.cons_append, List.nil_append, upI_eq, upI_a, upI_i, upR_eq, upR_a, upR_i, h36, ht, E1, E2, E3, E4, E5, E6, E7, fAdd_id, fSub_id, fMul_id, e62, e63]
                                                    refine (s260_230 (by omega)).mpr ?_
                                                    refine m_inState ⟨v1, v2⟩ eth ?_
                                                    refine (s260_233 (hA.k (by decide) (by decide) rfl) (by first | assumption | omega) (by first | assumption | omega)).mpr ?_
                                                    try simp (disch := first | decide | assumption | omega) only [kon, knt_some, knt_none, Option.toList_some, Option.toList_none, List.cons_append, List.nil_append, upI_eq, upI_a, upI_i, upR_eq, upR_a, upR_i, h36, ht, E1, E2, E3, E4, E5, E6, E7, fAdd_id, fSub_id, fMul_id, e62, e63]
                                                    refine (s260_234).mpr ?_
                                                    first | (exfalso; omega) | (exact ok _ _ _ ((tsL_37b c1 hb).trans (onw_p ⟨by dsimp only; omega, ⟨hk, hT.1, hT.2⟩, c175, y186.2.2⟩)) (flw1 (by rw [c1]; decide)) (by repeat' (first | assumption | exact FW.rf | refine FW.up ?_ (by unfold wS; omega) | (refine FW.tr ?_ (by assumption)))) (by (try simp (disch := decide) only [upI_eq, upI_a, upI_i, upR_eq, upR_a, upR_i]); try assumption) (by (try simp (disch := decide) only [upI_eq, upI_a, upI_i, upR_eq, upR_a, upR_i]); try assumption) (by simp (disch := decide) only [scX, upI_eq, upI_a, upI_i, upR_eq, upR_a, upR_i, upI_ro, upI_rw, ht, E1, E2, E3, E4, E5, E6, E7]; rfl)) | (exact nob _ (fun h => h.2.2.1 c175) (by repeat' (first | assumption | exact FW.rf | refine FW.up ?_ (by unfold wS; omega) | (refine FW.tr ?_ (by assumption)))) (by (try simp (disch := decide) only [upI_eq, upI_a, upI_i, upR_eq, upR_a, upR_i]); try assumption)) | (exact nob _ (fun h => by rcases x186 with h9 | h9; omega; exact h9 ⟨by omega, h.2.2.2⟩) (by repeat' (first | assumption | exact FW.rf | refine FW.up ?_ (by unfold wS; omega) | (refine FW.tr ?_ (by assumption)))) (by (try simp (disch := decide) only [upI_eq, upI_a, upI_i, upR_eq, upR_a, upR_i]); try assumption))
                                              · skip
                                                refine s260_208.mpr ?_
                                                refine (s260_209 kM).mpr ?_
                                                try simp (disch := first | decide | assumption | omega) only [kon, knt_some, knt_none, Option.toList_some, Option.toList_none, List.cons_append, List.nil_append, upI_eq, upI_a, upI_i, upR_eq, upR_a, upR_i, h36, ht, E1, E2, E3, E4, E5, E6, E7, fAdd_id, fSub_id, fMul_id, e62, e63]
                                                refine s260_212.mpr (wif (fun c212 => ?_) (fun c212 => ?_))
                                                · first
                                                  | (exfalso; omega)
                                                  | skip
                                                    refine (s260_215).mpr ?_
                                                    first | (exfalso; omega) | (exact ok _ _ _ ((tsL_37b c1 hb).trans (onw_p ⟨by dsimp only; omega, ⟨hk, hT.1, hT.2⟩, c175, y186.2.2⟩)) (flw1 (by rw [c1]; decide)) (by repeat' (first | assumption | exact FW.rf | refine FW.up ?_ (by unfold wS; omega) | (refine FW.tr ?_ (by assumption)))) (by (try simp (disch := decide) only [upI_eq, upI_a, upI_i, upR_eq, upR_a, upR_i]); try assumption) (by (try simp (disch := decide) only [upI_eq, upI_a, upI_i, upR_eq, upR_a, upR_i]); try assumption) (by simp (disch := decide) only [scX, upI_eq, upI_a, upI_i, upR_eq, upR_a, upR_i, upI_ro, upI_rw, ht, E1, E2, E3, E4, E5, E6, E7]; rfl)) | (exact nob _ (fun h => h.2.2.1 c175) (by repeat' (first | assumption | exact FW.rf | refine FW.up ?_ (by unfold wS; omega) | (refine FW.tr ?_ (by assumption)))) (by (try simp (disch := decide) only [upI_eq, upI_a, upI_i, upR_eq, upR_a, upR_i]); try assumption)) | (exact nob _ (fun h => by rcases x186 with h9 | h9; omega; exact h9 ⟨by omega, h.2.2.2⟩) (by repeat' (first | assumption | exact FW.rf | refine FW.up ?_ (by unfold wS; omega) | (refine FW.tr ?_ (by assumption)))) (by (try simp (disch := decide) only [upI_eq, upI_a, upI_i, upR_eq, upR_a, upR_i]); try assumption))
                                                · first
                                                  | (exfalso; omega)
                                                  | skip
                                                    refine s260_216.mpr ((s260_217 kM).mpr ?_)
                                                    rw [mr_33 hR]
                                                    refine s260_220.mpr (s260_221.mpr (s260_223.mpr ((s260_224 kM).mpr ?_)))
                                                    rw [mr_15 hR]
                                                    refine s260_227.mpr ?_
                                                    refine (s260_229 (hA.k (by decide) (by decide) rfl) (by first | assumption | omega) (by first | assumption | omega)).mpr ?_
                                                    try simp (disch := first | decide | assumption | omega) only [kon, knt_some, knt_none, Option.toList_some, Option.toList_none, List.cons_append, List.nil_append, upI_eq, upI_a, upI_i, upR_eq, upR_a, upR_i, h36, ht, E1, E2, E3, E4, E5, E6, E7, fAdd_id, fSub_id, fMul_id, e62, e63]
                                                    refine (s260_230 (by omega)).mpr ?_
                                                    refine m_inState ⟨v1, v2⟩ eth ?_
                                                    refine (s260_233 (hA.k (by decide) (by decide) rfl) (by first | assumption | omega) (by first | assumption | omega)).mpr ?_
                                                    try simp (disch := first | decide | assumption | omega) only [kon, knt_some, knt_none, Option.toList_some, Option.toList_none, List.cons_append, List.nil_append, upI_eq, upI_a, upI_i, upR_eq, upR_a, upR_i, h36, ht, E1, E2, E3, E4, E5, E6, E7, fAdd_id, fSub_id, fMul_id, e62, e63]
                                                    refine (s260_234).mpr ?_
                                                    first | (exfalso; omega) | (exact ok _ _ _ ((tsL_37b c1 hb).trans (onw_p ⟨by dsimp only; omega, ⟨hk, hT.1, hT.2⟩, c175, y186.2.2⟩)) (flw1 (by rw [c1]; decide)) (by repeat' (first | assumption | exact FW.rf | refine FW.up ?_ (by unfold wS; omega) | (refine FW.tr ?_ (by assumption)))) (by (try simp (disch := decide) only [upI_eq, upI_a, upI_i, upR_eq, upR_a, upR_i]); try assumption) (by (try simp (disch := decide) only [upI_eq, upI_a, upI_i, upR_eq, upR_a, upR_i]); try assumption) (by simp (disch := decide) only [scX, upI_eq, upI_a, upI_i, upR_eq, upR_a, upR_i, upI_ro, upI_rw, ht, E1, E2, E3, E4, E5, E6, E7]; rfl)) | (exact nob _ (fun h => h.2.2.1 c175) (by repeat' (first | assumption | exact FW.rf | refine FW.up ?_ (by unfold wS; omega) | (refine FW.tr ?_ (by assumption)))) (by (try simp (disch := decide) only [upI_eq, upI_a, upI_i, upR_eq, upR_a, upR_i]); try assumption)) | (exact nob _ (fun h => by rcases x186 with h9 | h9; omega; exact h9 ⟨by omega, h.2.2.2⟩) (by repeat' (first | assumption | exact FW.rf | refine FW.up ?_ (by unfold wS; omega) | (refine FW.tr ?_ (by assumption)))) (by (try simp (disch := decide) only [upI_eq, upI_a, upI_i, upR_eq, upR_a, upR_i]); try assumption))
                                        · skip
                                          try simp (disch := decide) only [upI_eq, upI_a, upI_i, upR_eq, upR_a, upR_i, E1, E4] at y186
                                          try simp (disch := decide) only [upI_eq, upI_a, upI_i, upR_eq, upR_a, upR_i, E1, E4] at x186
                                          refine s260_189.mpr (s260_190.mpr ?_)
                                          refine (s260_191 kM).mpr ?_
                                          refine s260_194.mpr (s260_195.mpr (s260_196.mpr ?_))
                                          try simp (disch := first | decide | assumption | omega) only [kon, knt_some, knt_none, Option.toList_some, Option.toList_none, List.cons_append, List.nil_append, upI_eq, upI_a, upI_i, upR_eq, upR_a, upR_i, h36, ht, E1, E2, E3, E4, E5, E6, E7, fAdd_id, fSub_id, fMul_id, e62, e63]
                                          refine s260_197.mpr (wif (fun c197 => ?_) (fun c197 => ?_))
                                          · first
                                            | (exfalso; omega)
                                            | skip
                                              refine s260_200.mpr (s260_201.mpr ?_)
                                              refine (s260_205 (by omega) kM).mpr ?_
                                              refine m_wants hA (by omega) (by (try simp (disch := decide) only [upI_eq, upI_a, upI_i, upR_eq, upR_a, upR_i]); first | assumption | rfl) (by omega) (fun y205 => ?_) (fun y205 => ?_)
                                              · skip
                                                refine s260_208.mpr ?_
                                                refine (s260_209 kM).mpr ?_
                                                try simp (disch := first | decide | assumption | omega) only [kon, knt_some, knt_none, Option.toList_some, Option.toList_none, List.cons_append, List.nil_append, upI_eq, upI_a, upI_i, upR_eq, upR_a, upR_i, h36, ht, E1, E2, E3, E4, E5, E6, E7, fAdd_id, fSub_id, fMul_id, e62, e63]
                                                refine s260_212.mpr (wif (fun c212 => ?_) (fun c212 => ?_))
                                                · first
                                                  | (exfalso; omega)
                                                  | skip
                                                    refine (s260_215).mpr ?_
                                                    first | (exfalso; omega) | (exact ok _ _ _ ((tsL_37b c1 hb).trans (onw_p ⟨by dsimp only; omega, ⟨hk, hT.1, hT.2⟩, c175, y186.2.2⟩)) (flw1 (by rw [c1]; decide)) (by repeat' (first | assumption | exact FW.rf | refine FW.up ?_ (by unfold wS; omega) | (refine FW.tr ?_ (by assumption)))) (by (try simp (disch := decide) only [upI_eq, upI_a, upI_i, upR_eq, upR_a, upR_i]); try assumption) (by (try simp (disch := decide) only [upI_eq, upI_a, upI_i, upR_eq, upR_a, upR_i]); try assumption) (by simp (disch := decide) only [scX, upI_eq, upI_a, upI_i, upR_eq, upR_a, upR_i, upI_ro, upI_rw, ht, E1, E2, E3, E4, E5, E6, E7]; rfl)) | (exact nob _ (fun h => h.2.2.1 c175) (by repeat' (first | assumption | exact FW.rf | refine FW.up ?_ (by unfold wS; omega) | (refine FW.tr ?_ (by assumption)))) (by (try simp (disch := decide) only [upI_eq, upI_a, upI_i, upR_eq, upR_a, upR_i]); try assumption)) | (exact nob _ (fun h => by rcases x186 with h9 | h9; omega; exact h9 ⟨by omega, h.2.2.2⟩) (by repeat' (first | assumption | exact FW.rf | refine FW.up ?_ (by unfold wS; omega) | (refine FW.tr ?_ (by assumption)))) (by (try simp (disch := decide) only [upI_eq, upI_a, upI_i, upR_eq, upR_a, upR_i]); try assumption))
                                                · first
                                                  | (exfalso; omega)
                                                  | skip
                                                    refine s260_216.mpr ((s260_217 kM).mpr ?_)
                                                    rw [mr_33 hR]
                                                    refine s260_220.mpr (s260_221.mpr (s260_223.mpr ((s260_224 kM).mpr ?_)))
                                                    rw [mr_15 hR]
                                                    refine s260_227.mpr ?_
                                                    refine (s260_229 (hA.k (by decide) (by decide) rfl) (by first | assumption | omega) (by first | assumption | omega)).mpr ?_
                                                    try simp (disch := first | decide | assumption | omega) only [kon, knt_some, knt_none, Option.toList_some, Option.toList_none, List.cons_append, List.nil_append, upI_eq, upI_a, upI_i, upR_eq, upR_a, upR_i, h36, ht, E1, E2, E3, E4, E5, E6, E7, fAdd_id, fSub_id, fMul_id, e62, e63]
                                                    refine (s260_230 (by omega)).mpr ?_
                                                    refine m_inState ⟨v1, v2⟩ eth ?_
                                                    refine (s260_233 (hA.k (by decide) (by decide) rfl) (by first | assumption | omega) (by first | assumption | omega)).mpr ?_
                                                    try simp (disch := first | decide | assumption | omega) only [kon, knt_some, knt_none, Option.toList_some, Option.toList_none, List.cons_append, List.nil_append, upI_eq, upI_a, upI_i, upR_eq, upR_a, upR_i, h36, ht, E1, E2, E3, E4, E5, E6, E7, fAdd_id, fSub_id, fMul_id, e62, e63]
                                                    refine (s260_234).mpr ?_
                                                    first | (exfalso; omega) | (exact ok _ _ _ ((tsL_37b c1 hb).trans (onw_p ⟨by dsimp only; omega, ⟨hk, hT.1, hT.2⟩, c175, y186.2.2⟩)) (flw1 (by rw [c1]; decide)) (by repeat' (first | assumption | exact FW.rf | refine FW.up ?_ (by unfold wS; omega) | (refine FW.tr ?_ (by assumption)))) (by (try simp (disch := decide) only [upI_eq, upI_a, upI_i, upR_eq, upR_a, upR_i]); try assumption) (by (try simp (disch := decide) only [upI_eq, upI_a, upI_i, upR_eq, upR_a, upR_i]); try assumption) (by simp (disch := decide) only [scX, upI_eq, upI_a, upI_i, upR_eq, upR_a, upR_i, upI_ro, upI_rw, ht, E1, E2, E3, E4, E5, E6, E7]; rfl)) | (exact nob _ (fun h => h.2.2.1 c175) (by repeat' (first | assumption | exact FW.rf | refine FW.up ?_ (by unfold wS; omega) | (refine FW.tr ?_ (by assumption)))) (by (try simp (disch := decide) only [upI_eq, upI_a, upI_i, upR_eq, upR_a, upR_i]); try assumption)) | (exact nob _ (fun h => by rcases x186 with h9 | h9; omega; exact h9 ⟨by omega, h.2.2.2⟩) (by repeat' (first | assumption | exact FW.rf | refine FW.up ?_ (by unfold wS; omega) | (refine FW.tr ?_ (by assumption)))) (by (try simp (disch := decide) only [upI_eq, upI_a, upI_i, upR_eq, upR_a, upR_i]); try assumption))
                                              · skip
                                                refine s260_208.mpr ?_
                                                refine (s260_209 kM).mpr ?_
                                                try simp (disch := first | decide | assumption | omega) only [kon, knt_some, knt_none, Option.toList_some, Option.toList_none, List.cons_append, List.nil_append, upI_eq, upI_a, upI_i, upR_eq, upR_a, upR_i, h36, ht, E1, E2, E3, E4, E5, E6, E7, fAdd_id, fSub_id, fMul_id, e62, e63]
                                                refine s260_212.mpr (wif (fun c212 => ?_) (fun c212 => ?_))
                                                · first
                                                  | (exfalso; omega)
                                                  | skip
                                                    refine (s260_215).mpr ?_
                                                    first | (exfalso; omega) | (exact ok _ _ _ ((tsL_37b c1 hb).trans (onw_p ⟨by dsimp only; omega, ⟨hk, hT.1, hT.2⟩, c175, y186.2.2⟩)) (flw1 (by rw [c1]; decide)) (by repeat' (first | assumption | exact FW.rf | refine FW.up ?_ (by unfold wS; omega) | (refine FW.tr ?_ (by assumption)))) (by (try simp (disch := decide) only [upI_eq, upI_a, upI_i, upR_eq, upR_a, upR_i]); try assumption) (by (try simp (disch := decide) only [upI_eq, upI_a, upI_i, upR_eq, upR_a, upR_i]); try assumption) (by simp (disch := decide) only [scX, upI_eq, upI_a, upI_i, upR_eq, upR_a, upR_i, upI_ro, upI_rw, ht, E1, E2, E3, E4, E5, E6, E7]; rfl)) | (exact nob _ (fun h => h.2.2.1 c175) (by repeat' (first | assumption | exact FW.rf | refine FW.up ?_ (by unfold wS; omega) | (refine FW.tr ?_ (by assumption)))) (by (try simp (disch := decide) only [upI_eq, upI_a, upI_i, upR_eq, upR_a, upR_i]); try assumption)) | (exact nob _ (fun h => by rcases x186 with h9 | h9; omega; exact h9 ⟨by omega, h.2.2.2⟩) (by repeat' (first | assumption | exact FW.rf | refine FW.up ?_ (by unfold wS; omega) | (refine FW.tr ?_ (by assumption)))) (by (try simp (disch := decide) only [upI_eq, upI_a, upI_i, upR_eq, upR_a, upR_i]); try assumption))
                                                · first
                                                  | (exfalso; omega)
                                                  | skip
                                                    refine s260_216.mpr ((s260_217 kM).mpr ?_)
                                                    rw [mr_33 hR]
                                                    refine s260_220.mpr (s260_221.mpr (s260_223.mpr ((s260_224 kM).mpr ?_)))
                                                    rw [mr_15 hR]
                                                    refine s260_227.mpr ?_
                                                    refine (s260_229 (hA.k (by decide) (by decide) rfl) (by first | assumption | omega) (by first | assumption | omega)).mpr ?_
                                                    try simp (disch := first | decide | assumption | omega) only [kon, knt_some, knt_none, Option.toList_some, Option.toList_none, List.cons_append, List.nil_append, upI_eq, upI_a, upI_i, upR_eq, upR_a, upR_i, h36, ht, E1, E2, E3, E4, E5, E6, E7, fAdd_id, fSub_id, fMul_id, e62, e63]
                                                    refine (s260_230 (by omega)).mpr ?_
                                                    refine m_inState ⟨v1, v2⟩ eth ?_
                                                    refine (s260_233 (hA.k (by decide) (by decide) rfl) (by first | assumption | omega) (by first | assumption | omega)).mpr ?_
                                                    try simp (disch := first | decide | assumption | omega) only [kon, knt_some, knt_none, Option.toList_some, Option.toList_none, List.cons_append, List.nil_append, upI_eq, upI_a, upI_i, upR_eq, upR_a, upR_i, h36, ht, E1, E2, E3, E4, E5, E6, E7, fAdd_id, fSub_id, fMul_id, e62, e63]
                                                    refine (s260_234).mpr ?_
                                                    first | (exfalso; omega) | (exact ok _ _ _ ((tsL_37b c1 hb).trans (onw_p ⟨by dsimp only; omega, ⟨hk, hT.1, hT.2⟩, c175, y186.2.2⟩)) (flw1 (by rw [c1]; decide)) (by repeat' (first | assumption | exact FW.rf | refine FW.up ?_ (by unfold wS; omega) | (refine FW.tr ?_ (by assumption)))) (by (try simp (disch := decide) only [upI_eq, upI_a, upI_i, upR_eq, upR_a, upR_i]); try assumption) (by (try simp (disch := decide) only [upI_eq, upI_a, upI_i, upR_eq, upR_a, upR_i]); try assumption) (by simp (disch := decide) only [scX, upI_eq, upI_a, upI_i, upR_eq, upR_a, upR_i, upI_ro, upI_rw, ht, E1, E2, E3, E4, E5, E6, E7]; rfl)) | (exact nob _ (fun h => h.2.2.1 c175) (by repeat' (first | assumption | exact FW.rf | refine FW.up ?_ (by unfold wS; omega) | (refine FW.tr ?_ (by assumption)))) (by (try simp (disch := decide) only [upI_eq, upI_a, upI_i, upR_eq, upR_a, upR_i]); try assumption)) | (exact nob _ (fun h => by rcases x186 with h9 | h9; omega; exact h9 ⟨by omega, h.2.2.2⟩) (by repeat' (first | assumption | exact FW.rf | refine FW.up ?_ (by unfold wS; omega) | (refine FW.tr ?_ (by assumption)))) (by (try simp (disch := decide) only [upI_eq, upI_a, upI_i, upR_eq, upR_a, upR_i]); try assumption))
                                          · first
                                            | (exfalso; omega)
                                            | skip
                                              refine s260_204.mpr ?_
                                              refine (s260_205 (by omega) kM).mpr ?_
                                              refine m_wants hA (by omega) (by (try simp (disch := decide) only [upI_eq, upI_a, upI_i, upR_eq, upR_a, upR_i]); first | assumption | rfl) (by omega) (fun y205 => ?_) (fun y205 => ?_)
                                              · skip
                                                refine s260_208.mpr ?_
                                                refine (s260_209 kM).mpr ?_
                                                try simp (disch := first | decide | assumption | omega) only [kon, knt_some, knt_none, Option.toList_some, Option.toList_none, List.cons_append, List.nil_append, upI_eq, upI_a, upI_i, upR_eq, upR_a, upR_i, h36, ht, E1, E2, E3, E4, E5, E6, E7, fAdd_id, fSub_id, fMul_id, e62, e63]
                                                refine s260_212.mpr (wif (fun c212 => ?_) (fun c212 => ?_))
                                                · first
                                                  | (exfalso; omega)
                                                  | skip
                                                    refine (s260_215).mpr ?_
                                                    first | (exfalso; omega) | (exact ok _ _ _ ((tsL_37b c1 hb).trans (onw_p ⟨by dsimp only; omega, ⟨hk, hT.1, hT.2⟩, c175, y186.2.2⟩)) (flw1 (by rw [c1]; decide)) (by repeat' (first | assumption | exact FW.rf | refine FW.up ?_ (by unfold wS; omega) | (refine FW.tr ?_ (by assumption)))) (by (try simp (disch := decide) only [upI_eq, upI_a, upI_i, upR_eq, upR_a, upR_i]); try assumption) (by (try simp (disch := decide) only [upI_eq, upI_a, upI_i, upR_eq, upR_a, upR_i]); try assumption) (by simp (disch := decide) only [scX, upI_eq, upI_a, upI_i, upR_eq, upR_a, upR_i, upI_ro, upI_rw, ht, E1, E2, E3, E4, E5, E6, E7]; rfl)) | (exact nob _ (fun h => h.2.2.1 c175) (by repeat' (first | assumption | exact FW.rf | refine FW.up ?_ (by unfold wS; omega) | (refine FW.tr ?_ (by assumption)))) (by (try simp (disch := decide) only [upI_eq, upI_a, upI_i, upR_eq, upR_a, upR_i]); try assumption)) | (exact nob _ (fun h => by rcases x186 with h9 | h9; omega; exact h9 ⟨by omega, h.2.2.2⟩) (by repeat' (first | assumption | exact FW.rf | refine FW.up ?_ (by unfold wS; omega) | (refine FW.tr ?_ (by assumption)))) (by (try simp (disch := decide) only [upI_eq, upI_a, upI_i, upR_eq, upR_a, upR_i]); try assumption))
                                                · first
                                                  | (exfalso; omega)
                                                  | skip
                                                    refine s260_216.mpr ((s260_217 kM).mpr ?_)
                                                    rw [mr_33 hR]
                                                    refine s260_220.mpr (s260_221.mpr (s260_223.mpr ((s260_224 kM).mpr ?_)))
                                                    rw [mr_15 hR]
                                                    refine s260_227.mpr ?_
                                                    refine (s260_229 (hA.k (by decide) (by decide) rfl) (by first | assumption | omega) (by first | assumption | omega)).mpr ?_
                                                    try simp (disch := first | decide | assumption | omega) only [kon, knt_some, knt_none, Option.toList_some, Option.toList_none, List.cons_append, List.nil_append, upI_eq, upI_a, upI_i, upR_eq, upR_a, upR_i, h36, ht, E1, E2, E3, E4, E5, E6, E7, fAdd_id, fSub_id, fMul_id, e62, e63]
                                                    refine (s260_230 (by omega)).mpr ?_
                                                    refine m_inState ⟨v1, v2⟩ eth ?_
                                                    refine (s260_233 (hA.k (by decide) (by decide) rfl) (by first | assumption | omega) (by first | assumption | omega)).mpr ?_
                                                    try simp (disch := first | decide | assumption | omega) only [kon, knt_some, knt_none, Option.toList_some, Option.toList_none, List.cons_append, List.nil_append, upI_eq, upI_a, upI_i, upR_eq, upR_a, upR_i, h36, ht, E1, E2, E3, E4, E5, E6, E7, fAdd_id, fSub_id, fMul_id, e62, e63]
                                                    refine (s260_234).mpr ?_
                                                    first | (exfalso; omega) | (exact ok _ _ _ ((tsL_37b c1 hb).trans (onw_p ⟨by dsimp only; omega, ⟨hk, hT.1, hT.2⟩, c175, y186.2.2⟩)) (flw1 (by rw [c1]; decide)) (by repeat' (first | assumption | exact FW.rf | refine FW.up ?_ (by unfold wS; omega) | (refine FW.tr ?_ (by assumption)))) (by (try simp (disch := decide) only [upI_eq, upI_a, upI_i, upR_eq, upR_a, upR_i]); try assumption) (by (try simp (disch := decide) only [upI_eq, upI_a, upI_i, upR_eq, upR_a, upR_i]); try assumption) (by simp (disch := decide) only [scX, upI_eq, upI_a, upI_i, upR_eq, upR_a, upR_i, upI_ro, upI_rw, ht, E1, E2, E3, E4, E5, E6, E7]; rfl)) | (exact nob _ (fun h => h.2.2.1 c175) (by repeat' (first | assumption | exact FW.rf | refine FW.up ?_ (by unfold wS; omega) | (refine FW.tr ?_ (by assumption)))) (by (try simp (disch := decide) only [upI_eq, upI_a, upI_i, upR_eq, upR_a, upR_i]); try assumption)) | (exact nob _ (fun h => by rcases x186 with h9 | h9; omega; exact h9 ⟨by omega, h.2.2.2⟩) (by repeat' (first | assumption | exact FW.rf | refine FW.up ?_ (by unfold wS; omega) | (refine FW.tr ?_ (by assumption)))) (by (try simp (disch := decide) only [upI_eq, upI_a, upI_i, upR_eq, upR_a, upR_i]); try assumption))
                                              · skip
                                                refine s260_208.mpr ?_
                                                refine (s260_209 kM).mpr ?_
                                                try simp (disch := first | decide | assumption | omega) only [kon, knt_some, knt_none, Option.toList_some, Option.toList_none, List.cons_append, List.nil_append, upI_eq, upI_a, upI_i, upR_eq, upR_a, upR_i, h36, ht, E1, E2, E3, E4, E5, E6, E7, fAdd_id, fSub_id, fMul_id, e62, e63]
                                                refine s260_212.mpr (wif (fun c212 => ?_) (fun c212 => ?_))
                                                · first
                                                  | (exfalso; omega)
                                                  | skip
                                                    refine (s260_215).mpr ?_
                                                    first | (exfalso; omega) | (exact ok _ _ _ ((tsL_37b c1 hb).trans (onw_p ⟨by dsimp only; omega, ⟨hk, hT.1, hT.2⟩, c175, y186.2.2⟩)) (flw1 (by rw [c1]; decide)) (by repeat' (first | assumption | exact FW.rf | refine FW.up ?_ (by unfold wS; omega) | (refine FW.tr ?_ (by assumption)))) (by (try simp (disch := decide) only [upI_eq, upI_a, upI_i, upR_eq, upR_a, upR_i]); try assumption) (by (try simp (disch := decide) only [upI_eq, upI_a, upI_i, upR_eq, upR_a, upR_i]); try assumption) (by simp (disch := decide) only [scX, upI_eq, upI_a, upI_i, upR_eq, upR_a, upR_i, upI_ro, upI_rw, ht, E1, E2, E3, E4, E5, E6, E7]; rfl)) | (exact nob _ (fun h => h.2.2.1 c175) (by repeat' (first | assumption | exact FW.rf | refine FW.up ?_ (by unfold wS; omega) | (refine FW.tr ?_ (by assumption)))) (by (try simp (disch := decide) only [upI_eq, upI_a, upI_i, upR_eq, upR_a, upR_i]); try assumption)) | (exact nob _ (fun h => by rcases x186 with h9 | h9; omega; exact h9 ⟨by omega, h.2.2.2⟩) (by repeat' (first | assumption | exact FW.rf | refine FW.up ?_ (by unfold wS; omega) | (refine FW.tr ?_ (by assumption)))) (by (try simp (disch := decide) only [upI_eq, upI_a, upI_i, upR_eq, upR_a, upR_i]); try assumption))
                                                · first
                                                  | (exfalso; omega)
                                                  | skip
                                                    refine s260_216.mpr ((s260_217 kM).mpr ?_)
                                                    rw [mr_33 hR]
                                                    refine s260_220.mpr (s260_221.mpr (s260_223.mpr ((s260_224 kM).mpr ?_)))
                                                    rw [mr_15 hR]
                                                    refine s260_227.mpr ?_
                                                    refine (s260_229 (hA.k (by decide) (by decide) rfl) (by first | assumption | omega) (by first | assumption | omega)).mpr ?_
                                                    try simp (disch := first | decide | assumption | omega) only [kon, knt_some, knt_none, Option.toList_some, Option.toList_none, List.cons_append, List.nil_append, upI_eq, upI_a, upI_i, upR_eq, upR_a, upR_i, h36, ht, E1, E2, E3, E4, E5, E6, E7, fAdd_id, fSub_id, fMul_id, e62, e63]
                                                    refine (s260_230 (by omega)).mpr ?_
                                                    refine m_inState ⟨v1, v2⟩ eth ?_
                                                    refine (s260_233 (hA.k (by decide) (by decide) rfl) (by first | assumption | omega) (by first | assumption | omega)).mpr ?_
                                                    try simp (disch := first | decide | assumption | omega) only [kon, knt_some, knt_none, Option.toList_some, Option.toList_none, List.cons_append, List.nil_append, upI_eq, upI_a, upI_i, upR_eq, upR_a, upR_i, h36, ht, E1, E2, E3, E4, E5, E6, E7, fAdd_id, fSub_id, fMul_id, e62, e63]
                                                    refine (s260_234).mpr ?_
                                                    first | (exfalso; omega) | (exact ok _ _ _ ((tsL_37b c1 hb).trans (onw_p ⟨by dsimp only; omega, ⟨hk, hT.1, hT.2⟩, c175, y186.2.2⟩)) (flw1 (by rw [c1]; decide)) (by repeat' (first | assumption | exact FW.rf | refine FW.up ?_ (by unfold wS; omega) | (refine FW.tr ?_ (by assumption)))) (by (try simp (disch := decide) only [upI_eq, upI_a, upI_i, upR_eq, upR_a, upR_i]); try assumption) (by (try simp (disch := decide) only [upI_eq, upI_a, upI_i, upR_eq, upR_a, upR_i]); try assumption) (by simp (disch := decide) only [scX, upI_eq, upI_a, upI_i, upR_eq, upR_a, upR_i, upI_ro, upI_rw, ht, E1, E2, E3, E4, E5, E6, E7]; rfl)) | (exact nob _ (fun h => h.2.2.1 c175) (by repeat' (first | assumption | exact FW.rf | refine FW.up ?_ (by unfold wS; omega) | (refine FW.tr ?_ (by assumption)))) (by (try simp (disch := decide) only [upI_eq, upI_a, upI_i, upR_eq, upR_a, upR_i]); try assumption)) | (exact nob _ (fun h => by rcases x186 with h9 | h9; omega; exact h9 ⟨by omega, h.2.2.2⟩) (by repeat' (first | assumption | exact FW.rf | refine FW.up ?_ (by unfold wS; omega) | (refine FW.tr ?_ (by assumption)))) (by (try simp (disch := decide) only [upI_eq, upI_a, upI_i, upR_eq, upR_a, upR_i]); try assumption))
                    · first
                      | (exfalso; omega)
                      | skip
                        exfalso; omega
        · clear m4l m4h hth
          refine s260_82.mpr ?_
          refine (s260_83 kM).mpr ?_
          refine s260_86.mpr (s260_87.mpr (s260_88.mpr (s260_89.mpr (s260_90.mpr ?_))))
          try simp (disch := first | decide | assumption | omega) only [kon, knt_some, knt_none, Option.toList_some, Option.toList_none, List.cons_append, List.nil_append, upI_eq, upI_a, upI_i, upR_eq, upR_a, upR_i, h36, ht, E1, E2, E3, E4, E5, E6, E7, fAdd_id, fSub_id, fMul_id]
          refine s260_91.mpr (wif (fun c91 => ?_) (fun c91 => ?_))
          · first
            | (exfalso; omega)
            | skip
              exfalso; omega
          · first
            | (exfalso; omega)
            | skip
              refine s260_94.mpr (s260_95.mpr ?_)
              refine (s260_99 (by omega) kM).mpr ?_
              refine m_wants hA (by omega) (by (try simp (disch := decide) only [upI_eq, upI_a, upI_i, upR_eq, upR_a, upR_i]); first | assumption | rfl) (by omega) (fun y99 => ?_) (fun y99 => ?_)
              · skip
                refine s260_102.mpr ?_
                refine (s260_103 kM).mpr ?_
                try simp (disch := first | decide | assumption | omega) only [kon, knt_some, knt_none, Option.toList_some, Option.toList_none, List.cons_append, List.nil_append, upI_eq, upI_a, upI_i, upR_eq, upR_a, upR_i, h36, ht, E1, E2, E3, E4, E5, E6, E7, fAdd_id, fSub_id, fMul_id]
                refine s260_106.mpr (wif (fun c106 => ?_) (fun c106 => ?_))
                · first
                  | (exfalso; omega)
                  | skip
                    exfalso; omega
                · first
                  | (exfalso; omega)
                  | skip
                    refine s260_110.mpr ((s260_111 kM).mpr ?_)
                    rw [mr_33 hR]
                    refine s260_114.mpr ?_
                    refine (s260_115 (hA.k (by decide) (by decide) rfl) (by first | assumption | omega) (by first | assumption | omega)).mpr ?_
                    refine s260_116.mpr (s260_118.mpr (s260_119.mpr ?_))
                    try simp (disch := first | decide | assumption | omega) only [kon, knt_some, knt_none, Option.toList_some, Option.toList_none, List.cons_append, List.nil_append, upI_eq, upI_a, upI_i, upR_eq, upR_a, upR_i, h36, ht, E1, E2, E3, E4, E5, E6, E7, fAdd_id, fSub_id, fMul_id]
                    refine (s260_121 (by omega)).mpr ?_
                    refine m_kind.mpr ?_
                    refine s260_124.mpr ?_
                    refine s260_125.mpr (wif (fun c125 => ?_) (fun c125 => ?_))
                    · first
                      | (exfalso; omega)
                      | skip
                        refine s260_128.mpr (s260_129.mpr (s260_130.mpr (s260_132.mpr ?_)))
                        refine (s260_133 (by omega) kM).mpr ?_
                        refine m_isTurn (B := B) hA hR (by omega) hM hS hE (fun y133 z133 => ?_) (fun y133 => ?_)
                        · skip
                          refine s260_136.mpr (wif (fun c136 => ?_) (fun c136 => ?_))
                          · first
                            | (exfalso; omega)
                            | skip
                              refine s260_143.mpr ?_
                              refine (s260_144 (by omega) kM).mpr ?_
                              refine m_wants hA (by omega) (by (try simp (disch := decide) only [upI_eq, upI_a, upI_i, upR_eq, upR_a, upR_i]); first | assumption | rfl) (by omega) (fun y144 => ?_) (fun y144 => ?_)
                              · skip
                                refine s260_147.mpr ?_
                                refine (s260_148 kM).mpr ?_
                                try simp (disch := first | decide | assumption | omega) only [kon, knt_some, knt_none, Option.toList_some, Option.toList_none, List.cons_append, List.nil_append, upI_eq, upI_a, upI_i, upR_eq, upR_a, upR_i, h36, ht, E1, E2, E3, E4, E5, E6, E7, fAdd_id, fSub_id, fMul_id]
                                refine s260_151.mpr (wif (fun c151 => ?_) (fun c151 => ?_))
                                · first
                                  | (exfalso; omega)
                                  | skip
                                    refine (s260_154).mpr ?_
                                    first | (exfalso; omega) | exact nob _ (fun h => hT ⟨h.2.1.2.1, h.2.1.2.2⟩) (by repeat' (first | assumption | exact FW.rf | refine FW.up ?_ (by unfold wS; omega) | (refine FW.tr ?_ (by assumption)))) (by (try simp (disch := decide) only [upI_eq, upI_a, upI_i, upR_eq, upR_a, upR_i]))
                                · first
                                  | (exfalso; omega)
                                  | skip
                                    exfalso; omega
                              · skip
                                refine s260_147.mpr ?_
                                refine (s260_148 kM).mpr ?_
                                try simp (disch := first | decide | assumption | omega) only [kon, knt_some, knt_none, Option.toList_some, Option.toList_none, List.cons_append, List.nil_append, upI_eq, upI_a, upI_i, upR_eq, upR_a, upR_i, h36, ht, E1, E2, E3, E4, E5, E6, E7, fAdd_id, fSub_id, fMul_id]
                                refine s260_151.mpr (wif (fun c151 => ?_) (fun c151 => ?_))
                                · first
                                  | (exfalso; omega)
                                  | skip
                                    refine (s260_154).mpr ?_
                                    first | (exfalso; omega) | exact nob _ (fun h => hT ⟨h.2.1.2.1, h.2.1.2.2⟩) (by repeat' (first | assumption | exact FW.rf | refine FW.up ?_ (by unfold wS; omega) | (refine FW.tr ?_ (by assumption)))) (by (try simp (disch := decide) only [upI_eq, upI_a, upI_i, upR_eq, upR_a, upR_i]))
                                · first
                                  | (exfalso; omega)
                                  | skip
                                    exfalso; omega
                          · first
                            | (exfalso; omega)
                            | skip
                              exfalso; omega
                        · skip
                          refine s260_136.mpr (wif (fun c136 => ?_) (fun c136 => ?_))
                          · first
                            | (exfalso; omega)
                            | skip
                              refine s260_143.mpr ?_
                              refine (s260_144 (by omega) kM).mpr ?_
                              refine m_wants hA (by omega) (by (try simp (disch := decide) only [upI_eq, upI_a, upI_i, upR_eq, upR_a, upR_i]); first | assumption | rfl) (by omega) (fun y144 => ?_) (fun y144 => ?_)
                              · skip
                                refine s260_147.mpr ?_
                                refine (s260_148 kM).mpr ?_
                                try simp (disch := first | decide | assumption | omega) only [kon, knt_some, knt_none, Option.toList_some, Option.toList_none, List.cons_append, List.nil_append, upI_eq, upI_a, upI_i, upR_eq, upR_a, upR_i, h36, ht, E1, E2, E3, E4, E5, E6, E7, fAdd_id, fSub_id, fMul_id]
                                refine s260_151.mpr (wif (fun c151 => ?_) (fun c151 => ?_))
                                · first
                                  | (exfalso; omega)
                                  | skip
                                    refine (s260_154).mpr ?_
                                    first | (exfalso; omega) | exact nob _ (fun h => hT ⟨h.2.1.2.1, h.2.1.2.2⟩) (by repeat' (first | assumption | exact FW.rf | refine FW.up ?_ (by unfold wS; omega) | (refine FW.tr ?_ (by assumption)))) (by (try simp (disch := decide) only [upI_eq, upI_a, upI_i, upR_eq, upR_a, upR_i]))
                                · first
                                  | (exfalso; omega)
                                  | skip
                                    exfalso; omega
                              · skip
                                refine s260_147.mpr ?_
                                refine (s260_148 kM).mpr ?_
                                try simp (disch := first | decide | assumption | omega) only [kon, knt_some, knt_none, Option.toList_some, Option.toList_none, List.cons_append, List.nil_append, upI_eq, upI_a, upI_i, upR_eq, upR_a, upR_i, h36, ht, E1, E2, E3, E4, E5, E6, E7, fAdd_id, fSub_id, fMul_id]
                                refine s260_151.mpr (wif (fun c151 => ?_) (fun c151 => ?_))
                                · first
                                  | (exfalso; omega)
                                  | skip
                                    refine (s260_154).mpr ?_
                                    first | (exfalso; omega) | exact nob _ (fun h => hT ⟨h.2.1.2.1, h.2.1.2.2⟩) (by repeat' (first | assumption | exact FW.rf | refine FW.up ?_ (by unfold wS; omega) | (refine FW.tr ?_ (by assumption)))) (by (try simp (disch := decide) only [upI_eq, upI_a, upI_i, upR_eq, upR_a, upR_i]))
                                · first
                                  | (exfalso; omega)
                                  | skip
                                    exfalso; omega
                          · first
                            | (exfalso; omega)
                            | skip
                              exfalso; omega
                    · first
                      | (exfalso; omega)
                      | skip
                        refine s260_143.mpr ?_
                        refine (s260_144 (by omega) kM).mpr ?_
                        refine m_wants hA (by omega) (by (try simp (disch := decide) only [upI_eq, upI_a, upI_i, upR_eq, upR_a, upR_i]); first | assumption | rfl) (by omega) (fun y144 => ?_) (fun y144 => ?_)
                        · skip
                          refine s260_147.mpr ?_
                          refine (s260_148 kM).mpr ?_
                          try simp (disch := first | decide | assumption | omega) only [kon, knt_some, knt_none, Option.toList_some, Option.toList_none, List.cons_append, List.nil_append, upI_eq, upI_a, upI_i, upR_eq, upR_a, upR_i, h36, ht, E1, E2, E3, E4, E5, E6, E7, fAdd_id, fSub_id, fMul_id]
                          refine s260_151.mpr (wif (fun c151 => ?_) (fun c151 => ?_))
                          · first
                            | (exfalso; omega)
                            | skip
                              refine (s260_154).mpr ?_
                              first | (exfalso; omega) | exact nob _ (fun h => hT ⟨h.2.1.2.1, h.2.1.2.2⟩) (by repeat' (first | assumption | exact FW.rf | refine FW.up ?_ (by unfold wS; omega) | (refine FW.tr ?_ (by assumption)))) (by (try simp (disch := decide) only [upI_eq, upI_a, upI_i, upR_eq, upR_a, upR_i]))
                          · first
                            | (exfalso; omega)
                            | skip
                              exfalso; omega
                        · skip
                          refine s260_147.mpr ?_
                          refine (s260_148 kM).mpr ?_
                          try simp (disch := first | decide | assumption | omega) only [kon, knt_some, knt_none, Option.toList_some, Option.toList_none, List.cons_append, List.nil_append, upI_eq, upI_a, upI_i, upR_eq, upR_a, upR_i, h36, ht, E1, E2, E3, E4, E5, E6, E7, fAdd_id, fSub_id, fMul_id]
                          refine s260_151.mpr (wif (fun c151 => ?_) (fun c151 => ?_))
                          · first
                            | (exfalso; omega)
                            | skip
                              refine (s260_154).mpr ?_
                              first | (exfalso; omega) | exact nob _ (fun h => hT ⟨h.2.1.2.1, h.2.1.2.2⟩) (by repeat' (first | assumption | exact FW.rf | refine FW.up ?_ (by unfold wS; omega) | (refine FW.tr ?_ (by assumption)))) (by (try simp (disch := decide) only [upI_eq, upI_a, upI_i, upR_eq, upR_a, upR_i]))
                          · first
                            | (exfalso; omega)
                            | skip
                              exfalso; omega
              · skip
                refine s260_102.mpr ?_
                refine (s260_103 kM).mpr ?_
                try simp (disch := first | decide | assumption | omega) only [kon, knt_some, knt_none, Option.toList_some, Option.toList_none, List.cons_append, List.nil_append, upI_eq, upI_a, upI_i, upR_eq, upR_a, upR_i, h36, ht, E1, E2, E3, E4, E5, E6, E7, fAdd_id, fSub_id, fMul_id]
                refine s260_106.mpr (wif (fun c106 => ?_) (fun c106 => ?_))
                · first
                  | (exfalso; omega)
                  | skip
                    exfalso; omega
                · first
                  | (exfalso; omega)
                  | skip
                    refine s260_110.mpr ((s260_111 kM).mpr ?_)
                    rw [mr_33 hR]
                    refine s260_114.mpr ?_
                    refine (s260_115 (hA.k (by decide) (by decide) rfl) (by first | assumption | omega) (by first | assumption | omega)).mpr ?_
                    refine s260_116.mpr (s260_118.mpr (s260_119.mpr ?_))
                    try simp (disch := first | decide | assumption | omega) only [kon, knt_some, knt_none, Option.toList_some, Option.toList_none, List.cons_append, List.nil_append, upI_eq, upI_a, upI_i, upR_eq, upR_a, upR_i, h36, ht, E1, E2, E3, E4, E5, E6, E7, fAdd_id, fSub_id, fMul_id]
                    refine (s260_121 (by omega)).mpr ?_
                    refine m_kind.mpr ?_
                    refine s260_124.mpr ?_
                    refine s260_125.mpr (wif (fun c125 => ?_) (fun c125 => ?_))
                    · first
                      | (exfalso; omega)
                      | skip
                        refine s260_128.mpr (s260_129.mpr (s260_130.mpr (s260_132.mpr ?_)))
                        refine (s260_133 (by omega) kM).mpr ?_
                        refine m_isTurn (B := B) hA hR (by omega) hM hS hE (fun y133 z133 => ?_) (fun y133 => ?_)
                        · skip
                          refine s260_136.mpr (wif (fun c136 => ?_) (fun c136 => ?_))
                          · first
                            | (exfalso; omega)
                            | skip
                              refine s260_143.mpr ?_
                              refine (s260_144 (by omega) kM).mpr ?_
                              refine m_wants hA (by omega) (by (try simp (disch := decide) only [upI_eq, upI_a, upI_i, upR_eq, upR_a, upR_i]); first | assumption | rfl) (by omega) (fun y144 => ?_) (fun y144 => ?_)
                              · skip
                                refine s260_147.mpr ?_
                                refine (s260_148 kM).mpr ?_
                                try simp (disch := first | decide | assumption | omega) only [kon, knt_some, knt_none, Option.toList_some, Option.toList_none, List.cons_append, List.nil_append, upI_eq, upI_a, upI_i, upR_eq, upR_a, upR_i, h36, ht, E1, E2, E3, E4, E5, E6, E7, fAdd_id, fSub_id, fMul_id]
                                refine s260_151.mpr (wif (fun c151 => ?_) (fun c151 => ?_))
                                · first
                                  | (exfalso; omega)
                                  | skip
                                    refine (s260_154).mpr ?_
                                    first | (exfalso; omega) | exact nob _ (fun h => hT ⟨h.2.1.2.1, h.2.1.2.2⟩) (by repeat' (first | assumption | exact FW.rf | refine FW.up ?_ (by unfold wS; omega) | (refine FW.tr ?_ (by assumption)))) (by (try simp (disch := decide) only [upI_eq, upI_a, upI_i, upR_eq, upR_a, upR_i]))
                                · first
                                  | (exfalso; omega)
                                  | skip
                                    exfalso; omega
                              · skip
                                refine s260_147.mpr ?_
                                refine (s260_148 kM).mpr ?_
                                try simp (disch := first | decide | assumption | omega) only [kon, knt_some, knt_none, Option.toList_some, Option.toList_none, List.cons_append, List.nil_append, upI_eq, upI_a, upI_i, upR_eq, upR_a, upR_i, h36, ht, E1, E2, E3, E4, E5, E6, E7, fAdd_id, fSub_id, fMul_id]
                                refine s260_151.mpr (wif (fun c151 => ?_) (fun c151 => ?_))
                                · first
                                  | (exfalso; omega)
                                  | skip
                                    refine (s260_154).mpr ?_
                                    first | (exfalso; omega) | exact nob _ (fun h => hT ⟨h.2.1.2.1, h.2.1.2.2⟩) (by repeat' (first | assumption | exact FW.rf | refine FW.up ?_ (by unfold wS; omega) | (refine FW.tr ?_ (by assumption)))) (by (try simp (disch := decide) only [upI_eq, upI_a, upI_i, upR_eq, upR_a, upR_i]))
                                · first
                                  | (exfalso; omega)
                                  | skip
                                    exfalso; omega
                          · first
                            | (exfalso; omega)
                            | skip
                              exfalso; omega
                        · skip
                          refine s260_136.mpr (wif (fun c136 => ?_) (fun c136 => ?_))
                          · first
                            | (exfalso; omega)
                            | skip
                              refine s260_143.mpr ?_
                              refine (s260_144 (by omega) kM).mpr ?_
                              refine m_wants hA (by omega) (by (try simp (disch := decide) only [upI_eq, upI_a, upI_i, upR_eq, upR_a, upR_i]); first | assumption | rfl) (by omega) (fun y144 => ?_) (fun y144 => ?_)
                              · skip
                                refine s260_147.mpr ?_
                                refine (s260_148 kM).mpr ?_
                                try simp (disch := first | decide | assumption | omega) only [kon, knt_some, knt_none, Option.toList_some, Option.toList_none, List.cons_append, List.nil_append, upI_eq, upI_a, upI_i, upR_eq, upR_a, upR_i, h36, ht, E1, E2, E3, E4, E5, E6, E7, fAdd_id, fSub_id, fMul_id]
                                refine s260_151.mpr (wif (fun c151 => ?_) (fun c151 => ?_))
                                · first
                                  | (exfalso; omega)
                                  | skip
                                    refine (s260_154).mpr ?_
                                    first | (exfalso; omega) | exact nob _ (fun h => hT ⟨h.2.1.2.1, h.2.1.2.2⟩) (by repeat' (first | assumption | exact FW.rf | refine FW.up ?_ (by unfold wS; omega) | (refine FW.tr ?_ (by assumption)))) (by (try simp (disch := decide) only [upI_eq, upI_a, upI_i, upR_eq, upR_a, upR_i]))
                                · first
                                  | (exfalso; omega)
                                  | skip
                                    exfalso; omega
                              · skip
                                refine s260_147.mpr ?_
                                refine (s260_148 kM).mpr ?_
                                try simp (disch := first | decide | assumption | omega) only [kon, knt_some, knt_none, Option.toList_some, Option.toList_none, List.cons_append, List.nil_append, upI_eq, upI_a, upI_i, upR_eq, upR_a, upR_i, h36, ht, E1, E2, E3, E4, E5, E6, E7, fAdd_id, fSub_id, fMul_id]
                                refine s260_151.mpr (wif (fun c151 => ?_) (fun c151 => ?_))
                                · first
                                  | (exfalso; omega)
                                  | skip
                                    refine (s260_154).mpr ?_
                                    first | (exfalso; omega) | exact nob _ (fun h => hT ⟨h.2.1.2.1, h.2.1.2.2⟩) (by repeat' (first | assumption | exact FW.rf | refine FW.up ?_ (by unfold wS; omega) | (refine FW.tr ?_ (by assumption)))) (by (try simp (disch := decide) only [upI_eq, upI_a, upI_i, upR_eq, upR_a, upR_i]))
                                · first
                                  | (exfalso; omega)
                                  | skip
                                    exfalso; omega
                          · first
                            | (exfalso; omega)
                            | skip
                              exfalso; omega
                    · first
                      | (exfalso; omega)
                      | skip
                        refine s260_143.mpr ?_
                        refine (s260_144 (by omega) kM).mpr ?_
                        refine m_wants hA (by omega) (by (try simp (disch := decide) only [upI_eq, upI_a, upI_i, upR_eq, upR_a, upR_i]); first | assumption | rfl) (by omega) (fun y144 => ?_) (fun y144 => ?_)
                        · skip
                          refine s260_147.mpr ?_
                          refine (s260_148 kM).mpr ?_
                          try simp (disch := first | decide | assumption | omega) only [kon, knt_some, knt_none, Option.toList_some, Option.toList_none, List.cons_append, List.nil_append, upI_eq, upI_a, upI_i, upR_eq, upR_a, upR_i, h36, ht, E1, E2, E3, E4, E5, E6, E7, fAdd_id, fSub_id, fMul_id]
                          refine s260_151.mpr (wif (fun c151 => ?_) (fun c151 => ?_))
                          · first
                            | (exfalso; omega)
                            | skip
                              refine (s260_154).mpr ?_
                              first | (exfalso; omega) | exact nob _ (fun h => hT ⟨h.2.1.2.1, h.2.1.2.2⟩) (by repeat' (first | assumption | exact FW.rf | refine FW.up ?_ (by unfold wS; omega) | (refine FW.tr ?_ (by assumption)))) (by (try simp (disch := decide) only [upI_eq, upI_a, upI_i, upR_eq, upR_a, upR_i]))
                          · first
                            | (exfalso; omega)
                            | skip
                              exfalso; omega
                        · skip
                          refine s260_147.mpr ?_
                          refine (s260_148 kM).mpr ?_
                          try simp (disch := first | decide | assumption | omega) only [kon, knt_some, knt_none, Option.toList_some, Option.toList_none, List.cons_append, List.nil_append, upI_eq, upI_a, upI_i, upR_eq, upR_a, upR_i, h36, ht, E1, E2, E3, E4, E5, E6, E7, fAdd_id, fSub_id, fMul_id]
                          refine s260_151.mpr (wif (fun c151 => ?_) (fun c151 => ?_))
                          · first
                            | (exfalso; omega)
                            | skip
                              refine (s260_154).mpr ?_
                              first | (exfalso; omega) | exact nob _ (fun h => hT ⟨h.2.1.2.1, h.2.1.2.2⟩) (by repeat' (first | assumption | exact FW.rf | refine FW.up ?_ (by unfold wS; omega) | (refine FW.tr ?_ (by assumption)))) (by (try simp (disch := decide) only [upI_eq, upI_a, upI_i, upR_eq, upR_a, upR_i]))
                          · first
                            | (exfalso; omega)
                            | skip
                              exfalso; omega
      · clear m4l m4h hth
        refine s260_82.mpr ?_
        refine (s260_83 kM).mpr ?_
        refine s260_86.mpr (s260_87.mpr (s260_88.mpr (s260_89.mpr (s260_90.mpr ?_))))
        try simp (disch := first | decide | assumption | omega) only [kon, knt_some, knt_none, Option.toList_some, Option.toList_none, List.cons_append, List.nil_append, upI_eq, upI_a, upI_i, upR_eq, upR_a, upR_i, h36, ht, E1, E2, E3, E4, E5, E6, E7, fAdd_id, fSub_id, fMul_id]
        refine s260_91.mpr (wif (fun c91 => ?_) (fun c91 => ?_))
        · first
          | (exfalso; omega)
          | skip
            exfalso; omega
        · first
          | (exfalso; omega)
          | skip
            refine s260_94.mpr (s260_95.mpr ?_)
            refine (s260_99 (by omega) kM).mpr ?_
            refine m_wants hA (by omega) (by (try simp (disch := decide) only [upI_eq, upI_a, upI_i, upR_eq, upR_a, upR_i]); first | assumption | rfl) (by omega) (fun y99 => ?_) (fun y99 => ?_)
            · skip
              refine s260_102.mpr ?_
              refine (s260_103 kM).mpr ?_
              try simp (disch := first | decide | assumption | omega) only [kon, knt_some, knt_none, Option.toList_some, Option.toList_none, List.cons_append, List.nil_append, upI_eq, upI_a, upI_i, upR_eq, upR_a, upR_i, h36, ht, E1, E2, E3, E4, E5, E6, E7, fAdd_id, fSub_id, fMul_id]
              refine s260_106.mpr (wif (fun c106 => ?_) (fun c106 => ?_))
              · first
                | (exfalso; omega)
                | skip
                  exfalso; omega
              · first
                | (exfalso; omega)
                | skip
                  refine s260_110.mpr ((s260_111 kM).mpr ?_)
                  rw [mr_33 hR]
                  refine s260_114.mpr ?_
                  refine (s260_115 (hA.k (by decide) (by decide) rfl) (by first | assumption | omega) (by first | assumption | omega)).mpr ?_
                  refine s260_116.mpr (s260_118.mpr (s260_119.mpr ?_))
                  try simp (disch := first | decide | assumption | omega) only [kon, knt_some, knt_none, Option.toList_some, Option.toList_none, List.cons_append, List.nil_append, upI_eq, upI_a, upI_i, upR_eq, upR_a, upR_i, h36, ht, E1, E2, E3, E4, E5, E6, E7, fAdd_id, fSub_id, fMul_id]
                  refine (s260_121 (by omega)).mpr ?_
                  refine m_kind.mpr ?_
                  refine s260_124.mpr ?_
                  refine s260_125.mpr (wif (fun c125 => ?_) (fun c125 => ?_))
                  · first
                    | (exfalso; omega)
                    | skip
                      exfalso; omega
                  · first
                    | (exfalso; omega)
                    | skip
                      refine s260_143.mpr ?_
                      refine (s260_144 (by omega) kM).mpr ?_
                      refine m_wants hA (by omega) (by (try simp (disch := decide) only [upI_eq, upI_a, upI_i, upR_eq, upR_a, upR_i]); first | assumption | rfl) (by omega) (fun y144 => ?_) (fun y144 => ?_)
                      · skip
                        refine s260_147.mpr ?_
                        refine (s260_148 kM).mpr ?_
                        try simp (disch := first | decide | assumption | omega) only [kon, knt_some, knt_none, Option.toList_some, Option.toList_none, List.cons_append, List.nil_append, upI_eq, upI_a, upI_i, upR_eq, upR_a, upR_i, h36, ht, E1, E2, E3, E4, E5, E6, E7, fAdd_id, fSub_id, fMul_id]
                        refine s260_151.mpr (wif (fun c151 => ?_) (fun c151 => ?_))
                        · first
                          | (exfalso; omega)
                          | skip
                            refine (s260_154).mpr ?_
                            first | (exfalso; omega) | exact nob _ (fun h => hk h.2.1.1) (by repeat' (first | assumption | exact FW.rf | refine FW.up ?_ (by unfold wS; omega) | (refine FW.tr ?_ (by assumption)))) (by (try simp (disch := decide) only [upI_eq, upI_a, upI_i, upR_eq, upR_a, upR_i]))
                        · first
                          | (exfalso; omega)
                          | skip
                            exfalso; omega
                      · skip
                        refine s260_147.mpr ?_
                        refine (s260_148 kM).mpr ?_
                        try simp (disch := first | decide | assumption | omega) only [kon, knt_some, knt_none, Option.toList_some, Option.toList_none, List.cons_append, List.nil_append, upI_eq, upI_a, upI_i, upR_eq, upR_a, upR_i, h36, ht, E1, E2, E3, E4, E5, E6, E7, fAdd_id, fSub_id, fMul_id]
                        refine s260_151.mpr (wif (fun c151 => ?_) (fun c151 => ?_))
                        · first
                          | (exfalso; omega)
                          | skip
                            refine (s260_154).mpr ?_
                            first | (exfalso; omega) | exact nob _ (fun h => hk h.2.1.1) (by repeat' (first | assumption | exact FW.rf | refine FW.up ?_ (by unfold wS; omega) | (refine FW.tr ?_ (by assumption)))) (by (try simp (disch := decide) only [upI_eq, upI_a, upI_i, upR_eq, upR_a, upR_i]))
                        · first
                          | (exfalso; omega)
                          | skip
                            exfalso; omega
            · skip
              refine s260_102.mpr ?_
              refine (s260_103 kM).mpr ?_
              try simp (disch := first | decide | assumption | omega) only [kon, knt_some, knt_none, Option.toList_some, Option.toList_none, List.cons_append, List.nil_append, upI_eq, upI_a, upI_i, upR_eq, upR_a, upR_i, h36, ht, E1, E2, E3, E4, E5, E6, E7, fAdd_id, fSub_id, fMul_id]
              refine s260_106.mpr (wif (fun c106 => ?_) (fun c106 => ?_))
              · first
                | (exfalso; omega)
                | skip
                  exfalso; omega
              · first
                | (exfalso; omega)
                | skip
                  refine s260_110.mpr ((s260_111 kM).mpr ?_)
                  rw [mr_33 hR]
                  refine s260_114.mpr ?_
                  refine (s260_115 (hA.k (by decide) (by decide) rfl) (by first | assumption | omega) (by first | assumption | omega)).mpr ?_
                  refine s260_116.mpr (s260_118.mpr (s260_119.mpr ?_))
                  try simp (disch := first | decide | assumption | omega) only [kon, knt_some, knt_none, Option.toList_some, Option.toList_none, List.cons_append, List.nil_append, upI_eq, upI_a, upI_i, upR_eq, upR_a, upR_i, h36, ht, E1, E2, E3, E4, E5, E6, E7, fAdd_id, fSub_id, fMul_id]
                  refine (s260_121 (by omega)).mpr ?_
                  refine m_kind.mpr ?_
                  refine s260_124.mpr ?_
                  refine s260_125.mpr (wif (fun c125 => ?_) (fun c125 => ?_))
                  · first
                    | (exfalso; omega)
                    | skip
                      exfalso; omega
                  · first
                    | (exfalso; omega)
                    | skip
                      refine s260_143.mpr ?_
                      refine (s260_144 (by omega) kM).mpr ?_
                      refine m_wants hA (by omega) (by (try simp (disch := decide) only [upI_eq, upI_a, upI_i, upR_eq, upR_a, upR_i]); first | assumption | rfl) (by omega) (fun y144 => ?_) (fun y144 => ?_)
                      · skip
                        refine s260_147.mpr ?_
                        refine (s260_148 kM).mpr ?_
                        try simp (disch := first | decide | assumption | omega) only [kon, knt_some, knt_none, Option.toList_some, Option.toList_none, List.cons_append, List.nil_append, upI_eq, upI_a, upI_i, upR_eq, upR_a, upR_i, h36, ht, E1, E2, E3, E4, E5, E6, E7, fAdd_id, fSub_id, fMul_id]
                        refine s260_151.mpr (wif (fun c151 => ?_) (fun c151 => ?_))
                        · first
                          | (exfalso; omega)
                          | skip
                            refine (s260_154).mpr ?_
                            first | (exfalso; omega) | exact nob _ (fun h => hk h.2.1.1) (by repeat' (first | assumption | exact FW.rf | refine FW.up ?_ (by unfold wS; omega) | (refine FW.tr ?_ (by assumption)))) (by (try simp (disch := decide) only [upI_eq, upI_a, upI_i, upR_eq, upR_a, upR_i]))
                        · first
                          | (exfalso; omega)
                          | skip
                            exfalso; omega
                      · skip
                        refine s260_147.mpr ?_
                        refine (s260_148 kM).mpr ?_
                        try simp (disch := first | decide | assumption | omega) only [kon, knt_some, knt_none, Option.toList_some, Option.toList_none, List.cons_append, List.nil_append, upI_eq, upI_a, upI_i, upR_eq, upR_a, upR_i, h36, ht, E1, E2, E3, E4, E5, E6, E7, fAdd_id, fSub_id, fMul_id]
                        refine s260_151.mpr (wif (fun c151 => ?_) (fun c151 => ?_))
                        · first
                          | (exfalso; omega)
                          | skip
                            refine (s260_154).mpr ?_
                            first | (exfalso; omega) | exact nob _ (fun h => hk h.2.1.1) (by repeat' (first | assumption | exact FW.rf | refine FW.up ?_ (by unfold wS; omega) | (refine FW.tr ?_ (by assumption)))) (by (try simp (disch := decide) only [upI_eq, upI_a, upI_i, upR_eq, upR_a, upR_i]))
                        · first
                          | (exfalso; omega)
                          | skip
                            exfalso; omega
  rw [e260]
  by_cases hk0 : 0 < t ∧ kindM (hi 75 (t - 1)) = 5
  · obtain ⟨h0t, hk⟩ := hk0
    obtain ⟨v1, v2, v3, v4⟩ := endV_of (hv75 (t - 1) (by omega) (by omega)) hk
    have hw := wh_b (hi 75 (t - 1))
    have hs := st_b (hi 75 (t - 1))
    have s8 : nSt B (whichM (hi 75 (t - 1))) ≤ 8 := (hS.2.2.2.2.2.2.1 _ hw.1 v3).2.1
    have hE : EndV B (hi 75 (t - 1)) := ⟨v1, v2, v3, v4⟩
    have hr9 : rng (hi 75 (t - 1)) := ⟨by omega, by omega⟩
    by_cases hT : tnS B (whichM (hi 75 (t - 1))) (stateM (hi 75 (t - 1))) = 1 + sideM (hi 75 (t - 1)) ∧ v < nMs B (whichM (hi 75 (t - 1))) (stateM (hi 75 (t - 1)))
    · have e62 := m4l _ _ v hw.1 v3 hs.1 v4 hv0.1 hT.2
      have e63 := m4h _ _ v hw.1 v3 hs.1 v4 hv0.1 hT.2
      have eth := hth _ _ v hw.1 v3 hs.1 v4 hv0.1 hT.2
      clear m4l m4h hth
      refine s260_0.mpr ?_
      refine (s260_1 kM).mpr ?_
      try simp (disch := first | decide | assumption | omega) only [kon, knt_some, knt_none, Option.toList_some, Option.toList_none, List.cons_append, List.nil_append, upI_eq, upI_a, upI_i, upR_eq, upR_a, upR_i, h36, ht, E1, E2, E3, E4, E5, E6, E7, fAdd_id, fSub_id, fMul_id, e62, e63]
      refine s260_4.mpr (wif (fun c4 => ?_) (fun c4 => ?_))
      · first
        | (exfalso; omega)
        | skip
          refine s260_7.mpr ((s260_8 kM).mpr ?_)
          rw [mr_33 hR]
          refine s260_11.mpr ?_
          refine (s260_12 kM).mpr ?_
          refine s260_15.mpr (s260_16.mpr ?_)
          try simp (disch := first | decide | assumption | omega) only [kon, knt_some, knt_none, Option.toList_some, Option.toList_none, List.cons_append, List.nil_append, upI_eq, upI_a, upI_i, upR_eq, upR_a, upR_i, h36, ht, E1, E2, E3, E4, E5, E6, E7, fAdd_id, fSub_id, fMul_id, e62, e63]
          refine (s260_17 (hA.k (by decide) (by decide) rfl) (by first | assumption | omega) (by first | assumption | omega)).mpr ?_
          try simp (disch := first | decide | assumption | omega) only [kon, knt_some, knt_none, Option.toList_some, Option.toList_none, List.cons_append, List.nil_append, upI_eq, upI_a, upI_i, upR_eq, upR_a, upR_i, h36, ht, E1, E2, E3, E4, E5, E6, E7, fAdd_id, fSub_id, fMul_id, e62, e63]
          refine (s260_18 (by omega)).mpr ?_
          refine m_kind.mpr ?_
          refine s260_21.mpr ?_
          refine s260_22.mpr (wif (fun c22 => ?_) (fun c22 => ?_))
          · first
            | (exfalso; omega)
            | skip
              refine s260_25.mpr (s260_26.mpr (s260_27.mpr ((s260_28 kM).mpr ?_)))
              rw [mr_33 hR]
              refine s260_31.mpr ?_
              refine (s260_32 kM).mpr ?_
              refine s260_35.mpr (s260_36.mpr ?_)
              try simp (disch := first | decide | assumption | omega) only [kon, knt_some, knt_none, Option.toList_some, Option.toList_none, List.cons_append, List.nil_append, upI_eq, upI_a, upI_i, upR_eq, upR_a, upR_i, h36, ht, E1, E2, E3, E4, E5, E6, E7, fAdd_id, fSub_id, fMul_id, e62, e63]
              refine (s260_37 (hA.k (by decide) (by decide) rfl) (by first | assumption | omega) (by first | assumption | omega)).mpr ?_
              refine s260_38.mpr ?_
              try simp (disch := first | decide | assumption | omega) only [kon, knt_some, knt_none, Option.toList_some, Option.toList_none, List.cons_append, List.nil_append, upI_eq, upI_a, upI_i, upR_eq, upR_a, upR_i, h36, ht, E1, E2, E3, E4, E5, E6, E7, fAdd_id, fSub_id, fMul_id, e62, e63]
              refine (s260_39 (by omega) kM).mpr ?_
              refine m_isTurn (B := B) hA hR (by omega) hM hS hE (fun y39 z39 => ?_) (fun y39 => ?_)
              · skip
                refine s260_42.mpr (wif (fun c42 => ?_) (fun c42 => ?_))
                · first
                  | (exfalso; omega)
                  | skip
                    exact T82 (fun h => by first | omega | exact c70 h.2.2)
                · first
                  | (exfalso; omega)
                  | skip
                    refine s260_45.mpr ((s260_46 kM).mpr ?_)
                    rw [mr_14 hR]
                    refine s260_49.mpr (s260_50.mpr (s260_51.mpr ((s260_52 kM).mpr ?_)))
                    rw [mr_33 hR]
                    refine s260_55.mpr ?_
                    refine (s260_56 kM).mpr ?_
                    refine s260_59.mpr (s260_60.mpr ?_)
                    try simp (disch := first | decide | assumption | omega) only [kon, knt_some, knt_none, Option.toList_some, Option.toList_none, List.cons_append, List.nil_append, upI_eq, upI_a, upI_i, upR_eq, upR_a, upR_i, h36, ht, E1, E2, E3, E4, E5, E6, E7, fAdd_id, fSub_id, fMul_id, e62, e63]
                    refine (s260_61 (hA.k (by decide) (by decide) rfl) (by first | assumption | omega) (by first | assumption | omega)).mpr ?_
                    try simp (disch := first | decide | assumption | omega) only [kon, knt_some, knt_none, Option.toList_some, Option.toList_none, List.cons_append, List.nil_append, upI_eq, upI_a, upI_i, upR_eq, upR_a, upR_i, h36, ht, E1, E2, E3, E4, E5, E6, E7, fAdd_id, fSub_id, fMul_id, e62, e63]
                    refine (s260_62 (by omega)).mpr ?_
                    refine m_stateOf (by omega) ⟨hm0, hm1⟩ hr9 ?_
                    refine s260_65.mpr (s260_66.mpr (s260_67.mpr ?_))
                    try simp (disch := first | decide | assumption | omega) only [kon, knt_some, knt_none, Option.toList_some, Option.toList_none, List.cons_append, List.nil_append, upI_eq, upI_a, upI_i, upR_eq, upR_a, upR_i, h36, ht, E1, E2, E3, E4, E5, E6, E7, fAdd_id, fSub_id, fMul_id, e62, e63]
                    refine (s260_68 (hA.k (by decide) (by decide) rfl) (by first | assumption | omega) (by first | assumption | omega)).mpr ?_
                    refine s260_69.mpr ?_
                    try simp (disch := first | decide | assumption | omega) only [kon, knt_some, knt_none, Option.toList_some, Option.toList_none, List.cons_append, List.nil_append, upI_eq, upI_a, upI_i, upR_eq, upR_a, upR_i, h36, ht, E1, E2, E3, E4, E5, E6, E7, fAdd_id, fSub_id, fMul_id, e62, e63]
                    refine s260_70.mpr (wif (fun c70 => ?_) (fun c70 => ?_))
                    · first
                      | (exfalso; omega)
                      | skip
                        refine s260_73.mpr ?_
                        refine (s260_74 kM).mpr ?_
                        refine s260_77.mpr (s260_78.mpr (s260_79.mpr (s260_88.mpr (s260_89.mpr (s260_90.mpr ?_)))))
                        try simp (disch := first | decide | assumption | omega) only [kon, knt_some, knt_none, Option.toList_some, Option.toList_none, List.cons_append, List.nil_append, upI_eq, upI_a, upI_i, upR_eq, upR_a, upR_i, h36, ht, E1, E2, E3, E4, E5, E6, E7, fAdd_id, fSub_id, fMul_id, e62, e63]
                        refine s260_91.mpr (wif (fun c91 => ?_) (fun c91 => ?_))
                        · first
                          | (exfalso; omega)
                          | skip
                            exfalso; omega
                        · first
                          | (exfalso; omega)
                          | skip
                            refine s260_94.mpr (s260_95.mpr ?_)
                            refine (s260_99 (by omega) kM).mpr ?_
                            refine m_wants hA (by omega) (by (try simp (disch := decide) only [upI_eq, upI_a, upI_i, upR_eq, upR_a, upR_i]); first | assumption | rfl) (by omega) (fun y99 => ?_) (fun y99 => ?_)
                            · skip
                              refine s260_102.mpr ?_
                              refine (s260_103 kM).mpr ?_
                              try simp (disch := first | decide | assumption | omega) only [kon, knt_some, knt_none, Option.toList_some, Option.toList_none, List.cons_append, List.nil_append, upI_eq, upI_a, upI_i, upR_eq, upR_a, upR_i, h36, ht, E1, E2, E3, E4, E5, E6, E7, fAdd_id, fSub_id, fMul_id, e62, e63]
                              refine s260_106.mpr (wif (fun c106 => ?_) (fun c106 => ?_))
                              · first
                                | (exfalso; omega)
                                | skip
                                  exfalso; omega
                              · first
                                | (exfalso; omega)
                                | skip
                                  refine s260_110.mpr ((s260_111 kM).mpr ?_)
                                  rw [mr_33 hR]
                                  refine s260_114.mpr ?_
                                  refine (s260_115 (hA.k (by decide) (by decide) rfl) (by first | assumption | omega) (by first | assumption | omega)).mpr ?_
                                  refine s260_116.mpr (s260_118.mpr (s260_119.mpr ?_))
                                  try simp (disch := first | decide | assumption | omega) only [kon, knt_some, knt_none, Option.toList_some, Option.toList_none, List.cons_append, List.nil_append, upI_eq, upI_a, upI_i, upR_eq, upR_a, upR_i, h36, ht, E1, E2, E3, E4, E5, E6, E7, fAdd_id, fSub_id, fMul_id, e62, e63]
                                  refine (s260_121 (by omega)).mpr ?_
                                  refine m_kind.mpr ?_
                                  refine s260_124.mpr ?_
                                  refine s260_125.mpr (wif (fun c125 => ?_) (fun c125 => ?_))
                                  · first
                                    | (exfalso; omega)
                                    | skip
                                      refine s260_128.mpr (s260_129.mpr (s260_130.mpr (s260_132.mpr ?_)))
                                      refine (s260_133 (by omega) kM).mpr ?_
                                      refine m_isTurn (B := B) hA hR (by omega) hM hS hE (fun y133 z133 => ?_) (fun y133 => ?_)
                                      · skip
                                        refine s260_136.mpr (wif (fun c136 => ?_) (fun c136 => ?_))
                                        · first
                                          | (exfalso; omega)
                                          | skip
                                            exfalso; omega
                                        · first
                                          | (exfalso; omega)
                                          | skip
                                            refine s260_139.mpr (s260_140.mpr ?_)
                                            refine (s260_144 (by omega) kM).mpr ?_
                                            refine m_wants hA (by omega) (by (try simp (disch := decide) only [upI_eq, upI_a, upI_i, upR_eq, upR_a, upR_i]); first | assumption | rfl) (by omega) (fun y144 => ?_) (fun y144 => ?_)
                                            · skip
                                              refine s260_147.mpr ?_
                                              refine (s260_148 kM).mpr ?_
                                              try simp (disch := first | decide | assumption | omega) only [kon, knt_some, knt_none, Option.toList_some, Option.toList_none, List.cons_append, List.nil_append, upI_eq, upI_a, upI_i, upR_eq, upR_a, upR_i, h36, ht, E1, E2, E3, E4, E5, E6, E7, fAdd_id, fSub_id, fMul_id, e62, e63]
                                              refine s260_151.mpr (wif (fun c151 => ?_) (fun c151 => ?_))
                                              · first
                                                | (exfalso; omega)
                                                | skip
                                                  exfalso; omega
                                              · first
                                                | (exfalso; omega)
                                                | skip
                                                  refine s260_155.mpr (s260_156.mpr (s260_157.mpr ?_))
                                                  refine (s260_159 (by omega)).mpr ?_
                                                  refine m_stateOf (by omega) ⟨hm0, hm1⟩ hr9 ?_
                                                  refine s260_162.mpr (s260_163.mpr (s260_164.mpr (s260_165.mpr (s260_167.mpr ((s260_168 kM).mpr ?_)))))
                                                  rw [mr_14 hR]
                                                  refine s260_171.mpr ?_
                                                  try simp (disch := first | decide | assumption | omega) only [kon, knt_some, knt_none, Option.toList_some, Option.toList_none, List.cons_append, List.nil_append, upI_eq, upI_a, upI_i, upR_eq, upR_a, upR_i, h36, ht, E1, E2, E3, E4, E5, E6, E7, fAdd_id, fSub_id, fMul_id, e62, e63]
                                                  refine (s260_173 (hA.k (by decide) (by decide) rfl) (by first | assumption | omega) (by first | assumption | omega)).mpr ?_
                                                  refine s260_174.mpr ?_
                                                  try simp (disch := first | decide | assumption | omega) only [kon, knt_some, knt_none, Option.toList_some, Option.toList_none, List.cons_append, List.nil_append, upI_eq, upI_a, upI_i, upR_eq, upR_a, upR_i, h36, ht, E1, E2, E3, E4, E5, E6, E7, fAdd_id, fSub_id, fMul_id, e62, e63]
                                                  refine s260_175.mpr (wif (fun c175 => ?_) (fun c175 => ?_))
                                                  · first
                                                    | (exfalso; omega)
                                                    | skip
                                                      refine s260_189.mpr (s260_190.mpr ?_)
                                                      refine (s260_191 kM).mpr ?_
                                                      refine s260_194.mpr (s260_195.mpr (s260_196.mpr ?_))
                                                      try simp (disch := first | decide | assumption | omega) only [kon, knt_some, knt_none, Option.toList_some, Option.toList_none, List.cons_append, List.nil_append, upI_eq, upI_a, upI_i, upR_eq, upR_a, upR_i, h36, ht, E1, E2, E3, E4, E5, E6, E7, fAdd_id, fSub_id, fMul_id, e62, e63]
                                                      refine s260_197.mpr (wif (fun c197 => ?_) (fun c197 => ?_))
                                                      · first
                                                        | (exfalso; omega)
                                                        | skip
                                                          refine s260_200.mpr (s260_201.mpr ?_)
                                                          refine (s260_205 (by omega) kM).mpr ?_
                                                          refine m_wants hA (by omega) (by (try simp (disch := decide) only [upI_eq, upI_a, upI_i, upR_eq, upR_a, upR_i]); first | assumption | rfl) (by omega) (fun y205 => ?_) (fun y205 => ?_)
                                                          · skip
                                                            refine s260_208.mpr ?_
                                                            refine (s260_209 kM).mpr ?_
                                                            try simp (disch := first | decide | assumption | omega) only [kon, knt_some, knt_none, Option.toList_some, Option.toList_none, List.cons_append, List.nil_append, upI_eq, upI_a, upI_i, upR_eq, upR_a, upR_i, h36, ht, E1, E2, E3, E4, E5, E6, E7, fAdd_id, fSub_id, fMul_id, e62, e63]
                                                            refine s260_212.mpr (wif (fun c212 => ?_) (fun c212 => ?_))
                                                            · first
                                                              | (exfalso; omega)
                                                              | skip
                                                                exfalso; omega
                                                            · first
                                                              | (exfalso; omega)
                                                              | skip
                                                                refine s260_216.mpr ((s260_217 kM).mpr ?_)
                                                                rw [mr_33 hR]
                                                                refine s260_220.mpr (s260_221.mpr (s260_223.mpr ((s260_224 kM).mpr ?_)))
                                                                rw [mr_15 hR]
                                                                refine s260_227.mpr ?_
                                                                refine (s260_229 (hA.k (by decide) (by decide) rfl) (by first | assumption | omega) (by first | assumption | omega)).mpr ?_
                                                                try simp (disch := first | decide | assumption | omega) only [kon, knt_some, knt_none, Option.toList_some, Option.toList_none, List.cons_append, List.nil_append, upI_eq, upI_a, upI_i, upR_eq, upR_a, upR_i, h36, ht, E1, E2, E3, E4, E5, E6, E7, fAdd_id, fSub_id, fMul_id, e62, e63]
                                                                refine (s260_230 (by omega)).mpr ?_
                                                                refine m_inState ⟨v1, v2⟩ eth ?_
                                                                refine (s260_233 (hA.k (by decide) (by decide) rfl) (by first | assumption | omega) (by first | assumption | omega)).mpr ?_
                                                                try simp (disch := first | decide | assumption | omega) only [kon, knt_some, knt_none, Option.toList_some, Option.toList_none, List.cons_append, List.nil_append, upI_eq, upI_a, upI_i, upR_eq, upR_a, upR_i, h36, ht, E1, E2, E3, E4, E5, E6, E7, fAdd_id, fSub_id, fMul_id, e62, e63]
                                                                refine (s260_234).mpr ?_
                                                                first | (exfalso; omega) | (exact ok _ _ _ (tsL_37a c1 ⟨h0t, ⟨hk, hT.1, hT.2⟩, c70⟩) (flw1 (by rw [c1]; decide)) (by repeat' (first | assumption | exact FW.rf | refine FW.up ?_ (by unfold wS; omega) | (refine FW.tr ?_ (by assumption)))) (by (try simp (disch := decide) only [upI_eq, upI_a, upI_i, upR_eq, upR_a, upR_i]); try assumption) (by (try simp (disch := decide) only [upI_eq, upI_a, upI_i, upR_eq, upR_a, upR_i]); try assumption) (by simp (disch := decide) only [scX, upI_eq, upI_a, upI_i, upR_eq, upR_a, upR_i, upI_ro, upI_rw, ht, E1, E2, E3, E4, E5, E6, E7]; rfl))
                                                          · skip
                                                            refine s260_208.mpr ?_
                                                            refine (s260_209 kM).mpr ?_
                                                            try simp (disch := first | decide | assumption | omega) only [kon, knt_some, knt_none, Option.toList_some, Option.toList_none, List.cons_append, List.nil_append, upI_eq, upI_a, upI_i, upR_eq, upR_a, upR_i, h36, ht, E1, E2, E3, E4, E5, E6, E7, fAdd_id, fSub_id, fMul_id, e62, e63]
                                                            refine s260_212.mpr (wif (fun c212 => ?_) (fun c212 => ?_))
                                                            · first
                                                              | (exfalso; omega)
                                                              | skip
                                                                exfalso; omega
                                                            · first
                                                              | (exfalso; omega)
                                                              | skip
                                                                refine s260_216.mpr ((s260_217 kM).mpr ?_)
                                                                rw [mr_33 hR]
                                                                refine s260_220.mpr (s260_221.mpr (s260_223.mpr ((s260_224 kM).mpr ?_)))
                                                                rw [mr_15 hR]
                                                                refine s260_227.mpr ?_
                                                                refine (s260_229 (hA.k (by decide) (by decide) rfl) (by first | assumption | omega) (by first | assumption | omega)).mpr ?_
                                                                try simp (disch := first | decide | assumption | omega) only [kon, knt_some, knt_none, Option.toList_some, Option.toList_none, List.cons_append, List.nil_append, upI_eq, upI_a, upI_i, upR_eq, upR_a, upR_i, h36, ht, E1, E2, E3, E4, E5, E6, E7, fAdd_id, fSub_id, fMul_id, e62, e63]
                                                                refine (s260_230 (by omega)).mpr ?_
                                                                refine m_inState ⟨v1, v2⟩ eth ?_
                                                                refine (s260_233 (hA.k (by decide) (by decide) rfl) (by first | assumption | omega) (by first | assumption | omega)).mpr ?_
                                                                try simp (disch := first | decide | assumption | omega) only [kon, knt_some, knt_none, Option.toList_some, Option.toList_none, List.cons_append, List.nil_append, upI_eq, upI_a, upI_i, upR_eq, upR_a, upR_i, h36, ht, E1, E2, E3, E4, E5, E6, E7, fAdd_id, fSub_id, fMul_id, e62, e63]
                                                                refine (s260_234).mpr ?_
                                                                first | (exfalso; omega) | (exact ok _ _ _ (tsL_37a c1 ⟨h0t, ⟨hk, hT.1, hT.2⟩, c70⟩) (flw1 (by rw [c1]; decide)) (by repeat' (first | assumption | exact FW.rf | refine FW.up ?_ (by unfold wS; omega) | (refine FW.tr ?_ (by assumption)))) (by (try simp (disch := decide) only [upI_eq, upI_a, upI_i, upR_eq, upR_a, upR_i]); try assumption) (by (try simp (disch := decide) only [upI_eq, upI_a, upI_i, upR_eq, upR_a, upR_i]); try assumption) (by simp (disch := decide) only [scX, upI_eq, upI_a, upI_i, upR_eq, upR_a, upR_i, upI_ro, upI_rw, ht, E1, E2, E3, E4, E5, E6, E7]; rfl))
                                                      · first
                                                        | (exfalso; omega)
                                                        | skip
                                                          exfalso; omega
                                                  · first
                                                    | (exfalso; omega)
                                                    | skip
                                                      exfalso; omega
                                            · skip
                                              refine s260_147.mpr ?_
                                              refine (s260_148 kM).mpr ?_
                                              try simp (disch := first | decide | assumption | omega) only [kon, knt_some, knt_none, Option.toList_some, Option.toList_none, List.cons_append, List.nil_append, upI_eq, upI_a, upI_i, upR_eq, upR_a, upR_i, h36, ht, E1, E2, E3, E4, E5, E6, E7, fAdd_id, fSub_id, fMul_id, e62, e63]
                                              refine s260_151.mpr (wif (fun c151 => ?_) (fun c151 => ?_))
                                              · first
                                                | (exfalso; omega)
                                                | skip
                                                  exfalso; omega
                                              · first
                                                | (exfalso; omega)
                                                | skip
                                                  refine s260_155.mpr (s260_156.mpr (s260_157.mpr ?_))
                                                  refine (s260_159 (by omega)).mpr ?_
                                                  refine m_stateOf (by omega) ⟨hm0, hm1⟩ hr9 ?_
                                                  refine s260_162.mpr (s260_163.mpr (s260_164.mpr (s260_165.mpr (s260_167.mpr ((s260_168 kM).mpr ?_)))))
                                                  rw [mr_14 hR]
                                                  refine s260_171.mpr ?_
                                                  try simp (disch := first | decide | assumption | omega) only [kon, knt_some, knt_none, Option.toList_some, Option.toList_none, List.cons_append, List.nil_append, upI_eq, upI_a, upI_i, upR_eq, upR_a, upR_i, h36, ht, E1, E2, E3, E4, E5, E6, E7, fAdd_id, fSub_id, fMul_id, e62, e63]
                                                  refine (s260_173 (hA.k (by decide) (by decide) rfl) (by first | assumption | omega) (by first | assumption | omega)).mpr ?_
                                                  refine s260_174.mpr ?_
                                                  try simp (disch := first | decide | assumption | omega) only [kon, knt_some, knt_none, Option.toList_some, Option.toList_none, List.cons_append, List.nil_append, upI_eq, upI_a, upI_i, upR_eq, upR_a, upR_i, h36, ht, E1, E2, E3, E4, E5, E6, E7, fAdd_id, fSub_id, fMul_id, e62, e63]
                                                  refine s260_175.mpr (wif (fun c175 => ?_) (fun c175 => ?_))
                                                  · first
                                                    | (exfalso; omega)
                                                    | skip
                                                      refine s260_189.mpr (s260_190.mpr ?_)
                                                      refine (s260_191 kM).mpr ?_
                                                      refine s260_194.mpr (s260_195.mpr (s260_196.mpr ?_))
                                                      try simp (disch := first | decide | assumption | omega) only [kon, knt_some, knt_none, Option.toList_some, Option.toList_none, List.cons_append, List.nil_append, upI_eq, upI_a, upI_i, upR_eq, upR_a, upR_i, h36, ht, E1, E2, E3, E4, E5, E6, E7, fAdd_id, fSub_id, fMul_id, e62, e63]
                                                      refine s260_197.mpr (wif (fun c197 => ?_) (fun c197 => ?_))
                                                      · first
                                                        | (exfalso; omega)
                                                        | skip
                                                          refine s260_200.mpr (s260_201.mpr ?_)
                                                          refine (s260_205 (by omega) kM).mpr ?_
                                                          refine m_wants hA (by omega) (by (try simp (disch := decide) only [upI_eq, upI_a, upI_i, upR_eq, upR_a, upR_i]); first | assumption | rfl) (by omega) (fun y205 => ?_) (fun y205 => ?_)
                                                          · skip
                                                            refine s260_208.mpr ?_
                                                            refine (s260_209 kM).mpr ?_
                                                            try simp (disch := first | decide | assumption | omega) only [kon, knt_some, knt_none, Option.toList_some, Option.toList_none, List.cons_append, List.nil_append, upI_eq, upI_a, upI_i, upR_eq, upR_a, upR_i, h36, ht, E1, E2, E3, E4, E5, E6, E7, fAdd_id, fSub_id, fMul_id, e62, e63]
                                                            refine s260_212.mpr (wif (fun c212 => ?_) (fun c212 => ?_))
                                                            · first
                                                              | (exfalso; omega)
                                                              | skip
                                                                exfalso; omega
                                                            · first
                                                              | (exfalso; omega)
                                                              | skip
                                                                refine s260_216.mpr ((s260_217 kM).mpr ?_)
                                                                rw [mr_33 hR]
                                                                refine s260_220.mpr (s260_221.mpr (s260_223.mpr ((s260_224 kM).mpr ?_)))
                                                                rw [mr_15 hR]
                                                                refine s260_227.mpr ?_
                                                                refine (s260_229 (hA.k (by decide) (by decide) rfl) (by first | assumption | omega) (by first | assumption | omega)).mpr ?_
                                                                try simp (disch := first | decide | assumption | omega) only [kon, knt_some, knt_none, Option.toList_some, Option.toList_none, List.cons_append, List.nil_append, upI_eq, upI_a, upI_i, upR_eq, upR_a, upR_i, h36, ht, E1, E2, E3, E4, E5, E6, E7, fAdd_id, fSub_id, fMul_id, e62, e63]
                                                                refine (s260_230 (by omega)).mpr ?_
                                                                refine m_inState ⟨v1, v2⟩ eth ?_
                                                                refine (s260_233 (hA.k (by decide) (by decide) rfl) (by first | assumption | omega) (by first | assumption | omega)).mpr ?_
                                                                try simp (disch := first | decide | assumption | omega) only [kon, knt_some, knt_none, Option.toList_some, Option.toList_none, List.cons_append, List.nil_append, upI_eq, upI_a, upI_i, upR_eq, upR_a, upR_i, h36, ht, E1, E2, E3, E4, E5, E6, E7, fAdd_id, fSub_id, fMul_id, e62, e63]
                                                                refine (s260_234).mpr ?_
                                                                first | (exfalso; omega) | (exact ok _ _ _ (tsL_37a c1 ⟨h0t, ⟨hk, hT.1, hT.2⟩, c70⟩) (flw1 (by rw [c1]; decide)) (by repeat' (first | assumption | exact FW.rf | refine FW.up ?_ (by unfold wS; omega) | (refine FW.tr ?_ (by assumption)))) (by (try simp (disch := decide) only [upI_eq, upI_a, upI_i, upR_eq, upR_a, upR_i]); try assumption) (by (try simp (disch := decide) only [upI_eq, upI_a, upI_i, upR_eq, upR_a, upR_i]); try assumption) (by simp (disch := decide) only [scX, upI_eq, upI_a, upI_i, upR_eq, upR_a, upR_i, upI_ro, upI_rw, ht, E1, E2, E3, E4, E5, E6, E7]; rfl))
                                                          · skip
                                                            refine s260_208.mpr ?_
                                                            refine (s260_209 kM).mpr ?_
                                                            try simp (disch := first | decide | assumption | omega) only [kon, knt_some, knt_none, Option.toList_some, Option.toList_none, List.cons_append, List.nil_append, upI_eq, upI_a, upI_i, upR_eq, upR_a, upR_i, h36, ht, E1, E2, E3, E4, E5, E6, E7, fAdd_id, fSub_id, fMul_id, e62, e63]
                                                            refine s260_212.mpr (wif (fun c212 => ?_) (fun c212 => ?_))
                                                            · first
                                                              | (exfalso; omega)
                                                              | skip
                                                                exfalso; omega
                                                            · first
                                                              | (exfalso; omega)
                                                              | skip
                                                                refine s260_216.mpr ((s260_217 kM).mpr ?_)
                                                                rw [mr_33 hR]
                                                                refine s260_220.mpr (s260_221.mpr (s260_223.mpr ((s260_224 kM).mpr ?_)))
                                                                rw [mr_15 hR]
                                                                refine s260_227.mpr ?_
                                                                refine (s260_229 (hA.k (by decide) (by decide) rfl) (by first | assumption | omega) (by first | assumption | omega)).mpr ?_
                                                                try simp (disch := first | decide | assumption | omega) only [kon, knt_some, knt_none, Option.toList_some, Option.toList_none, List.cons_append, List.nil_append, upI_eq, upI_a, upI_i, upR_eq, upR_a, upR_i, h36, ht, E1, E2, E3, E4, E5, E6, E7, fAdd_id, fSub_id, fMul_id, e62, e63]
                                                                refine (s260_230 (by omega)).mpr ?_
                                                                refine m_inState ⟨v1, v2⟩ eth ?_
                                                                refine (s260_233 (hA.k (by decide) (by decide) rfl) (by first | assumption | omega) (by first | assumption | omega)).mpr ?_
                                                                try simp (disch := first | decide | assumption | omega) only [kon, knt_some, knt_none, Option.toList_some, Option.toList_none, List.cons_append, List.nil_append, upI_eq, upI_a, upI_i, upR_eq, upR_a, upR_i, h36, ht, E1, E2, E3, E4, E5, E6, E7, fAdd_id, fSub_id, fMul_id, e62, e63]
                                                                refine (s260_234).mpr ?_
                                                                first | (exfalso; omega) | (exact ok _ _ _ (tsL_37a c1 ⟨h0t, ⟨hk, hT.1, hT.2⟩, c70⟩) (flw1 (by rw [c1]; decide)) (by repeat' (first | assumption | exact FW.rf | refine FW.up ?_ (by unfold wS; omega) | (refine FW.tr ?_ (by assumption)))) (by (try simp (disch := decide) only [upI_eq, upI_a, upI_i, upR_eq, upR_a, upR_i]); try assumption) (by (try simp (disch := decide) only [upI_eq, upI_a, upI_i, upR_eq, upR_a, upR_i]); try assumption) (by simp (disch := decide) only [scX, upI_eq, upI_a, upI_i, upR_eq, upR_a, upR_i, upI_ro, upI_rw, ht, E1, E2, E3, E4, E5, E6, E7]; rfl))
                                                      · first
                                                        | (exfalso; omega)
                                                        | skip
                                                          exfalso; omega
                                                  · first
                                                    | (exfalso; omega)
                                                    | skip
                                                      exfalso; omega
                                      · skip
                                        refine s260_136.mpr (wif (fun c136 => ?_) (fun c136 => ?_))
                                        · first
                                          | (exfalso; omega)
                                          | skip
                                            exfalso; omega
                                        · first
                                          | (exfalso; omega)
                                          | skip
                                            refine s260_139.mpr (s260_140.mpr ?_)
                                            refine (s260_144 (by omega) kM).mpr ?_
                                            refine m_wants hA (by omega) (by (try simp (disch := decide) only [upI_eq, upI_a, upI_i, upR_eq, upR_a, upR_i]); first | assumption | rfl) (by omega) (fun y144 => ?_) (fun y144 => ?_)
                                            · skip
                                              refine s260_147.mpr ?_
                                              refine (s260_148 kM).mpr ?_
                                              try simp (disch := first | decide | assumption | omega) only [kon, knt_some, knt_none, Option.toList_some, Option.toList_none, List.cons_append, List.nil_append, upI_eq, upI_a, upI_i, upR_eq, upR_a, upR_i, h36, ht, E1, E2, E3, E4, E5, E6, E7, fAdd_id, fSub_id, fMul_id, e62, e63]
                                              refine s260_151.mpr (wif (fun c151 => ?_) (fun c151 => ?_))
                                              · first
                                                | (exfalso; omega)
                                                | skip
                                                  exfalso; omega
                                              · first
                                                | (exfalso; omega)
                                                | skip
                                                  refine s260_155.mpr (s260_156.mpr (s260_157.mpr ?_))
                                                  refine (s260_159 (by omega)).mpr ?_
                                                  refine m_stateOf (by omega) ⟨hm0, hm1⟩ hr9 ?_
                                                  refine s260_162.mpr (s260_163.mpr (s260_164.mpr (s260_165.mpr (s260_167.mpr ((s260_168 kM).mpr ?_)))))
                                                  rw [mr_14 hR]
                                                  refine s260_171.mpr ?_
                                                  try simp (disch := first | decide | assumption | omega) only [kon, knt_some, knt_none, Option.toList_some, Option.toList_none, List.cons_append, List.nil_append, upI_eq, upI_a, upI_i, upR_eq, upR_a, upR_i, h36, ht, E1, E2, E3, E4, E5, E6, E7, fAdd_id, fSub_id, fMul_id, e62, e63]
                                                  refine (s260_173 (hA.k (by decide) (by decide) rfl) (by first | assumption | omega) (by first | assumption | omega)).mpr ?_
                                                  refine s260_174.mpr ?_
                                                  try simp (disch := first | decide | assumption | omega) only [kon, knt_some, knt_none, Option.toList_some, Option.toList_none, List.cons_append, List.nil_append, upI_eq, upI_a, upI_i, upR_eq, upR_a, upR_i, h36, ht, E1, E2, E3, E4, E5, E6, E7, fAdd_id, fSub_id, fMul_id, e62, e63]
                                                  refine s260_175.mpr (wif (fun c175 => ?_) (fun c175 => ?_))
                                                  · first
                                                    | (exfalso; omega)
                                                    | skip
                                                      refine s260_189.mpr (s260_190.mpr ?_)
                                                      refine (s260_191 kM).mpr ?_
                                                      refine s260_194.mpr (s260_195.mpr (s260_196.mpr ?_))
                                                      try simp (disch := first | decide | assumption | omega) only [kon, knt_some, knt_none, Option.toList_some, Option.toList_none, List.cons_append, List.nil_append, upI_eq, upI_a, upI_i, upR_eq, upR_a, upR_i, h36, ht, E1, E2, E3, E4, E5, E6, E7, fAdd_id, fSub_id, fMul_id, e62, e63]
                                                      refine s260_197.mpr (wif (fun c197 => ?_) (fun c197 => ?_))
                                                      · first
                                                        | (exfalso; omega)
                                                        | skip
                                                          refine s260_200.mpr (s260_201.mpr ?_)
                                                          refine (s260_205 (by omega) kM).mpr ?_
                                                          refine m_wants hA (by omega) (by (try simp (disch := decide) only [upI_eq, upI_a, upI_i, upR_eq, upR_a, upR_i]); first | assumption | rfl) (by omega) (fun y205 => ?_) (fun y205 => ?_)
                                                          · skip
                                                            refine s260_208.mpr ?_
                                                            refine (s260_209 kM).mpr ?_
                                                            try simp (disch := first | decide | assumption | omega) only [kon, knt_some, knt_none, Option.toList_some, Option.toList_none, List.cons_append, List.nil_append, upI_eq, upI_a, upI_i, upR_eq, upR_a, upR_i, h36, ht, E1, E2, E3, E4, E5, E6, E7, fAdd_id, fSub_id, fMul_id, e62, e63]
                                                            refine s260_212.mpr (wif (fun c212 => ?_) (fun c212 => ?_))
                                                            · first
                                                              | (exfalso; omega)
                                                              | skip
                                                                exfalso; omega
                                                            · first
                                                              | (exfalso; omega)
                                                              | skip
                                                                refine s260_216.mpr ((s260_217 kM).mpr ?_)
                                                                rw [mr_33 hR]
                                                                refine s260_220.mpr (s260_221.mpr (s260_223.mpr ((s260_224 kM).mpr ?_)))
                                                                rw [mr_15 hR]
                                                                refine s260_227.mpr ?_
                                                                refine (s260_229 (hA.k (by decide) (by decide) rfl) (by first | assumption | omega) (by first | assumption | omega)).mpr ?_
                                                                try simp (disch := first | decide | assumption | omega) only [kon, knt_some, knt_none, Option.toList_some, Option.toList_none, List.cons_append, List.nil_append, upI_eq, upI_a, upI_i, upR_eq, upR_a, upR_i, h36, ht, E1, E2, E3, E4, E5, E6, E7, fAdd_id, fSub_id, fMul_id, e62, e63]
                                                                refine (s260_230 (by omega)).mpr ?_
                                                                refine m_inState ⟨v1, v2⟩ eth ?_
                                                                refine (s260_233 (hA.k (by decide) (by decide) rfl) (by first | assumption | omega) (by first | assumption | omega)).mpr ?_
                                                                try simp (disch := first | decide | assumption | omega) only [kon, knt_some, knt_none, Option.toList_some, Option.toList_none, List.cons_append, List.nil_append, upI_eq, upI_a, upI_i, upR_eq, upR_a, upR_i, h36, ht, E1, E2, E3, E4, E5, E6, E7, fAdd_id, fSub_id, fMul_id, e62, e63]
                                                                refine (s260_234).mpr ?_
                                                                first | (exfalso; omega) | (exact ok _ _ _ (tsL_37a c1 ⟨h0t, ⟨hk, hT.1, hT.2⟩, c70⟩) (flw1 (by rw [c1]; decide)) (by repeat' (first | assumption | exact FW.rf | refine FW.up ?_ (by unfold wS; omega) | (refine FW.tr ?_ (by assumption)))) (by (try simp (disch := decide) only [upI_eq, upI_a, upI_i, upR_eq, upR_a, upR_i]); try assumption) (by (try simp (disch := decide) only [upI_eq, upI_a, upI_i, upR_eq, upR_a, upR_i]); try assumption) (by simp (disch := decide) only [scX, upI_eq, upI_a, upI_i, upR_eq, upR_a, upR_i, upI_ro, upI_rw, ht, E1, E2, E3, E4, E5, E6, E7]; rfl))
                                                          · skip
                                                            refine s260_208.mpr ?_
                                                            refine (s260_209 kM).mpr ?_
                                                            try simp (disch := first | decide | assumption | omega) only [kon, knt_some, knt_none, Option.toList_some, Option.toList_none, List.cons_append, List.nil_append, upI_eq, upI_a, upI_i, upR_eq, upR_a, upR_i, h36, ht, E1, E2, E3, E4, E5, E6, E7, fAdd_id, fSub_id, fMul_id, e62, e63]
                                                            refine s260_212.mpr (wif (fun c212 => ?_) (fun c212 => ?_))
                                                            · first
                                                              | (exfalso; omega)
                                                              | skip
                                                                exfalso; omega
                                                            · first
                                                              | (exfalso; omega)
                                                              | skip
                                                                refine s260_216.mpr ((s260_217 kM).mpr ?_)
                                                                rw [mr_33 hR]
                                                                refine s260_220.mpr (s260_221.mpr (s260_223.mpr ((s260_224 kM).mpr ?_)))
                                                                rw [mr_15 hR]
                                                                refine s260_227.mpr ?_
                                                                refine (s260_229 (hA.k (by decide) (by decide) rfl) (by first | assumption | omega) (by first | assumption | omega)).mpr ?_
                                                                try simp (disch := first | decide | assumption | omega) only [kon, knt_some, knt_none, Option.toList_some, Option.toList_none, List.cons_append, List.nil_append, upI_eq, upI_a, upI_i, upR_eq, upR_a, upR_i, h36, ht, E1, E2, E3, E4, E5, E6, E7, fAdd_id, fSub_id, fMul_id, e62, e63]
                                                                refine (s260_230 (by omega)).mpr ?_
                                                                refine m_inState ⟨v1, v2⟩ eth ?_
                                                                refine (s260_233 (hA.k (by decide) (by decide) rfl) (by first | assumption | omega) (by first | assumption | omega)).mpr ?_
                                                                try simp (disch := first | decide | assumption | omega) only [kon, knt_some, knt_none, Option.toList_some, Option.toList_none, List.cons_append, List.nil_append, upI_eq, upI_a, upI_i, upR_eq, upR_a, upR_i, h36, ht, E1, E2, E3, E4, E5, E6, E7, fAdd_id, fSub_id, fMul_id, e62, e63]
                                                                refine (s260_234).mpr ?_
                                                                first | (exfalso; omega) | (exact ok _ _ _ (tsL_37a c1 ⟨h0t, ⟨hk, hT.1, hT.2⟩, c70⟩) (flw1 (by rw [c1]; decide)) (by repeat' (first | assumption | exact FW.rf | refine FW.up ?_ (by unfold wS; omega) | (refine FW.tr ?_ (by assumption)))) (by (try simp (disch := decide) only [upI_eq, upI_a, upI_i, upR_eq, upR_a, upR_i]); try assumption) (by (try simp (disch := decide) only [upI_eq, upI_a, upI_i, upR_eq, upR_a, upR_i]); try assumption) (by simp (disch := decide) only [scX, upI_eq, upI_a, upI_i, upR_eq, upR_a, upR_i, upI_ro, upI_rw, ht, E1, E2, E3, E4, E5, E6, E7]; rfl))
                                                      · first
                                                        | (exfalso; omega)
                                                        | skip
                                                          exfalso; omega
                                                  · first
                                                    | (exfalso; omega)
                                                    | skip
                                                      exfalso; omega
                                            · skip
                                              refine s260_147.mpr ?_
                                              refine (s260_148 kM).mpr ?_
                                              try simp (disch := first | decide | assumption | omega) only [kon, knt_some, knt_none, Option.toList_some, Option.toList_none, List.cons_append, List.nil_append, upI_eq, upI_a, upI_i, upR_eq, upR_a, upR_i, h36, ht, E1, E2, E3, E4, E5, E6, E7, fAdd_id, fSub_id, fMul_id, e62, e63]
                                              refine s260_151.mpr (wif (fun c151 => ?_) (fun c151 => ?_))
                                              · first
                                                | (exfalso; omega)
                                                | skip
                                                  exfalso; omega
                                              · first
                                                | (exfalso; omega)
                                                | skip
                                                  refine s260_155.mpr (s260_156.mpr (s260_157.mpr ?_))
                                                  refine (s260_159 (by omega)).mpr ?_
                                                  refine m_stateOf (by omega) ⟨hm0, hm1⟩ hr9 ?_
                                                  refine s260_162.mpr (s260_163.mpr (s260_164.mpr (s260_165.mpr (s260_167.mpr ((s260_168 kM).mpr ?_)))))
                                                  rw [mr_14 hR]
                                                  refine s260_171.mpr ?_
                                                  try simp (disch := first | decide | assumption | omega) only [kon, knt_some, knt_none, Option.toList_some, Option.toList_none, List.cons_append, List.nil_append, upI_eq, upI_a, upI_i, upR_eq, upR_a, upR_i, h36, ht, E1, E2, E3, E4, E5, E6, E7, fAdd_id, fSub_id, fMul_id, e62, e63]
                                                  refine (s260_173 (hA.k (by decide) (by decide) rfl) (by first | assumption | omega) (by first | assumption | omega)).mpr ?_
                                                  refine s260_174.mpr ?_
                                                  try simp (disch := first | decide | assumption | omega) only [kon, knt_some, knt_none, Option.toList_some, Option.toList_none, List.cons_append, List.nil_append, upI_eq, upI_a, upI_i, upR_eq, upR_a, upR_i, h36, ht, E1, E2, E3, E4, E5, E6, E7, fAdd_id, fSub_id, fMul_id, e62, e63]
                                                  refine s260_175.mpr (wif (fun c175 => ?_) (fun c175 => ?_))
                                                  · first
                                                    | (exfalso; omega)
                                                    | skip
                                                      refine s260_189.mpr (s260_190.mpr ?_)
                                                      refine (s260_191 kM).mpr ?_
                                                      refine s260_194.mpr (s260_195.mpr (s260_196.mpr ?_))
                                                      try simp (disch := first | decide | assumption | omega) only [kon, knt_some, knt_none, Option.toList_some, Option.toList_none, List.cons_append, List.nil_append, upI_eq, upI_a, upI_i, upR_eq, upR_a, upR_i, h36, ht, E1, E2, E3, E4, E5, E6, E7, fAdd_id, fSub_id, fMul_id, e62, e63]
                                                      refine s260_197.mpr (wif (fun c197 => ?_) (fun c197 => ?_))
                                                      · first
                                                        | (exfalso; omega)
                                                        | skip
                                                          refine s260_200.mpr (s260_201.mpr ?_)
                                                          refine (s260_205 (by omega) kM).mpr ?_
                                                          refine m_wants hA (by omega) (by (try simp (disch := decide) only [upI_eq, upI_a, upI_i, upR_eq, upR_a, upR_i]); first | assumption | rfl) (by omega) (fun y205 => ?_) (fun y205 => ?_)
                                                          · skip
                                                            refine s260_208.mpr ?_
                                                            refine (s260_209 kM).mpr ?_
                                                            try simp (disch := first | decide | assumption | omega) only [kon, knt_some, knt_none, Option.toList_some, Option.toList_none, List.cons_append, List.nil_append, upI_eq, upI_a, upI_i, upR_eq, upR_a, upR_i, h36, ht, E1, E2, E3, E4, E5, E6, E7, fAdd_id, fSub_id, fMul_id, e62, e63]
                                                            refine s260_212.mpr (wif (fun c212 => ?_) (fun c212 => ?_))
                                                            · first
                                                              | (exfalso; omega)
                                                              | skip
                                                                exfalso; omega
                                                            · first
                                                              | (exfalso; omega)
                                                              | skip
                                                                refine s260_216.mpr ((s260_217 kM).mpr ?_)
                                                                rw [mr_33 hR]
                                                                refine s260_220.mpr (s260_221.mpr (s260_223.mpr ((s260_224 kM).mpr ?_)))
                                                                rw [mr_15 hR]
                                                                refine s260_227.mpr ?_
                                                                refine (s260_229 (hA.k (by decide) (by decide) rfl) (by first | assumption | omega) (by first | assumption | omega)).mpr ?_
                                                                try simp (disch := first | decide | assumption | omega) only [kon, knt_some, knt_none, Option.toList_some, Option.toList_none, List.cons_append, List.nil_append, upI_eq, upI_a, upI_i, upR_eq, upR_a, upR_i, h36, ht, E1, E2, E3, E4, E5, E6, E7, fAdd_id, fSub_id, fMul_id, e62, e63]
                                                                refine (s260_230 (by omega)).mpr ?_
                                                                refine m_inState ⟨v1, v2⟩ eth ?_
                                                                refine (s260_233 (hA.k (by decide) (by decide) rfl) (by first | assumption | omega) (by first | assumption | omega)).mpr ?_
                                                                try simp (disch := first | decide | assumption | omega) only [kon, knt_some, knt_none, Option.toList_some, Option.toList_none, List.cons_append, List.nil_append, upI_eq, upI_a, upI_i, upR_eq, upR_a, upR_i, h36, ht, E1, E2, E3, E4, E5, E6, E7, fAdd_id, fSub_id, fMul_id, e62, e63]
                                                                refine (s260_234).mpr ?_
                                                                first | (exfalso; omega) | (exact ok _ _ _ (tsL_37a c1 ⟨h0t, ⟨hk, hT.1, hT.2⟩, c70⟩) (flw1 (by rw [c1]; decide)) (by repeat' (first | assumption | exact FW.rf | refine FW.up ?_ (by unfold wS; omega) | (refine FW.tr ?_ (by assumption)))) (by (try simp (disch := decide) only [upI_eq, upI_a, upI_i, upR_eq, upR_a, upR_i]); try assumption) (by (try simp (disch := decide) only [upI_eq, upI_a, upI_i, upR_eq, upR_a, upR_i]); try assumption) (by simp (disch := decide) only [scX, upI_eq, upI_a, upI_i, upR_eq, upR_a, upR_i, upI_ro, upI_rw, ht, E1, E2, E3, E4, E5, E6, E7]; rfl))
                                                          · skip
                                                            refine s260_208.mpr ?_
                                                            refine (s260_209 kM).mpr ?_
                                                            try simp (disch := first | decide | assumption | omega) only [kon, knt_some, knt_none, Option.toList_some, Option.toList_none, List.cons_append, List.nil_append, upI_eq, upI_a, upI_i, upR_eq, upR_a, upR_i, h36, ht, E1, E2, E3, E4, E5, E6, E7, fAdd_id, fSub_id, fMul_id, e62, e63]
                                                            refine s260_212.mpr (wif (fun c212 => ?_) (fun c212 => ?_))
                                                            · first
                                                              | (exfalso; omega)
                                                              | skip
                                                                exfalso; omega
                                                            · first
                                                              | (exfalso; omega)
                                                              | skip
                                                                refine s260_216.mpr ((s260_217 kM).mpr ?_)
                                                                rw [mr_33 hR]
                                                                refine s260_220.mpr (s260_221.mpr (s260_223.mpr ((s260_224 kM).mpr ?_)))
                                                                rw [mr_15 hR]
                                                                refine s260_227.mpr ?_
                                                                refine (s260_229 (hA.k (by decide) (by decide) rfl) (by first | assumption | omega) (by first | assumption | omega)).mpr ?_
                                                                try simp (disch := first | decide | assumption | omega) only [kon, knt_some, knt_none, Option.toList_some, Option.toList_none, List.cons_append, List.nil_append, upI_eq, upI_a, upI_i, upR_eq, upR_a, upR_i, h36, ht, E1, E2, E3, E4, E5, E6, E7, fAdd_id, fSub_id, fMul_id, e62, e63]
                                                                refine (s260_230 (by omega)).mpr ?_
                                                                refine m_inState ⟨v1, v2⟩ eth ?_
                                                                refine (s260_233 (hA.k (by decide) (by decide) rfl) (by first | assumption | omega) (by first | assumption | omega)).mpr ?_
                                                                try simp (disch := first | decide | assumption | omega) only [kon, knt_some, knt_none, Option.toList_some, Option.toList_none, List.cons_append, List.nil_append, upI_eq, upI_a, upI_i, upR_eq, upR_a, upR_i, h36, ht, E1, E2, E3, E4, E5, E6, E7, fAdd_id, fSub_id, fMul_id, e62, e63]
                                                                refine (s260_234).mpr ?_
                                                                first | (exfalso; omega) | (exact ok _ _ _ (tsL_37a c1 ⟨h0t, ⟨hk, hT.1, hT.2⟩, c70⟩) (flw1 (by rw [c1]; decide)) (by repeat' (first | assumption | exact FW.rf | refine FW.up ?_ (by unfold wS; omega) | (refine FW.tr ?_ (by assumption)))) (by (try simp (disch := decide) only [upI_eq, upI_a, upI_i, upR_eq, upR_a, upR_i]); try assumption) (by (try simp (disch := decide) only [upI_eq, upI_a, upI_i, upR_eq, upR_a, upR_i]); try assumption) (by simp (disch := decide) only [scX, upI_eq, upI_a, upI_i, upR_eq, upR_a, upR_i, upI_ro, upI_rw, ht, E1, E2, E3, E4, E5, E6, E7]; rfl))
                                                      · first
                                                        | (exfalso; omega)
                                                        | skip
                                                          exfalso; omega
                                                  · first
                                                    | (exfalso; omega)
                                                    | skip
                                                      exfalso; omega
                                  · first
                                    | (exfalso; omega)
                                    | skip
                                      exfalso; omega
                            · skip
                              refine s260_102.mpr ?_
                              refine (s260_103 kM).mpr ?_
                              try simp (disch := first | decide | assumption | omega) only [kon, knt_some, knt_none, Option.toList_some, Option.toList_none, List.cons_append, List.nil_append, upI_eq, upI_a, upI_i, upR_eq, upR_a, upR_i, h36, ht, E1, E2, E3, E4, E5, E6, E7, fAdd_id, fSub_id, fMul_id, e62, e63]
                              refine s260_106.mpr (wif (fun c106 => ?_) (fun c106 => ?_))
                              · first
                                | (exfalso; omega)
                                | skip
                                  exfalso; omega
                              · first
                                | (exfalso; omega)
                                | skip
                                  refine s260_110.mpr ((s260_111 kM).mpr ?_)
                                  rw [mr_33 hR]
                                  refine s260_114.mpr ?_
                                  refine (s260_115 (hA.k (by decide) (by decide) rfl) (by first | assumption | omega) (by first | assumption | omega)).mpr ?_
                                  refine s260_116.mpr (s260_118.mpr (s260_119.mpr ?_))
                                  try simp (disch := first | decide | assumption | omega) only [kon, knt_some, knt_none, Option.toList_some, Option.toList_none, List.cons_append, List.nil_append, upI_eq, upI_a, upI_i, upR_eq, upR_a, upR_i, h36, ht, E1, E2, E3, E4, E5, E6, E7, fAdd_id, fSub_id, fMul_id, e62, e63]
                                  refine (s260_121 (by omega)).mpr ?_
                                  refine m_kind.mpr ?_
                                  refine s260_124.mpr ?_
                                  refine s260_125.mpr (wif (fun c125 => ?_) (fun c125 => ?_))
                                  · first
                                    | (exfalso; omega)
                                    | skip
                                      refine s260_128.mpr (s260_129.mpr (s260_130.mpr (s260_132.mpr ?_)))
                                      refine (s260_133 (by omega) kM).mpr ?_
                                      refine m_isTurn (B := B) hA hR (by omega) hM hS hE (fun y133 z133 => ?_) (fun y133 => ?_)
                                      · skip
                                        refine s260_136.mpr (wif (fun c136 => ?_) (fun c136 => ?_))
                                        · first
                                          | (exfalso; omega)
                                          | skip
                                            exfalso; omega
                                        · first
                                          | (exfalso; omega)
                                          | skip
                                            refine s260_139.mpr (s260_140.mpr ?_)
                                            refine (s260_144 (by omega) kM).mpr ?_
                                            refine m_wants hA (by omega) (by (try simp (disch := decide) only [upI_eq, upI_a, upI_i, upR_eq, upR_a, upR_i]); first | assumption | rfl) (by omega) (fun y144 => ?_) (fun y144 => ?_)
                                            · skip
                                              refine s260_147.mpr ?_
                                              refine (s260_148 kM).mpr ?_
                                              try simp (disch := first | decide | assumption | omega) only [kon, knt_some, knt_none, Option.toList_some, Option.toList_none, List.cons_append, List.nil_append, upI_eq, upI_a, upI_i, upR_eq, upR_a, upR_i, h36, ht, E1, E2, E3, E4, E5, E6, E7, fAdd_id, fSub_id, fMul_id, e62, e63]
                                              refine s260_151.mpr (wif (fun c151 => ?_) (fun c151 => ?_))
                                              · first
                                                | (exfalso; omega)
                                                | skip
                                                  exfalso; omega
                                              · first
                                                | (exfalso; omega)
                                                | skip
                                                  refine s260_155.mpr (s260_156.mpr (s260_157.mpr ?_))
                                                  refine (s260_159 (by omega)).mpr ?_
                                                  refine m_stateOf (by omega) ⟨hm0, hm1⟩ hr9 ?_
                                                  refine s260_162.mpr (s260_163.mpr (s260_164.mpr (s260_165.mpr (s260_167.mpr ((s260_168 kM).mpr ?_)))))
                                                  rw [mr_14 hR]
                                                  refine s260_171.mpr ?_
                                                  try simp (disch := first | decide | assumption | omega) only [kon, knt_some, knt_none, Option.toList_some, Option.toList_none, List.cons_append, List.nil_append, upI_eq, upI_a, upI_i, upR_eq, upR_a, upR_i, h36, ht, E1, E2, E3, E4, E5, E6, E7, fAdd_id, fSub_id, fMul_id, e62, e63]
                                                  refine (s260_173 (hA.k (by decide) (by decide) rfl) (by first | assumption | omega) (by first | assumption | omega)).mpr ?_
                                                  refine s260_174.mpr ?_
                                                  try simp (disch := first | decide | assumption | omega) only [kon, knt_some, knt_none, Option.toList_some, Option.toList_none, List.cons_append, List.nil_append, upI_eq, upI_a, upI_i, upR_eq, upR_a, upR_i, h36, ht, E1, E2, E3, E4, E5, E6, E7, fAdd_id, fSub_id, fMul_id, e62, e63]
                                                  refine s260_175.mpr (wif (fun c175 => ?_) (fun c175 => ?_))
                                                  · first
                                                    | (exfalso; omega)
                                                    | skip
                                                      refine s260_189.mpr (s260_190.mpr ?_)
                                                      refine (s260_191 kM).mpr ?_
                                                      refine s260_194.mpr (s260_195.mpr (s260_196.mpr ?_))
                                                      try simp (disch := first | decide | assumption | omega) only [kon, knt_some, knt_none, Option.toList_some, Option.toList_none, List.cons_append, List.nil_append, upI_eq, upI_a, upI_i, upR_eq, upR_a, upR_i, h36, ht, E1, E2, E3, E4, E5, E6, E7, fAdd_id, fSub_id, fMul_id, e62, e63]
                                                      refine s260_197.mpr (wif (fun c197 => ?_) (fun c197 => ?_))
                                                      · first
                                                        | (exfalso; omega)
                                                        | skip
                                                          refine s260_200.mpr (s260_201.mpr ?_)
                                                          refine (s260_205 (by omega) kM).mpr ?_
                                                          refine m_wants hA (by omega) (by (try simp (disch := decide) only [upI_eq, upI_a, upI_i, upR_eq, upR_a, upR_i]); first | assumption | rfl) (by omega) (fun y205 => ?_) (fun y205 => ?_)
                                                          · skip
                                                            refine s260_208.mpr ?_
                                                            refine (s260_209 kM).mpr ?_
                                                            try simp (disch := first | decide | assumption | omega) only [kon, knt_some, knt_none, Option.toList_some, Option.toList_none, List.cons_append, List.nil_append, upI_eq, upI_a, upI_i, upR_eq, upR_a, upR_i, h36, ht, E1, E2, E3, E4, E5, E6, E7, fAdd_id, fSub_id, fMul_id, e62, e63]
                                                            refine s260_212.mpr (wif (fun c212 => ?_) (fun c212 => ?_))
                                                            · first
                                                              | (exfalso; omega)
                                                              | skip
                                                                exfalso; omega
                                                            · first
                                                              | (exfalso; omega)
                                                              | skip
                                                                refine s260_216.mpr ((s260_217 kM).mpr ?_)
                                                                rw [mr_33 hR]
                                                                refine s260_220.mpr (s260_221.mpr (s260_223.mpr ((s260_224 kM).mpr ?_)))
                                                                rw [mr_15 hR]
                                                                refine s260_227.mpr ?_
                                                                refine (s260_229 (hA.k (by decide) (by decide) rfl) (by first | assumption | omega) (by first | assumption | omega)).mpr ?_
                                                                try simp (disch := first | decide | assumption | omega) only [kon, knt_some, knt_none, Option.toList_some, Option.toList_none, List.cons_append, List.nil_append, upI_eq, upI_a, upI_i, upR_eq, upR_a, upR_i, h36, ht, E1, E2, E3, E4, E5, E6, E7, fAdd_id, fSub_id, fMul_id, e62, e63]
                                                                refine (s260_230 (by omega)).mpr ?_
                                                                refine m_inState ⟨v1, v2⟩ eth ?_
                                                                refine (s260_233 (hA.k (by decide) (by decide) rfl) (by first | assumption | omega) (by first | assumption | omega)).mpr ?_
                                                                try simp (disch := first | decide | assumption | omega) only [kon, knt_some, knt_none, Option.toList_some, Option.toList_none, List.cons_append, List.nil_append, upI_eq, upI_a, upI_i, upR_eq, upR_a, upR_i, h36, ht, E1, E2, E3, E4, E5, E6, E7, fAdd_id, fSub_id, fMul_id, e62, e63]
                                                                refine (s260_234).mpr ?_
                                                                first | (exfalso; omega) | (exact ok _ _ _ (tsL_37a c1 ⟨h0t, ⟨hk, hT.1, hT.2⟩, c70⟩) (flw1 (by rw [c1]; decide)) (by repeat' (first | assumption | exact FW.rf | refine FW.up ?_ (by unfold wS; omega) | (refine FW.tr ?_ (by assumption)))) (by (try simp (disch := decide) only [upI_eq, upI_a, upI_i, upR_eq, upR_a, upR_i]); try assumption) (by (try simp (disch := decide) only [upI_eq, upI_a, upI_i, upR_eq, upR_a, upR_i]); try assumption) (by simp (disch := decide) only [scX, upI_eq, upI_a, upI_i, upR_eq, upR_a, upR_i, upI_ro, upI_rw, ht, E1, E2, E3, E4, E5, E6, E7]; rfl))
                                                          · skip
                                                            refine s260_208.mpr ?_
                                                            refine (s260_209 kM).mpr ?_
                                                            try simp (disch := first | decide | assumption | omega) only [kon, knt_some, knt_none, Option.toList_some, Option.toList_none, List.cons_append, List.nil_append, upI_eq, upI_a, upI_i, upR_eq, upR_a, upR_i, h36, ht, E1, E2, E3, E4, E5, E6, E7, fAdd_id, fSub_id, fMul_id, e62, e63]
                                                            refine s260_212.mpr (wif (fun c212 => ?_) (fun c212 => ?_))
                                                            · first
                                                              | (exfalso; omega)
                                                              | skip
                                                                exfalso; omega
                                                            · first
                                                              | (exfalso; omega)
                                                              | skip
                                                                refine s260_216.mpr ((s260_217 kM).mpr ?_)
                                                                rw [mr_33 hR]
                                                                refine s260_220.mpr (s260_221.mpr (s260_223.mpr ((s260_224 kM).mpr ?_)))
                                                                rw [mr_15 hR]
                                                                refine s260_227.mpr ?_
                                                                refine (s260_229 (hA.k (by decide) (by decide) rfl) (by first | assumption | omega) (by first | assumption | omega)).mpr ?_
                                                                try simp (disch := first | decide | assumption | omega) only [kon, knt_some, knt_none, Option.toList_some, Option.toList_none, List.cons_append, List.nil_append, upI_eq, upI_a, upI_i, upR_eq, upR_a, upR_i, h36, ht, E1, E2, E3, E4, E5, E6, E7, fAdd_id, fSub_id, fMul_id, e62, e63]
                                                                refine (s260_230 (by omega)).mpr ?_
                                                                refine m_inState ⟨v1, v2⟩ eth ?_
                                                                refine (s260_233 (hA.k (by decide) (by decide) rfl) (by first | assumption | omega) (by first | assumption | omega)).mpr ?_
                                                                try simp (disch := first | decide | assumption | omega) only [kon, knt_some, knt_none, Option.toList_some, Option.toList_none, List.cons_append, List.nil_append, upI_eq, upI_a, upI_i, upR_eq, upR_a, upR_i, h36, ht, E1, E2, E3, E4, E5, E6, E7, fAdd_id, fSub_id, fMul_id, e62, e63]
                                                                refine (s260_234).mpr ?_
                                                                first | (exfalso; omega) | (exact ok _ _ _ (tsL_37a c1 ⟨h0t, ⟨hk, hT.1, hT.2⟩, c70⟩) (flw1 (by rw [c1]; decide)) (by repeat' (first | assumption | exact FW.rf | refine FW.up ?_ (by unfold wS; omega) | (refine FW.tr ?_ (by assumption)))) (by (try simp (disch := decide) only [upI_eq, upI_a, upI_i, upR_eq, upR_a, upR_i]); try assumption) (by (try simp (disch := decide) only [upI_eq, upI_a, upI_i, upR_eq, upR_a, upR_i]); try assumption) (by simp (disch := decide) only [scX, upI_eq, upI_a, upI_i, upR_eq, upR_a, upR_i, upI_ro, upI_rw, ht, E1, E2, E3, E4, E5, E6, E7]; rfl))
                                                      · first
                                                        | (exfalso; omega)
                                                        | skip
                                                          exfalso; omega
                                                  · first
                                                    | (exfalso; omega)
                                                    | skip
                                                      exfalso; omega
                                            · skip
                                              refine s260_147.mpr ?_
                                              refine (s260_148 kM).mpr ?_
                                              try simp (disch := first | decide | assumption | omega) only [kon, knt_some, knt_none, Option.toList_some, Option.toList_none, List.cons_append, List.nil_append, upI_eq, upI_a, upI_i, upR_eq, upR_a, upR_i, h36, ht, E1, E2, E3, E4, E5, E6, E7, fAdd_id, fSub_id, fMul_id, e62, e63]
                                              refine s260_151.mpr (wif (fun c151 => ?_) (fun c151 => ?_))
                                              · first
                                                | (exfalso; omega)
                                                | skip
                                                  exfalso; omega
                                              · first
                                                | (exfalso; omega)
                                                | skip
                                                  refine s260_155.mpr (s260_156.mpr (s260_157.mpr ?_))
                                                  refine (s260_159 (by omega)).mpr ?_
                                                  refine m_stateOf (by omega) ⟨hm0, hm1⟩ hr9 ?_
                                                  refine s260_162.mpr (s260_163.mpr (s260_164.mpr (s260_165.mpr (s260_167.mpr ((s260_168 kM).mpr ?_)))))
                                                  rw [mr_14 hR]
                                                  refine s260_171.mpr ?_
                                                  try simp (disch := first | decide | assumption | omega) only [kon, knt_some, knt_none, Option.toList_some, Option.toList_none, List.cons_append, List.nil_append, upI_eq, upI_a, upI_i, upR_eq, upR_a, upR_i, h36, ht, E1, E2, E3, E4, E5, E6, E7, fAdd_id, fSub_id, fMul_id, e62, e63]
                                                  refine (s260_173 (hA.k (by decide) (by decide) rfl) (by first | assumption | omega) (by first | assumption | omega)).mpr ?_
                                                  refine s260_174.mpr ?_
                                                  try simp (disch := first | decide | assumption | omega) only [kon, knt_some, knt_none, Option.toList_some, Option.toList_none, List.cons_append, List.nil_append, upI_eq, upI_a, upI_i, upR_eq, upR_a, upR_i, h36, ht, E1, E2, E3, E4, E5, E6, E7, fAdd_id, fSub_id, fMul_id, e62, e63]
                                                  refine s260_175.mpr (wif (fun c175 => ?_) (fun c175 => ?_))
                                                  · first
                                                    | (exfalso; omega)
                                                    | skip
                                                      refine s260_189.mpr (s260_190.mpr ?_)
                                                      refine (s260_191 kM).mpr ?_
                                                      refine s260_194.mpr (s260_195.mpr (s260_196.mpr ?_))
                                                      try simp (disch := first | decide | assumption | omega) only [kon, knt_some, knt_none, Option.toList_some, Option.toList_none, List.cons_append, List.nil_append, upI_eq, upI_a, upI_i, upR_eq, upR_a, upR_i, h36, ht, E1, E2, E3, E4, E5, E6, E7, fAdd_id, fSub_id, fMul_id, e62, e63]
                                                      refine s260_197.mpr (wif (fun c197 => ?_) (fun c197 => ?_))
                                                      · first
                                                        | (exfalso; omega)
                                                        | skip
                                                          refine s260_200.mpr (s260_201.mpr ?_)
                                                          refine (s260_205 (by omega) kM).mpr ?_
                                                          refine m_wants hA (by omega) (by (try simp (disch := decide) only [upI_eq, upI_a, upI_i, upR_eq, upR_a, upR_i]); first | assumption | rfl) (by omega) (fun y205 => ?_) (fun y205 => ?_)
                                                          · skip
                                                            refine s260_208.mpr ?_
                                                            refine (s260_209 kM).mpr ?_
                                                            try simp (disch := first | decide | assumption | omega) only [kon, knt_some, knt_none, Option.toList_some, Option.toList_none, List.cons_append, List.nil_append, upI_eq, upI_a, upI_i, upR_eq, upR_a, upR_i, h36, ht, E1, E2, E3, E4, E5, E6, E7, fAdd_id, fSub_id, fMul_id, e62, e63]
                                                            refine s260_212.mpr (wif (fun c212 => ?_) (fun c212 => ?_))
                                                            · first
                                                              | (exfalso; omega)
                                                              | skip
                                                                exfalso; omega
                                                            · first
                                                              | (exfalso; omega)
                                                              | skip
                                                                refine s260_216.mpr ((s260_217 kM).mpr ?_)
                                                                rw [mr_33 hR]
                                                                refine s260_220.mpr (s260_221.mpr (s260_223.mpr ((s260_224 kM).mpr ?_)))
                                                                rw [mr_15 hR]
                                                                refine s260_227.mpr ?_
                                                                refine (s260_229 (hA.k (by decide) (by decide) rfl) (by first | assumption | omega) (by first | assumption | omega)).mpr ?_
                                                                try simp (disch := first | decide | assumption | omega) only [kon, knt_some, knt_none, Option.toList_some, Option.toList_none, List.cons_append, List.nil_append, upI_eq, upI_a, upI_i, upR_eq, upR_a, upR_i, h36, ht, E1, E2, E3, E4, E5, E6, E7, fAdd_id, fSub_id, fMul_id, e62, e63]
                                                                refine (s260_230 (by omega)).mpr ?_
                                                                refine m_inState ⟨v1, v2⟩ eth ?_
                                                                refine (s260_233 (hA.k (by decide) (by decide) rfl) (by first | assumption | omega) (by first | assumption | omega)).mpr ?_
                                                                try simp (disch := first | decide | assumption | omega) only [kon, knt_some, knt_none, Option.toList_some, Option.toList_none, List.cons_append, List.nil_append, upI_eq, upI_a, upI_i, upR_eq, upR_a, upR_i, h36, ht, E1, E2, E3, E4, E5, E6, E7, fAdd_id, fSub_id, fMul_id, e62, e63]
                                                                refine (s260_234).mpr ?_
                                                                first | (exfalso; omega) | (exact ok _ _ _ (tsL_37a c1 ⟨h0t, ⟨hk, hT.1, hT.2⟩, c70⟩) (flw1 (by rw [c1]; decide)) (by repeat' (first | assumption | exact FW.rf | refine FW.up ?_ (by unfold wS; omega) | (refine FW.tr ?_ (by assumption)))) (by (try simp (disch := decide) only [upI_eq, upI_a, upI_i, upR_eq, upR_a, upR_i]); try assumption) (by (try simp (disch := decide) only [upI_eq, upI_a, upI_i, upR_eq, upR_a, upR_i]); try assumption) (by simp (disch := decide) only [scX, upI_eq, upI_a, upI_i, upR_eq, upR_a, upR_i, upI_ro, upI_rw, ht, E1, E2, E3, E4, E5, E6, E7]; rfl))
                                                          · skip
                                                            refine s260_208.mpr ?_
                                                            refine (s260_209 kM).mpr ?_
                                                            try simp (disch := first | decide | assumption | omega) only [kon, knt_some, knt_none, Option.toList_some, Option.toList_none, List.cons_append, List.nil_append, upI_eq, upI_a, upI_i, upR_eq, upR_a, upR_i, h36, ht, E1, E2, E3, E4, E5, E6, E7, fAdd_id, fSub_id, fMul_id, e62, e63]
                                                            refine s260_212.mpr (wif (fun c212 => ?_) (fun c212 => ?_))
                                                            · first
                                                              | (exfalso; omega)
                                                              | skip
                                                                exfalso; omega
                                                            · first
                                                              | (exfalso; omega)
                                                              | skip
                                                                refine s260_216.mpr ((s260_217 kM).mpr ?_)
                                                                rw [mr_33 hR]
                                                                refine s260_220.mpr (s260_221.mpr (s260_223.mpr ((s260_224 kM).mpr ?_)))
                                                                rw [mr_15 hR]
                                                                refine s260_227.mpr ?_
                                                                refine (s260_229 (hA.k (by decide) (by decide) rfl) (by first | assumption | omega) (by first | assumption | omega)).mpr ?_
                                                                try simp (disch := first | decide | assumption | omega) only [kon, knt_some, knt_none, Option.toList_some, Option.toList_none, List.cons_append, List.nil_append, upI_eq, upI_a, upI_i, upR_eq, upR_a, upR_i, h36, ht, E1, E2, E3, E4, E5, E6, E7, fAdd_id, fSub_id, fMul_id, e62, e63]
                                                                refine (s260_230 (by omega)).mpr ?_
                                                                refine m_inState ⟨v1, v2⟩ eth ?_
                                                                refine (s260_233 (hA.k (by decide) (by decide) rfl) (by first | assumption | omega) (by first | assumption | omega)).mpr ?_
                                                                try simp (disch := first | decide | assumption | omega) only [kon, knt_some, knt_none, Option.toList_some, Option.toList_none, List.cons_append, List.nil_append, upI_eq, upI_a, upI_i, upR_eq, upR_a, upR_i, h36, ht, E1, E2, E3, E4, E5, E6, E7, fAdd_id, fSub_id, fMul_id, e62, e63]
                                                                refine (s260_234).mpr ?_
                                                                first | (exfalso; omega) | (exact ok _ _ _ (tsL_37a c1 ⟨h0t, ⟨hk, hT.1, hT.2⟩, c70⟩) (flw1 (by rw [c1]; decide)) (by repeat' (first | assumption | exact FW.rf | refine FW.up ?_ (by unfold wS; omega) | (refine FW.tr ?_ (by assumption)))) (by (try simp (disch := decide) only [upI_eq, upI_a, upI_i, upR_eq, upR_a, upR_i]); try assumption) (by (try simp (disch := decide) only [upI_eq, upI_a, upI_i, upR_eq, upR_a, upR_i]); try assumption) (by simp (disch := decide) only [scX, upI_eq, upI_a, upI_i, upR_eq, upR_a, upR_i, upI_ro, upI_rw, ht, E1, E2, E3, E4, E5, E6, E7]; rfl))
                                                      · first
                                                        | (exfalso; omega)
                                                        | skip
                                                          exfalso; omega
                                                  · first
                                                    | (exfalso; omega)
                                                    | skip
                                                      exfalso; omega
                                      · skip
                                        refine s260_136.mpr (wif (fun c136 => ?_) (fun c136 => ?_))
                                        · first
                                          | (exfalso; omega)
                                          | skip
                                            exfalso; omega
                                        · first
                                          | (exfalso; omega)
                                          | skip
                                            refine s260_139.mpr (s260_140.mpr ?_)
                                            refine (s260_144 (by omega) kM).mpr ?_
                                            refine m_wants hA (by omega) (by (try simp (disch := decide) only [upI_eq, upI_a, upI_i, upR_eq, upR_a, upR_i]); first | assumption | rfl) (by omega) (fun y144 => ?_) (fun y144 => ?_)
                                            · skip
                                              refine s260_147.mpr ?_
                                              refine (s260_148 kM).mpr ?_
                                              try simp (disch := first | decide | assumption | omega) only [kon, knt_some, knt_none, Option.toList_some, Option.toList_none, List.cons_append, List.nil_append, upI_eq, upI_a, upI_i, upR_eq, upR_a, upR_i, h36, ht, E1, E2, E3, E4, E5, E6, E7, fAdd_id, fSub_id, fMul_id, e62, e63]
                                              refine s260_151.mpr (wif (fun c151 => ?_) (fun c151 => ?_))
                                              · first
                                                | (exfalso; omega)
                                                | skip
                                                  exfalso; omega
                                              · first
                                                | (exfalso; omega)
                                                | skip
                                                  refine s260_155.mpr (s260_156.mpr (s260_157.mpr ?_))
                                                  refine (s260_159 (by omega)).mpr ?_
                                                  refine m_stateOf (by omega) ⟨hm0, hm1⟩ hr9 ?_
                                                  refine s260_162.mpr (s260_163.mpr (s260_164.mpr (s260_165.mpr (s260_167.mpr ((s260_168 kM).mpr ?_)))))
                                                  rw [mr_14 hR]
                                                  refine s260_171.mpr ?_
                                                  try simp (disch := first | decide | assumption | omega) only [kon, knt_some, knt_none, Option.toList_some, Option.toList_none, List.cons_append, List.nil_append, upI_eq, upI_a, upI_i, upR_eq, upR_a, upR_i, h36, ht, E1, E2, E3, E4, E5, E6, E7, fAdd_id, fSub_id, fMul_id, e62, e63]
                                                  refine (s260_173 (hA.k (by decide) (by decide) rfl) (by first | assumption | omega) (by first | assumption | omega)).mpr ?_
                                                  refine s260_174.mpr ?_
                                                  try simp (disch := first | decide | assumption | omega) only [kon, knt_some, knt_none, Option.toList_some, Option.toList_none, List.cons_append, List.nil_append, upI_eq, upI_a, upI_i, upR_eq, upR_a, upR_i, h36, ht, E1, E2, E3, E4, E5, E6, E7, fAdd_id, fSub_id, fMul_id, e62, e63]
                                                  refine s260_175.mpr (wif (fun c175 => ?_) (fun c175 => ?_))
                                                  · first
                                                    | (exfalso; omega)
                                                    | skip
                                                      refine s260_189.mpr (s260_190.mpr ?_)
                                                      refine (s260_191 kM).mpr ?_
                                                      refine s260_194.mpr (s260_195.mpr (s260_196.mpr ?_))
                                                      try simp (disch := first | decide | assumption | omega) only [kon, knt_some, knt_none, Option.toList_some, Option.toList_none, List.cons_append, List.nil_append, upI_eq, upI_a, upI_i, upR_eq, upR_a, upR_i, h36, ht, E1, E2, E3, E4, E5, E6, E7, fAdd_id, fSub_id, fMul_id, e62, e63]
                                                      refine s260_197.mpr (wif (fun c197 => ?_) (fun c197 => ?_))
                                                      · first
                                                        | (exfalso; omega)
                                                        | skip
                                                          refine s260_200.mpr (s260_201.mpr ?_)
                                                          refine (s260_205 (by omega) kM).mpr ?_
                                                          refine m_wants hA (by omega) (by (try simp (disch := decide) only [upI_eq, upI_a, upI_i, upR_eq, upR_a, upR_i]); first | assumption | rfl) (by omega) (fun y205 => ?_) (fun y205 => ?_)
                                                          · skip
                                                            refine s260_208.mpr ?_
                                                            refine (s260_209 kM).mpr ?_
                                                            try simp (disch := first | decide | assumption | omega) only [kon, knt_some, knt_none, Option.toList_some, Option.toList_none, List.cons_append, List.nil_append, upI_eq, upI_a, upI_i, upR_eq, upR_a, upR_i, h36, ht, E1, E2, E3, E4, E5, E6, E7, fAdd_id, fSub_id, fMul_id, e62, e63]
                                                            refine s260_212.mpr (wif (fun c212 => ?_) (fun c212 => ?_))
                                                            · first
                                                              | (exfalso; omega)
                                                              | skip
                                                                exfalso; omega
                                                            · first
                                                              | (exfalso; omega)
                                                              | skip
                                                                refine s260_216.mpr ((s260_217 kM).mpr ?_)
                                                                rw [mr_33 hR]
                                                                refine s260_220.mpr (s260_221.mpr (s260_223.mpr ((s260_224 kM).mpr ?_)))
                                                                rw [mr_15 hR]
                                                                refine s260_227.mpr ?_
                                                                refine (s260_229 (hA.k (by decide) (by decide) rfl) (by first | assumption | omega) (by first | assumption | omega)).mpr ?_
                                                                try simp (disch := first | decide | assumption | omega) only [kon, knt_some, knt_none, Option.toList_some, Option.toList_none, List.cons_append, List.nil_append, upI_eq, upI_a, upI_i, upR_eq, upR_a, upR_i, h36, ht, E1, E2, E3, E4, E5, E6, E7, fAdd_id, fSub_id, fMul_id, e62, e63]
                                                                refine (s260_230 (by omega)).mpr ?_
                                                                refine m_inState ⟨v1, v2⟩ eth ?_
                                                                refine (s260_233 (hA.k (by decide) (by decide) rfl) (by first | assumption | omega) (by first | assumption | omega)).mpr ?_
                                                                try simp (disch := first | decide | assumption | omega) only [kon, knt_some, knt_none, Option.toList_some, Option.toList_none, List.cons_append, List.nil_append, upI_eq, upI_a, upI_i, upR_eq, upR_a, upR_i, h36, ht, E1, E2, E3, E4, E5, E6, E7, fAdd_id, fSub_id, fMul_id, e62, e63]
                                                                refine (s260_234).mpr ?_
                                                                first | (exfalso; omega) | (exact ok _ _ _ (tsL_37a c1 ⟨h0t, ⟨hk, hT.1, hT.2⟩, c70⟩) (flw1 (by rw [c1]; decide)) (by repeat' (first | assumption | exact FW.rf | refine FW.up ?_ (by unfold wS; omega) | (refine FW.tr ?_ (by assumption)))) (by (try simp (disch := decide) only [upI_eq, upI_a, upI_i, upR_eq, upR_a, upR_i]); try assumption) (by (try simp (disch := decide) only [upI_eq, upI_a, upI_i, upR_eq, upR_a, upR_i]); try assumption) (by simp (disch := decide) only [scX, upI_eq, upI_a, upI_i, upR_eq, upR_a, upR_i, upI_ro, upI_rw, ht, E1, E2, E3, E4, E5, E6, E7]; rfl))
                                                          · skip
                                                            refine s260_208.mpr ?_
                                                            refine (s260_209 kM).mpr ?_
                                                            try simp (disch := first | decide | assumption | omega) only [kon, knt_some, knt_none, Option.toList_some, Option.toList_none, List.cons_append, List.nil_append, upI_eq, upI_a, upI_i, upR_eq, upR_a, upR_i, h36, ht, E1, E2, E3, E4, E5, E6, E7, fAdd_id, fSub_id, fMul_id, e62, e63]
                                                            refine s260_212.mpr (wif (fun c212 => ?_) (fun c212 => ?_))
                                                            · first
                                                              | (exfalso; omega)
                                                              | skip
                                                                exfalso; omega
                                                            · first
                                                              | (exfalso; omega)
                                                              | skip
                                                                refine s260_216.mpr ((s260_217 kM).mpr ?_)
                                                                rw [mr_33 hR]
                                                                refine s260_220.mpr (s260_221.mpr (s260_223.mpr ((s260_224 kM).mpr ?_)))
                                                                rw [mr_15 hR]
                                                                refine s260_227.mpr ?_
                                                                refine (s260_229 (hA.k (by decide) (by decide) rfl) (by first | assumption | omega) (by first | assumption | omega)).mpr ?_
                                                                try simp (disch := first | decide | assumption | omega) only [kon, knt_some, knt_none, Option.toList_some, Option.toList_none, List.cons_append, List.nil_append, upI_eq, upI_a, upI_i, upR_eq, upR_a, upR_i, h36, ht, E1, E2, E3, E4, E5, E6, E7, fAdd_id, fSub_id, fMul_id, e62, e63]
                                                                refine (s260_230 (by omega)).mpr ?_
                                                                refine m_inState ⟨v1, v2⟩ eth ?_
                                                                refine (s260_233 (hA.k (by decide) (by decide) rfl) (by first | assumption | omega) (by first | assumption | omega)).mpr ?_
                                                                try simp (disch := first | decide | assumption | omega) only [kon, knt_some, knt_none, Option.toList_some, Option.toList_none, List.cons_append, List.nil_append, upI_eq, upI_a, upI_i, upR_eq, upR_a, upR_i, h36, ht, E1, E2, E3, E4, E5, E6, E7, fAdd_id, fSub_id, fMul_id, e62, e63]
                                                                refine (s260_234).mpr ?_
                                                                first | (exfalso; omega) | (exact ok _ _ _ (tsL_37a c1 ⟨h0t, ⟨hk, hT.1, hT.2⟩, c70⟩) (flw1 (by rw [c1]; decide)) (by repeat' (first | assumption | exact FW.rf | refine FW.up ?_ (by unfold wS; omega) | (refine FW.tr ?_ (by assumption)))) (by (try simp (disch := decide) only [upI_eq, upI_a, upI_i, upR_eq, upR_a, upR_i]); try assumption) (by (try simp (disch := decide) only [upI_eq, upI_a, upI_i, upR_eq, upR_a, upR_i]); try assumption) (by simp (disch := decide) only [scX, upI_eq, upI_a, upI_i, upR_eq, upR_a, upR_i, upI_ro, upI_rw, ht, E1, E2, E3, E4, E5, E6, E7]; rfl))
                                                      · first
                                                        | (exfalso; omega)
                                                        | skip
                                                          exfalso; omega
                                                  · first
                                                    | (exfalso; omega)
                                                    | skip
                                                      exfalso; omega
                                            · skip
                                              refine s260_147.mpr ?_
                                              refine (s260_148 kM).mpr ?_
                                              try simp (disch := first | decide | assumption | omega) only [kon, knt_some, knt_none, Option.toList_some, Option.toList_none, List.cons_append, List.nil_append, upI_eq, upI_a, upI_i, upR_eq, upR_a, upR_i, h36, ht, E1, E2, E3, E4, E5, E6, E7, fAdd_id, fSub_id, fMul_id, e62, e63]
                                              refine s260_151.mpr (wif (fun c151 => ?_) (fun c151 => ?_))
                                              · first
                                                | (exfalso; omega)
                                                | skip
                                                  exfalso; omega
                                              · first
                                                | (exfalso; omega)
                                                | skip
                                                  refine s260_155.mpr (s260_156.mpr (s260_157.mpr ?_))
                                                  refine (s260_159 (by omega)).mpr ?_
                                                  refine m_stateOf (by omega) ⟨hm0, hm1⟩ hr9 ?_
                                                  refine s260_162.mpr (s260_163.mpr (s260_164.mpr (s260_165.mpr (s260_167.mpr ((s260_168 kM).mpr ?_)))))
                                                  rw [mr_14 hR]
                                                  refine s260_171.mpr ?_
                                                  try simp (disch := first | decide | assumption | omega) only [kon, knt_some, knt_none, Option.toList_some, Option.toList_none, List.cons_append, List.nil_append, upI_eq, upI_a, upI_i, upR_eq, upR_a, upR_i, h36, ht, E1, E2, E3, E4, E5, E6, E7, fAdd_id, fSub_id, fMul_id, e62, e63]
                                                  refine (s260_173 (hA.k (by decide) (by decide) rfl) (by first | assumption | omega) (by first | assumption | omega)).mpr ?_
                                                  refine s260_174.mpr ?_
                                                  try simp (disch := first | decide | assumption | omega) only [kon, knt_some, knt_none, Option.toList_some, Option.toList_none, List.cons_append, List.nil_append, upI_eq, upI_a, upI_i, upR_eq, upR_a, upR_i, h36, ht, E1, E2, E3, E4, E5, E6, E7, fAdd_id, fSub_id, fMul_id, e62, e63]
                                                  refine s260_175.mpr (wif (fun c175 => ?_) (fun c175 => ?_))
                                                  · first
                                                    | (exfalso; omega)
                                                    | skip
                                                      refine s260_189.mpr (s260_190.mpr ?_)
                                                      refine (s260_191 kM).mpr ?_
                                                      refine s260_194.mpr (s260_195.mpr (s260_196.mpr ?_))
                                                      try simp (disch := first | decide | assumption | omega) only [kon, knt_some, knt_none, Option.toList_some, Option.toList_none, List.cons_append, List.nil_append, upI_eq, upI_a, upI_i, upR_eq, upR_a, upR_i, h36, ht, E1, E2, E3, E4, E5, E6, E7, fAdd_id, fSub_id, fMul_id, e62, e63]
                                                      refine s260_197.mpr (wif (fun c197 => ?_) (fun c197 => ?_))
                                                      · first
                                                        | (exfalso; omega)
                                                        | skip
                                                          refine s260_200.mpr (s260_201.mpr ?_)
                                                          refine (s260_205 (by omega) kM).mpr ?_
                                                          refine m_wants hA (by omega) (by (try simp (disch := decide) only [upI_eq, upI_a, upI_i, upR_eq, upR_a, upR_i]); first | assumption | rfl) (by omega) (fun y205 => ?_) (fun y205 => ?_)
                                                          · skip
                                                            refine s260_208.mpr ?_
                                                            refine (s260_209 kM).mpr ?_
                                                            try simp (disch := first | decide | assumption | omega) only [kon, knt_some, knt_none, Option.toList_some, Option.toList_none, List.cons_append, List.nil_append, upI_eq, upI_a, upI_i, upR_eq, upR_a, upR_i, h36, ht, E1, E2, E3, E4, E5, E6, E7, fAdd_id, fSub_id, fMul_id, e62, e63]
                                                            refine s260_212.mpr (wif (fun c212 => ?_) (fun c212 => ?_))
                                                            · first
                                                              | (exfalso; omega)
                                                              | skip
                                                                exfalso; omega
                                                            · first
                                                              | (exfalso; omega)
                                                              | skip
                                                                refine s260_216.mpr ((s260_217 kM).mpr ?_)
                                                                rw [mr_33 hR]
                                                                refine s260_220.mpr (s260_221.mpr (s260_223.mpr ((s260_224 kM).mpr ?_)))
                                                                rw [mr_15 hR]
                                                                refine s260_227.mpr ?_
                                                                refine (s260_229 (hA.k (by decide) (by decide) rfl) (by first | assumption | omega) (by first | assumption | omega)).mpr ?_
                                                                try simp (disch := first | decide | assumption | omega) only [kon, knt_some, knt_none, Option.toList_some, Option.toList_none, List.cons_append, List.nil_append, upI_eq, upI_a, upI_i, upR_eq, upR_a, upR_i, h36, ht, E1, E2, E3, E4, E5, E6, E7, fAdd_id, fSub_id, fMul_id, e62, e63]
                                                                refine (s260_230 (by omega)).mpr ?_
                                                                refine m_inState ⟨v1, v2⟩ eth ?_
                                                                refine (s260_233 (hA.k (by decide) (by decide) rfl) (by first | assumption | omega) (by first | assumption | omega)).mpr ?_
                                                                try simp (disch := first | decide | assumption | omega) only [kon, knt_some, knt_none, Option.toList_some, Option.toList_none, List.cons_append, List.nil_append, upI_eq, upI_a, upI_i, upR_eq, upR_a, upR_i, h36, ht, E1, E2, E3, E4, E5, E6, E7, fAdd_id, fSub_id, fMul_id, e62, e63]
                                                                refine (s260_234).mpr ?_
                                                                first | (exfalso; omega) | (exact ok _ _ _ (tsL_37a c1 ⟨h0t, ⟨hk, hT.1, hT.2⟩, c70⟩) (flw1 (by rw [c1]; decide)) (by repeat' (first | assumption | exact FW.rf | refine FW.up ?_ (by unfold wS; omega) | (refine FW.tr ?_ (by assumption)))) (by (try simp (disch := decide) only [upI_eq, upI_a, upI_i, upR_eq, upR_a, upR_i]); try assumption) (by (try simp (disch := decide) only [upI_eq, upI_a, upI_i, upR_eq, upR_a, upR_i]); try assumption) (by simp (disch := decide) only [scX, upI_eq, upI_a, upI_i, upR_eq, upR_a, upR_i, upI_ro, upI_rw, ht, E1, E2, E3, E4, E5, E6, E7]; rfl))
                                                          · skip
                                                            refine s260_208.mpr ?_
                                                            refine (s260_209 kM).mpr ?_
                                                            try simp (disch := first | decide | assumption | omega) only [kon, knt_some, knt_none, Option.toList_some, Option.toList_none, List.cons_append, List.nil_append, upI_eq, upI_a, upI_i, upR_eq, upR_a, upR_i, h36, ht, E1, E2, E3, E4, E5, E6, E7, fAdd_id, fSub_id, fMul_id, e62, e63]
                                                            refine s260_212.mpr (wif (fun c212 => ?_) (fun c212 => ?_))
                                                            · first
                                                              | (exfalso; omega)
                                                              | skip
                                                                exfalso; omega
                                                            · first
                                                              | (exfalso; omega)
                                                              | skip
                                                                refine s260_216.mpr ((s260_217 kM).mpr ?_)
                                                                rw [mr_33 hR]
                                                                refine s260_220.mpr (s260_221.mpr (s260_223.mpr ((s260_224 kM).mpr ?_)))
                                                                rw [mr_15 hR]
                                                                refine s260_227.mpr ?_
                                                                refine (s260_229 (hA.k (by decide) (by decide) rfl) (by first | assumption | omega) (by first | assumption | omega)).mpr ?_
                                                                try simp (disch := first | decide | assumption | omega) only [kon, knt_some, knt_none, Option.toList_some, Option.toList_none, List.cons_append, List.nil_append, upI_eq, upI_a, upI_i, upR_eq, upR_a, upR_i, h36, ht, E1, E2, E3, E4, E5, E6, E7, fAdd_id, fSub_id, fMul_id, e62, e63]
                                                                refine (s260_230 (by omega)).mpr ?_
                                                                refine m_inState ⟨v1, v2⟩ eth ?_
                                                                refine (s260_233 (hA.k (by decide) (by decide) rfl) (by first | assumption | omega) (by first | assumption | omega)).mpr ?_
                                                                try simp (disch := first | decide | assumption | omega) only [kon, knt_some, knt_none, Option.toList_some, Option.toList_none, List.cons_append, List.nil_append, upI_eq, upI_a, upI_i, upR_eq, upR_a, upR_i, h36, ht, E1, E2, E3, E4, E5, E6, E7, fAdd_id, fSub_id, fMul_id, e62, e63]
                                                                refine (s260_234).mpr ?_
                                                                first | (exfalso; omega) | (exact ok _ _ _ (tsL_37a c1 ⟨h0t, ⟨hk, hT.1, hT.2⟩, c70⟩) (flw1 (by rw [c1]; decide)) (by repeat' (first | assumption | exact FW.rf | refine FW.up ?_ (by unfold wS; omega) | (refine FW.tr ?_ (by assumption)))) (by (try simp (disch := decide) only [upI_eq, upI_a, upI_i, upR_eq, upR_a, upR_i]); try assumption) (by (try simp (disch := decide) only [upI_eq, upI_a, upI_i, upR_eq, upR_a, upR_i]); try assumption) (by simp (disch := decide) only [scX, upI_eq, upI_a, upI_i, upR_eq, upR_a, upR_i, upI_ro, upI_rw, ht, E1, E2, E3, E4, E5, E6, E7]; rfl))
                                                      · first
                                                        | (exfalso; omega)
                                                        | skip
                                                          exfalso; omega
                                                  · first
                                                    | (exfalso; omega)
                                                    | skip
                                                      exfalso; omega
                                  · first
                                    | (exfalso; omega)
                                    | skip
                                      exfalso; omega
                    · first
                      | (exfalso; omega)
                      | skip
                        exact T82 (fun h => by first | omega | exact c70 h.2.2)
              · skip
                refine s260_42.mpr (wif (fun c42 => ?_) (fun c42 => ?_))
                · first
                  | (exfalso; omega)
                  | skip
                    exact T82 (fun h => by first | omega | exact c70 h.2.2)
                · first
                  | (exfalso; omega)
                  | skip
                    refine s260_45.mpr ((s260_46 kM).mpr ?_)
                    rw [mr_14 hR]
                    refine s260_49.mpr (s260_50.mpr (s260_51.mpr ((s260_52 kM).mpr ?_)))
                    rw [mr_33 hR]
                    refine s260_55.mpr ?_
                    refine (s260_56 kM).mpr ?_
                    refine s260_59.mpr (s260_60.mpr ?_)
                    try simp (disch := first | decide | assumption | omega) only [kon, knt_some, knt_none, Option.toList_some, Option.toList_none, List.cons_append, List.nil_append, upI_eq, upI_a, upI_i, upR_eq, upR_a, upR_i, h36, ht, E1, E2, E3, E4, E5, E6, E7, fAdd_id, fSub_id, fMul_id, e62, e63]
                    refine (s260_61 (hA.k (by decide) (by decide) rfl) (by first | assumption | omega) (by first | assumption | omega)).mpr ?_
                    try simp (disch := first | decide | assumption | omega) only [kon, knt_some, knt_none, Option.toList_some, Option.toList_none, List.cons_append, List.nil_append, upI_eq, upI_a, upI_i, upR_eq, upR_a, upR_i, h36, ht, E1, E2, E3, E4, E5, E6, E7, fAdd_id, fSub_id, fMul_id, e62, e63]
                    refine (s260_62 (by omega)).mpr ?_
                    refine m_stateOf (by omega) ⟨hm0, hm1⟩ hr9 ?_
                    refine s260_65.mpr (s260_66.mpr (s260_67.mpr ?_))
                    try simp (disch := first | decide | assumption | omega) only [kon, knt_some, knt_none, Option.toList_some, Option.toList_none, List.cons_append, List.nil_append, upI_eq, upI_a, upI_i, upR_eq, upR_a, upR_i, h36, ht, E1, E2, E3, E4, E5, E6, E7, fAdd_id, fSub_id, fMul_id, e62, e63]
                    refine (s260_68 (hA.k (by decide) (by decide) rfl) (by first | assumption | omega) (by first | assumption | omega)).mpr ?_
                    refine s260_69.mpr ?_
                    try simp (disch := first | decide | assumption | omega) only [kon, knt_some, knt_none, Option.toList_some, Option.toList_none, List.cons_append, List.nil_append, upI_eq, upI_a, upI_i, upR_eq, upR_a, upR_i, h36, ht, E1, E2, E3, E4, E5, E6, E7, fAdd_id, fSub_id, fMul_id, e62, e63]
                    refine s260_70.mpr (wif (fun c70 => ?_) (fun c70 => ?_))
                    · first
                      | (exfalso; omega)
                      | skip
                        refine s260_73.mpr ?_
                        refine (s260_74 kM).mpr ?_
                        refine s260_77.mpr (s260_78.mpr (s260_79.mpr (s260_88.mpr (s260_89.mpr (s260_90.mpr ?_)))))
                        try simp (disch := first | decide | assumption | omega) only [kon, knt_some, knt_none, Option.toList_some, Option.toList_none, List.cons_append, List.nil_append, upI_eq, upI_a, upI_i, upR_eq, upR_a, upR_i, h36, ht, E1, E2, E3, E4, E5, E6, E7, fAdd_id, fSub_id, fMul_id, e62, e63]
                        refine s260_91.mpr (wif (fun c91 => ?_) (fun c91 => ?_))
                        · first
                          | (exfalso; omega)
                          | skip
                            exfalso; omega
                        · first
                          | (exfalso; omega)
                          | skip
                            refine s260_94.mpr (s260_95.mpr ?_)
                            refine (s260_99 (by omega) kM).mpr ?_
                            refine m_wants hA (by omega) (by (try simp (disch := decide) only [upI_eq, upI_a, upI_i, upR_eq, upR_a, upR_i]); first | assumption | rfl) (by omega) (fun y99 => ?_) (fun y99 => ?_)
                            · skip
                              refine s260_102.mpr ?_
                              refine (s260_103 kM).mpr ?_
                              try simp (disch := first | decide | assumption | omega) only [kon, knt_some, knt_none, Option.toList_some, Option.toList_none, List.cons_append, List.nil_append, upI_eq, upI_a, upI_i, upR_eq, upR_a, upR_i, h36, ht, E1, E2, E3, E4, E5, E6, E7, fAdd_id, fSub_id, fMul_id, e62, e63]
                              refine s260_106.mpr (wif (fun c106 => ?_) (fun c106 => ?_))
                              · first
                                | (exfalso; omega)
                                | skip
                                  exfalso; omega
                              · first
                                | (exfalso; omega)
                                | skip
                                  refine s260_110.mpr ((s260_111 kM).mpr ?_)
                                  rw [mr_33 hR]
                                  refine s260_114.mpr ?_
                                  refine (s260_115 (hA.k (by decide) (by decide) rfl) (by first | assumption | omega) (by first | assumption | omega)).mpr ?_
                                  refine s260_116.mpr (s260_118.mpr (s260_119.mpr ?_))
                                  try simp (disch := first | decide | assumption | omega) only [kon, knt_some, knt_none, Option.toList_some, Option.toList_none, List.cons_append, List.nil_append, upI_eq, upI_a, upI_i, upR_eq, upR_a, upR_i, h36, ht, E1, E2, E3, E4, E5, E6, E7, fAdd_id, fSub_id, fMul_id, e62, e63]
                                  refine (s260_121 (by omega)).mpr ?_
                                  refine m_kind.mpr ?_
                                  refine s260_124.mpr ?_
                                  refine s260_125.mpr (wif (fun c125 => ?_) (fun c125 => ?_))
                                  · first
                                    | (exfalso; omega)
                                    | skip
                                      refine s260_128.mpr (s260_129.mpr (s260_130.mpr (s260_132.mpr ?_)))
                                      refine (s260_133 (by omega) kM).mpr ?_
                                      refine m_isTurn (B := B) hA hR (by omega) hM hS hE (fun y133 z133 => ?_) (fun y133 => ?_)
                                      · skip
                                        refine s260_136.mpr (wif (fun c136 => ?_) (fun c136 => ?_))
                                        · first
                                          | (exfalso; omega)
                                          | skip
                                            exfalso; omega
                                        · first
                                          | (exfalso; omega)
                                          | skip
                                            refine s260_139.mpr (s260_140.mpr ?_)
                                            refine (s260_144 (by omega) kM).mpr ?_
                                            refine m_wants hA (by omega) (by (try simp (disch := decide) only [upI_eq, upI_a, upI_i, upR_eq, upR_a, upR_i]); first | assumption | rfl) (by omega) (fun y144 => ?_) (fun y144 => ?_)
                                            · skip
                                              refine s260_147.mpr ?_
                                              refine (s260_148 kM).mpr ?_
                                              try simp (disch := first | decide | assumption | omega) only [kon, knt_some, knt_none, Option.toList_some, Option.toList_none, List.cons_append, List.nil_append, upI_eq, upI_a, upI_i, upR_eq, upR_a, upR_i, h36, ht, E1, E2, E3, E4, E5, E6, E7, fAdd_id, fSub_id, fMul_id, e62, e63]
                                              refine s260_151.mpr (wif (fun c151 => ?_) (fun c151 => ?_))
                                              · first
                                                | (exfalso; omega)
                                                | skip
                                                  exfalso; omega
                                              · first
                                                | (exfalso; omega)
                                                | skip
                                                  refine s260_155.mpr (s260_156.mpr (s260_157.mpr ?_))
                                                  refine (s260_159 (by omega)).mpr ?_
                                                  refine m_stateOf (by omega) ⟨hm0, hm1⟩ hr9 ?_
                                                  refine s260_162.mpr (s260_163.mpr (s260_164.mpr (s260_165.mpr (s260_167.mpr ((s260_168 kM).mpr ?_)))))
                                                  rw [mr_14 hR]
                                                  refine s260_171.mpr ?_
                                                  try simp (disch := first | decide | assumption | omega) only [kon, knt_some, knt_none, Option.toList_some, Option.toList_none, List.cons_append, List.nil_append, upI_eq, upI_a, upI_i, upR_eq, upR_a, upR_i, h36, ht, E1, E2, E3, E4, E5, E6, E7, fAdd_id, fSub_id, fMul_id, e62, e63]
                                                  refine (s260_173 (hA.k (by decide) (by decide) rfl) (by first | assumption | omega) (by first | assumption | omega)).mpr ?_
                                                  refine s260_174.mpr ?_
                                                  try simp (disch := first | decide | assumption | omega) only [kon, knt_some, knt_none, Option.toList_some, Option.toList_none, List.cons_append, List.nil_append, upI_eq, upI_a, upI_i, upR_eq, upR_a, upR_i, h36, ht, E1, E2, E3, E4, E5, E6, E7, fAdd_id, fSub_id, fMul_id, e62, e63]
                                                  refine s260_175.mpr (wif (fun c175 => ?_) (fun c175 => ?_))
                                                  · first
                                                    | (exfalso; omega)
                                                    | skip
                                                      refine s260_189.mpr (s260_190.mpr ?_)
                                                      refine (s260_191 kM).mpr ?_
                                                      refine s260_194.mpr (s260_195.mpr (s260_196.mpr ?_))
                                                      try simp (disch := first | decide | assumption | omega) only [kon, knt_some, knt_none, Option.toList_some, Option.toList_none, List.cons_append, List.nil_append, upI_eq, upI_a, upI_i, upR_eq, upR_a, upR_i, h36, ht, E1, E2, E3, E4, E5, E6, E7, fAdd_id, fSub_id, fMul_id, e62, e63]
                                                      refine s260_197.mpr (wif (fun c197 => ?_) (fun c197 => ?_))
                                                      · first
                                                        | (exfalso; omega)
                                                        | skip
                                                          refine s260_200.mpr (s260_201.mpr ?_)
                                                          refine (s260_205 (by omega) kM).mpr ?_
                                                          refine m_wants hA (by omega) (by (try simp (disch := decide) only [upI_eq, upI_a, upI_i, upR_eq, upR_a, upR_i]); first | assumption | rfl) (by omega) (fun y205 => ?_) (fun y205 => ?_)
                                                          · skip
                                                            refine s260_208.mpr ?_
                                                            refine (s260_209 kM).mpr ?_
                                                            try simp (disch := first | decide | assumption | omega) only [kon, knt_some, knt_none, Option.toList_some, Option.toList_none, List.cons_append, List.nil_append, upI_eq, upI_a, upI_i, upR_eq, upR_a, upR_i, h36, ht, E1, E2, E3, E4, E5, E6, E7, fAdd_id, fSub_id, fMul_id, e62, e63]
                                                            refine s260_212.mpr (wif (fun c212 => ?_) (fun c212 => ?_))
                                                            · first
                                                              | (exfalso; omega)
                                                              | skip
                                                                exfalso; omega
                                                            · first
                                                              | (exfalso; omega)
                                                              | skip
                                                                refine s260_216.mpr ((s260_217 kM).mpr ?_)
                                                                rw [mr_33 hR]
                                                                refine s260_220.mpr (s260_221.mpr (s260_223.mpr ((s260_224 kM).mpr ?_)))
                                                                rw [mr_15 hR]
                                                                refine s260_227.mpr ?_
                                                                refine (s260_229 (hA.k (by decide) (by decide) rfl) (by first | assumption | omega) (by first | assumption | omega)).mpr ?_
                                                                try simp (disch := first | decide | assumption | omega) only [kon, knt_some, knt_none, Option.toList_some, Option.toList_none, List.cons_append, List.nil_append, upI_eq, upI_a, upI_i, upR_eq, upR_a, upR_i, h36, ht, E1, E2, E3, E4, E5, E6, E7, fAdd_id, fSub_id, fMul_id, e62, e63]
                                                                refine (s260_230 (by omega)).mpr ?_
                                                                refine m_inState ⟨v1, v2⟩ eth ?_
                                                                refine (s260_233 (hA.k (by decide) (by decide) rfl) (by first | assumption | omega) (by first | assumption | omega)).mpr ?_
                                                                try simp (disch := first | decide | assumption | omega) only [kon, knt_some, knt_none, Option.toList_some, Option.toList_none, List.cons_append, List.nil_append, upI_eq, upI_a, upI_i, upR_eq, upR_a, upR_i, h36, ht, E1, E2, E3, E4, E5, E6, E7, fAdd_id, fSub_id, fMul_id, e62, e63]
                                                                refine (s260_234).mpr ?_
                                                                first | (exfalso; omega) | (exact ok _ _ _ (tsL_37a c1 ⟨h0t, ⟨hk, hT.1, hT.2⟩, c70⟩) (flw1 (by rw [c1]; decide)) (by repeat' (first | assumption | exact FW.rf | refine FW.up ?_ (by unfold wS; omega) | (refine FW.tr ?_ (by assumption)))) (by (try simp (disch := decide) only [upI_eq, upI_a, upI_i, upR_eq, upR_a, upR_i]); try assumption) (by (try simp (disch := decide) only [upI_eq, upI_a, upI_i, upR_eq, upR_a, upR_i]); try assumption) (by simp (disch := decide) only [scX, upI_eq, upI_a, upI_i, upR_eq, upR_a, upR_i, upI_ro, upI_rw, ht, E1, E2, E3, E4, E5, E6, E7]; rfl))
                                                          · skip
                                                            refine s260_208.mpr ?_
                                                            refine (s260_209 kM).mpr ?_
                                                            try simp (disch := first | decide | assumption | omega) only [kon, knt_some, knt_none, Option.toList_some, Option.toList_none, List.cons_append, List.nil_append, upI_eq, upI_a, upI_i, upR_eq, upR_a, upR_i, h36, ht, E1, E2, E3, E4, E5, E6, E7, fAdd_id, fSub_id, fMul_id, e62, e63]
                                                            refine s260_212.mpr (wif (fun c212 => ?_) (fun c212 => ?_))
                                                            · first
                                                              | (exfalso; omega)
                                                              | skip
                                                                exfalso; omega
                                                            · first
                                                              | (exfalso; omega)
                                                              | skip
                                                                refine s260_216.mpr ((s260_217 kM).mpr ?_)
                                                                rw [mr_33 hR]
                                                                refine s260_220.mpr (s260_221.mpr (s260_223.mpr ((s260_224 kM).mpr ?_)))
                                                                rw [mr_15 hR]
                                                                refine s260_227.mpr ?_
                                                                refine (s260_229 (hA.k (by decide) (by decide) rfl) (by first | assumption | omega) (by first | assumption | omega)).mpr ?_
                                                                try simp (disch := first | decide | assumption | omega) only [kon, knt_some, knt_none, Option.toList_some, Option.toList_none, List.cons_append, List.nil_append, upI_eq, upI_a, upI_i, upR_eq, upR_a, upR_i, h36, ht, E1, E2, E3, E4, E5, E6, E7, fAdd_id, fSub_id, fMul_id, e62, e63]
                                                                refine (s260_230 (by omega)).mpr ?_
                                                                refine m_inState ⟨v1, v2⟩ eth ?_
                                                                refine (s260_233 (hA.k (by decide) (by decide) rfl) (by first | assumption | omega) (by first | assumption | omega)).mpr ?_
                                                                try simp (disch := first | decide | assumption | omega) only [kon, knt_some, knt_none, Option.toList_some, Option.toList_none, List.cons_append, List.nil_append, upI_eq, upI_a, upI_i, upR_eq, upR_a, upR_i, h36, ht, E1, E2, E3, E4, E5, E6, E7, fAdd_id, fSub_id, fMul_id, e62, e63]
                                                                refine (s260_234).mpr ?_
                                                                first | (exfalso; omega) | (exact ok _ _ _ (tsL_37a c1 ⟨h0t, ⟨hk, hT.1, hT.2⟩, c70⟩) (flw1 (by rw [c1]; decide)) (by repeat' (first | assumption | exact FW.rf | refine FW.up ?_ (by unfold wS; omega) | (refine FW.tr ?_ (by assumption)))) (by (try simp (disch := decide) only [upI_eq, upI_a, upI_i, upR_eq, upR_a, upR_i]); try assumption) (by (try simp (disch := decide) only [upI_eq, upI_a, upI_i, upR_eq, upR_a, upR_i]); try assumption) (by simp (disch := decide) only [scX, upI_eq, upI_a, upI_i, upR_eq, upR_a, upR_i, upI_ro, upI_rw, ht, E1, E2, E3, E4, E5, E6, E7]; rfl))
                                                      · first
                                                        | (exfalso; omega)
                                                        | skip
                                                          exfalso; omega
                                                  · first
                                                    | (exfalso; omega)
                                                    | skip
                                                      exfalso; omega
                                            · skip
                                              refine s260_147.mpr ?_
                                              refine (s260_148 kM).mpr ?_
                                              try simp (disch := first | decide | assumption | omega) only [kon, knt_some, knt_none, Option.toList_some, Option.toList_none, List.cons_append, List.nil_append, upI_eq, upI_a, upI_i, upR_eq, upR_a, upR_i, h36, ht, E1, E2, E3, E4, E5, E6, E7, fAdd_id, fSub_id, fMul_id, e62, e63]
                                              refine s260_151.mpr (wif (fun c151 => ?_) (fun c151 => ?_))
                                              · first
                                                | (exfalso; omega)
                                                | skip
                                                  exfalso; omega
                                              · first
                                                | (exfalso; omega)
                                                | skip
                                                  refine s260_155.mpr (s260_156.mpr (s260_157.mpr ?_))
                                                  refine (s260_159 (by omega)).mpr ?_
                                                  refine m_stateOf (by omega) ⟨hm0, hm1⟩ hr9 ?_
                                                  refine s260_162.mpr (s260_163.mpr (s260_164.mpr (s260_165.mpr (s260_167.mpr ((s260_168 kM).mpr ?_)))))
                                                  rw [mr_14 hR]
                                                  refine s260_171.mpr ?_
                                                  try simp (disch := first | decide | assumption | omega) only [kon, knt_some, knt_none, Option.toList_some, Option.toList_none, List.cons_append, List.nil_append, upI_eq, upI_a, upI_i, upR_eq, upR_a, upR_i, h36, ht, E1, E2, E3, E4, E5, E6, E7, fAdd_id, fSub_id, fMul_id, e62, e63]
                                                  refine (s260_173 (hA.k (by decide) (by decide) rfl) (by first | assumption | omega) (by first | assumption | omega)).mpr ?_
                                                  refine s260_174.mpr ?_
                                                  try simp (disch := first | decide | assumption | omega) only [kon, knt_some, knt_none, Option.toList_some, Option.toList_none, List.cons_append, List.nil_append, upI_eq, upI_a, upI_i, upR_eq, upR_a, upR_i, h36, ht, E1, E2, E3, E4, E5, E6, E7, fAdd_id, fSub_id, fMul_id, e62, e63]
                                                  refine s260_175.mpr (wif (fun c175 => ?_) (fun c175 => ?_))
                                                  · first
                                                    | (exfalso; omega)
                                                    | skip
                                                      refine s260_189.mpr (s260_190.mpr ?_)
                                                      refine (s260_191 kM).mpr ?_
                                                      refine s260_194.mpr (s260_195.mpr (s260_196.mpr ?_))
                                                      try simp (disch := first | decide | assumption | omega) only [kon, knt_some, knt_none, Option.toList_some, Option.toList_none, List.cons_append, List.nil_append, upI_eq, upI_a, upI_i, upR_eq, upR_a, upR_i, h36, ht, E1, E2, E3, E4, E5, E6, E7, fAdd_id, fSub_id, fMul_id, e62, e63]
                                                      refine s260_197.mpr (wif (fun c197 => ?_) (fun c197 => ?_))
                                                      · first
                                                        | (exfalso; omega)
                                                        | skip
                                                          refine s260_200.mpr (s260_201.mpr ?_)
                                                          refine (s260_205 (by omega) kM).mpr ?_
                                                          refine m_wants hA (by omega) (by (try simp (disch := decide) only [upI_eq, upI_a, upI_i, upR_eq, upR_a, upR_i]); first | assumption | rfl) (by omega) (fun y205 => ?_) (fun y205 => ?_)
                                                          · skip
                                                            refine s260_208.mpr ?_
                                                            refine (s260_209 kM).mpr ?_
                                                            try simp (disch := first | decide | assumption | omega) only [kon, knt_some, knt_none, Option.toList_some, Option.toList_none, List.cons_append, List.nil_append, upI_eq, upI_a, upI_i, upR_eq, upR_a, upR_i, h36, ht, E1, E2, E3, E4, E5, E6, E7, fAdd_id, fSub_id, fMul_id, e62, e63]
                                                            refine s260_212.mpr (wif (fun c212 => ?_) (fun c212 => ?_))
                                                            · first
                                                              | (exfalso; omega)
                                                              | skip
                                                                exfalso; omega
                                                            · first
                                                              | (exfalso; omega)
                                                              | skip
                                                                refine s260_216.mpr ((s260_217 kM).mpr ?_)
                                                                rw [mr_33 hR]
                                                                refine s260_220.mpr (s260_221.mpr (s260_223.mpr ((s260_224 kM).mpr ?_)))
                                                                rw [mr_15 hR]
                                                                refine s260_227.mpr ?_
                                                                refine (s260_229 (hA.k (by decide) (by decide) rfl) (by first | assumption | omega) (by first | assumption | omega)).mpr ?_
                                                                try simp (disch := first | decide | assumption | omega) only [kon, knt_some, knt_none, Option.toList_some, Option.toList_none, List.cons_append, List.nil_append, upI_eq, upI_a, upI_i, upR_eq, upR_a, upR_i, h36, ht, E1, E2, E3, E4, E5, E6, E7, fAdd_id, fSub_id, fMul_id, e62, e63]
                                                                refine (s260_230 (by omega)).mpr ?_
                                                                refine m_inState ⟨v1, v2⟩ eth ?_
                                                                refine (s260_233 (hA.k (by decide) (by decide) rfl) (by first | assumption | omega) (by first | assumption | omega)).mpr ?_
                                                                try simp (disch := first | decide | assumption | omega) only [kon, knt_some, knt_none, Option.toList_some, Option.toList_none, List.cons_append, List.nil_append, upI_eq, upI_a, upI_i, upR_eq, upR_a, upR_i, h36, ht, E1, E2, E3, E4, E5, E6, E7, fAdd_id, fSub_id, fMul_id, e62, e63]
                                                                refine (s260_234).mpr ?_
                                                                first | (exfalso; omega) | (exact ok _ _ _ (tsL_37a c1 ⟨h0t, ⟨hk, hT.1, hT.2⟩, c70⟩) (flw1 (by rw [c1]; decide)) (by repeat' (first | assumption | exact FW.rf | refine FW.up ?_ (by unfold wS; omega) | (refine FW.tr ?_ (by assumption)))) (by (try simp (disch := decide) only [upI_eq, upI_a, upI_i, upR_eq, upR_a, upR_i]); try assumption) (by (try simp (disch := decide) only [upI_eq, upI_a, upI_i, upR_eq, upR_a, upR_i]); try assumption) (by simp (disch := decide) only [scX, upI_eq, upI_a, upI_i, upR_eq, upR_a, upR_i, upI_ro, upI_rw, ht, E1, E2, E3, E4, E5, E6, E7]; rfl))
                                                          · skip
                                                            refine s260_208.mpr ?_
                                                            refine (s260_209 kM).mpr ?_
                                                            try simp (disch := first | decide | assumption | omega) only [kon, knt_some, knt_none, Option.toList_some, Option.toList_none, List.cons_append, List.nil_append, upI_eq, upI_a, upI_i, upR_eq, upR_a, upR_i, h36, ht, E1, E2, E3, E4, E5, E6, E7, fAdd_id, fSub_id, fMul_id, e62, e63]
                                                            refine s260_212.mpr (wif (fun c212 => ?_) (fun c212 => ?_))
                                                            · first
                                                              | (exfalso; omega)
                                                              | skip
                                                                exfalso; omega
                                                            · first
                                                              | (exfalso; omega)
                                                              | skip
                                                                refine s260_216.mpr ((s260_217 kM).mpr ?_)
                                                                rw [mr_33 hR]
                                                                refine s260_220.mpr (s260_221.mpr (s260_223.mpr ((s260_224 kM).mpr ?_)))
                                                                rw [mr_15 hR]
                                                                refine s260_227.mpr ?_
                                                                refine (s260_229 (hA.k (by decide) (by decide) rfl) (by first | assumption | omega) (by first | assumption | omega)).mpr ?_
                                                                try simp (disch := first | decide | assumption | omega) only [kon, knt_some, knt_none, Option.toList_some, Option.toList_none, List.cons_append, List.nil_append, upI_eq, upI_a, upI_i, upR_eq, upR_a, upR_i, h36, ht, E1, E2, E3, E4, E5, E6, E7, fAdd_id, fSub_id, fMul_id, e62, e63]
                                                                refine (s260_230 (by omega)).mpr ?_
                                                                refine m_inState ⟨v1, v2⟩ eth ?_
                                                                refine (s260_233 (hA.k (by decide) (by decide) rfl) (by first | assumption | omega) (by first | assumption | omega)).mpr ?_
                                                                try simp (disch := first | decide | assumption | omega) only [kon, knt_some, knt_none, Option.toList_some, Option.toList_none, List.cons_append, List.nil_append, upI_eq, upI_a, upI_i, upR_eq, upR_a, upR_i, h36, ht, E1, E2, E3, E4, E5, E6, E7, fAdd_id, fSub_id, fMul_id, e62, e63]
                                                                refine (s260_234).mpr ?_
                                                                first | (exfalso; omega) | (exact ok _ _ _ (tsL_37a c1 ⟨h0t, ⟨hk, hT.1, hT.2⟩, c70⟩) (flw1 (by rw [c1]; decide)) (by repeat' (first | assumption | exact FW.rf | refine FW.up ?_ (by unfold wS; omega) | (refine FW.tr ?_ (by assumption)))) (by (try simp (disch := decide) only [upI_eq, upI_a, upI_i, upR_eq, upR_a, upR_i]); try assumption) (by (try simp (disch := decide) only [upI_eq, upI_a, upI_i, upR_eq, upR_a, upR_i]); try assumption) (by simp (disch := decide) only [scX, upI_eq, upI_a, upI_i, upR_eq, upR_a, upR_i, upI_ro, upI_rw, ht, E1, E2, E3, E4, E5, E6, E7]; rfl))
                                                      · first
                                                        | (exfalso; omega)
                                                        | skip
                                                          exfalso; omega
                                                  · first
                                                    | (exfalso; omega)
                                                    | skip
                                                      exfalso; omega
                                      · skip
                                        refine s260_136.mpr (wif (fun c136 => ?_) (fun c136 => ?_))
                                        · first
                                          | (exfalso; omega)
                                          | skip
                                            exfalso; omega
                                        · first
                                          | (exfalso; omega)
                                          | skip
                                            refine s260_139.mpr (s260_140.mpr ?_)
                                            refine (s260_144 (by omega) kM).mpr ?_
                                            refine m_wants hA (by omega) (by (try simp (disch := decide) only [upI_eq, upI_a, upI_i, upR_eq, upR_a, upR_i]); first | assumption | rfl) (by omega) (fun y144 => ?_) (fun y144 => ?_)
                                            · skip
                                              refine s260_147.mpr ?_
                                              refine (s260_148 kM).mpr ?_
                                              try simp (disch := first | decide | assumption | omega) only [kon, knt_some, knt_none, Option.toList_some, Option.toList_none, List.cons_append, List.nil_append, upI_eq, upI_a, upI_i, upR_eq, upR_a, upR_i, h36, ht, E1, E2, E3, E4, E5, E6, E7, fAdd_id, fSub_id, fMul_id, e62, e63]
                                              refine s260_151.mpr (wif (fun c151 => ?_) (fun c151 => ?_))
                                              · first
                                                | (exfalso; omega)
                                                | skip
                                                  exfalso; omega
                                              · first
                                                | (exfalso; omega)
                                                | skip
                                                  refine s260_155.mpr (s260_156.mpr (s260_157.mpr ?_))
                                                  refine (s260_159 (by omega)).mpr ?_
                                                  refine m_stateOf (by omega) ⟨hm0, hm1⟩ hr9 ?_
                                                  refine s260_162.mpr (s260_163.mpr (s260_164.mpr (s260_165.mpr (s260_167.mpr ((s260_168 kM).mpr ?_)))))
                                                  rw [mr_14 hR]
                                                  refine s260_171.mpr ?_
                                                  try simp (disch := first | decide | assumption | omega) only [kon, knt_some, knt_none, Option.toList_some, Option.toList_none, List.cons_append, List.nil_append, upI_eq, upI_a, upI_i, upR_eq, upR_a, upR_i, h36, ht, E1, E2, E3, E4, E5, E6, E7, fAdd_id, fSub_id, fMul_id, e62, e63]
                                                  refine (s260_173 (hA.k (by decide) (by decide) rfl) (by first | assumption | omega) (by first | assumption | omega)).mpr ?_
                                                  refine s260_174.mpr ?_
                                                  try simp (disch := first | decide | assumption | omega) only [kon, knt_some, knt_none, Option.toList_some, Option.toList_none, List.cons_append, List.nil_append, upI_eq, upI_a, upI_i, upR_eq, upR_a, upR_i, h36, ht, E1, E2, E3, E4, E5, E6, E7, fAdd_id, fSub_id, fMul_id, e62, e63]
                                                  refine s260_175.mpr (wif (fun c175 => ?_) (fun c175 => ?_))
                                                  · first
                                                    | (exfalso; omega)
                                                    | skip
                                                      refine s260_189.mpr (s260_190.mpr ?_)
                                                      refine (s260_191 kM).mpr ?_
                                                      refine s260_194.mpr (s260_195.mpr (s260_196.mpr ?_))
                                                      try simp (disch := first | decide | assumption | omega) only [kon, knt_some, knt_none, Option.toList_some, Option.toList_none, List.cons_append, List.nil_append, upI_eq, upI_a, upI_i, upR_eq, upR_a, upR_i, h36, ht, E1, E2, E3, E4, E5, E6, E7, fAdd_id, fSub_id, fMul_id, e62, e63]
                                                      refine s260_197.mpr (wif (fun c197 => ?_) (fun c197 => ?_))
                                                      · first
                                                        | (exfalso; omega)
                                                        | skip
                                                          refine s260_200.mpr (s260_201.mpr ?_)
                                                          refine (s260_205 (by omega) kM).mpr ?_
                                                          refine m_wants hA (by omega) (by (try simp (disch := decide) only [upI_eq, upI_a, upI_i, upR_eq, upR_a, upR_i]); first | assumption | rfl) (by omega) (fun y205 => ?_) (fun y205 => ?_)
                                                          · skip
                                                            refine s260_208.mpr ?_
                                                            refine (s260_209 kM).mpr ?_
                                                            try simp (disch := first | decide | assumption | omega) only [kon, knt_some, knt_none, Option.toList_some, Option.toList_none, List.cons_append, List.nil_append, upI_eq, upI_a, upI_i, upR_eq, upR_a, upR_i, h36, ht, E1, E2, E3, E4, E5, E6, E7, fAdd_id, fSub_id, fMul_id, e62, e63]
                                                            refine s260_212.mpr (wif (fun c212 => ?_) (fun c212 => ?_))
                                                            · first
                                                              | (exfalso; omega)
                                                              | skip
                                                                exfalso; omega
                                                            · first
                                                              | (exfalso; omega)
                                                              | skip
                                                                refine s260_216.mpr ((s260_217 kM).mpr ?_)
                                                                rw [mr_33 hR]
                                                                refine s260_220.mpr (s260_221.mpr (s260_223.mpr ((s260_224 kM).mpr ?_)))
                                                                rw [mr_15 hR]
                                                                refine s260_227.mpr ?_
                                                                refine (s260_229 (hA.k (by decide) (by decide) rfl) (by first | assumption | omega) (by first | assumption | omega)).mpr ?_
                                                                try simp (disch := first | decide | assumption | omega) only [kon, knt_some, knt_none, Option.toList_some, Option.toList_none, List.cons_append, List.nil_append, upI_eq, upI_a, upI_i, upR_eq, upR_a, upR_i, h36, ht, E1, E2, E3, E4, E5, E6, E7, fAdd_id, fSub_id, fMul_id, e62, e63]
                                                                refine (s260_230 (by omega)).mpr ?_
                                                                refine m_inState ⟨v1, v2⟩ eth ?_
                                                                refine (s260_233 (hA.k (by decide) (by decide) rfl) (by first | assumption | omega) (by first | assumption | omega)).mpr ?_
                                                                try simp (disch := first | decide | assumption | omega) only [kon, knt_some, knt_none, Option.toList_some, Option.toList_none, List.cons_append, List.nil_append, upI_eq, upI_a, upI_i, upR_eq, upR_a, upR_i, h36, ht, E1, E2, E3, E4, E5, E6, E7, fAdd_id, fSub_id, fMul_id, e62, e63]
                                                                refine (s260_234).mpr ?_
                                                                first | (exfalso; omega) | (exact ok _ _ _ (tsL_37a c1 ⟨h0t, ⟨hk, hT.1, hT.2⟩, c70⟩) (flw1 (by rw [c1]; decide)) (by repeat' (first | assumption | exact FW.rf | refine FW.up ?_ (by unfold wS; omega) | (refine FW.tr ?_ (by assumption)))) (by (try simp (disch := decide) only [upI_eq, upI_a, upI_i, upR_eq, upR_a, upR_i]); try assumption) (by (try simp (disch := decide) only [upI_eq, upI_a, upI_i, upR_eq, upR_a, upR_i]); try assumption) (by simp (disch := decide) only [scX, upI_eq, upI_a, upI_i, upR_eq, upR_a, upR_i, upI_ro, upI_rw, ht, E1, E2, E3, E4, E5, E6, E7]; rfl))
                                                          · skip
                                                            refine s260_208.mpr ?_
                                                            refine (s260_209 kM).mpr ?_
                                                            try simp (disch := first | decide | assumption | omega) only [kon, knt_some, knt_none, Option.toList_some, Option.toList_none, List.cons_append, List.nil_append, upI_eq, upI_a, upI_i, upR_eq, upR_a, upR_i, h36, ht, E1, E2, E3, E4, E5, E6, E7, fAdd_id, fSub_id, fMul_id, e62, e63]
                                                            refine s260_212.mpr (wif (fun c212 => ?_) (fun c212 => ?_))
                                                            · first
                                                              | (exfalso; omega)
                                                              | skip
                                                                exfalso; omega
                                                            · first
                                                              | (exfalso; omega)
                                                              | skip
                                                                refine s260_216.mpr ((s260_217 kM).mpr ?_)
                                                                rw [mr_33 hR]
                                                                refine s260_220.mpr (s260_221.mpr (s260_223.mpr ((s260_224 kM).mpr ?_)))
                                                                rw [mr_15 hR]
                                                                refine s260_227.mpr ?_
                                                                refine (s260_229 (hA.k (by decide) (by decide) rfl) (by first | assumption | omega) (by first | assumption | omega)).mpr ?_
                                                                try simp (disch := first | decide | assumption | omega) only [kon, knt_some, knt_none, Option.toList_some, Option.toList_none, List.cons_append, List.nil_append, upI_eq, upI_a, upI_i, upR_eq, upR_a, upR_i, h36, ht, E1, E2, E3, E4, E5, E6, E7, fAdd_id, fSub_id, fMul_id, e62, e63]
                                                                refine (s260_230 (by omega)).mpr ?_
                                                                refine m_inState ⟨v1, v2⟩ eth ?_
                                                                refine (s260_233 (hA.k (by decide) (by decide) rfl) (by first | assumption | omega) (by first | assumption | omega)).mpr ?_
                                                                try simp (disch := first | decide | assumption | omega) only [kon, knt_some, knt_none, Option.toList_some, Option.toList_none, List.cons_append, List.nil_append, upI_eq, upI_a, upI_i, upR_eq, upR_a, upR_i, h36, ht, E1, E2, E3, E4, E5, E6, E7, fAdd_id, fSub_id, fMul_id, e62, e63]
                                                                refine (s260_234).mpr ?_
                                                                first | (exfalso; omega) | (exact ok _ _ _ (tsL_37a c1 ⟨h0t, ⟨hk, hT.1, hT.2⟩, c70⟩) (flw1 (by rw [c1]; decide)) (by repeat' (first | assumption | exact FW.rf | refine FW.up ?_ (by unfold wS; omega) | (refine FW.tr ?_ (by assumption)))) (by (try simp (disch := decide) only [upI_eq, upI_a, upI_i, upR_eq, upR_a, upR_i]); try assumption) (by (try simp (disch := decide) only [upI_eq, upI_a, upI_i, upR_eq, upR_a, upR_i]); try assumption) (by simp (disch := decide) only [scX, upI_eq, upI_a, upI_i, upR_eq, upR_a, upR_i, upI_ro, upI_rw, ht, E1, E2, E3, E4, E5, E6, E7]; rfl))
                                                      · first
                                                        | (exfalso; omega)
                                                        | skip
                                                          exfalso; omega
                                                  · first
                                                    | (exfalso; omega)
                                                    | skip
                                                      exfalso; omega
                                            · skip
                                              refine s260_147.mpr ?_
                                              refine (s260_148 kM).mpr ?_
                                              try simp (disch := first | decide | assumption | omega) only [kon, knt_some, knt_none, Option.toList_some, Option.toList_none, List.cons_append, List.nil_append, upI_eq, upI_a, upI_i, upR_eq, upR_a, upR_i, h36, ht, E1, E2, E3, E4, E5, E6, E7, fAdd_id, fSub_id, fMul_id, e62, e63]
                                              refine s260_151.mpr (wif (fun c151 => ?_) (fun c151 => ?_))
                                              · first
                                                | (exfalso; omega)
                                                | skip
                                                  exfalso; omega
                                              · first
                                                | (exfalso; omega)
                                                | skip
                                                  refine s260_155.mpr (s260_156.mpr (s260_157.mpr ?_))
                                                  refine (s260_159 (by omega)).mpr ?_
                                                  refine m_stateOf (by omega) ⟨hm0, hm1⟩ hr9 ?_
                                                  refine s260_162.mpr (s260_163.mpr (s260_164.mpr (s260_165.mpr (s260_167.mpr ((s260_168 kM).mpr ?_)))))
                                                  rw [mr_14 hR]
                                                  refine s260_171.mpr ?_
                                                  try simp (disch := first | decide | assumption | omega) only [kon, knt_some, knt_none, Option.toList_some, Option.toList_none, List.cons_append, List.nil_append, upI_eq, upI_a, upI_i, upR_eq, upR_a, upR_i, h36, ht, E1, E2, E3, E4, E5, E6, E7, fAdd_id, fSub_id, fMul_id, e62, e63]
                                                  refine (s260_173 (hA.k (by decide) (by decide) rfl) (by first | assumption | omega) (by first | assumption | omega)).mpr ?_
                                                  refine s260_174.mpr ?_
                                                  try simp (disch := first | decide | assumption | omega) only [kon, knt_some, knt_none, Option.toList_some, Option.toList_none, List.cons_append, List.nil_append, upI_eq, upI_a, upI_i, upR_eq, upR_a, upR_i, h36, ht, E1, E2, E3, E4, E5, E6, E7, fAdd_id, fSub_id, fMul_id, e62, e63]
                                                  refine s260_175.mpr (wif (fun c175 => ?_) (fun c175 => ?_))
                                                  · first
                                                    | (exfalso; omega)
                                                    | skip
                                                      refine s260_189.mpr (s260_190.mpr ?_)
                                                      refine (s260_191 kM).mpr ?_
                                                      refine s260_194.mpr (s260_195.mpr (s260_196.mpr ?_))
                                                      try simp (disch := first | decide | assumption | omega) only [kon, knt_some, knt_none, Option.toList_some, Option.toList_none, List.cons_append, List.nil_append, upI_eq, upI_a, upI_i, upR_eq, upR_a, upR_i, h36, ht, E1, E2, E3, E4, E5, E6, E7, fAdd_id, fSub_id, fMul_id, e62, e63]
                                                      refine s260_197.mpr (wif (fun c197 => ?_) (fun c197 => ?_))
                                                      · first
                                                        | (exfalso; omega)
                                                        | skip
                                                          refine s260_200.mpr (s260_201.mpr ?_)
                                                          refine (s260_205 (by omega) kM).mpr ?_
                                                          refine m_wants hA (by omega) (by (try simp (disch := decide) only [upI_eq, upI_a, upI_i, upR_eq, upR_a, upR_i]); first | assumption | rfl) (by omega) (fun y205 => ?_) (fun y205 => ?_)
                                                          · skip
                                                            refine s260_208.mpr ?_
                                                            refine (s260_209 kM).mpr ?_
                                                            try simp (disch := first | decide | assumption | omega) only [kon, knt_some, knt_none, Option.toList_some, Option.toList_none, List.cons_append, List.nil_append, upI_eq, upI_a, upI_i, upR_eq, upR_a, upR_i, h36, ht, E1, E2, E3, E4, E5, E6, E7, fAdd_id, fSub_id, fMul_id, e62, e63]
                                                            refine s260_212.mpr (wif (fun c212 => ?_) (fun c212 => ?_))
                                                            · first
                                                              | (exfalso; omega)
                                                              | skip
                                                                exfalso; omega
                                                            · first
                                                              | (exfalso; omega)
                                                              | skip
                                                                refine s260_216.mpr ((s260_217 kM).mpr ?_)
                                                                rw [mr_33 hR]
                                                                refine s260_220.mpr (s260_221.mpr (s260_223.mpr ((s260_224 kM).mpr ?_)))
                                                                rw [mr_15 hR]
                                                                refine s260_227.mpr ?_
                                                                refine (s260_229 (hA.k (by decide) (by decide) rfl) (by first | assumption | omega) (by first | assumption | omega)).mpr ?_
                                                                try simp (disch := first | decide | assumption | omega) only [kon, knt_some, knt_none, Option.toList_some, Option.toList_none, List.cons_append, List.nil_append, upI_eq, upI_a, upI_i, upR_eq, upR_a, upR_i, h36, ht, E1, E2, E3, E4, E5, E6, E7, fAdd_id, fSub_id, fMul_id, e62, e63]
                                                                refine (s260_230 (by omega)).mpr ?_
                                                                refine m_inState ⟨v1, v2⟩ eth ?_
                                                                refine (s260_233 (hA.k (by decide) (by decide) rfl) (by first | assumption | omega) (by first | assumption | omega)).mpr ?_
                                                                try simp (disch := first | decide | assumption | omega) only [kon, knt_some, knt_none, Option.toList_some, Option.toList_none, List.cons_append, List.nil_append, upI_eq, upI_a, upI_i, upR_eq, upR_a, upR_i, h36, ht, E1, E2, E3, E4, E5, E6, E7, fAdd_id, fSub_id, fMul_id, e62, e63]
                                                                refine (s260_234).mpr ?_
                                                                first | (exfalso; omega) | (exact ok _ _ _ (tsL_37a c1 ⟨h0t, ⟨hk, hT.1, hT.2⟩, c70⟩) (flw1 (by rw [c1]; decide)) (by repeat' (first | assumption | exact FW.rf | refine FW.up ?_ (by unfold wS; omega) | (refine FW.tr ?_ (by assumption)))) (by (try simp (disch := decide) only [upI_eq, upI_a, upI_i, upR_eq, upR_a, upR_i]); try assumption) (by (try simp (disch := decide) only [upI_eq, upI_a, upI_i, upR_eq, upR_a, upR_i]); try assumption) (by simp (disch := decide) only [scX, upI_eq, upI_a, upI_i, upR_eq, upR_a, upR_i, upI_ro, upI_rw, ht, E1, E2, E3, E4, E5, E6, E7]; rfl))
                                                          · skip
                                                            refine s260_208.mpr ?_
                                                            refine (s260_209 kM).mpr ?_
                                                            try simp (disch := first | decide | assumption | omega) only [kon, knt_some, knt_none, Option.toList_some, Option.toList_none, List.cons_append, List.nil_append, upI_eq, upI_a, upI_i, upR_eq, upR_a, upR_i, h36, ht, E1, E2, E3, E4, E5, E6, E7, fAdd_id, fSub_id, fMul_id, e62, e63]
                                                            refine s260_212.mpr (wif (fun c212 => ?_) (fun c212 => ?_))
                                                            · first
                                                              | (exfalso; omega)
                                                              | skip
                                                                exfalso; omega
                                                            · first
                                                              | (exfalso; omega)
                                                              | skip
                                                                refine s260_216.mpr ((s260_217 kM).mpr ?_)
                                                                rw [mr_33 hR]
                                                                refine s260_220.mpr (s260_221.mpr (s260_223.mpr ((s260_224 kM).mpr ?_)))
                                                                rw [mr_15 hR]
                                                                refine s260_227.mpr ?_
                                                                refine (s260_229 (hA.k (by decide) (by decide) rfl) (by first | assumption | omega) (by first | assumption | omega)).mpr ?_
                                                                try simp (disch := first | decide | assumption | omega) only [kon, knt_some, knt_none, Option.toList_some, Option.toList_none, List.cons_append, List.nil_append, upI_eq, upI_a, upI_i, upR_eq, upR_a, upR_i, h36, ht, E1, E2, E3, E4, E5, E6, E7, fAdd_id, fSub_id, fMul_id, e62, e63]
                                                                refine (s260_230 (by omega)).mpr ?_
                                                                refine m_inState ⟨v1, v2⟩ eth ?_
                                                                refine (s260_233 (hA.k (by decide) (by decide) rfl) (by first | assumption | omega) (by first | assumption | omega)).mpr ?_
                                                                try simp (disch := first | decide | assumption | omega) only [kon, knt_some, knt_none, Option.toList_some, Option.toList_none, List.cons_append, List.nil_append, upI_eq, upI_a, upI_i, upR_eq, upR_a, upR_i, h36, ht, E1, E2, E3, E4, E5, E6, E7, fAdd_id, fSub_id, fMul_id, e62, e63]
                                                                refine (s260_234).mpr ?_
                                                                first | (exfalso; omega) | (exact ok _ _ _ (tsL_37a c1 ⟨h0t, ⟨hk, hT.1, hT.2⟩, c70⟩) (flw1 (by rw [c1]; decide)) (by repeat' (first | assumption | exact FW.rf | refine FW.up ?_ (by unfold wS; omega) | (refine FW.tr ?_ (by assumption)))) (by (try simp (disch := decide) only [upI_eq, upI_a, upI_i, upR_eq, upR_a, upR_i]); try assumption) (by (try simp (disch := decide) only [upI_eq, upI_a, upI_i, upR_eq, upR_a, upR_i]); try assumption) (by simp (disch := decide) only [scX, upI_eq, upI_a, upI_i, upR_eq, upR_a, upR_i, upI_ro, upI_rw, ht, E1, E2, E3, E4, E5, E6, E7]; rfl))
                                                      · first
                                                        | (exfalso; omega)
                                                        | skip
                                                          exfalso; omega
                                                  · first
                                                    | (exfalso; omega)
                                                    | skip
                                                      exfalso; omega
                                  · first
                                    | (exfalso; omega)
                                    | skip
                                      exfalso; omega
                            · skip
                              refine s260_102.mpr ?_
                              refine (s260_103 kM).mpr ?_
                              try simp (disch := first | decide | assumption | omega) only [kon, knt_some, knt_none, Option.toList_some, Option.toList_none, List.cons_append, List.nil_append, upI_eq, upI_a, upI_i, upR_eq, upR_a, upR_i, h36, ht, E1, E2, E3, E4, E5, E6, E7, fAdd_id, fSub_id, fMul_id, e62, e63]
                              refine s260_106.mpr (wif (fun c106 => ?_) (fun c106 => ?_))
                              · first
                                | (exfalso; omega)
                                | skip
                                  exfalso; omega
                              · first
                                | (exfalso; omega)
                                | skip
                                  refine s260_110.mpr ((s260_111 kM).mpr ?_)
                                  rw [mr_33 hR]
                                  refine s260_114.mpr ?_
                                  refine (s260_115 (hA.k (by decide) (by decide) rfl) (by first | assumption | omega) (by first | assumption | omega)).mpr ?_
                                  refine s260_116.mpr (s260_118.mpr (s260_119.mpr ?_))
                                  try simp (disch := first | decide | assumption | omega) only [kon, knt_some, knt_none, Option.toList_some, Option.toList_none, List.cons_append, List.nil_append, upI_eq, upI_a, upI_i, upR_eq, upR_a, upR_i, h36, ht, E1, E2, E3, E4, E5, E6, E7, fAdd_id, fSub_id, fMul_id, e62, e63]
                                  refine (s260_121 (by omega)).mpr ?_
                                  refine m_kind.mpr ?_
                                  refine s260_124.mpr ?_
                                  refine s260_125.mpr (wif (fun c125 => ?_) (fun c125 => ?_))
                                  · first
                                    | (exfalso; omega)
                                    | skip
                                      refine s260_128.mpr (s260_129.mpr (s260_130.mpr (s260_132.mpr ?_)))
                                      refine (s260_133 (by omega) kM).mpr ?_
                                      refine m_isTurn (B := B) hA hR (by omega) hM hS hE (fun y133 z133 => ?_) (fun y133 => ?_)
                                      · skip
                                        refine s260_136.mpr (wif (fun c136 => ?_) (fun c136 => ?_))
                                        · first
                                          | (exfalso; omega)
                                          | skip
                                            exfalso; omega
                                        · first
                                          | (exfalso; omega)
                                          | skip
                                            refine s260_139.mpr (s260_140.mpr ?_)
                                            refine (s260_144 (by omega) kM).mpr ?_
                                            refine m_wants hA (by omega) (by (try simp (disch := decide) only [upI_eq, upI_a, upI_i, upR_eq, upR_a, upR_i]); first | assumption | rfl) (by omega) (fun y144 => ?_) (fun y144 => ?_)
                                            · skip
                                              refine s260_147.mpr ?_
                                              refine (s260_148 kM).mpr ?_
                                              try simp (disch := first | decide | assumption | omega) only [kon, knt_some, knt_none, Option.toList_some, Option.toList_none, List.cons_append, List.nil_append, upI_eq, upI_a, upI_i, upR_eq, upR_a, upR_i, h36, ht, E1, E2, E3, E4, E5, E6, E7, fAdd_id, fSub_id, fMul_id, e62, e63]
                                              refine s260_151.mpr (wif (fun c151 => ?_) (fun c151 => ?_))
                                              · first
                                                | (exfalso; omega)
                                                | skip
                                                  exfalso; omega
                                              · first
                                                | (exfalso; omega)
                                                | skip
                                                  refine s260_155.mpr (s260_156.mpr (s260_157.mpr ?_))
                                                  refine (s260_159 (by omega)).mpr ?_
                                                  refine m_stateOf (by omega) ⟨hm0, hm1⟩ hr9 ?_
                                                  refine s260_162.mpr (s260_163.mpr (s260_164.mpr (s260_165.mpr (s260_167.mpr ((s260_168 kM).mpr ?_)))))
                                                  rw [mr_14 hR]
                                                  refine s260_171.mpr ?_
                                                  try simp (disch := first | decide | assumption | omega) only [kon, knt_some, knt_none, Option.toList_some, Option.toList_none, List.cons_append, List.nil_append, upI_eq, upI_a, upI_i, upR_eq, upR_a, upR_i, h36, ht, E1, E2, E3, E4, E5, E6, E7, fAdd_id, fSub_id, fMul_id, e62, e63]
                                                  refine (s260_173 (hA.k (by decide) (by decide) rfl) (by first | assumption | omega) (by first | assumption | omega)).mpr ?_
                                                  refine s260_174.mpr ?_
                                                  try simp (disch := first | decide | assumption | omega) only [kon, knt_some, knt_none, Option.toList_some, Option.toList_none, List.cons_append, List.nil_append, upI_eq, upI_a, upI_i, upR_eq, upR_a, upR_i, h36, ht, E1, E2, E3, E4, E5, E6, E7, fAdd_id, fSub_id, fMul_id, e62, e63]
                                                  refine s260_175.mpr (wif (fun c175 => ?_) (fun c175 => ?_))
                                                  · first
                                                    | (exfalso; omega)
                                                    | skip
                                                      refine s260_189.mpr (s260_190.mpr ?_)
                                                      refine (s260_191 kM).mpr ?_
                                                      refine s260_194.mpr (s260_195.mpr (s260_196.mpr ?_))
                                                      try simp (disch := first | decide | assumption | omega) only [kon, knt_some, knt_none, Option.toList_some, Option.toList_none, List.cons_append, List.nil_append, upI_eq, upI_a, upI_i, upR_eq, upR_a, upR_i, h36, ht, E1, E2, E3, E4, E5, E6, E7, fAdd_id, fSub_id, fMul_id, e62, e63]
                                                      refine s260_197.mpr (wif (fun c197 => ?_) (fun c197 => ?_))
                                                      · first
                                                        | (exfalso; omega)
                                                        | skip
                                                          refine s260_200.mpr (s260_201.mpr ?_)
                                                          refine (s260_205 (by omega) kM).mpr ?_
                                                          refine m_wants hA (by omega) (by (try simp (disch := decide) only [upI_eq, upI_a, upI_i, upR_eq, upR_a, upR_i]); first | assumption | rfl) (by omega) (fun y205 => ?_) (fun y205 => ?_)
                                                          · skip
                                                            refine s260_208.mpr ?_
                                                            refine (s260_209 kM).mpr ?_
                                                            try simp (disch := first | decide | assumption | omega) only [kon, knt_some, knt_none, Option.toList_some, Option.toList_none, List.cons_append, List.nil_append, upI_eq, upI_a, upI_i, upR_eq, upR_a, upR_i, h36, ht, E1, E2, E3, E4, E5, E6, E7, fAdd_id, fSub_id, fMul_id, e62, e63]
                                                            refine s260_212.mpr (wif (fun c212 => ?_) (fun c212 => ?_))
                                                            · first
                                                              | (exfalso; omega)
                                                              | skip
                                                                exfalso; omega
                                                            · first
                                                              | (exfalso; omega)
                                                              | skip
                                                                refine s260_216.mpr ((s260_217 kM).mpr ?_)
                                                                rw [mr_33 hR]
                                                                refine s260_220.mpr (s260_221.mpr (s260_223.mpr ((s260_224 kM).mpr ?_)))
                                                                rw [mr_15 hR]
                                                                refine s260_227.mpr ?_
                                                                refine (s260_229 (hA.k (by decide) (by decide) rfl) (by first | assumption | omega) (by first | assumption | omega)).mpr ?_
                                                                try simp (disch := first | decide | assumption | omega) only [kon, knt_some, knt_none, Option.toList_some, Option.toList_none, List.cons_append, List.nil_append, upI_eq, upI_a, upI_i, upR_eq, upR_a, upR_i, h36, ht, E1, E2, E3, E4, E5, E6, E7, fAdd_id, fSub_id, fMul_id, e62, e63]
                                                                refine (s260_230 (by omega)).mpr ?_
                                                                refine m_inState ⟨v1, v2⟩ eth ?_
                                                                refine (s260_233 (hA.k (by decide) (by decide) rfl) (by first | assumption | omega) (by first | assumption | omega)).mpr ?_
                                                                try simp (disch := first | decide | assumption | omega) only [kon, knt_some, knt_none, Option.toList_some, Option.toList_none, List.cons_append, List.nil_append, upI_eq, upI_a, upI_i, upR_eq, upR_a, upR_i, h36, ht, E1, E2, E3, E4, E5, E6, E7, fAdd_id, fSub_id, fMul_id, e62, e63]
                                                                refine (s260_234).mpr ?_
                                                                first | (exfalso; omega) | (exact ok _ _ _ (tsL_37a c1 ⟨h0t, ⟨hk, hT.1, hT.2⟩, c70⟩) (flw1 (by rw [c1]; decide)) (by repeat' (first | assumption | exact FW.rf | refine FW.up ?_ (by unfold wS; omega) | (refine FW.tr ?_ (by assumption)))) (by (try simp (disch := decide) only [upI_eq, upI_a, upI_i, upR_eq, upR_a, upR_i]); try assumption) (by (try simp (disch := decide) only [upI_eq, upI_a, upI_i, upR_eq, upR_a, upR_i]); try assumption) (by simp (disch := decide) only [scX, upI_eq, upI_a, upI_i, upR_eq, upR_a, upR_i, upI_ro, upI_rw, ht, E1, E2, E3, E4, E5, E6, E7]; rfl))
                                                          · skip
                                                            refine s260_208.mpr ?_
                                                            refine (s260_209 kM).mpr ?_
                                                            try simp (disch := first | decide | assumption | omega) only [kon, knt_some, knt_none, Option.toList_some, Option.toList_none, List.cons_append, List.nil_append, upI_eq, upI_a, upI_i, upR_eq, upR_a, upR_i, h36, ht, E1, E2, E3, E4, E5, E6, E7, fAdd_id, fSub_id, fMul_id, e62, e63]
                                                            refine s260_212.mpr (wif (fun c212 => ?_) (fun c212 => ?_))
                                                            · first
                                                              | (exfalso; omega)
                                                              | skip
                                                                exfalso; omega
                                                            · first
                                                              | (exfalso; omega)
                                                              | skip
                                                                refine s260_216.mpr ((s260_217 kM).mpr ?_)
                                                                rw [mr_33 hR]
                                                                refine s260_220.mpr (s260_221.mpr (s260_223.mpr ((s260_224 kM).mpr ?_)))
                                                                rw [mr_15 hR]
                                                                refine s260_227.mpr ?_
                                                                refine (s260_229 (hA.k (by decide) (by decide) rfl) (by first | assumption | omega) (by first | assumption | omega)).mpr ?_
                                                                try simp (disch := first | decide | assumption | omega) only [kon, knt_some, knt_none, Option.toList_some, Option.toList_none, List.cons_append, List.nil_append, upI_eq, upI_a, upI_i, upR_eq, upR_a, upR_i, h36, ht, E1, E2, E3, E4, E5, E6, E7, fAdd_id, fSub_id, fMul_id, e62, e63]
                                                                refine (s260_230 (by omega)).mpr ?_
                                                                refine m_inState ⟨v1, v2⟩ eth ?_
                                                                refine (s260_233 (hA.k (by decide) (by decide) rfl) (by first | assumption | omega) (by first | assumption | omega)).mpr ?_
                                                                try simp (disch := first | decide | assumption | omega) only [kon, knt_some, knt_none, Option.toList_some, Option.toList_none, List.cons_append, List.nil_append, upI_eq, upI_a, upI_i, upR_eq, upR_a, upR_i, h36, ht, E1, E2, E3, E4, E5, E6, E7, fAdd_id, fSub_id, fMul_id, e62, e63]
                                                                refine (s260_234).mpr ?_
                                                                first | (exfalso; omega) | (exact ok _ _ _ (tsL_37a c1 ⟨h0t, ⟨hk, hT.1, hT.2⟩, c70⟩) (flw1 (by rw [c1]; decide)) (by repeat' (first | assumption | exact FW.rf | refine FW.up ?_ (by unfold wS; omega) | (refine FW.tr ?_ (by assumption)))) (by (try simp (disch := decide) only [upI_eq, upI_a, upI_i, upR_eq, upR_a, upR_i]); try assumption) (by (try simp (disch := decide) only [upI_eq, upI_a, upI_i, upR_eq, upR_a, upR_i]); try assumption) (by simp (disch := decide) only [scX, upI_eq, upI_a, upI_i, upR_eq, upR_a, upR_i, upI_ro, upI_rw, ht, E1, E2, E3, E4, E5, E6, E7]; rfl))
                                                      · first
                                                        | (exfalso; omega)
                                                        | skip
                                                          exfalso; omega
                                                  · first
                                                    | (exfalso; omega)
                                                    | skip
                                                      exfalso; omega
                                            · skip
                                              refine s260_147.mpr ?_
                                              refine (s260_148 kM).mpr ?_
                                              try simp (disch := first | decide | assumption | omega) only [kon, knt_some, knt_none, Option.toList_some, Option.toList_none, List.cons_append, List.nil_append, upI_eq, upI_a, upI_i, upR_eq, upR_a, upR_i, h36, ht, E1, E2, E3, E4, E5, E6, E7, fAdd_id, fSub_id, fMul_id, e62, e63]
                                              refine s260_151.mpr (wif (fun c151 => ?_) (fun c151 => ?_))
                                              · first
                                                | (exfalso; omega)
                                                | skip
                                                  exfalso; omega
                                              · first
                                                | (exfalso; omega)
                                                | skip
                                                  refine s260_155.mpr (s260_156.mpr (s260_157.mpr ?_))
                                                  refine (s260_159 (by omega)).mpr ?_
                                                  refine m_stateOf (by omega) ⟨hm0, hm1⟩ hr9 ?_
                                                  refine s260_162.mpr (s260_163.mpr (s260_164.mpr (s260_165.mpr (s260_167.mpr ((s260_168 kM).mpr ?_)))))
                                                  rw [mr_14 hR]
                                                  refine s260_171.mpr ?_
                                                  try simp (disch := first | decide | assumption | omega) only [kon, knt_some, knt_none, Option.toList_some, Option.toList_none, List.cons_append, List.nil_append, upI_eq, upI_a, upI_i, upR_eq, upR_a, upR_i, h36, ht, E1, E2, E3, E4, E5, E6, E7, fAdd_id, fSub_id, fMul_id, e62, e63]
                                                  refine (s260_173 (hA.k (by decide) (by decide) rfl) (by first | assumption | omega) (by first | assumption | omega)).mpr ?_
                                                  refine s260_174.mpr ?_
                                                  try simp (disch := first | decide | assumption | omega) only [kon, knt_some, knt_none, Option.toList_some, Option.toList_none, List.cons_append, List.nil_append, upI_eq, upI_a, upI_i, upR_eq, upR_a, upR_i, h36, ht, E1, E2, E3, E4, E5, E6, E7, fAdd_id, fSub_id, fMul_id, e62, e63]
                                                  refine s260_175.mpr (wif (fun c175 => ?_) (fun c175 => ?_))
                                                  · first
                                                    | (exfalso; omega)
                                                    | skip
                                                      refine s260_189.mpr (s260_190.mpr ?_)
                                                      refine (s260_191 kM).mpr ?_
                                                      refine s260_194.mpr (s260_195.mpr (s260_196.mpr ?_))
                                                      try simp (disch := first | decide | assumption | omega) only [kon, knt_some, knt_none, Option.toList_some, Option.toList_none, List.cons_append, List.nil_append, upI_eq, upI_a, upI_i, upR_eq, upR_a, upR_i, h36, ht, E1, E2, E3, E4, E5, E6, E7, fAdd_id, fSub_id, fMul_id, e62, e63]
                                                      refine s260_197.mpr (wif (fun c197 => ?_) (fun c197 => ?_))
                                                      · first
                                                        | (exfalso; omega)
                                                        | skip
                                                          refine s260_200.mpr (s260_201.mpr ?_)
                                                          refine (s260_205 (by omega) kM).mpr ?_
                                                          refine m_wants hA (by omega) (by (try simp (disch := decide) only [upI_eq, upI_a, upI_i, upR_eq, upR_a, upR_i]); first | assumption | rfl) (by omega) (fun y205 => ?_) (fun y205 => ?_)
                                                          · skip
                                                            refine s260_208.mpr ?_
                                                            refine (s260_209 kM).mpr ?_
                                                            try simp (disch := first | decide | assumption | omega) only [kon, knt_some, knt_none, Option.toList_some, Option.toList_none, List.cons_append, List.nil_append, upI_eq, upI_a, upI_i, upR_eq, upR_a, upR_i, h36, ht, E1, E2, E3, E4, E5, E6, E7, fAdd_id, fSub_id, fMul_id, e62, e63]
                                                            refine s260_212.mpr (wif (fun c212 => ?_) (fun c212 => ?_))
                                                            · first
                                                              | (exfalso; omega)
                                                              | skip
                                                                exfalso; omega
                                                            · first
                                                              | (exfalso; omega)
                                                              | skip
                                                                refine s260_216.mpr ((s260_217 kM).mpr ?_)
                                                                rw [mr_33 hR]
                                                                refine s260_220.mpr (s260_221.mpr (s260_223.mpr ((s260_224 kM).mpr ?_)))
                                                                rw [mr_15 hR]
                                                                refine s260_227.mpr ?_
                                                                refine (s260_229 (hA.k (by decide) (by decide) rfl) (by first | assumption | omega) (by first | assumption | omega)).mpr ?_
                                                                try simp (disch := first | decide | assumption | omega) only [kon, knt_some, knt_none, Option.toList_some, Option.toList_none, List.cons_append, List.nil_append, upI_eq, upI_a, upI_i, upR_eq, upR_a, upR_i, h36, ht, E1, E2, E3, E4, E5, E6, E7, fAdd_id, fSub_id, fMul_id, e62, e63]
                                                                refine (s260_230 (by omega)).mpr ?_
                                                                refine m_inState ⟨v1, v2⟩ eth ?_
                                                                refine (s260_233 (hA.k (by decide) (by decide) rfl) (by first | assumption | omega) (by first | assumption | omega)).mpr ?_
                                                                try simp (disch := first | decide | assumption | omega) only [kon, knt_some, knt_none, Option.toList_some, Option.toList_none, List.cons_append, List.nil_append, upI_eq, upI_a, upI_i, upR_eq, upR_a, upR_i, h36, ht, E1, E2, E3, E4, E5, E6, E7, fAdd_id, fSub_id, fMul_id, e62, e63]
                                                                refine (s260_234).mpr ?_
                                                                first | (exfalso; omega) | (exact ok _ _ _ (tsL_37a c1 ⟨h0t, ⟨hk, hT.1, hT.2⟩, c70⟩) (flw1 (by rw [c1]; decide)) (by repeat' (first | assumption | exact FW.rf | refine FW.up ?_ (by unfold wS; omega) | (refine FW.tr ?_ (by assumption)))) (by (try simp (disch := decide) only [upI_eq, upI_a, upI_i, upR_eq, upR_a, upR_i]); try assumption) (by (try simp (disch := decide) only [upI_eq, upI_a, upI_i, upR_eq, upR_a, upR_i]); try assumption) (by simp (disch := decide) only [scX, upI_eq, upI_a, upI_i, upR_eq, upR_a, upR_i, upI_ro, upI_rw, ht, E1, E2, E3, E4, E5, E6, E7]; rfl))
                                                          · skip
                                                            refine s260_208.mpr ?_
                                                            refine (s260_209 kM).mpr ?_
                                                            try simp (disch := first | decide | assumption | omega) only [kon, knt_some, knt_none, Option.toList_some, Option.toList_none, List.cons_append, List.nil_append, upI_eq, upI_a, upI_i, upR_eq, upR_a, upR_i, h36, ht, E1, E2, E3, E4, E5, E6, E7, fAdd_id, fSub_id, fMul_id, e62, e63]
                                                            refine s260_212.mpr (wif (fun c212 => ?_) (fun c212 => ?_))
                                                            · first
                                                              | (exfalso; omega)
                                                              | skip
                                                                exfalso; omega
                                                            · first
                                                              | (exfalso; omega)
                                                              | skip
                                                                refine s260_216.mpr ((s260_217 kM).mpr ?_)
                                                                rw [mr_33 hR]
                                                                refine s260_220.mpr (s260_221.mpr (s260_223.mpr ((s260_224 kM).mpr ?_)))
                                                                rw [mr_15 hR]
                                                                refine s260_227.mpr ?_
                                                                refine (s260_229 (hA.k (by decide) (by decide) rfl) (by first | assumption | omega) (by first | assumption | omega)).mpr ?_
                                                                try simp (disch := first | decide | assumption | omega) only [kon, knt_some, knt_none, Option.toList_some, Option.toList_none, List.cons_append, List.nil_append, upI_eq, upI_a, upI_i, upR_eq, upR_a, upR_i, h36, ht, E1, E2, E3, E4, E5, E6, E7, fAdd_id, fSub_id, fMul_id, e62, e63]
                                                                refine (s260_230 (by omega)).mpr ?_
                                                                refine m_inState ⟨v1, v2⟩ eth ?_
                                                                refine (s260_233 (hA.k (by decide) (by decide) rfl) (by first | assumption | omega) (by first | assumption | omega)).mpr ?_
                                                                try simp (disch := first | decide | assumption | omega) only [kon, knt_some, knt_none, Option.toList_some, Option.toList_none, List.cons_append, List.nil_append, upI_eq, upI_a, upI_i, upR_eq, upR_a, upR_i, h36, ht, E1, E2, E3, E4, E5, E6, E7, fAdd_id, fSub_id, fMul_id, e62, e63]
                                                                refine (s260_234).mpr ?_
                                                                first | (exfalso; omega) | (exact ok _ _ _ (tsL_37a c1 ⟨h0t, ⟨hk, hT.1, hT.2⟩, c70⟩) (flw1 (by rw [c1]; decide)) (by repeat' (first | assumption | exact FW.rf | refine FW.up ?_ (by unfold wS; omega) | (refine FW.tr ?_ (by assumption)))) (by (try simp (disch := decide) only [upI_eq, upI_a, upI_i, upR_eq, upR_a, upR_i]); try assumption) (by (try simp (disch := decide) only [upI_eq, upI_a, upI_i, upR_eq, upR_a, upR_i]); try assumption) (by simp (disch := decide) only [scX, upI_eq, upI_a, upI_i, upR_eq, upR_a, upR_i, upI_ro, upI_rw, ht, E1, E2, E3, E4, E5, E6, E7]; rfl))
                                                      · first
                                                        | (exfalso; omega)
                                                        | skip
                                                          exfalso; omega
                                                  · first
                                                    | (exfalso; omega)
                                                    | skip
                                                      exfalso; omega
                                      · skip
                                        refine s260_136.mpr (wif (fun c136 => ?_) (fun c136 => ?_))
                                        · first
                                          | (exfalso; omega)
                                          | skip
                                            exfalso; omega
                                        · first
                                          | (exfalso; omega)
                                          | skip
                                            refine s260_139.mpr (s260_140.mpr ?_)
                                            refine (s260_144 (by omega) kM).mpr ?_
                                            refine m_wants hA (by omega) (by (try simp (disch := decide) only [upI_eq, upI_a, upI_i, upR_eq, upR_a, upR_i]); first | assumption | rfl) (by omega) (fun y144 => ?_) (fun y144 => ?_)
                                            · skip
                                              refine s260_147.mpr ?_
                                              refine (s260_148 kM).mpr ?_
                                              try simp (disch := first | decide | assumption | omega) only [kon, knt_some, knt_none, Option.toList_some, Option.toList_none, List.cons_append, List.nil_append, upI_eq, upI_a, upI_i, upR_eq, upR_a, upR_i, h36, ht, E1, E2, E3, E4, E5, E6, E7, fAdd_id, fSub_id, fMul_id, e62, e63]
                                              refine s260_151.mpr (wif (fun c151 => ?_) (fun c151 => ?_))
                                              · first
                                                | (exfalso; omega)
                                                | skip
                                                  exfalso; omega
                                              · first
                                                | (exfalso; omega)
                                                | skip
                                                  refine s260_155.mpr (s260_156.mpr (s260_157.mpr ?_))
                                                  refine (s260_159 (by omega)).mpr ?_
                                                  refine m_stateOf (by omega) ⟨hm0, hm1⟩ hr9 ?_
                                                  refine s260_162.mpr (s260_163.mpr (s260_164.mpr (s260_165.mpr (s260_167.mpr ((s260_168 kM).mpr ?_)))))
                                                  rw [mr_14 hR]
                                                  refine s260_171.mpr ?_
                                                  try simp (disch := first | decide | assumption | omega) only [kon, knt_some, knt_none, Option.toList_some, Option.toList_none, List.cons_append, List.nil_append, upI_eq, upI_a, upI_i, upR_eq, upR_a, upR_i, h36, ht, E1, E2, E3, E4, E5, E6, E7, fAdd_id, fSub_id, fMul_id, e62, e63]
                                                  refine (s260_173 (hA.k (by decide) (by decide) rfl) (by first | assumption | omega) (by first | assumption | omega)).mpr ?_
                                                  refine s260_174.mpr ?_
                                                  try simp (disch := first | decide | assumption | omega) only [kon, knt_some, knt_none, Option.toList_some, Option.toList_none, List.cons_append, List.nil_append, upI_eq, upI_a, upI_i, upR_eq, upR_a, upR_i, h36, ht, E1, E2, E3, E4, E5, E6, E7, fAdd_id, fSub_id, fMul_id, e62, e63]
                                                  refine s260_175.mpr (wif (fun c175 => ?_) (fun c175 => ?_))
                                                  · first
                                                    | (exfalso; omega)
                                                    | skip
                                                      refine s260_189.mpr (s260_190.mpr ?_)
                                                      refine (s260_191 kM).mpr ?_
                                                      refine s260_194.mpr (s260_195.mpr (s260_196.mpr ?_))
                                                      try simp (disch := first | decide | assumption | omega) only [kon, knt_some, knt_none, Option.toList_some, Option.toList_none, List.cons_append, List.nil_append, upI_eq, upI_a, upI_i, upR_eq, upR_a, upR_i, h36, ht, E1, E2, E3, E4, E5, E6, E7, fAdd_id, fSub_id, fMul_id, e62, e63]
                                                      refine s260_197.mpr (wif (fun c197 => ?_) (fun c197 => ?_))
                                                      · first
                                                        | (exfalso; omega)
                                                        | skip
                                                          refine s260_200.mpr (s260_201.mpr ?_)
                                                          refine (s260_205 (by omega) kM).mpr ?_
                                                          refine m_wants hA (by omega) (by (try simp (disch := decide) only [upI_eq, upI_a, upI_i, upR_eq, upR_a, upR_i]); first | assumption | rfl) (by omega) (fun y205 => ?_) (fun y205 => ?_)
                                                          · skip
                                                            refine s260_208.mpr ?_
                                                            refine (s260_209 kM).mpr ?_
                                                            try simp (disch := first | decide | assumption | omega) only [kon, knt_some, knt_none, Option.toList_some, Option.toList_none, List.cons_append, List.nil_append, upI_eq, upI_a, upI_i, upR_eq, upR_a, upR_i, h36, ht, E1, E2, E3, E4, E5, E6, E7, fAdd_id, fSub_id, fMul_id, e62, e63]
                                                            refine s260_212.mpr (wif (fun c212 => ?_) (fun c212 => ?_))
                                                            · first
                                                              | (exfalso; omega)
                                                              | skip
                                                                exfalso; omega
                                                            · first
                                                              | (exfalso; omega)
                                                              | skip
                                                                refine s260_216.mpr ((s260_217 kM).mpr ?_)
                                                                rw [mr_33 hR]
                                                                refine s260_220.mpr (s260_221.mpr (s260_223.mpr ((s260_224 kM).mpr ?_)))
                                                                rw [mr_15 hR]
                                                                refine s260_227.mpr ?_
                                                                refine (s260_229 (hA.k (by decide) (by decide) rfl) (by first | assumption | omega) (by first | assumption | omega)).mpr ?_
                                                                try simp (disch := first | decide | assumption | omega) only [kon, knt_some, knt_none, Option.toList_some, Option.toList_none, List.cons_append, List.nil_append, upI_eq, upI_a, upI_i, upR_eq, upR_a, upR_i, h36, ht, E1, E2, E3, E4, E5, E6, E7, fAdd_id, fSub_id, fMul_id, e62, e63]
                                                                refine (s260_230 (by omega)).mpr ?_
                                                                refine m_inState ⟨v1, v2⟩ eth ?_
                                                                refine (s260_233 (hA.k (by decide) (by decide) rfl) (by first | assumption | omega) (by first | assumption | omega)).mpr ?_
                                                                try simp (disch := first | decide | assumption | omega) only [kon, knt_some, knt_none, Option.toList_some, Option.toList_none, List.cons_append, List.nil_append, upI_eq, upI_a, upI_i, upR_eq, upR_a, upR_i, h36, ht, E1, E2, E3, E4, E5, E6, E7, fAdd_id, fSub_id, fMul_id, e62, e63]
                                                                refine (s260_234).mpr ?_
                                                                first | (exfalso; omega) | (exact ok _ _ _ (tsL_37a c1 ⟨h0t, ⟨hk, hT.1, hT.2⟩, c70⟩) (flw1 (by rw [c1]; decide)) (by repeat' (first | assumption | exact FW.rf | refine FW.up ?_ (by unfold wS; omega) | (refine FW.tr ?_ (by assumption)))) (by (try simp (disch := decide) only [upI_eq, upI_a, upI_i, upR_eq, upR_a, upR_i]); try assumption) (by (try simp (disch := decide) only [upI_eq, upI_a, upI_i, upR_eq, upR_a, upR_i]); try assumption) (by simp (disch := decide) only [scX, upI_eq, upI_a, upI_i, upR_eq, upR_a, upR_i, upI_ro, upI_rw, ht, E1, E2, E3, E4, E5, E6, E7]; rfl))
                                                          · skip
                                                            refine s260_208.mpr ?_
                                                            refine (s260_209 kM).mpr ?_
                                                            try simp (disch := first | decide | assumption | omega) only [kon, knt_some, knt_none, Option.toList_some, Option.toList_none, List.cons_append, List.nil_append, upI_eq, upI_a, upI_i, upR_eq, upR_a, upR_i, h36, ht, E1, E2, E3, E4, E5, E6, E7, fAdd_id, fSub_id, fMul_id, e62, e63]
                                                            refine s260_212.mpr (wif (fun c212 => ?_) (fun c212 => ?_))
                                                            · first
                                                              | (exfalso; omega)
                                                              | skip
                                                                exfalso; omega
                                                            · first
                                                              | (exfalso; omega)
                                                              | skip
                                                                refine s260_216.mpr ((s260_217 kM).mpr ?_)
                                                                rw [mr_33 hR]
                                                                refine s260_220.mpr (s260_221.mpr (s260_223.mpr ((s260_224 kM).mpr ?_)))
                                                                rw [mr_15 hR]
                                                                refine s260_227.mpr ?_
                                                                refine (s260_229 (hA.k (by decide) (by decide) rfl) (by first | assumption | omega) (by first | assumption | omega)).mpr ?_
                                                                try simp (disch := first | decide | assumption | omega) only [kon, knt_some, knt_none, Option.toList_some, Option.toList_none, List.cons_append, List.nil_append, upI_eq, upI_a, upI_i, upR_eq, upR_a, upR_i, h36, ht, E1, E2, E3, E4, E5, E6, E7, fAdd_id, fSub_id, fMul_id, e62, e63]
                                                                refine (s260_230 (by omega)).mpr ?_
                                                                refine m_inState ⟨v1, v2⟩ eth ?_
                                                                refine (s260_233 (hA.k (by decide) (by decide) rfl) (by first | assumption | omega) (by first | assumption | omega)).mpr ?_
                                                                try simp (disch := first | decide | assumption | omega) only [kon, knt_some, knt_none, Option.toList_some, Option.toList_none, List.cons_append, List.nil_append, upI_eq, upI_a, upI_i, upR_eq, upR_a, upR_i, h36, ht, E1, E2, E3, E4, E5, E6, E7, fAdd_id, fSub_id, fMul_id, e62, e63]
                                                                refine (s260_234).mpr ?_
                                                                first | (exfalso; omega) | (exact ok _ _ _ (tsL_37a c1 ⟨h0t, ⟨hk, hT.1, hT.2⟩, c70⟩) (flw1 (by rw [c1]; decide)) (by repeat' (first | assumption | exact FW.rf | refine FW.up ?_ (by unfold wS; omega) | (refine FW.tr ?_ (by assumption)))) (by (try simp (disch := decide) only [upI_eq, upI_a, upI_i, upR_eq, upR_a, upR_i]); try assumption) (by (try simp (disch := decide) only [upI_eq, upI_a, upI_i, upR_eq, upR_a, upR_i]); try assumption) (by simp (disch := decide) only [scX, upI_eq, upI_a, upI_i, upR_eq, upR_a, upR_i, upI_ro, upI_rw, ht, E1, E2, E3, E4, E5, E6, E7]; rfl))
                                                      · first
                                                        | (exfalso; omega)
                                                        | skip
                                                          exfalso; omega
                                                  · first
                                                    | (exfalso; omega)
                                                    | skip
                                                      exfalso; omega
                                            · skip
                                              refine s260_147.mpr ?_
                                              refine (s260_148 kM).mpr ?_
                                              try simp (disch := first | decide | assumption | omega) only [kon, knt_some, knt_none, Option.toList_some, Option.toList_none, List.cons_append, List.nil_append, upI_eq, upI_a, upI_i, upR_eq, upR_a, upR_i, h36, ht, E1, E2, E3, E4, E5, E6, E7, fAdd_id, fSub_id, fMul_id, e62, e63]
                                              refine s260_151.mpr (wif (fun c151 => ?_) (fun c151 => ?_))
                                              · first
                                                | (exfalso; omega)
                                                | skip
                                                  exfalso; omega
                                              · first
                                                | (exfalso; omega)
                                                | skip
                                                  refine s260_155.mpr (s260_156.mpr (s260_157.mpr ?_))
                                                  refine (s260_159 (by omega)).mpr ?_
                                                  refine m_stateOf (by omega) ⟨hm0, hm1⟩ hr9 ?_
                                                  refine s260_162.mpr (s260_163.mpr (s260_164.mpr (s260_165.mpr (s260_167.mpr ((s260_168 kM).mpr ?_)))))
                                                  rw [mr_14 hR]
                                                  refine s260_171.mpr ?_
                                                  try simp (disch := first | decide | assumption | omega) only [kon, knt_some, knt_none, Option.toList_some, Option.toList_none, List.cons_append, List.nil_append, upI_eq, upI_a, upI_i, upR_eq, upR_a, upR_i, h36, ht, E1, E2, E3, E4, E5, E6, E7, fAdd_id, fSub_id, fMul_id, e62, e63]
                                                  refine (s260_173 (hA.k (by decide) (by decide) rfl) (by first | assumption | omega) (by first | assumption | omega)).mpr ?_
                                                  refine s260_174.mpr ?_
                                                  try simp (disch := first | decide | assumption | omega) only [kon, knt_some, knt_none, Option.toList_some, Option.toList_none, List.cons_append, List.nil_append, upI_eq, upI_a, upI_i, upR_eq, upR_a, upR_i, h36, ht, E1, E2, E3, E4, E5, E6, E7, fAdd_id, fSub_id, fMul_id, e62, e63]
                                                  refine s260_175.mpr (wif (fun c175 => ?_) (fun c175 => ?_))
                                                  · first
                                                    | (exfalso; omega)
                                                    | skip
                                                      refine s260_189.mpr (s260_190.mpr ?_)
                                                      refine (s260_191 kM).mpr ?_
                                                      refine s260_194.mpr (s260_195.mpr (s260_196.mpr ?_))
                                                      try simp (disch := first | decide | assumption | omega) only [kon, knt_some, knt_none, Option.toList_some, Option.toList_none, List.cons_append, List.nil_append, upI_eq, upI_a, upI_i, upR_eq, upR_a, upR_i, h36, ht, E1, E2, E3, E4, E5, E6, E7, fAdd_id, fSub_id, fMul_id, e62, e63]
                                                      refine s260_197.mpr (wif (fun c197 => ?_) (fun c197 => ?_))
                                                      · first
                                                        | (exfalso; omega)
                                                        | skip
                                                          refine s260_200.mpr (s260_201.mpr ?_)
                                                          refine (s260_205 (by omega) kM).mpr ?_
                                                          refine m_wants hA (by omega) (by (try simp (disch := decide) only [upI_eq, upI_a, upI_i, upR_eq, upR_a, upR_i]); first | assumption | rfl) (by omega) (fun y205 => ?_) (fun y205 => ?_)
                                                          · skip
                                                            refine s260_208.mpr ?_
                                                            refine (s260_209 kM).mpr ?_
                                                            try simp (disch := first | decide | assumption | omega) only [kon, knt_some, knt_none, Option.toList_some, Option.toList_none, List.cons_append, List.nil_append, upI_eq, upI_a, upI_i, upR_eq, upR_a, upR_i, h36, ht, E1, E2, E3, E4, E5, E6, E7, fAdd_id, fSub_id, fMul_id, e62, e63]
                                                            refine s260_212.mpr (wif (fun c212 => ?_) (fun c212 => ?_))
                                                            · first
                                                              | (exfalso; omega)
                                                              | skip
                                                                exfalso; omega
                                                            · first
                                                              | (exfalso; omega)
                                                              | skip
                                                                refine s260_216.mpr ((s260_217 kM).mpr ?_)
                                                                rw [mr_33 hR]
                                                                refine s260_220.mpr (s260_221.mpr (s260_223.mpr ((s260_224 kM).mpr ?_)))
                                                                rw [mr_15 hR]
                                                                refine s260_227.mpr ?_
                                                                refine (s260_229 (hA.k (by decide) (by decide) rfl) (by first | assumption | omega) (by first | assumption | omega)).mpr ?_
                                                                try simp (disch := first | decide | assumption | omega) only [kon, knt_some, knt_none, Option.toList_some, Option.toList_none, List.cons_append, List.nil_append, upI_eq, upI_a, upI_i, upR_eq, upR_a, upR_i, h36, ht, E1, E2, E3, E4, E5, E6, E7, fAdd_id, fSub_id, fMul_id, e62, e63]
                                                                refine (s260_230 (by omega)).mpr ?_
                                                                refine m_inState ⟨v1, v2⟩ eth ?_
                                                                refine (s260_233 (hA.k (by decide) (by decide) rfl) (by first | assumption | omega) (by first | assumption | omega)).mpr ?_
                                                                try simp (disch := first | decide | assumption | omega) only [kon, knt_some, knt_none, Option.toList_some, Option.toList_none, List.cons_append, List.nil_append, upI_eq, upI_a, upI_i, upR_eq, upR_a, upR_i, h36, ht, E1, E2, E3, E4, E5, E6, E7, fAdd_id, fSub_id, fMul_id, e62, e63]
                                                                refine (s260_234).mpr ?_
                                                                first | (exfalso; omega) | (exact ok _ _ _ (tsL_37a c1 ⟨h0t, ⟨hk, hT.1, hT.2⟩, c70⟩) (flw1 (by rw [c1]; decide)) (by repeat' (first | assumption | exact FW.rf | refine FW.up ?_ (by unfold wS; omega) | (refine FW.tr ?_ (by assumption)))) (by (try simp (disch := decide) only [upI_eq, upI_a, upI_i, upR_eq, upR_a, upR_i]); try assumption) (by (try simp (disch := decide) only [upI_eq, upI_a, upI_i, upR_eq, upR_a, upR_i]); try assumption) (by simp (disch := decide) only [scX, upI_eq, upI_a, upI_i, upR_eq, upR_a, upR_i, upI_ro, upI_rw, ht, E1, E2, E3, E4, E5, E6, E7]; rfl))
                                                          · skip
                                                            refine s260_208.mpr ?_
                                                            refine (s260_209 kM).mpr ?_
                                                            try simp (disch := first | decide | assumption | omega) only [kon, knt_some, knt_none, Option.toList_some, Option.toList_none, List.cons_append, List.nil_append, upI_eq, upI_a, upI_i, upR_eq, upR_a, upR_i, h36, ht, E1, E2, E3, E4, E5, E6, E7, fAdd_id, fSub_id, fMul_id, e62, e63]
                                                            refine s260_212.mpr (wif (fun c212 => ?_) (fun c212 => ?_))
                                                            · first
                                                              | (exfalso; omega)
                                                              | skip
                                                                exfalso; omega
                                                            · first
                                                              | (exfalso; omega)
                                                              | skip
                                                                refine s260_216.mpr ((s260_217 kM).mpr ?_)
                                                                rw [mr_33 hR]
                                                                refine s260_220.mpr (s260_221.mpr (s260_223.mpr ((s260_224 kM).mpr ?_)))
                                                                rw [mr_15 hR]
                                                                refine s260_227.mpr ?_
                                                                refine (s260_229 (hA.k (by decide) (by decide) rfl) (by first | assumption | omega) (by first | assumption | omega)).mpr ?_
                                                                try simp (disch := first | decide | assumption | omega) only [kon, knt_some, knt_none, Option.toList_some, Option.toList_none, List.cons_append, List.nil_append, upI_eq, upI_a, upI_i, upR_eq, upR_a, upR_i, h36, ht, E1, E2, E3, E4, E5, E6, E7, fAdd_id, fSub_id, fMul_id, e62, e63]
                                                                refine (s260_230 (by omega)).mpr ?_
                                                                refine m_inState ⟨v1, v2⟩ eth ?_
                                                                refine (s260_233 (hA.k (by decide) (by decide) rfl) (by first | assumption | omega) (by first | assumption | omega)).mpr ?_
                                                                try simp (disch := first | decide | assumption | omega) only [kon, knt_some, knt_none, Option.toList_some, Option.toList_none, List.cons_append, List.nil_append, upI_eq, upI_a, upI_i, upR_eq, upR_a, upR_i, h36, ht, E1, E2, E3, E4, E5, E6, E7, fAdd_id, fSub_id, fMul_id, e62, e63]
                                                                refine (s260_234).mpr ?_
                                                                first | (exfalso; omega) | (exact ok _ _ _ (tsL_37a c1 ⟨h0t, ⟨hk, hT.1, hT.2⟩, c70⟩) (flw1 (by rw [c1]; decide)) (by repeat' (first | assumption | exact FW.rf | refine FW.up ?_ (by unfold wS; omega) | (refine FW.tr ?_ (by assumption)))) (by (try simp (disch := decide) only [upI_eq, upI_a, upI_i, upR_eq, upR_a, upR_i]); try assumption) (by (try simp (disch := decide) only [upI_eq, upI_a, upI_i, upR_eq, upR_a, upR_i]); try assumption) (by simp (disch := decide) only [scX, upI_eq, upI_a, upI_i, upR_eq, upR_a, upR_i, upI_ro, upI_rw, ht, E1, E2, E3, E4, E5, E6, E7]; rfl))
                                                      · first
                                                        | (exfalso; omega)
                                                        | skip
                                                          exfalso; omega
                                                  · first
                                                    | (exfalso; omega)
                                                    | skip
                                                      exfalso; omega
                                  · first
                                    | (exfalso; omega)
                                    | skip
                                      exfalso; omega
                    · first
                      | (exfalso; omega)
                      | skip
                        exact T82 (fun h => by first | omega | exact c70 h.2.2)
          · first
            | (exfalso; omega)
            | skip
              exact T82 (fun h => by first | omega | exact c70 h.2.2)
      · first
        | (exfalso; omega)
        | skip
          exact T82 (fun h => by first | omega | exact c70 h.2.2)
    · clear m4l m4h hth
      refine s260_0.mpr ?_
      refine (s260_1 kM).mpr ?_
      try simp (disch := first | decide | assumption | omega) only [kon, knt_some, knt_none, Option.toList_some, Option.toList_none, List.cons_append, List.nil_append, upI_eq, upI_a, upI_i, upR_eq, upR_a, upR_i, h36, ht, E1, E2, E3, E4, E5, E6, E7, fAdd_id, fSub_id, fMul_id]
      refine s260_4.mpr (wif (fun c4 => ?_) (fun c4 => ?_))
      · first
        | (exfalso; omega)
        | skip
          refine s260_7.mpr ((s260_8 kM).mpr ?_)
          rw [mr_33 hR]
          refine s260_11.mpr ?_
          refine (s260_12 kM).mpr ?_
          refine s260_15.mpr (s260_16.mpr ?_)
          try simp (disch := first | decide | assumption | omega) only [kon, knt_some, knt_none, Option.toList_some, Option.toList_none, List.cons_append, List.nil_append, upI_eq, upI_a, upI_i, upR_eq, upR_a, upR_i, h36, ht, E1, E2, E3, E4, E5, E6, E7, fAdd_id, fSub_id, fMul_id]
          refine (s260_17 (hA.k (by decide) (by decide) rfl) (by first | assumption | omega) (by first | assumption | omega)).mpr ?_
          try simp (disch := first | decide | assumption | omega) only [kon, knt_some, knt_none, Option.toList_some, Option.toList_none, List.cons_append, List.nil_append, upI_eq, upI_a, upI_i, upR_eq, upR_a, upR_i, h36, ht, E1, E2, E3, E4, E5, E6, E7, fAdd_id, fSub_id, fMul_id]
          refine (s260_18 (by omega)).mpr ?_
          refine m_kind.mpr ?_
          refine s260_21.mpr ?_
          refine s260_22.mpr (wif (fun c22 => ?_) (fun c22 => ?_))
          · first
            | (exfalso; omega)
            | skip
              refine s260_25.mpr (s260_26.mpr (s260_27.mpr ((s260_28 kM).mpr ?_)))
              rw [mr_33 hR]
              refine s260_31.mpr ?_
              refine (s260_32 kM).mpr ?_
              refine s260_35.mpr (s260_36.mpr ?_)
              try simp (disch := first | decide | assumption | omega) only [kon, knt_some, knt_none, Option.toList_some, Option.toList_none, List.cons_append, List.nil_append, upI_eq, upI_a, upI_i, upR_eq, upR_a, upR_i, h36, ht, E1, E2, E3, E4, E5, E6, E7, fAdd_id, fSub_id, fMul_id]
              refine (s260_37 (hA.k (by decide) (by decide) rfl) (by first | assumption | omega) (by first | assumption | omega)).mpr ?_
              refine s260_38.mpr ?_
              try simp (disch := first | decide | assumption | omega) only [kon, knt_some, knt_none, Option.toList_some, Option.toList_none, List.cons_append, List.nil_append, upI_eq, upI_a, upI_i, upR_eq, upR_a, upR_i, h36, ht, E1, E2, E3, E4, E5, E6, E7, fAdd_id, fSub_id, fMul_id]
              refine (s260_39 (by omega) kM).mpr ?_
              refine m_isTurn (B := B) hA hR (by omega) hM hS hE (fun y39 z39 => ?_) (fun y39 => ?_)
              · skip
                refine s260_42.mpr (wif (fun c42 => ?_) (fun c42 => ?_))
                · first
                  | (exfalso; omega)
                  | skip
                    exact T82 (fun h => hT ⟨h.2.1.2.1, h.2.1.2.2⟩)
                · first
                  | (exfalso; omega)
                  | skip
                    exfalso; omega
              · skip
                refine s260_42.mpr (wif (fun c42 => ?_) (fun c42 => ?_))
                · first
                  | (exfalso; omega)
                  | skip
                    exact T82 (fun h => hT ⟨h.2.1.2.1, h.2.1.2.2⟩)
                · first
                  | (exfalso; omega)
                  | skip
                    exfalso; omega
          · first
            | (exfalso; omega)
            | skip
              exact T82 (fun h => hT ⟨h.2.1.2.1, h.2.1.2.2⟩)
      · first
        | (exfalso; omega)
        | skip
          exact T82 (fun h => hT ⟨h.2.1.2.1, h.2.1.2.2⟩)
  · clear m4l m4h hth
    refine s260_0.mpr ?_
    refine (s260_1 kM).mpr ?_
    try simp (disch := first | decide | assumption | omega) only [kon, knt_some, knt_none, Option.toList_some, Option.toList_none, List.cons_append, List.nil_append, upI_eq, upI_a, upI_i, upR_eq, upR_a, upR_i, h36, ht, E1, E2, E3, E4, E5, E6, E7, fAdd_id, fSub_id, fMul_id]
    refine s260_4.mpr (wif (fun c4 => ?_) (fun c4 => ?_))
    · first
      | (exfalso; omega)
      | skip
        refine s260_7.mpr ((s260_8 kM).mpr ?_)
        rw [mr_33 hR]
        refine s260_11.mpr ?_
        refine (s260_12 kM).mpr ?_
        refine s260_15.mpr (s260_16.mpr ?_)
        try simp (disch := first | decide | assumption | omega) only [kon, knt_some, knt_none, Option.toList_some, Option.toList_none, List.cons_append, List.nil_append, upI_eq, upI_a, upI_i, upR_eq, upR_a, upR_i, h36, ht, E1, E2, E3, E4, E5, E6, E7, fAdd_id, fSub_id, fMul_id]
        refine (s260_17 (hA.k (by decide) (by decide) rfl) (by first | assumption | omega) (by first | assumption | omega)).mpr ?_
        try simp (disch := first | decide | assumption | omega) only [kon, knt_some, knt_none, Option.toList_some, Option.toList_none, List.cons_append, List.nil_append, upI_eq, upI_a, upI_i, upR_eq, upR_a, upR_i, h36, ht, E1, E2, E3, E4, E5, E6, E7, fAdd_id, fSub_id, fMul_id]
        refine (s260_18 (by omega)).mpr ?_
        refine m_kind.mpr ?_
        refine s260_21.mpr ?_
        refine s260_22.mpr (wif (fun c22 => ?_) (fun c22 => ?_))
        · first
          | (exfalso; omega)
          | skip
            exfalso; omega
        · first
          | (exfalso; omega)
          | skip
            exact T82 (fun h => hk0 ⟨h.1, h.2.1.1⟩)
    · first
      | (exfalso; omega)
      | skip
        exact T82 (fun h => hk0 ⟨h.1, h.2.1.1⟩)
end MT7
