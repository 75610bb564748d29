section CV4
variable {d : Nat} {al : AL} {hi : HI} {hr : HR} {Q : QQ} {B : Int → Int} {N t H C : Nat} {l : Int}
/-- what stands in a slot after a join, and before it -/
def jnV (Y X : Tst) (k : Int) : Int := if k < 16 then both (Y.2.1 k) (X.2.1 k) else bothL (Y.2.2 (k - 16)) (X.2.2 (k - 16))
def olV (Y : Tst) (k : Int) : Int := if k < 16 then Y.2.1 k else Y.2.2 (k - 16)
def relK (X : Tst) (k : Int) : Prop := k < X.1 ∨ 16 ≤ k
/-- the slot k joins well -/
def jOk (Y X : Tst) (k : Int) : Prop := (k < X.1 → both (Y.2.1 k) (X.2.1 k) ≠ -1) ∧ (16 ≤ k → both (Y.2.2 (k - 16)) (X.2.2 (k - 16)) = -1 → ¬ linT (Y.2.2 (k - 16)) ∧ ¬ linT (X.2.2 (k - 16)))
theorem v_want0 (h : VR al hr) (q : Q (some none) al (upI hi 8 5 1) hr) : Ev d 166 [vR (some 8), vI 0] al hi hr Q := by
  have k8 := h.k8
  rw [e166]
  refine s166_0.mpr ?_
  refine s166_1.mpr (wif (fun c1 => ?_) (fun c1 => ?_))
  · skip
    refine s166_4.mpr (s166_5.mpr ?_)
    refine (s166_6 (by first | decide | assumption | omega) (by first | decide | assumption | omega)).mpr ?_
    refine (s166_9).mpr ?_
    first | exact q | (exfalso; omega)
  · skip
    refine (s166_9).mpr ?_
    first | exact q | (exfalso; omega)
theorem v_want1 (h : VR al hr) (q : Q (some none) al hi hr) : Ev d 166 [vR (some 8), vI 1] al hi hr Q := by
  have k8 := h.k8
  rw [e166]
  refine s166_0.mpr ?_
  refine s166_1.mpr (wif (fun c1 => ?_) (fun c1 => ?_))
  · skip
    refine s166_4.mpr (s166_5.mpr ?_)
    refine (s166_6 (by first | decide | assumption | omega) (by first | decide | assumption | omega)).mpr ?_
    refine (s166_9).mpr ?_
    first | exact q | (exfalso; omega)
  · skip
    refine (s166_9).mpr ?_
    first | exact q | (exfalso; omega)
/-- joining with what had come -/
theorem v_arr2 {q : Int} {X Y : Tst} {l5 l6 l7 : AV} (h : VR al hr) (hV : RV al hr t H C l) (hk : hr 8 8 = some (t + 1)) (hd : 2 ≤ d) (q0 : 0 ≤ q) (q1 : q < l) (hs : VS (some X) hi) (hvX : vX B X) (hvY : vX B Y) (hXY : Y.1 = X.1) (hY1 : ∀ k, 0 ≤ k → k < Y.1 → hi C (26 * q + k) = cv (Y.2.1 k)) (hY2 : ∀ k, 0 ≤ k → k < 10 → hi C (26 * q + 16 + k) = cv (Y.2.2 k))
    (ok : ∀ hi' (dv : Int), jOK Y X → FW (wCr C q) hi hi' → (∀ k, 0 ≤ k → k < 26 → relK X k → hi' C (26 * q + k) = cv (jnV Y X k)) → ((dv = 0 ∧ ∀ k, 0 ≤ k → k < 26 → relK X k → jnV Y X k = olV Y k) ∨ (dv = 1 ∧ ∃ k, 0 ≤ k ∧ k < 26 ∧ relK X k ∧ jnV Y X k ≠ olV Y k)) → Q (some none) al (if dv = 0 then hi' else upI (upI hi' 13 q 1) 8 6 1) hr)
    (no : ∀ hi', ¬ jOK Y X → VS none hi' → FW (wA t H C) hi hi' → Q (some none) al hi' hr) : Wp d 162 90 [vR (some 8), vI q, vI 0, vI 0, vI 0, l5, l6, l7] [] al hi hr Q := by
  have k8 := h.k8; have k11 := h.k11; have k12 := h.k12; have l11 := h.l11; have l12 := h.l12; have r1 := h.2.2.1; have r2 := h.2.2.2.1
  have k13 := h.k13
  have l13 := h.l13
  have r3 := h.2.2.2.2
  obtain ⟨kt, ⟨h1, kH, lH⟩, ⟨c1, kC, lC⟩, hHC, t119, H119, C119, l0, l240⟩ := id hV; have rH : isR al H = true := isR_of kH (by decide) (by decide); have rC : isR al C = true := isR_of kC (by decide) (by decide); have nH : t + 1 ≠ H := isK_ne kt kH (by decide); have nC : t + 1 ≠ C := isK_ne kt kC (by decide)
  have hs' := hs
  obtain ⟨s1, s2, s3, s4, s5, s6⟩ := hs
  have e1 : fZ 1 = 1 := rfl
  refine wp_cnt (N := 26) (fun i ls h2 => ∃ dv : Int, (∃ l5 l6 l7, ls = [vR (some 8), vI q, vI 0, vI dv, vI i, l5, l6, l7]) ∧ FW (wCr C q) hi h2 ∧ (∀ k : Int, 0 ≤ k → k < i → relK X k → h2 C (26 * q + k) = cv (jnV Y X k) ∧ jOk Y X k) ∧ (∀ k : Int, i ≤ k → h2 C (26 * q + k) = hi C (26 * q + k)) ∧ ((dv = 0 ∧ ∀ k : Int, 0 ≤ k → k < i → relK X k → jnV Y X k = olV Y k) ∨ (dv = 1 ∧ ∃ k : Int, 0 ≤ k ∧ k < i ∧ relK X k ∧ jnV Y X k ≠ olV Y k))) ?_ ?_ _ _ ⟨0, ⟨_, _, _, rfl⟩, FW.rf, fun k k0 k1 => absurd k1 (by omega), fun _ _ => rfl, Or.inl ⟨rfl, fun k k0 k1 => absurd k1 (by omega)⟩⟩
  · rintro i ls h2 hi26 ⟨dv, ⟨l5, l6, l7, rfl⟩, hf, hc, hu, hdv⟩ nx
    have d01 : dv = 0 ∨ dv = 1 := by rcases hdv with z | z; exact Or.inl z.1; exact Or.inr z.1
    have e84 : h2 8 4 = X.1 := (hf 8 4 (fun z => by unfold wCr at z; omega)).trans s2
    have e11 : ∀ k, h2 11 k = hi 11 k := fun k => hf 11 k (fun z => by unfold wCr at z; omega)
    have e12 : ∀ k, h2 12 k = hi 12 k := fun k => hf 12 k (fun z => by unfold wCr at z; omega)
    have hs2 : VS (some X) h2 := hs'.fw hf (fun i z => by unfold wCr at z; omega) (fun i z => by unfold wCr at z; omega) (fun z => by unfold wCr at z; omega) (fun z => by unfold wCr at z; omega)
    have hfA : FW (wA t H C) hi h2 := hf.mn (fun a i z => Or.inr (Or.inr (Or.inr (Or.inl z.1))))
    -- a slot that joins well
    have W : ∀ τ (dv2 : Int) l5 l6 l7, relK X i → τ = jnV Y X i → jOk Y X i → (dv2 = 0 ∧ dv = 0 ∧ cv τ = hi C (26 * q + i) ∨ dv2 = 1 ∧ (dv = 1 ∨ cv τ ≠ hi C (26 * q + i))) → hi C (26 * q + i) = cv (olV Y i) → rT (olV Y i) → rT τ → Wp d 162 90 [vR (some 8), vI q, vI 0, vI dv2, vI ((i : Int) + 1), l5, l6, l7] [] al (upI h2 C (26 * q + i) (cv τ)) hr Q := by
      intro τ dv2 l5 l6 l7 hr1 hτ hj hd2 ho hro hrt
      rw [ho, cv_inj hrt hro, ne_eq, cv_inj hrt hro] at hd2
      refine nx _ _ ⟨dv2, ⟨_, _, _, rfl⟩, hf.up ⟨rfl, by omega, by omega⟩, fun k k0 k1 kr => ?_, fun k k1 => ?_, ?_⟩
      · by_cases e : k = i
        · subst e; rw [upI_eq, hτ]; exact ⟨rfl, hj⟩
        · rw [upI_i (by omega)]; exact hc k k0 (by omega) kr
      · rw [upI_i (by omega)]; exact hu k (by omega)
      · rcases hd2 with ⟨z1, z2, z3⟩ | ⟨z1, z2⟩
        · refine Or.inl ⟨z1, fun k k0 k1 kr => ?_⟩
          rcases hdv with y | y
          · by_cases e : k = i
            · subst e; rw [← hτ]; exact z3
            · exact y.2 k k0 (by omega) kr
          · omega
        · refine Or.inr ⟨z1, ?_⟩
          rcases z2 with z2 | z2
          · rcases hdv with y | y
            · omega
            · obtain ⟨k, y0, y1, y2, y3⟩ := y.2; exact ⟨k, y0, by omega, y2, y3⟩
          · exact ⟨i, by omega, by omega, hr1, by rw [← hτ]; exact z2⟩
    -- a slot that doesn't
    have T215F : ∀ hi2 x5 x6 x7, ¬ jOK Y X → VS none hi2 → FW wV h2 hi2 → (hi2 = h2 ∨ hi2 = upI h2 8 5 1) → Wp d 162 215 [vR (some 8), vI q, vI 0, vI dv, vI i, vI x5, vI x6, vI x7] [] al hi2 hr Q := by
      intro hi2 x5 x6 x7 hj hs3 _ he
      have hf2 : FW (wA t H C) hi hi2 := by
        rcases he with rfl | rfl
        · exact hfA
        · exact hfA.up (Or.inl ⟨rfl, Or.inl rfl⟩)
      have E : ∀ (dv : Int) l5 l6 l7 y, (dv = 0 ∨ dv = 1) → Wp d 162 90 [vR (some 8), vI q, vI 0, vI dv, vI ((i : Int) + 1), l5, l6, l7] [] al (upI hi2 C (26 * q + i) y) hr Q := by
        intro dv l5 l6 l7 y hdd
        refine v_arrF h hV hk hd q0 q1 hdd (Or.inl rfl) (i + 1) (by omega) (hs3.up (by omega) (by omega) (by omega)) (fun hi3 z1 z2 => no hi3 hj z1 ((hf2.up (Or.inr (Or.inr (Or.inr (Or.inl rfl))))).tr z2))
      refine s162_215.mpr ?_
      refine (s162_216 (by first | decide | assumption | omega)).mpr ?_
      refine s162_219.mpr (s162_220.mpr (s162_222.mpr ?_))
      try simp (disch := first | decide | assumption | omega) only [kon, knt_some, knt_none, Option.toList_some, Option.toList_none, List.cons_append, List.nil_append, hk, fAdd_id]
      refine (s162_224 (by first | decide | assumption | omega) (by first | decide | assumption | omega)).mpr ?_
      refine r_setComing hV q0 q1 (by omega) (by omega) ?_
      refine s162_227.mpr ?_
      refine s162_228.mpr (wif (fun c228 => ?_) (fun c228 => ?_))
      · skip
        refine s162_231.mpr (s162_233.mpr ?_)
        refine s162_235.mpr (wif (fun c235 => ?_) (fun c235 => ?_))
        · skip
          refine s162_242.mpr (s162_243.mpr (s162_244.mpr (s162_247.mpr ?_)))
          try simp (disch := first | decide | assumption | omega) only [kon, knt_some, knt_none, Option.toList_some, Option.toList_none, List.cons_append, List.nil_append, hk, fAdd_id]
          exact E _ _ _ _ _ (by omega)
        · skip
          refine s162_238.mpr (s162_239.mpr (s162_243.mpr (s162_244.mpr (s162_247.mpr ?_))))
          try simp (disch := first | decide | assumption | omega) only [kon, knt_some, knt_none, Option.toList_some, Option.toList_none, List.cons_append, List.nil_append, hk, fAdd_id]
          exact E _ _ _ _ _ (by omega)
      · skip
        refine s162_238.mpr (s162_239.mpr (s162_243.mpr (s162_244.mpr (s162_247.mpr ?_))))
        try simp (disch := first | decide | assumption | omega) only [kon, knt_some, knt_none, Option.toList_some, Option.toList_none, List.cons_append, List.nil_append, hk, fAdd_id]
        exact E _ _ _ _ _ (by omega)
    have T215 : ∀ τ (x5 : Int), relK X i → τ = jnV Y X i → jOk Y X i → hi C (26 * q + i) = cv (olV Y i) → rT (olV Y i) → rT τ → Wp d 162 215 [vR (some 8), vI q, vI 0, vI dv, vI i, vI x5, vI (hi C (26 * q + i)), vI (cv τ)] [] al h2 hr Q := by
      intro τ x5 y1 y2 y3 y4 y5 y6
      refine s162_215.mpr ?_
      refine (s162_216 (by first | decide | assumption | omega)).mpr ?_
      refine s162_219.mpr (s162_220.mpr (s162_222.mpr ?_))
      try simp (disch := first | decide | assumption | omega) only [kon, knt_some, knt_none, Option.toList_some, Option.toList_none, List.cons_append, List.nil_append, hk, fAdd_id]
      refine (s162_224 (by first | decide | assumption | omega) (by first | decide | assumption | omega)).mpr ?_
      refine r_setComing hV q0 q1 (by omega) (by omega) ?_
      refine s162_227.mpr ?_
      refine s162_228.mpr (wif (fun c228 => ?_) (fun c228 => ?_))
      · skip
        refine s162_231.mpr (s162_233.mpr ?_)
        refine s162_235.mpr (wif (fun c235 => ?_) (fun c235 => ?_))
        · skip
          refine s162_242.mpr (s162_243.mpr (s162_244.mpr (s162_247.mpr ?_)))
          try simp (disch := first | decide | assumption | omega) only [kon, knt_some, knt_none, Option.toList_some, Option.toList_none, List.cons_append, List.nil_append, hk, fAdd_id]
          exact W τ _ _ _ _ y1 y2 y3 (by omega) y4 y5 y6
        · skip
          refine s162_238.mpr (s162_239.mpr (s162_243.mpr (s162_244.mpr (s162_247.mpr ?_))))
          try simp (disch := first | decide | assumption | omega) only [kon, knt_some, knt_none, Option.toList_some, Option.toList_none, List.cons_append, List.nil_append, hk, fAdd_id]
          exact W τ _ _ _ _ y1 y2 y3 (by omega) y4 y5 y6
      · skip
        refine s162_238.mpr (s162_239.mpr (s162_243.mpr (s162_244.mpr (s162_247.mpr ?_))))
        try simp (disch := first | decide | assumption | omega) only [kon, knt_some, knt_none, Option.toList_some, Option.toList_none, List.cons_append, List.nil_append, hk, fAdd_id]
        exact W τ _ _ _ _ y1 y2 y3 (by omega) y4 y5 y6
    have eb : h2 C (26 * q + i) = hi C (26 * q + i) := hu i (by omega)
    have eb2 : (if l ≤ q then 7 else h2 C (26 * q + i)) = hi C (26 * q + i) := by rw [if_neg (by omega), eb]
    by_cases ca : (i : Int) < X.1
    · have hv := (hvX.2.1 i (by omega) ca).r
      have hw := (hvY.2.1 i (by omega) (by omega)).r
      have e9 : hi 11 i = cv (X.2.1 i) := s5 i (by omega) ca
      have eo : olV Y i = Y.2.1 i := if_pos (by omega)
      have ej : jnV Y X i = both (Y.2.1 i) (X.2.1 i) := if_pos (by omega)
      have eB : hi C (26 * q + i) = cv (Y.2.1 i) := hY1 i (by omega) (by omega)
      by_cases b : both (Y.2.1 i) (X.2.1 i) = -1
      · have e8 : (if both (Y.2.1 i) (X.2.1 i) = -1 then -2 else cv (both (Y.2.1 i) (X.2.1 i))) = -2 := if_pos b
        have nj : ¬ jOK Y X := fun z => z.2.1 i (by omega) (by omega) b
        refine s162_90.mpr (s162_92.mpr ?_)
        refine s162_94.mpr (wif (fun c94 => ?_) (fun c94 => ?_))
        · first
          | (exfalso; omega)
          | skip
            refine s162_97.mpr (s162_99.mpr ?_)
            refine (s162_100 (by first | decide | assumption | omega)).mpr ?_
            try simp (disch := first | decide | assumption | omega) only [kon, knt_some, knt_none, Option.toList_some, Option.toList_none, List.cons_append, List.nil_append, r1, r2, hk, e84, e11, e9, fAdd_id]
            refine s162_103.mpr (wif (fun c103 => ?_) (fun c103 => ?_))
            · first
              | (exfalso; omega)
              | skip
                refine s162_113.mpr (s162_115.mpr ?_)
                refine s162_117.mpr (wif (fun c117 => ?_) (fun c117 => ?_))
                · first
                  | (exfalso; omega)
                  | skip
                    refine s162_120.mpr ?_
                    refine (s162_121 (by first | decide | assumption | omega)).mpr ?_
                    refine s162_124.mpr ?_
                    try simp (disch := first | decide | assumption | omega) only [kon, knt_some, knt_none, Option.toList_some, Option.toList_none, List.cons_append, List.nil_append, r1, r2, hk, e84, e11, e9, fAdd_id]
                    refine (s162_126 (by first | decide | assumption | omega) (by first | decide | assumption | omega) (by first | decide | assumption | omega)).mpr ?_
                    refine s162_127.mpr (s162_140.mpr (s162_142.mpr ?_))
                    try simp (disch := first | decide | assumption | omega) only [kon, knt_some, knt_none, Option.toList_some, Option.toList_none, List.cons_append, List.nil_append, r1, r2, hk, e84, e11, e9, fAdd_id]
                    refine s162_143.mpr (wif (fun c143 => ?_) (fun c143 => ?_))
                    · first
                      | (exfalso; omega)
                      | skip
                        refine s162_151.mpr ?_
                        refine (s162_152 (by first | decide | assumption | omega)).mpr ?_
                        refine s162_155.mpr (s162_156.mpr ?_)
                        try simp (disch := first | decide | assumption | omega) only [kon, knt_some, knt_none, Option.toList_some, Option.toList_none, List.cons_append, List.nil_append, r1, r2, hk, e84, e11, e9, fAdd_id]
                        refine (s162_158 (by first | decide | assumption | omega) (by first | decide | assumption | omega)).mpr ?_
                        refine r_typeComing hV q0 (by omega) (by omega) (by omega) ?_
                        simp only [kon, knt_some, knt_none, Option.toList_some, Option.toList_none, List.cons_append, List.nil_append, eb2, eB]
                        refine s162_161.mpr (s162_163.mpr (s162_165.mpr ?_))
                        refine (s162_167 (by omega)).mpr ?_
                        refine c_join hw hv ?_
                        simp only [kon, knt_some, knt_none, Option.toList_some, Option.toList_none, List.cons_append, List.nil_append, e8]
                        refine s162_170.mpr (s162_172.mpr (s162_174.mpr ?_))
                        refine s162_176.mpr (wif (fun c176 => ?_) (fun c176 => ?_))
                        · first
                          | (exfalso; omega)
                          | skip
                            refine s162_179.mpr (s162_180.mpr (s162_182.mpr ?_))
                            refine s162_184.mpr (wif (fun c184 => ?_) (fun c184 => ?_))
                            · first
                              | (exfalso; omega)
                              | skip
                                refine s162_207.mpr ?_
                                refine (s162_208 (by first | decide | assumption | omega) (by first | decide | assumption | omega)).mpr ?_
                                refine v_want0 h ?_
                                refine s162_211.mpr (s162_213.mpr ?_)
                                first | exact T215F _ _ _ _ nj hs2.w (FW.up FW.rf wV_5) (Or.inr rfl) | (exfalso; omega)
                            · first
                              | (exfalso; omega)
                              | skip
                                exfalso; omega
                        · first
                          | (exfalso; omega)
                          | skip
                            first | exact T215F _ _ _ _ nj hs2.w (FW.up FW.rf wV_5) (Or.inr rfl) | (exfalso; omega)
                    · first
                      | (exfalso; omega)
                      | skip
                        refine s162_146.mpr (s162_148.mpr (s162_161.mpr (s162_163.mpr (s162_165.mpr ?_))))
                        refine (s162_167 (by omega)).mpr ?_
                        refine c_join hw hv ?_
                        simp only [kon, knt_some, knt_none, Option.toList_some, Option.toList_none, List.cons_append, List.nil_append, e8]
                        refine s162_170.mpr (s162_172.mpr (s162_174.mpr ?_))
                        refine s162_176.mpr (wif (fun c176 => ?_) (fun c176 => ?_))
                        · first
                          | (exfalso; omega)
                          | skip
                            refine s162_179.mpr (s162_180.mpr (s162_182.mpr ?_))
                            refine s162_184.mpr (wif (fun c184 => ?_) (fun c184 => ?_))
                            · first
                              | (exfalso; omega)
                              | skip
                                refine s162_207.mpr ?_
                                refine (s162_208 (by first | decide | assumption | omega) (by first | decide | assumption | omega)).mpr ?_
                                refine v_want0 h ?_
                                refine s162_211.mpr (s162_213.mpr ?_)
                                first | exact T215F _ _ _ _ nj hs2.w (FW.up FW.rf wV_5) (Or.inr rfl) | (exfalso; omega)
                            · first
                              | (exfalso; omega)
                              | skip
                                exfalso; omega
                        · first
                          | (exfalso; omega)
                          | skip
                            first | exact T215F _ _ _ _ nj hs2.w (FW.up FW.rf wV_5) (Or.inr rfl) | (exfalso; omega)
                · first
                  | (exfalso; omega)
                  | skip
                    refine s162_130.mpr ?_
                    refine (s162_131 (by first | decide | assumption | omega)).mpr ?_
                    refine s162_134.mpr (s162_136.mpr (s162_138.mpr ?_))
                    try simp (disch := first | decide | assumption | omega) only [kon, knt_some, knt_none, Option.toList_some, Option.toList_none, List.cons_append, List.nil_append, r1, r2, hk, e84, e11, e9, fAdd_id]
                    refine (s162_139 (by first | decide | assumption | omega) (by first | decide | assumption | omega) (by first | decide | assumption | omega)).mpr ?_
                    refine s162_140.mpr (s162_142.mpr ?_)
                    try simp (disch := first | decide | assumption | omega) only [kon, knt_some, knt_none, Option.toList_some, Option.toList_none, List.cons_append, List.nil_append, r1, r2, hk, e84, e11, e9, fAdd_id]
                    refine s162_143.mpr (wif (fun c143 => ?_) (fun c143 => ?_))
                    · first
                      | (exfalso; omega)
                      | skip
                        refine s162_151.mpr ?_
                        refine (s162_152 (by first | decide | assumption | omega)).mpr ?_
                        refine s162_155.mpr (s162_156.mpr ?_)
                        try simp (disch := first | decide | assumption | omega) only [kon, knt_some, knt_none, Option.toList_some, Option.toList_none, List.cons_append, List.nil_append, r1, r2, hk, e84, e11, e9, fAdd_id]
                        refine (s162_158 (by first | decide | assumption | omega) (by first | decide | assumption | omega)).mpr ?_
                        refine r_typeComing hV q0 (by omega) (by omega) (by omega) ?_
                        simp only [kon, knt_some, knt_none, Option.toList_some, Option.toList_none, List.cons_append, List.nil_append, eb2, eB]
                        refine s162_161.mpr (s162_163.mpr (s162_165.mpr ?_))
                        refine (s162_167 (by omega)).mpr ?_
                        refine c_join hw hv ?_
                        simp only [kon, knt_some, knt_none, Option.toList_some, Option.toList_none, List.cons_append, List.nil_append, e8]
                        refine s162_170.mpr (s162_172.mpr (s162_174.mpr ?_))
                        refine s162_176.mpr (wif (fun c176 => ?_) (fun c176 => ?_))
                        · first
                          | (exfalso; omega)
                          | skip
                            refine s162_179.mpr (s162_180.mpr (s162_182.mpr ?_))
                            refine s162_184.mpr (wif (fun c184 => ?_) (fun c184 => ?_))
                            · first
                              | (exfalso; omega)
                              | skip
                                refine s162_207.mpr ?_
                                refine (s162_208 (by first | decide | assumption | omega) (by first | decide | assumption | omega)).mpr ?_
                                refine v_want0 h ?_
                                refine s162_211.mpr (s162_213.mpr ?_)
                                first | exact T215F _ _ _ _ nj hs2.w (FW.up FW.rf wV_5) (Or.inr rfl) | (exfalso; omega)
                            · first
                              | (exfalso; omega)
                              | skip
                                exfalso; omega
                        · first
                          | (exfalso; omega)
                          | skip
                            first | exact T215F _ _ _ _ nj hs2.w (FW.up FW.rf wV_5) (Or.inr rfl) | (exfalso; omega)
                    · first
                      | (exfalso; omega)
                      | skip
                        refine s162_146.mpr (s162_148.mpr (s162_161.mpr (s162_163.mpr (s162_165.mpr ?_))))
                        refine (s162_167 (by omega)).mpr ?_
                        refine c_join hw hv ?_
                        simp only [kon, knt_some, knt_none, Option.toList_some, Option.toList_none, List.cons_append, List.nil_append, e8]
                        refine s162_170.mpr (s162_172.mpr (s162_174.mpr ?_))
                        refine s162_176.mpr (wif (fun c176 => ?_) (fun c176 => ?_))
                        · first
                          | (exfalso; omega)
                          | skip
                            refine s162_179.mpr (s162_180.mpr (s162_182.mpr ?_))
                            refine s162_184.mpr (wif (fun c184 => ?_) (fun c184 => ?_))
                            · first
                              | (exfalso; omega)
                              | skip
                                refine s162_207.mpr ?_
                                refine (s162_208 (by first | decide | assumption | omega) (by first | decide | assumption | omega)).mpr ?_
                                refine v_want0 h ?_
                                refine s162_211.mpr (s162_213.mpr ?_)
                                first | exact T215F _ _ _ _ nj hs2.w (FW.up FW.rf wV_5) (Or.inr rfl) | (exfalso; omega)
                            · first
                              | (exfalso; omega)
                              | skip
                                exfalso; omega
                        · first
                          | (exfalso; omega)
                          | skip
                            first | exact T215F _ _ _ _ nj hs2.w (FW.up FW.rf wV_5) (Or.inr rfl) | (exfalso; omega)
            · first
              | (exfalso; omega)
              | skip
                refine s162_106.mpr (s162_108.mpr ?_)
                refine s162_110.mpr (wif (fun c110 => ?_) (fun c110 => ?_))
                · first
                  | (exfalso; omega)
                  | skip
                    refine s162_244.mpr (s162_247.mpr ?_)
                    try simp (disch := first | decide | assumption | omega) only [kon, knt_some, knt_none, Option.toList_some, Option.toList_none, List.cons_append, List.nil_append, r1, r2, hk, e84, e11, e9, fAdd_id]
                    exfalso; omega
                · first
                  | (exfalso; omega)
                  | skip
                    refine s162_113.mpr (s162_115.mpr ?_)
                    refine s162_117.mpr (wif (fun c117 => ?_) (fun c117 => ?_))
                    · first
                      | (exfalso; omega)
                      | skip
                        refine s162_120.mpr ?_
                        refine (s162_121 (by first | decide | assumption | omega)).mpr ?_
                        refine s162_124.mpr ?_
                        try simp (disch := first | decide | assumption | omega) only [kon, knt_some, knt_none, Option.toList_some, Option.toList_none, List.cons_append, List.nil_append, r1, r2, hk, e84, e11, e9, fAdd_id]
                        refine (s162_126 (by first | decide | assumption | omega) (by first | decide | assumption | omega) (by first | decide | assumption | omega)).mpr ?_
                        refine s162_127.mpr (s162_140.mpr (s162_142.mpr ?_))
                        try simp (disch := first | decide | assumption | omega) only [kon, knt_some, knt_none, Option.toList_some, Option.toList_none, List.cons_append, List.nil_append, r1, r2, hk, e84, e11, e9, fAdd_id]
                        refine s162_143.mpr (wif (fun c143 => ?_) (fun c143 => ?_))
                        · first
                          | (exfalso; omega)
                          | skip
                            refine s162_151.mpr ?_
                            refine (s162_152 (by first | decide | assumption | omega)).mpr ?_
                            refine s162_155.mpr (s162_156.mpr ?_)
                            try simp (disch := first | decide | assumption | omega) only [kon, knt_some, knt_none, Option.toList_some, Option.toList_none, List.cons_append, List.nil_append, r1, r2, hk, e84, e11, e9, fAdd_id]
                            refine (s162_158 (by first | decide | assumption | omega) (by first | decide | assumption | omega)).mpr ?_
                            refine r_typeComing hV q0 (by omega) (by omega) (by omega) ?_
                            simp only [kon, knt_some, knt_none, Option.toList_some, Option.toList_none, List.cons_append, List.nil_append, eb2, eB]
                            refine s162_161.mpr (s162_163.mpr (s162_165.mpr ?_))
                            refine (s162_167 (by omega)).mpr ?_
                            refine c_join hw hv ?_
                            simp only [kon, knt_some, knt_none, Option.toList_some, Option.toList_none, List.cons_append, List.nil_append, e8]
                            refine s162_170.mpr (s162_172.mpr (s162_174.mpr ?_))
                            refine s162_176.mpr (wif (fun c176 => ?_) (fun c176 => ?_))
                            · first
                              | (exfalso; omega)
                              | skip
                                refine s162_179.mpr (s162_180.mpr (s162_182.mpr ?_))
                                refine s162_184.mpr (wif (fun c184 => ?_) (fun c184 => ?_))
                                · first
                                  | (exfalso; omega)
                                  | skip
                                    refine s162_207.mpr ?_
                                    refine (s162_208 (by first | decide | assumption | omega) (by first | decide | assumption | omega)).mpr ?_
                                    refine v_want0 h ?_
                                    refine s162_211.mpr (s162_213.mpr ?_)
                                    first | exact T215F _ _ _ _ nj hs2.w (FW.up FW.rf wV_5) (Or.inr rfl) | (exfalso; omega)
                                · first
                                  | (exfalso; omega)
                                  | skip
                                    exfalso; omega
                            · first
                              | (exfalso; omega)
                              | skip
                                first | exact T215F _ _ _ _ nj hs2.w (FW.up FW.rf wV_5) (Or.inr rfl) | (exfalso; omega)
                        · first
                          | (exfalso; omega)
                          | skip
                            refine s162_146.mpr (s162_148.mpr (s162_161.mpr (s162_163.mpr (s162_165.mpr ?_))))
                            refine (s162_167 (by omega)).mpr ?_
                            refine c_join hw hv ?_
                            simp only [kon, knt_some, knt_none, Option.toList_some, Option.toList_none, List.cons_append, List.nil_append, e8]
                            refine s162_170.mpr (s162_172.mpr (s162_174.mpr ?_))
                            refine s162_176.mpr (wif (fun c176 => ?_) (fun c176 => ?_))
                            · first
                              | (exfalso; omega)
                              | skip
                                refine s162_179.mpr (s162_180.mpr (s162_182.mpr ?_))
                                refine s162_184.mpr (wif (fun c184 => ?_) (fun c184 => ?_))
                                · first
                                  | (exfalso; omega)
                                  | skip
                                    refine s162_207.mpr ?_
                                    refine (s162_208 (by first | decide | assumption | omega) (by first | decide | assumption | omega)).mpr ?_
                                    refine v_want0 h ?_
                                    refine s162_211.mpr (s162_213.mpr ?_)
                                    first | exact T215F _ _ _ _ nj hs2.w (FW.up FW.rf wV_5) (Or.inr rfl) | (exfalso; omega)
                                · first
                                  | (exfalso; omega)
                                  | skip
                                    exfalso; omega
                            · first
                              | (exfalso; omega)
                              | skip
                                first | exact T215F _ _ _ _ nj hs2.w (FW.up FW.rf wV_5) (Or.inr rfl) | (exfalso; omega)
                    · first
                      | (exfalso; omega)
                      | skip
                        refine s162_130.mpr ?_
                        refine (s162_131 (by first | decide | assumption | omega)).mpr ?_
                        refine s162_134.mpr (s162_136.mpr (s162_138.mpr ?_))
                        try simp (disch := first | decide | assumption | omega) only [kon, knt_some, knt_none, Option.toList_some, Option.toList_none, List.cons_append, List.nil_append, r1, r2, hk, e84, e11, e9, fAdd_id]
                        refine (s162_139 (by first | decide | assumption | omega) (by first | decide | assumption | omega) (by first | decide | assumption | omega)).mpr ?_
                        refine s162_140.mpr (s162_142.mpr ?_)
                        try simp (disch := first | decide | assumption | omega) only [kon, knt_some, knt_none, Option.toList_some, Option.toList_none, List.cons_append, List.nil_append, r1, r2, hk, e84, e11, e9, fAdd_id]
                        refine s162_143.mpr (wif (fun c143 => ?_) (fun c143 => ?_))
                        · first
                          | (exfalso; omega)
                          | skip
                            refine s162_151.mpr ?_
                            refine (s162_152 (by first | decide | assumption | omega)).mpr ?_
                            refine s162_155.mpr (s162_156.mpr ?_)
                            try simp (disch := first | decide | assumption | omega) only [kon, knt_some, knt_none, Option.toList_some, Option.toList_none, List.cons_append, List.nil_append, r1, r2, hk, e84, e11, e9, fAdd_id]
                            refine (s162_158 (by first | decide | assumption | omega) (by first | decide | assumption | omega)).mpr ?_
                            refine r_typeComing hV q0 (by omega) (by omega) (by omega) ?_
                            simp only [kon, knt_some, knt_none, Option.toList_some, Option.toList_none, List.cons_append, List.nil_append, eb2, eB]
                            refine s162_161.mpr (s162_163.mpr (s162_165.mpr ?_))
                            refine (s162_167 (by omega)).mpr ?_
                            refine c_join hw hv ?_
                            simp only [kon, knt_some, knt_none, Option.toList_some, Option.toList_none, List.cons_append, List.nil_append, e8]
                            refine s162_170.mpr (s162_172.mpr (s162_174.mpr ?_))
                            refine s162_176.mpr (wif (fun c176 => ?_) (fun c176 => ?_))
                            · first
                              | (exfalso; omega)
                              | skip
                                refine s162_179.mpr (s162_180.mpr (s162_182.mpr ?_))
                                refine s162_184.mpr (wif (fun c184 => ?_) (fun c184 => ?_))
                                · first
                                  | (exfalso; omega)
                                  | skip
                                    refine s162_207.mpr ?_
                                    refine (s162_208 (by first | decide | assumption | omega) (by first | decide | assumption | omega)).mpr ?_
                                    refine v_want0 h ?_
                                    refine s162_211.mpr (s162_213.mpr ?_)
                                    first | exact T215F _ _ _ _ nj hs2.w (FW.up FW.rf wV_5) (Or.inr rfl) | (exfalso; omega)
                                · first
                                  | (exfalso; omega)
                                  | skip
                                    exfalso; omega
                            · first
                              | (exfalso; omega)
                              | skip
                                first | exact T215F _ _ _ _ nj hs2.w (FW.up FW.rf wV_5) (Or.inr rfl) | (exfalso; omega)
                        · first
                          | (exfalso; omega)
                          | skip
                            refine s162_146.mpr (s162_148.mpr (s162_161.mpr (s162_163.mpr (s162_165.mpr ?_))))
                            refine (s162_167 (by omega)).mpr ?_
                            refine c_join hw hv ?_
                            simp only [kon, knt_some, knt_none, Option.toList_some, Option.toList_none, List.cons_append, List.nil_append, e8]
                            refine s162_170.mpr (s162_172.mpr (s162_174.mpr ?_))
                            refine s162_176.mpr (wif (fun c176 => ?_) (fun c176 => ?_))
                            · first
                              | (exfalso; omega)
                              | skip
                                refine s162_179.mpr (s162_180.mpr (s162_182.mpr ?_))
                                refine s162_184.mpr (wif (fun c184 => ?_) (fun c184 => ?_))
                                · first
                                  | (exfalso; omega)
                                  | skip
                                    refine s162_207.mpr ?_
                                    refine (s162_208 (by first | decide | assumption | omega) (by first | decide | assumption | omega)).mpr ?_
                                    refine v_want0 h ?_
                                    refine s162_211.mpr (s162_213.mpr ?_)
                                    first | exact T215F _ _ _ _ nj hs2.w (FW.up FW.rf wV_5) (Or.inr rfl) | (exfalso; omega)
                                · first
                                  | (exfalso; omega)
                                  | skip
                                    exfalso; omega
                            · first
                              | (exfalso; omega)
                              | skip
                                first | exact T215F _ _ _ _ nj hs2.w (FW.up FW.rf wV_5) (Or.inr rfl) | (exfalso; omega)
        · first
          | (exfalso; omega)
          | skip
            refine s162_250.mpr ?_
            refine s162_251.mpr (wif (fun c251 => ?_) (fun c251 => ?_))
            · first
              | (exfalso; omega)
              | skip
                refine (s162_266).mpr ?_
                exfalso; omega
            · first
              | (exfalso; omega)
              | skip
                refine s162_254.mpr ?_
                refine (s162_255 (by first | decide | assumption | omega)).mpr ?_
                refine s162_258.mpr (s162_259.mpr ?_)
                try simp (disch := first | decide | assumption | omega) only [kon, knt_some, knt_none, Option.toList_some, Option.toList_none, List.cons_append, List.nil_append, r1, r2, hk, e84, e11, e9, fAdd_id]
                refine (s162_260Z (by first | decide | assumption | omega) (by first | decide | assumption | omega) (by first | decide | assumption | omega)).mpr ?_
                refine s162_261.mpr (s162_262.mpr ?_)
                try simp (disch := first | decide | assumption | omega) only [kon, knt_some, knt_none, Option.toList_some, Option.toList_none, List.cons_append, List.nil_append, r1, r2, hk, e84, e11, e9, fAdd_id]
                refine (s162_263 (by first | decide | assumption | omega) (by first | decide | assumption | omega)).mpr ?_
                refine (s162_266).mpr ?_
                exfalso; omega
      · have e8 : (if both (Y.2.1 i) (X.2.1 i) = -1 then -2 else cv (both (Y.2.1 i) (X.2.1 i))) = cv (both (Y.2.1 i) (X.2.1 i)) := if_neg b
        have hb := (both_v (hvY.2.1 i (by omega) (by omega)) (hvX.2.1 i (by omega) ca) b).r
        have hb2 := cv_rng hb
        have E := T215 (both (Y.2.1 i) (X.2.1 i)) (cv (X.2.1 i)) (Or.inl ca) ej.symm ⟨fun _ => b, fun z => absurd z (by omega)⟩ (by rw [eo]; exact eB) (by rw [eo]; exact hw) hb
        rw [eB] at E
        refine s162_90.mpr (s162_92.mpr ?_)
        refine s162_94.mpr (wif (fun c94 => ?_) (fun c94 => ?_))
        · first
          | (exfalso; omega)
          | skip
            refine s162_97.mpr (s162_99.mpr ?_)
            refine (s162_100 (by first | decide | assumption | omega)).mpr ?_
            try simp (disch := first | decide | assumption | omega) only [kon, knt_some, knt_none, Option.toList_some, Option.toList_none, List.cons_append, List.nil_append, r1, r2, hk, e84, e11, e9, fAdd_id]
            refine s162_103.mpr (wif (fun c103 => ?_) (fun c103 => ?_))
            · first
              | (exfalso; omega)
              | skip
                refine s162_113.mpr (s162_115.mpr ?_)
                refine s162_117.mpr (wif (fun c117 => ?_) (fun c117 => ?_))
                · first
                  | (exfalso; omega)
                  | skip
                    refine s162_120.mpr ?_
                    refine (s162_121 (by first | decide | assumption | omega)).mpr ?_
                    refine s162_124.mpr ?_
                    try simp (disch := first | decide | assumption | omega) only [kon, knt_some, knt_none, Option.toList_some, Option.toList_none, List.cons_append, List.nil_append, r1, r2, hk, e84, e11, e9, fAdd_id]
                    refine (s162_126 (by first | decide | assumption | omega) (by first | decide | assumption | omega) (by first | decide | assumption | omega)).mpr ?_
                    refine s162_127.mpr (s162_140.mpr (s162_142.mpr ?_))
                    try simp (disch := first | decide | assumption | omega) only [kon, knt_some, knt_none, Option.toList_some, Option.toList_none, List.cons_append, List.nil_append, r1, r2, hk, e84, e11, e9, fAdd_id]
                    refine s162_143.mpr (wif (fun c143 => ?_) (fun c143 => ?_))
                    · first
                      | (exfalso; omega)
                      | skip
                        refine s162_151.mpr ?_
                        refine (s162_152 (by first | decide | assumption | omega)).mpr ?_
                        refine s162_155.mpr (s162_156.mpr ?_)
                        try simp (disch := first | decide | assumption | omega) only [kon, knt_some, knt_none, Option.toList_some, Option.toList_none, List.cons_append, List.nil_append, r1, r2, hk, e84, e11, e9, fAdd_id]
                        refine (s162_158 (by first | decide | assumption | omega) (by first | decide | assumption | omega)).mpr ?_
                        refine r_typeComing hV q0 (by omega) (by omega) (by omega) ?_
                        simp only [kon, knt_some, knt_none, Option.toList_some, Option.toList_none, List.cons_append, List.nil_append, eb2, eB]
                        refine s162_161.mpr (s162_163.mpr (s162_165.mpr ?_))
                        refine (s162_167 (by omega)).mpr ?_
                        refine c_join hw hv ?_
                        simp only [kon, knt_some, knt_none, Option.toList_some, Option.toList_none, List.cons_append, List.nil_append, e8]
                        refine s162_170.mpr (s162_172.mpr (s162_174.mpr ?_))
                        refine s162_176.mpr (wif (fun c176 => ?_) (fun c176 => ?_))
                        · first
                          | (exfalso; omega)
                          | skip
                            exfalso; omega
                        · first
                          | (exfalso; omega)
                          | skip
                            exact E
                    · first
                      | (exfalso; omega)
                      | skip
                        refine s162_146.mpr (s162_148.mpr (s162_161.mpr (s162_163.mpr (s162_165.mpr ?_))))
                        refine (s162_167 (by omega)).mpr ?_
                        refine c_join hw hv ?_
                        simp only [kon, knt_some, knt_none, Option.toList_some, Option.toList_none, List.cons_append, List.nil_append, e8]
                        refine s162_170.mpr (s162_172.mpr (s162_174.mpr ?_))
                        refine s162_176.mpr (wif (fun c176 => ?_) (fun c176 => ?_))
                        · first
                          | (exfalso; omega)
                          | skip
                            exfalso; omega
                        · first
                          | (exfalso; omega)
                          | skip
                            exact E
                · first
                  | (exfalso; omega)
                  | skip
                    refine s162_130.mpr ?_
                    refine (s162_131 (by first | decide | assumption | omega)).mpr ?_
                    refine s162_134.mpr (s162_136.mpr (s162_138.mpr ?_))
                    try simp (disch := first | decide | assumption | omega) only [kon, knt_some, knt_none, Option.toList_some, Option.toList_none, List.cons_append, List.nil_append, r1, r2, hk, e84, e11, e9, fAdd_id]
                    refine (s162_139 (by first | decide | assumption | omega) (by first | decide | assumption | omega) (by first | decide | assumption | omega)).mpr ?_
                    refine s162_140.mpr (s162_142.mpr ?_)
                    try simp (disch := first | decide | assumption | omega) only [kon, knt_some, knt_none, Option.toList_some, Option.toList_none, List.cons_append, List.nil_append, r1, r2, hk, e84, e11, e9, fAdd_id]
                    refine s162_143.mpr (wif (fun c143 => ?_) (fun c143 => ?_))
                    · first
                      | (exfalso; omega)
                      | skip
                        refine s162_151.mpr ?_
                        refine (s162_152 (by first | decide | assumption | omega)).mpr ?_
                        refine s162_155.mpr (s162_156.mpr ?_)
                        try simp (disch := first | decide | assumption | omega) only [kon, knt_some, knt_none, Option.toList_some, Option.toList_none, List.cons_append, List.nil_append, r1, r2, hk, e84, e11, e9, fAdd_id]
                        refine (s162_158 (by first | decide | assumption | omega) (by first | decide | assumption | omega)).mpr ?_
                        refine r_typeComing hV q0 (by omega) (by omega) (by omega) ?_
                        simp only [kon, knt_some, knt_none, Option.toList_some, Option.toList_none, List.cons_append, List.nil_append, eb2, eB]
                        refine s162_161.mpr (s162_163.mpr (s162_165.mpr ?_))
                        refine (s162_167 (by omega)).mpr ?_
                        refine c_join hw hv ?_
                        simp only [kon, knt_some, knt_none, Option.toList_some, Option.toList_none, List.cons_append, List.nil_append, e8]
                        refine s162_170.mpr (s162_172.mpr (s162_174.mpr ?_))
                        refine s162_176.mpr (wif (fun c176 => ?_) (fun c176 => ?_))
                        · first
                          | (exfalso; omega)
                          | skip
                            exfalso; omega
                        · first
                          | (exfalso; omega)
                          | skip
                            exact E
                    · first
                      | (exfalso; omega)
                      | skip
                        refine s162_146.mpr (s162_148.mpr (s162_161.mpr (s162_163.mpr (s162_165.mpr ?_))))
                        refine (s162_167 (by omega)).mpr ?_
                        refine c_join hw hv ?_
                        simp only [kon, knt_some, knt_none, Option.toList_some, Option.toList_none, List.cons_append, List.nil_append, e8]
                        refine s162_170.mpr (s162_172.mpr (s162_174.mpr ?_))
                        refine s162_176.mpr (wif (fun c176 => ?_) (fun c176 => ?_))
                        · first
                          | (exfalso; omega)
                          | skip
                            exfalso; omega
                        · first
                          | (exfalso; omega)
                          | skip
                            exact E
            · first
              | (exfalso; omega)
              | skip
                refine s162_106.mpr (s162_108.mpr ?_)
                refine s162_110.mpr (wif (fun c110 => ?_) (fun c110 => ?_))
                · first
                  | (exfalso; omega)
                  | skip
                    refine s162_244.mpr (s162_247.mpr ?_)
                    try simp (disch := first | decide | assumption | omega) only [kon, knt_some, knt_none, Option.toList_some, Option.toList_none, List.cons_append, List.nil_append, r1, r2, hk, e84, e11, e9, fAdd_id]
                    exfalso; omega
                · first
                  | (exfalso; omega)
                  | skip
                    refine s162_113.mpr (s162_115.mpr ?_)
                    refine s162_117.mpr (wif (fun c117 => ?_) (fun c117 => ?_))
                    · first
                      | (exfalso; omega)
                      | skip
                        refine s162_120.mpr ?_
                        refine (s162_121 (by first | decide | assumption | omega)).mpr ?_
                        refine s162_124.mpr ?_
                        try simp (disch := first | decide | assumption | omega) only [kon, knt_some, knt_none, Option.toList_some, Option.toList_none, List.cons_append, List.nil_append, r1, r2, hk, e84, e11, e9, fAdd_id]
                        refine (s162_126 (by first | decide | assumption | omega) (by first | decide | assumption | omega) (by first | decide | assumption | omega)).mpr ?_
                        refine s162_127.mpr (s162_140.mpr (s162_142.mpr ?_))
                        try simp (disch := first | decide | assumption | omega) only [kon, knt_some, knt_none, Option.toList_some, Option.toList_none, List.cons_append, List.nil_append, r1, r2, hk, e84, e11, e9, fAdd_id]
                        refine s162_143.mpr (wif (fun c143 => ?_) (fun c143 => ?_))
                        · first
                          | (exfalso; omega)
                          | skip
                            refine s162_151.mpr ?_
                            refine (s162_152 (by first | decide | assumption | omega)).mpr ?_
                            refine s162_155.mpr (s162_156.mpr ?_)
                            try simp (disch := first | decide | assumption | omega) only [kon, knt_some, knt_none, Option.toList_some, Option.toList_none, List.cons_append, List.nil_append, r1, r2, hk, e84, e11, e9, fAdd_id]
                            refine (s162_158 (by first | decide | assumption | omega) (by first | decide | assumption | omega)).mpr ?_
                            refine r_typeComing hV q0 (by omega) (by omega) (by omega) ?_
                            simp only [kon, knt_some, knt_none, Option.toList_some, Option.toList_none, List.cons_append, List.nil_append, eb2, eB]
                            refine s162_161.mpr (s162_163.mpr (s162_165.mpr ?_))
                            refine (s162_167 (by omega)).mpr ?_
                            refine c_join hw hv ?_
                            simp only [kon, knt_some, knt_none, Option.toList_some, Option.toList_none, List.cons_append, List.nil_append, e8]
                            refine s162_170.mpr (s162_172.mpr (s162_174.mpr ?_))
                            refine s162_176.mpr (wif (fun c176 => ?_) (fun c176 => ?_))
                            · first
                              | (exfalso; omega)
                              | skip
                                exfalso; omega
                            · first
                              | (exfalso; omega)
                              | skip
                                exact E
                        · first
                          | (exfalso; omega)
                          | skip
                            refine s162_146.mpr (s162_148.mpr (s162_161.mpr (s162_163.mpr (s162_165.mpr ?_))))
                            refine (s162_167 (by omega)).mpr ?_
                            refine c_join hw hv ?_
                            simp only [kon, knt_some, knt_none, Option.toList_some, Option.toList_none, List.cons_append, List.nil_append, e8]
                            refine s162_170.mpr (s162_172.mpr (s162_174.mpr ?_))
                            refine s162_176.mpr (wif (fun c176 => ?_) (fun c176 => ?_))
                            · first
                              | (exfalso; omega)
                              | skip
                                exfalso; omega
                            · first
                              | (exfalso; omega)
                              | skip
                                exact E
                    · first
                      | (exfalso; omega)
                      | skip
                        refine s162_130.mpr ?_
                        refine (s162_131 (by first | decide | assumption | omega)).mpr ?_
                        refine s162_134.mpr (s162_136.mpr (s162_138.mpr ?_))
                        try simp (disch := first | decide | assumption | omega) only [kon, knt_some, knt_none, Option.toList_some, Option.toList_none, List.cons_append, List.nil_append, r1, r2, hk, e84, e11, e9, fAdd_id]
                        refine (s162_139 (by first | decide | assumption | omega) (by first | decide | assumption | omega) (by first | decide | assumption | omega)).mpr ?_
                        refine s162_140.mpr (s162_142.mpr ?_)
                        try simp (disch := first | decide | assumption | omega) only [kon, knt_some, knt_none, Option.toList_some, Option.toList_none, List.cons_append, List.nil_append, r1, r2, hk, e84, e11, e9, fAdd_id]
                        refine s162_143.mpr (wif (fun c143 => ?_) (fun c143 => ?_))
                        · first
                          | (exfalso; omega)
                          | skip
                            refine s162_151.mpr ?_
                            refine (s162_152 (by first | decide | assumption | omega)).mpr ?_
                            refine s162_155.mpr (s162_156.mpr ?_)
                            try simp (disch := first | decide | assumption | omega) only [kon, knt_some, knt_none, Option.toList_some, Option.toList_none, List.cons_append, List.nil_append, r1, r2, hk, e84, e11, e9, fAdd_id]
                            refine (s162_158 (by first | decide | assumption | omega) (by first | decide | assumption | omega)).mpr ?_
                            refine r_typeComing hV q0 (by omega) (by omega) (by omega) ?_
                            simp only [kon, knt_some, knt_none, Option.toList_some, Option.toList_none, List.cons_append, List.nil_append, eb2, eB]
                            refine s162_161.mpr (s162_163.mpr (s162_165.mpr ?_))
                            refine (s162_167 (by omega)).mpr ?_
                            refine c_join hw hv ?_
                            simp only [kon, knt_some, knt_none, Option.toList_some, Option.toList_none, List.cons_append, List.nil_append, e8]
                            refine s162_170.mpr (s162_172.mpr (s162_174.mpr ?_))
                            refine s162_176.mpr (wif (fun c176 => ?_) (fun c176 => ?_))
                            · first
                              | (exfalso; omega)
                              | skip
                                exfalso; omega
                            · first
                              | (exfalso; omega)
                              | skip
                                exact E
                        · first
                          | (exfalso; omega)
                          | skip
                            refine s162_146.mpr (s162_148.mpr (s162_161.mpr (s162_163.mpr (s162_165.mpr ?_))))
                            refine (s162_167 (by omega)).mpr ?_
                            refine c_join hw hv ?_
                            simp only [kon, knt_some, knt_none, Option.toList_some, Option.toList_none, List.cons_append, List.nil_append, e8]
                            refine s162_170.mpr (s162_172.mpr (s162_174.mpr ?_))
                            refine s162_176.mpr (wif (fun c176 => ?_) (fun c176 => ?_))
                            · first
                              | (exfalso; omega)
                              | skip
                                exfalso; omega
                            · first
                              | (exfalso; omega)
                              | skip
                                exact E
        · first
          | (exfalso; omega)
          | skip
            refine s162_250.mpr ?_
            refine s162_251.mpr (wif (fun c251 => ?_) (fun c251 => ?_))
            · first
              | (exfalso; omega)
              | skip
                refine (s162_266).mpr ?_
                exfalso; omega
            · first
              | (exfalso; omega)
              | skip
                refine s162_254.mpr ?_
                refine (s162_255 (by first | decide | assumption | omega)).mpr ?_
                refine s162_258.mpr (s162_259.mpr ?_)
                try simp (disch := first | decide | assumption | omega) only [kon, knt_some, knt_none, Option.toList_some, Option.toList_none, List.cons_append, List.nil_append, r1, r2, hk, e84, e11, e9, fAdd_id]
                refine (s162_260Z (by first | decide | assumption | omega) (by first | decide | assumption | omega) (by first | decide | assumption | omega)).mpr ?_
                refine s162_261.mpr (s162_262.mpr ?_)
                try simp (disch := first | decide | assumption | omega) only [kon, knt_some, knt_none, Option.toList_some, Option.toList_none, List.cons_append, List.nil_append, r1, r2, hk, e84, e11, e9, fAdd_id]
                refine (s162_263 (by first | decide | assumption | omega) (by first | decide | assumption | omega)).mpr ?_
                refine (s162_266).mpr ?_
                exfalso; omega
    · by_cases cc : 16 ≤ (i : Int)
      · have hv0 := hvX.2.2 (i - 16) (by omega) (by omega)
        have hw0 := hvY.2.2 (i - 16) (by omega) (by omega)
        have hv := hv0.r
        have hw := hw0.r
        have e9 : hi 12 ((i : Int) - 16) = cv (X.2.2 (i - 16)) := s6 _ (by omega) (by omega)
        have eo : olV Y i = Y.2.2 (i - 16) := if_neg (by omega)
        have ej : jnV Y X i = bothL (Y.2.2 (i - 16)) (X.2.2 (i - 16)) := if_neg (by omega)
        have eB : hi C (26 * q + i) = cv (Y.2.2 (i - 16)) := by
          have := hY2 (i - 16) (by omega) (by omega)
          rw [show 26 * q + 16 + ((i : Int) - 16) = 26 * q + i by omega] at this; exact this
        have hb := (bothL_v hw0 hv0).r
        by_cases b : both (Y.2.2 (i - 16)) (X.2.2 (i - 16)) = -1
        · have e8 : (if both (Y.2.2 (i - 16)) (X.2.2 (i - 16)) = -1 then -2 else cv (both (Y.2.2 (i - 16)) (X.2.2 (i - 16)))) = -2 := if_pos b
          have e7 : bothL (Y.2.2 (i - 16)) (X.2.2 (i - 16)) = 7 := by unfold bothL; rw [if_pos b]
          have L1 := linC_v hw
          have L2 := linC_v hv
          have nj : linT (Y.2.2 (i - 16)) ∨ linT (X.2.2 (i - 16)) → ¬ jOK Y X := fun y z => by
            have := z.2.2 (i - 16) (by omega) (by omega) b
            rcases y with y | y
            · exact this.1 y
            · exact this.2 y
          have E : ¬ linT (Y.2.2 (i - 16)) → ¬ linT (X.2.2 (i - 16)) → _ := fun y1 y2 => T215 7 (cv (X.2.2 (i - 16))) (Or.inr cc) (by rw [ej, e7]) ⟨fun z => absurd z ca, fun _ _ => ⟨y1, y2⟩⟩ (by rw [eo]; exact eB) (by rw [eo]; exact hw) (by decide)
          rw [eB, cv_7] at E
          refine s162_90.mpr (s162_92.mpr ?_)
          refine s162_94.mpr (wif (fun c94 => ?_) (fun c94 => ?_))
          · first
            | (exfalso; omega)
            | skip
              refine s162_97.mpr (s162_99.mpr ?_)
              refine (s162_100 (by first | decide | assumption | omega)).mpr ?_
              try simp (disch := first | decide | assumption | omega) only [kon, knt_some, knt_none, Option.toList_some, Option.toList_none, List.cons_append, List.nil_append, r1, r2, hk, e84, e12, fSub_id, e9, fAdd_id]
              refine s162_103.mpr (wif (fun c103 => ?_) (fun c103 => ?_))
              · first
                | (exfalso; omega)
                | skip
                  refine s162_113.mpr (s162_115.mpr ?_)
                  refine s162_117.mpr (wif (fun c117 => ?_) (fun c117 => ?_))
                  · first
                    | (exfalso; omega)
                    | skip
                      refine s162_120.mpr ?_
                      refine (s162_121 (by first | decide | assumption | omega)).mpr ?_
                      refine s162_124.mpr ?_
                      try simp (disch := first | decide | assumption | omega) only [kon, knt_some, knt_none, Option.toList_some, Option.toList_none, List.cons_append, List.nil_append, r1, r2, hk, e84, e12, fSub_id, e9, fAdd_id]
                      refine (s162_126 (by first | decide | assumption | omega) (by first | decide | assumption | omega) (by first | decide | assumption | omega)).mpr ?_
                      refine s162_127.mpr (s162_140.mpr (s162_142.mpr ?_))
                      try simp (disch := first | decide | assumption | omega) only [kon, knt_some, knt_none, Option.toList_some, Option.toList_none, List.cons_append, List.nil_append, r1, r2, hk, e84, e12, fSub_id, e9, fAdd_id]
                      refine s162_143.mpr (wif (fun c143 => ?_) (fun c143 => ?_))
                      · first
                        | (exfalso; omega)
                        | skip
                          refine s162_151.mpr ?_
                          refine (s162_152 (by first | decide | assumption | omega)).mpr ?_
                          refine s162_155.mpr (s162_156.mpr ?_)
                          try simp (disch := first | decide | assumption | omega) only [kon, knt_some, knt_none, Option.toList_some, Option.toList_none, List.cons_append, List.nil_append, r1, r2, hk, e84, e12, fSub_id, e9, fAdd_id]
                          refine (s162_158 (by first | decide | assumption | omega) (by first | decide | assumption | omega)).mpr ?_
                          refine r_typeComing hV q0 (by omega) (by omega) (by omega) ?_
                          simp only [kon, knt_some, knt_none, Option.toList_some, Option.toList_none, List.cons_append, List.nil_append, eb2, eB]
                          refine s162_161.mpr (s162_163.mpr (s162_165.mpr ?_))
                          refine (s162_167 (by omega)).mpr ?_
                          refine c_join hw hv ?_
                          simp only [kon, knt_some, knt_none, Option.toList_some, Option.toList_none, List.cons_append, List.nil_append, e8]
                          refine s162_170.mpr (s162_172.mpr (s162_174.mpr ?_))
                          refine s162_176.mpr (wif (fun c176 => ?_) (fun c176 => ?_))
                          · first
                            | (exfalso; omega)
                            | skip
                              refine s162_179.mpr (s162_180.mpr (s162_182.mpr ?_))
                              refine s162_184.mpr (wif (fun c184 => ?_) (fun c184 => ?_))
                              · first
                                | (exfalso; omega)
                                | skip
                                  refine s162_207.mpr ?_
                                  refine (s162_208 (by first | decide | assumption | omega) (by first | decide | assumption | omega)).mpr ?_
                                  first | refine v_want0 h ?_ | refine v_want1 h ?_
                                  refine s162_211.mpr (s162_213.mpr ?_)
                                  first | exact T215F _ _ _ _ (nj (Or.inl (L1.mp (by assumption)))) hs2.w (FW.up FW.rf wV_5) (Or.inr rfl) | exact T215F _ _ _ _ (nj (Or.inr (L2.mp (by assumption)))) hs2.w (FW.up FW.rf wV_5) (Or.inr rfl) | exact E (fun z => absurd (L1.mpr z) (by assumption)) (fun z => absurd (L2.mpr z) (by assumption)) | (exfalso; omega)
                              · first
                                | (exfalso; omega)
                                | skip
                                  refine s162_187.mpr ?_
                                  refine (s162_189 (by omega)).mpr ?_
                                  refine c_isLinear (fun y189 => ?_) (fun y189 => ?_)
                                  · skip
                                    refine s162_192.mpr (wif (fun c192 => ?_) (fun c192 => ?_))
                                    · first
                                      | (exfalso; omega)
                                      | skip
                                        refine s162_195.mpr ?_
                                        refine (s162_197 (by omega)).mpr ?_
                                        refine c_isLinear (fun y197 => ?_) (fun y197 => ?_)
                                        · skip
                                          refine s162_200.mpr (wif (fun c200 => ?_) (fun c200 => ?_))
                                          · first
                                            | (exfalso; omega)
                                            | skip
                                              refine s162_203.mpr (s162_204.mpr ?_)
                                              refine (s162_208 (by first | decide | assumption | omega) (by first | decide | assumption | omega)).mpr ?_
                                              first | refine v_want0 h ?_ | refine v_want1 h ?_
                                              refine s162_211.mpr (s162_213.mpr ?_)
                                              first | exact T215F _ _ _ _ (nj (Or.inl (L1.mp (by assumption)))) hs2.w (FW.up FW.rf wV_5) (Or.inr rfl) | exact T215F _ _ _ _ (nj (Or.inr (L2.mp (by assumption)))) hs2.w (FW.up FW.rf wV_5) (Or.inr rfl) | exact E (fun z => absurd (L1.mpr z) (by assumption)) (fun z => absurd (L2.mpr z) (by assumption)) | (exfalso; omega)
                                          · first
                                            | (exfalso; omega)
                                            | skip
                                              refine s162_207.mpr ?_
                                              refine (s162_208 (by first | decide | assumption | omega) (by first | decide | assumption | omega)).mpr ?_
                                              first | refine v_want0 h ?_ | refine v_want1 h ?_
                                              refine s162_211.mpr (s162_213.mpr ?_)
                                              first | exact T215F _ _ _ _ (nj (Or.inl (L1.mp (by assumption)))) hs2.w (FW.up FW.rf wV_5) (Or.inr rfl) | exact T215F _ _ _ _ (nj (Or.inr (L2.mp (by assumption)))) hs2.w (FW.up FW.rf wV_5) (Or.inr rfl) | exact E (fun z => absurd (L1.mpr z) (by assumption)) (fun z => absurd (L2.mpr z) (by assumption)) | (exfalso; omega)
                                        · skip
                                          refine s162_200.mpr (wif (fun c200 => ?_) (fun c200 => ?_))
                                          · first
                                            | (exfalso; omega)
                                            | skip
                                              refine s162_203.mpr (s162_204.mpr ?_)
                                              refine (s162_208 (by first | decide | assumption | omega) (by first | decide | assumption | omega)).mpr ?_
                                              first | refine v_want0 h ?_ | refine v_want1 h ?_
                                              refine s162_211.mpr (s162_213.mpr ?_)
                                              first | exact T215F _ _ _ _ (nj (Or.inl (L1.mp (by assumption)))) hs2.w (FW.up FW.rf wV_5) (Or.inr rfl) | exact T215F _ _ _ _ (nj (Or.inr (L2.mp (by assumption)))) hs2.w (FW.up FW.rf wV_5) (Or.inr rfl) | exact E (fun z => absurd (L1.mpr z) (by assumption)) (fun z => absurd (L2.mpr z) (by assumption)) | (exfalso; omega)
                                          · first
                                            | (exfalso; omega)
                                            | skip
                                              refine s162_207.mpr ?_
                                              refine (s162_208 (by first | decide | assumption | omega) (by first | decide | assumption | omega)).mpr ?_
                                              first | refine v_want0 h ?_ | refine v_want1 h ?_
                                              refine s162_211.mpr (s162_213.mpr ?_)
                                              first | exact T215F _ _ _ _ (nj (Or.inl (L1.mp (by assumption)))) hs2.w (FW.up FW.rf wV_5) (Or.inr rfl) | exact T215F _ _ _ _ (nj (Or.inr (L2.mp (by assumption)))) hs2.w (FW.up FW.rf wV_5) (Or.inr rfl) | exact E (fun z => absurd (L1.mpr z) (by assumption)) (fun z => absurd (L2.mpr z) (by assumption)) | (exfalso; omega)
                                    · first
                                      | (exfalso; omega)
                                      | skip
                                        refine s162_207.mpr ?_
                                        refine (s162_208 (by first | decide | assumption | omega) (by first | decide | assumption | omega)).mpr ?_
                                        first | refine v_want0 h ?_ | refine v_want1 h ?_
                                        refine s162_211.mpr (s162_213.mpr ?_)
                                        first | exact T215F _ _ _ _ (nj (Or.inl (L1.mp (by assumption)))) hs2.w (FW.up FW.rf wV_5) (Or.inr rfl) | exact T215F _ _ _ _ (nj (Or.inr (L2.mp (by assumption)))) hs2.w (FW.up FW.rf wV_5) (Or.inr rfl) | exact E (fun z => absurd (L1.mpr z) (by assumption)) (fun z => absurd (L2.mpr z) (by assumption)) | (exfalso; omega)
                                  · skip
                                    refine s162_192.mpr (wif (fun c192 => ?_) (fun c192 => ?_))
                                    · first
                                      | (exfalso; omega)
                                      | skip
                                        refine s162_195.mpr ?_
                                        refine (s162_197 (by omega)).mpr ?_
                                        refine c_isLinear (fun y197 => ?_) (fun y197 => ?_)
                                        · skip
                                          refine s162_200.mpr (wif (fun c200 => ?_) (fun c200 => ?_))
                                          · first
                                            | (exfalso; omega)
                                            | skip
                                              refine s162_203.mpr (s162_204.mpr ?_)
                                              refine (s162_208 (by first | decide | assumption | omega) (by first | decide | assumption | omega)).mpr ?_
                                              first | refine v_want0 h ?_ | refine v_want1 h ?_
                                              refine s162_211.mpr (s162_213.mpr ?_)
                                              first | exact T215F _ _ _ _ (nj (Or.inl (L1.mp (by assumption)))) hs2.w (FW.up FW.rf wV_5) (Or.inr rfl) | exact T215F _ _ _ _ (nj (Or.inr (L2.mp (by assumption)))) hs2.w (FW.up FW.rf wV_5) (Or.inr rfl) | exact E (fun z => absurd (L1.mpr z) (by assumption)) (fun z => absurd (L2.mpr z) (by assumption)) | (exfalso; omega)
                                          · first
                                            | (exfalso; omega)
                                            | skip
                                              refine s162_207.mpr ?_
                                              refine (s162_208 (by first | decide | assumption | omega) (by first | decide | assumption | omega)).mpr ?_
                                              first | refine v_want0 h ?_ | refine v_want1 h ?_
                                              refine s162_211.mpr (s162_213.mpr ?_)
                                              first | exact T215F _ _ _ _ (nj (Or.inl (L1.mp (by assumption)))) hs2.w (FW.up FW.rf wV_5) (Or.inr rfl) | exact T215F _ _ _ _ (nj (Or.inr (L2.mp (by assumption)))) hs2.w (FW.up FW.rf wV_5) (Or.inr rfl) | exact E (fun z => absurd (L1.mpr z) (by assumption)) (fun z => absurd (L2.mpr z) (by assumption)) | (exfalso; omega)
                                        · skip
                                          refine s162_200.mpr (wif (fun c200 => ?_) (fun c200 => ?_))
                                          · first
                                            | (exfalso; omega)
                                            | skip
                                              refine s162_203.mpr (s162_204.mpr ?_)
                                              refine (s162_208 (by first | decide | assumption | omega) (by first | decide | assumption | omega)).mpr ?_
                                              first | refine v_want0 h ?_ | refine v_want1 h ?_
                                              refine s162_211.mpr (s162_213.mpr ?_)
                                              first | exact T215F _ _ _ _ (nj (Or.inl (L1.mp (by assumption)))) hs2.w (FW.up FW.rf wV_5) (Or.inr rfl) | exact T215F _ _ _ _ (nj (Or.inr (L2.mp (by assumption)))) hs2.w (FW.up FW.rf wV_5) (Or.inr rfl) | exact E (fun z => absurd (L1.mpr z) (by assumption)) (fun z => absurd (L2.mpr z) (by assumption)) | (exfalso; omega)
                                          · first
                                            | (exfalso; omega)
                                            | skip
                                              refine s162_207.mpr ?_
                                              refine (s162_208 (by first | decide | assumption | omega) (by first | decide | assumption | omega)).mpr ?_
                                              first | refine v_want0 h ?_ | refine v_want1 h ?_
                                              refine s162_211.mpr (s162_213.mpr ?_)
                                              first | exact T215F _ _ _ _ (nj (Or.inl (L1.mp (by assumption)))) hs2.w (FW.up FW.rf wV_5) (Or.inr rfl) | exact T215F _ _ _ _ (nj (Or.inr (L2.mp (by assumption)))) hs2.w (FW.up FW.rf wV_5) (Or.inr rfl) | exact E (fun z => absurd (L1.mpr z) (by assumption)) (fun z => absurd (L2.mpr z) (by assumption)) | (exfalso; omega)
                                    · first
                                      | (exfalso; omega)
                                      | skip
                                        refine s162_207.mpr ?_
                                        refine (s162_208 (by first | decide | assumption | omega) (by first | decide | assumption | omega)).mpr ?_
                                        first | refine v_want0 h ?_ | refine v_want1 h ?_
                                        refine s162_211.mpr (s162_213.mpr ?_)
                                        first | exact T215F _ _ _ _ (nj (Or.inl (L1.mp (by assumption)))) hs2.w (FW.up FW.rf wV_5) (Or.inr rfl) | exact T215F _ _ _ _ (nj (Or.inr (L2.mp (by assumption)))) hs2.w (FW.up FW.rf wV_5) (Or.inr rfl) | exact E (fun z => absurd (L1.mpr z) (by assumption)) (fun z => absurd (L2.mpr z) (by assumption)) | (exfalso; omega)
                          · first
                            | (exfalso; omega)
                            | skip
                              first | exact T215F _ _ _ _ (nj (Or.inl (L1.mp (by assumption)))) hs2.w (FW.up FW.rf wV_5) (Or.inr rfl) | exact T215F _ _ _ _ (nj (Or.inr (L2.mp (by assumption)))) hs2.w (FW.up FW.rf wV_5) (Or.inr rfl) | exact E (fun z => absurd (L1.mpr z) (by assumption)) (fun z => absurd (L2.mpr z) (by assumption)) | (exfalso; omega)
                      · first
                        | (exfalso; omega)
                        | skip
                          refine s162_146.mpr (s162_148.mpr (s162_161.mpr (s162_163.mpr (s162_165.mpr ?_))))
                          refine (s162_167 (by omega)).mpr ?_
                          refine c_join hw hv ?_
                          simp only [kon, knt_some, knt_none, Option.toList_some, Option.toList_none, List.cons_append, List.nil_append, e8]
                          refine s162_170.mpr (s162_172.mpr (s162_174.mpr ?_))
                          refine s162_176.mpr (wif (fun c176 => ?_) (fun c176 => ?_))
                          · first
                            | (exfalso; omega)
                            | skip
                              refine s162_179.mpr (s162_180.mpr (s162_182.mpr ?_))
                              refine s162_184.mpr (wif (fun c184 => ?_) (fun c184 => ?_))
                              · first
                                | (exfalso; omega)
                                | skip
                                  refine s162_207.mpr ?_
                                  refine (s162_208 (by first | decide | assumption | omega) (by first | decide | assumption | omega)).mpr ?_
                                  first | refine v_want0 h ?_ | refine v_want1 h ?_
                                  refine s162_211.mpr (s162_213.mpr ?_)
                                  first | exact T215F _ _ _ _ (nj (Or.inl (L1.mp (by assumption)))) hs2.w (FW.up FW.rf wV_5) (Or.inr rfl) | exact T215F _ _ _ _ (nj (Or.inr (L2.mp (by assumption)))) hs2.w (FW.up FW.rf wV_5) (Or.inr rfl) | exact E (fun z => absurd (L1.mpr z) (by assumption)) (fun z => absurd (L2.mpr z) (by assumption)) | (exfalso; omega)
                              · first
                                | (exfalso; omega)
                                | skip
                                  refine s162_187.mpr ?_
                                  refine (s162_189 (by omega)).mpr ?_
                                  refine c_isLinear (fun y189 => ?_) (fun y189 => ?_)
                                  · skip
                                    refine s162_192.mpr (wif (fun c192 => ?_) (fun c192 => ?_))
                                    · first
                                      | (exfalso; omega)
                                      | skip
                                        refine s162_195.mpr ?_
                                        refine (s162_197 (by omega)).mpr ?_
                                        refine c_isLinear (fun y197 => ?_) (fun y197 => ?_)
                                        · skip
                                          refine s162_200.mpr (wif (fun c200 => ?_) (fun c200 => ?_))
                                          · first
                                            | (exfalso; omega)
                                            | skip
                                              refine s162_203.mpr (s162_204.mpr ?_)
                                              refine (s162_208 (by first | decide | assumption | omega) (by first | decide | assumption | omega)).mpr ?_
                                              first | refine v_want0 h ?_ | refine v_want1 h ?_
                                              refine s162_211.mpr (s162_213.mpr ?_)
                                              first | exact T215F _ _ _ _ (nj (Or.inl (L1.mp (by assumption)))) hs2.w (FW.up FW.rf wV_5) (Or.inr rfl) | exact T215F _ _ _ _ (nj (Or.inr (L2.mp (by assumption)))) hs2.w (FW.up FW.rf wV_5) (Or.inr rfl) | exact E (fun z => absurd (L1.mpr z) (by assumption)) (fun z => absurd (L2.mpr z) (by assumption)) | (exfalso; omega)
                                          · first
                                            | (exfalso; omega)
                                            | skip
                                              refine s162_207.mpr ?_
                                              refine (s162_208 (by first | decide | assumption | omega) (by first | decide | assumption | omega)).mpr ?_
                                              first | refine v_want0 h ?_ | refine v_want1 h ?_
                                              refine s162_211.mpr (s162_213.mpr ?_)
                                              first | exact T215F _ _ _ _ (nj (Or.inl (L1.mp (by assumption)))) hs2.w (FW.up FW.rf wV_5) (Or.inr rfl) | exact T215F _ _ _ _ (nj (Or.inr (L2.mp (by assumption)))) hs2.w (FW.up FW.rf wV_5) (Or.inr rfl) | exact E (fun z => absurd (L1.mpr z) (by assumption)) (fun z => absurd (L2.mpr z) (by assumption)) | (exfalso; omega)
                                        · skip
                                          refine s162_200.mpr (wif (fun c200 => ?_) (fun c200 => ?_))
                                          · first
                                            | (exfalso; omega)
                                            | skip
                                              refine s162_203.mpr (s162_204.mpr ?_)
                                              refine (s162_208 (by first | decide | assumption | omega) (by first | decide | assumption | omega)).mpr ?_
                                              first | refine v_want0 h ?_ | refine v_want1 h ?_
                                              refine s162_211.mpr (s162_213.mpr ?_)
                                              first | exact T215F _ _ _ _ (nj (Or.inl (L1.mp (by assumption)))) hs2.w (FW.up FW.rf wV_5) (Or.inr rfl) | exact T215F _ _ _ _ (nj (Or.inr (L2.mp (by assumption)))) hs2.w (FW.up FW.rf wV_5) (Or.inr rfl) | exact E (fun z => absurd (L1.mpr z) (by assumption)) (fun z => absurd (L2.mpr z) (by assumption)) | (exfalso; omega)
                                          · first
                                            | (exfalso; omega)
                                            | skip
                                              refine s162_207.mpr ?_
                                              refine (s162_208 (by first | decide | assumption | omega) (by first | decide | assumption | omega)).mpr ?_
                                              first | refine v_want0 h ?_ | refine v_want1 h ?_
                                              refine s162_211.mpr (s162_213.mpr ?_)
                                              first | exact T215F _ _ _ _ (nj (Or.inl (L1.mp (by assumption)))) hs2.w (FW.up FW.rf wV_5) (Or.inr rfl) | exact T215F _ _ _ _ (nj (Or.inr (L2.mp (by assumption)))) hs2.w (FW.up FW.rf wV_5) (Or.inr rfl) | exact E (fun z => absurd (L1.mpr z) (by assumption)) (fun z => absurd (L2.mpr z) (by assumption)) | (exfalso; omega)
                                    · first
                                      | (exfalso; omega)
                                      | skip
                                        refine s162_207.mpr ?_
                                        refine (s162_208 (by first | decide | assumption | omega) (by first | decide | assumption | omega)).mpr ?_
                                        first | refine v_want0 h ?_ | refine v_want1 h ?_
                                        refine s162_211.mpr (s162_213.mpr ?_)
                                        first | exact T215F _ _ _ _ (nj (Or.inl (L1.mp (by assumption)))) hs2.w (FW.up FW.rf wV_5) (Or.inr rfl) | exact T215F _ _ _ _ (nj (Or.inr (L2.mp (by assumption)))) hs2.w (FW.up FW.rf wV_5) (Or.inr rfl) | exact E (fun z => absurd (L1.mpr z) (by assumption)) (fun z => absurd (L2.mpr z) (by assumption)) | (exfalso; omega)
                                  · skip
                                    refine s162_192.mpr (wif (fun c192 => ?_) (fun c192 => ?_))
                                    · first
                                      | (exfalso; omega)
                                      | skip
                                        refine s162_195.mpr ?_
                                        refine (s162_197 (by omega)).mpr ?_
                                        refine c_isLinear (fun y197 => ?_) (fun y197 => ?_)
                                        · skip
                                          refine s162_200.mpr (wif (fun c200 => ?_) (fun c200 => ?_))
                                          · first
                                            | (exfalso; omega)
                                            | skip
                                              refine s162_203.mpr (s162_204.mpr ?_)
                                              refine (s162_208 (by first | decide | assumption | omega) (by first | decide | assumption | omega)).mpr ?_
                                              first | refine v_want0 h ?_ | refine v_want1 h ?_
                                              refine s162_211.mpr (s162_213.mpr ?_)
                                              first | exact T215F _ _ _ _ (nj (Or.inl (L1.mp (by assumption)))) hs2.w (FW.up FW.rf wV_5) (Or.inr rfl) | exact T215F _ _ _ _ (nj (Or.inr (L2.mp (by assumption)))) hs2.w (FW.up FW.rf wV_5) (Or.inr rfl) | exact E (fun z => absurd (L1.mpr z) (by assumption)) (fun z => absurd (L2.mpr z) (by assumption)) | (exfalso; omega)
                                          · first
                                            | (exfalso; omega)
                                            | skip
                                              refine s162_207.mpr ?_
                                              refine (s162_208 (by first | decide | assumption | omega) (by first | decide | assumption | omega)).mpr ?_
                                              first | refine v_want0 h ?_ | refine v_want1 h ?_
                                              refine s162_211.mpr (s162_213.mpr ?_)
                                              first | exact T215F _ _ _ _ (nj (Or.inl (L1.mp (by assumption)))) hs2.w (FW.up FW.rf wV_5) (Or.inr rfl) | exact T215F _ _ _ _ (nj (Or.inr (L2.mp (by assumption)))) hs2.w (FW.up FW.rf wV_5) (Or.inr rfl) | exact E (fun z => absurd (L1.mpr z) (by assumption)) (fun z => absurd (L2.mpr z) (by assumption)) | (exfalso; omega)
                                        · skip
                                          refine s162_200.mpr (wif (fun c200 => ?_) (fun c200 => ?_))
                                          · first
                                            | (exfalso; omega)
                                            | skip
                                              refine s162_203.mpr (s162_204.mpr ?_)
                                              refine (s162_208 (by first | decide | assumption | omega) (by first | decide | assumption | omega)).mpr ?_
                                              first | refine v_want0 h ?_ | refine v_want1 h ?_
                                              refine s162_211.mpr (s162_213.mpr ?_)
                                              first | exact T215F _ _ _ _ (nj (Or.inl (L1.mp (by assumption)))) hs2.w (FW.up FW.rf wV_5) (Or.inr rfl) | exact T215F _ _ _ _ (nj (Or.inr (L2.mp (by assumption)))) hs2.w (FW.up FW.rf wV_5) (Or.inr rfl) | exact E (fun z => absurd (L1.mpr z) (by assumption)) (fun z => absurd (L2.mpr z) (by assumption)) | (exfalso; omega)
                                          · first
                                            | (exfalso; omega)
                                            | skip
                                              refine s162_207.mpr ?_
                                              refine (s162_208 (by first | decide | assumption | omega) (by first | decide | assumption | omega)).mpr ?_
                                              first | refine v_want0 h ?_ | refine v_want1 h ?_
                                              refine s162_211.mpr (s162_213.mpr ?_)
                                              first | exact T215F _ _ _ _ (nj (Or.inl (L1.mp (by assumption)))) hs2.w (FW.up FW.rf wV_5) (Or.inr rfl) | exact T215F _ _ _ _ (nj (Or.inr (L2.mp (by assumption)))) hs2.w (FW.up FW.rf wV_5) (Or.inr rfl) | exact E (fun z => absurd (L1.mpr z) (by assumption)) (fun z => absurd (L2.mpr z) (by assumption)) | (exfalso; omega)
                                    · first
                                      | (exfalso; omega)
                                      | skip
                                        refine s162_207.mpr ?_
                                        refine (s162_208 (by first | decide | assumption | omega) (by first | decide | assumption | omega)).mpr ?_
                                        first | refine v_want0 h ?_ | refine v_want1 h ?_
                                        refine s162_211.mpr (s162_213.mpr ?_)
                                        first | exact T215F _ _ _ _ (nj (Or.inl (L1.mp (by assumption)))) hs2.w (FW.up FW.rf wV_5) (Or.inr rfl) | exact T215F _ _ _ _ (nj (Or.inr (L2.mp (by assumption)))) hs2.w (FW.up FW.rf wV_5) (Or.inr rfl) | exact E (fun z => absurd (L1.mpr z) (by assumption)) (fun z => absurd (L2.mpr z) (by assumption)) | (exfalso; omega)
                          · first
                            | (exfalso; omega)
                            | skip
                              first | exact T215F _ _ _ _ (nj (Or.inl (L1.mp (by assumption)))) hs2.w (FW.up FW.rf wV_5) (Or.inr rfl) | exact T215F _ _ _ _ (nj (Or.inr (L2.mp (by assumption)))) hs2.w (FW.up FW.rf wV_5) (Or.inr rfl) | exact E (fun z => absurd (L1.mpr z) (by assumption)) (fun z => absurd (L2.mpr z) (by assumption)) | (exfalso; omega)
                  · first
                    | (exfalso; omega)
                    | skip
                      refine s162_130.mpr ?_
                      refine (s162_131 (by first | decide | assumption | omega)).mpr ?_
                      refine s162_134.mpr (s162_136.mpr (s162_138.mpr ?_))
                      try simp (disch := first | decide | assumption | omega) only [kon, knt_some, knt_none, Option.toList_some, Option.toList_none, List.cons_append, List.nil_append, r1, r2, hk, e84, e12, fSub_id, e9, fAdd_id]
                      refine (s162_139 (by first | decide | assumption | omega) (by first | decide | assumption | omega) (by first | decide | assumption | omega)).mpr ?_
                      refine s162_140.mpr (s162_142.mpr ?_)
                      try simp (disch := first | decide | assumption | omega) only [kon, knt_some, knt_none, Option.toList_some, Option.toList_none, List.cons_append, List.nil_append, r1, r2, hk, e84, e12, fSub_id, e9, fAdd_id]
                      refine s162_143.mpr (wif (fun c143 => ?_) (fun c143 => ?_))
                      · first
                        | (exfalso; omega)
                        | skip
                          refine s162_151.mpr ?_
                          refine (s162_152 (by first | decide | assumption | omega)).mpr ?_
                          refine s162_155.mpr (s162_156.mpr ?_)
                          try simp (disch := first | decide | assumption | omega) only [kon, knt_some, knt_none, Option.toList_some, Option.toList_none, List.cons_append, List.nil_append, r1, r2, hk, e84, e12, fSub_id, e9, fAdd_id]
                          refine (s162_158 (by first | decide | assumption | omega) (by first | decide | assumption | omega)).mpr ?_
                          refine r_typeComing hV q0 (by omega) (by omega) (by omega) ?_
                          simp only [kon, knt_some, knt_none, Option.toList_some, Option.toList_none, List.cons_append, List.nil_append, eb2, eB]
                          refine s162_161.mpr (s162_163.mpr (s162_165.mpr ?_))
                          refine (s162_167 (by omega)).mpr ?_
                          refine c_join hw hv ?_
                          simp only [kon, knt_some, knt_none, Option.toList_some, Option.toList_none, List.cons_append, List.nil_append, e8]
                          refine s162_170.mpr (s162_172.mpr (s162_174.mpr ?_))
                          refine s162_176.mpr (wif (fun c176 => ?_) (fun c176 => ?_))
                          · first
                            | (exfalso; omega)
                            | skip
                              refine s162_179.mpr (s162_180.mpr (s162_182.mpr ?_))
                              refine s162_184.mpr (wif (fun c184 => ?_) (fun c184 => ?_))
                              · first
                                | (exfalso; omega)
                                | skip
                                  refine s162_207.mpr ?_
                                  refine (s162_208 (by first | decide | assumption | omega) (by first | decide | assumption | omega)).mpr ?_
                                  first | refine v_want0 h ?_ | refine v_want1 h ?_
                                  refine s162_211.mpr (s162_213.mpr ?_)
                                  first | exact T215F _ _ _ _ (nj (Or.inl (L1.mp (by assumption)))) hs2.w (FW.up FW.rf wV_5) (Or.inr rfl) | exact T215F _ _ _ _ (nj (Or.inr (L2.mp (by assumption)))) hs2.w (FW.up FW.rf wV_5) (Or.inr rfl) | exact E (fun z => absurd (L1.mpr z) (by assumption)) (fun z => absurd (L2.mpr z) (by assumption)) | (exfalso; omega)
                              · first
                                | (exfalso; omega)
                                | skip
                                  refine s162_187.mpr ?_
                                  refine (s162_189 (by omega)).mpr ?_
                                  refine c_isLinear (fun y189 => ?_) (fun y189 => ?_)
                                  · skip
                                    refine s162_192.mpr (wif (fun c192 => ?_) (fun c192 => ?_))
                                    · first
                                      | (exfalso; omega)
                                      | skip
                                        refine s162_195.mpr ?_
                                        refine (s162_197 (by omega)).mpr ?_
                                        refine c_isLinear (fun y197 => ?_) (fun y197 => ?_)
                                        · skip
                                          refine s162_200.mpr (wif (fun c200 => ?_) (fun c200 => ?_))
                                          · first
                                            | (exfalso; omega)
                                            | skip
                                              refine s162_203.mpr (s162_204.mpr ?_)
                                              refine (s162_208 (by first | decide | assumption | omega) (by first | decide | assumption | omega)).mpr ?_
                                              first | refine v_want0 h ?_ | refine v_want1 h ?_
                                              refine s162_211.mpr (s162_213.mpr ?_)
                                              first | exact T215F _ _ _ _ (nj (Or.inl (L1.mp (by assumption)))) hs2.w (FW.up FW.rf wV_5) (Or.inr rfl) | exact T215F _ _ _ _ (nj (Or.inr (L2.mp (by assumption)))) hs2.w (FW.up FW.rf wV_5) (Or.inr rfl) | exact E (fun z => absurd (L1.mpr z) (by assumption)) (fun z => absurd (L2.mpr z) (by assumption)) | (exfalso; omega)
                                          · first
                                            | (exfalso; omega)
                                            | skip
                                              refine s162_207.mpr ?_
                                              refine (s162_208 (by first | decide | assumption | omega) (by first | decide | assumption | omega)).mpr ?_
                                              first | refine v_want0 h ?_ | refine v_want1 h ?_
                                              refine s162_211.mpr (s162_213.mpr ?_)
                                              first | exact T215F _ _ _ _ (nj (Or.inl (L1.mp (by assumption)))) hs2.w (FW.up FW.rf wV_5) (Or.inr rfl) | exact T215F _ _ _ _ (nj (Or.inr (L2.mp (by assumption)))) hs2.w (FW.up FW.rf wV_5) (Or.inr rfl) | exact E (fun z => absurd (L1.mpr z) (by assumption)) (fun z => absurd (L2.mpr z) (by assumption)) | (exfalso; omega)
                                        · skip
                                          refine s162_200.mpr (wif (fun c200 => ?_) (fun c200 => ?_))
                                          · first
                                            | (exfalso; omega)
                                            | skip
                                              refine s162_203.mpr (s162_204.mpr ?_)
                                              refine (s162_208 (by first | decide | assumption | omega) (by first | decide | assumption | omega)).mpr ?_
                                              first | refine v_want0 h ?_ | refine v_want1 h ?_
                                              refine s162_211.mpr (s162_213.mpr ?_)
                                              first | exact T215F _ _ _ _ (nj (Or.inl (L1.mp (by assumption)))) hs2.w (FW.up FW.rf wV_5) (Or.inr rfl) | exact T215F _ _ _ _ (nj (Or.inr (L2.mp (by assumption)))) hs2.w (FW.up FW.rf wV_5) (Or.inr rfl) | exact E (fun z => absurd (L1.mpr z) (by assumption)) (fun z => absurd (L2.mpr z) (by assumption)) | (exfalso; omega)
                                          · first
                                            | (exfalso; omega)
                                            | skip
                                              refine s162_207.mpr ?_
                                              refine (s162_208 (by first | decide | assumption | omega) (by first | decide | assumption | omega)).mpr ?_
                                              first | refine v_want0 h ?_ | refine v_want1 h ?_
                                              refine s162_211.mpr (s162_213.mpr ?_)
                                              first | exact T215F _ _ _ _ (nj (Or.inl (L1.mp (by assumption)))) hs2.w (FW.up FW.rf wV_5) (Or.inr rfl) | exact T215F _ _ _ _ (nj (Or.inr (L2.mp (by assumption)))) hs2.w (FW.up FW.rf wV_5) (Or.inr rfl) | exact E (fun z => absurd (L1.mpr z) (by assumption)) (fun z => absurd (L2.mpr z) (by assumption)) | (exfalso; omega)
                                    · first
                                      | (exfalso; omega)
                                      | skip
                                        refine s162_207.mpr ?_
                                        refine (s162_208 (by first | decide | assumption | omega) (by first | decide | assumption | omega)).mpr ?_
                                        first | refine v_want0 h ?_ | refine v_want1 h ?_
                                        refine s162_211.mpr (s162_213.mpr ?_)
                                        first | exact T215F _ _ _ _ (nj (Or.inl (L1.mp (by assumption)))) hs2.w (FW.up FW.rf wV_5) (Or.inr rfl) | exact T215F _ _ _ _ (nj (Or.inr (L2.mp (by assumption)))) hs2.w (FW.up FW.rf wV_5) (Or.inr rfl) | exact E (fun z => absurd (L1.mpr z) (by assumption)) (fun z => absurd (L2.mpr z) (by assumption)) | (exfalso; omega)
                                  · skip
                                    refine s162_192.mpr (wif (fun c192 => ?_) (fun c192 => ?_))
                                    · first
                                      | (exfalso; omega)
                                      | skip
                                        refine s162_195.mpr ?_
                                        refine (s162_197 (by omega)).mpr ?_
                                        refine c_isLinear (fun y197 => ?_) (fun y197 => ?_)
                                        · skip
                                          refine s162_200.mpr (wif (fun c200 => ?_) (fun c200 => ?_))
                                          · first
                                            | (exfalso; omega)
                                            | skip
                                              refine s162_203.mpr (s162_204.mpr ?_)
                                              refine (s162_208 (by first | decide | assumption | omega) (by first | decide | assumption | omega)).mpr ?_
                                              first | refine v_want0 h ?_ | refine v_want1 h ?_
                                              refine s162_211.mpr (s162_213.mpr ?_)
                                              first | exact T215F _ _ _ _ (nj (Or.inl (L1.mp (by assumption)))) hs2.w (FW.up FW.rf wV_5) (Or.inr rfl) | exact T215F _ _ _ _ (nj (Or.inr (L2.mp (by assumption)))) hs2.w (FW.up FW.rf wV_5) (Or.inr rfl) | exact E (fun z => absurd (L1.mpr z) (by assumption)) (fun z => absurd (L2.mpr z) (by assumption)) | (exfalso; omega)
                                          · first
                                            | (exfalso; omega)
                                            | skip
                                              refine s162_207.mpr ?_
                                              refine (s162_208 (by first | decide | assumption | omega) (by first | decide | assumption | omega)).mpr ?_
                                              first | refine v_want0 h ?_ | refine v_want1 h ?_
                                              refine s162_211.mpr (s162_213.mpr ?_)
                                              first | exact T215F _ _ _ _ (nj (Or.inl (L1.mp (by assumption)))) hs2.w (FW.up FW.rf wV_5) (Or.inr rfl) | exact T215F _ _ _ _ (nj (Or.inr (L2.mp (by assumption)))) hs2.w (FW.up FW.rf wV_5) (Or.inr rfl) | exact E (fun z => absurd (L1.mpr z) (by assumption)) (fun z => absurd (L2.mpr z) (by assumption)) | (exfalso; omega)
                                        · skip
                                          refine s162_200.mpr (wif (fun c200 => ?_) (fun c200 => ?_))
                                          · first
                                            | (exfalso; omega)
                                            | skip
                                              refine s162_203.mpr (s162_204.mpr ?_)
                                              refine (s162_208 (by first | decide | assumption | omega) (by first | decide | assumption | omega)).mpr ?_
                                              first | refine v_want0 h ?_ | refine v_want1 h ?_
                                              refine s162_211.mpr (s162_213.mpr ?_)
                                              first | exact T215F _ _ _ _ (nj (Or.inl (L1.mp (by assumption)))) hs2.w (FW.up FW.rf wV_5) (Or.inr rfl) | exact T215F _ _ _ _ (nj (Or.inr (L2.mp (by assumption)))) hs2.w (FW.up FW.rf wV_5) (Or.inr rfl) | exact E (fun z => absurd (L1.mpr z) (by assumption)) (fun z => absurd (L2.mpr z) (by assumption)) | (exfalso; omega)
                                          · first
                                            | (exfalso; omega)
                                            | skip
                                              refine s162_207.mpr ?_
                                              refine (s162_208 (by first | decide | assumption | omega) (by first | decide | assumption | omega)).mpr ?_
                                              first | refine v_want0 h ?_ | refine v_want1 h ?_
                                              refine s162_211.mpr (s162_213.mpr ?_)
                                              first | exact T215F _ _ _ _ (nj (Or.inl (L1.mp (by assumption)))) hs2.w (FW.up FW.rf wV_5) (Or.inr rfl) | exact T215F _ _ _ _ (nj (Or.inr (L2.mp (by assumption)))) hs2.w (FW.up FW.rf wV_5) (Or.inr rfl) | exact E (fun z => absurd (L1.mpr z) (by assumption)) (fun z => absurd (L2.mpr z) (by assumption)) | (exfalso; omega)
                                    · first
                                      | (exfalso; omega)
                                      | skip
                                        refine s162_207.mpr ?_
                                        refine (s162_208 (by first | decide | assumption | omega) (by first | decide | assumption | omega)).mpr ?_
                                        first | refine v_want0 h ?_ | refine v_want1 h ?_
                                        refine s162_211.mpr (s162_213.mpr ?_)
                                        first | exact T215F _ _ _ _ (nj (Or.inl (L1.mp (by assumption)))) hs2.w (FW.up FW.rf wV_5) (Or.inr rfl) | exact T215F _ _ _ _ (nj (Or.inr (L2.mp (by assumption)))) hs2.w (FW.up FW.rf wV_5) (Or.inr rfl) | exact E (fun z => absurd (L1.mpr z) (by assumption)) (fun z => absurd (L2.mpr z) (by assumption)) | (exfalso; omega)
                          · first
                            | (exfalso; omega)
                            | skip
                              first | exact T215F _ _ _ _ (nj (Or.inl (L1.mp (by assumption)))) hs2.w (FW.up FW.rf wV_5) (Or.inr rfl) | exact T215F _ _ _ _ (nj (Or.inr (L2.mp (by assumption)))) hs2.w (FW.up FW.rf wV_5) (Or.inr rfl) | exact E (fun z => absurd (L1.mpr z) (by assumption)) (fun z => absurd (L2.mpr z) (by assumption)) | (exfalso; omega)
                      · first
                        | (exfalso; omega)
                        | skip
                          refine s162_146.mpr (s162_148.mpr (s162_161.mpr (s162_163.mpr (s162_165.mpr ?_))))
                          refine (s162_167 (by omega)).mpr ?_
                          refine c_join hw hv ?_
                          simp only [kon, knt_some, knt_none, Option.toList_some, Option.toList_none, List.cons_append, List.nil_append, e8]
                          refine s162_170.mpr (s162_172.mpr (s162_174.mpr ?_))
                          refine s162_176.mpr (wif (fun c176 => ?_) (fun c176 => ?_))
                          · first
                            | (exfalso; omega)
                            | skip
                              refine s162_179.mpr (s162_180.mpr (s162_182.mpr ?_))
                              refine s162_184.mpr (wif (fun c184 => ?_) (fun c184 => ?_))
                              · first
                                | (exfalso; omega)
                                | skip
                                  refine s162_207.mpr ?_
                                  refine (s162_208 (by first | decide | assumption | omega) (by first | decide | assumption | omega)).mpr ?_
                                  first | refine v_want0 h ?_ | refine v_want1 h ?_
                                  refine s162_211.mpr (s162_213.mpr ?_)
                                  first | exact T215F _ _ _ _ (nj (Or.inl (L1.mp (by assumption)))) hs2.w (FW.up FW.rf wV_5) (Or.inr rfl) | exact T215F _ _ _ _ (nj (Or.inr (L2.mp (by assumption)))) hs2.w (FW.up FW.rf wV_5) (Or.inr rfl) | exact E (fun z => absurd (L1.mpr z) (by assumption)) (fun z => absurd (L2.mpr z) (by assumption)) | (exfalso; omega)
                              · first
                                | (exfalso; omega)
                                | skip
                                  refine s162_187.mpr ?_
                                  refine (s162_189 (by omega)).mpr ?_
                                  refine c_isLinear (fun y189 => ?_) (fun y189 => ?_)
                                  · skip
                                    refine s162_192.mpr (wif (fun c192 => ?_) (fun c192 => ?_))
                                    · first
                                      | (exfalso; omega)
                                      | skip
                                        refine s162_195.mpr ?_
                                        refine (s162_197 (by omega)).mpr ?_
                                        refine c_isLinear (fun y197 => ?_) (fun y197 => ?_)
                                        · skip
                                          refine s162_200.mpr (wif (fun c200 => ?_) (fun c200 => ?_))
                                          · first
                                            | (exfalso; omega)
                                            | skip
                                              refine s162_203.mpr (s162_204.mpr ?_)
                                              refine (s162_208 (by first | decide | assumption | omega) (by first | decide | assumption | omega)).mpr ?_
                                              first | refine v_want0 h ?_ | refine v_want1 h ?_
                                              refine s162_211.mpr (s162_213.mpr ?_)
                                              first | exact T215F _ _ _ _ (nj (Or.inl (L1.mp (by assumption)))) hs2.w (FW.up FW.rf wV_5) (Or.inr rfl) | exact T215F _ _ _ _ (nj (Or.inr (L2.mp (by assumption)))) hs2.w (FW.up FW.rf wV_5) (Or.inr rfl) | exact E (fun z => absurd (L1.mpr z) (by assumption)) (fun z => absurd (L2.mpr z) (by assumption)) | (exfalso; omega)
                                          · first
                                            | (exfalso; omega)
                                            | skip
                                              refine s162_207.mpr ?_
                                              refine (s162_208 (by first | decide | assumption | omega) (by first | decide | assumption | omega)).mpr ?_
                                              first | refine v_want0 h ?_ | refine v_want1 h ?_
                                              refine s162_211.mpr (s162_213.mpr ?_)
                                              first | exact T215F _ _ _ _ (nj (Or.inl (L1.mp (by assumption)))) hs2.w (FW.up FW.rf wV_5) (Or.inr rfl) | exact T215F _ _ _ _ (nj (Or.inr (L2.mp (by assumption)))) hs2.w (FW.up FW.rf wV_5) (Or.inr rfl) | exact E (fun z => absurd (L1.mpr z) (by assumption)) (fun z => absurd (L2.mpr z) (by assumption)) | (exfalso; omega)
                                        · skip
                                          refine s162_200.mpr (wif (fun c200 => ?_) (fun c200 => ?_))
                                          · first
                                            | (exfalso; omega)
                                            | skip
                                              refine s162_203.mpr (s162_204.mpr ?_)
                                              refine (s162_208 (by first | decide | assumption | omega) (by first | decide | assumption | omega)).mpr ?_
                                              first | refine v_want0 h ?_ | refine v_want1 h ?_
                                              refine s162_211.mpr (s162_213.mpr ?_)
                                              first | exact T215F _ _ _ _ (nj (Or.inl (L1.mp (by assumption)))) hs2.w (FW.up FW.rf wV_5) (Or.inr rfl) | exact T215F _ _ _ _ (nj (Or.inr (L2.mp (by assumption)))) hs2.w (FW.up FW.rf wV_5) (Or.inr rfl) | exact E (fun z => absurd (L1.mpr z) (by assumption)) (fun z => absurd (L2.mpr z) (by assumption)) | (exfalso; omega)
                                          · first
                                            | (exfalso; omega)
                                            | skip
                                              refine s162_207.mpr ?_
                                              refine (s162_208 (by first | decide | assumption | omega) (by first | decide | assumption | omega)).mpr ?_
                                              first | refine v_want0 h ?_ | refine v_want1 h ?_
                                              refine s162_211.mpr (s162_213.mpr ?_)
                                              first | exact T215F _ _ _ _ (nj (Or.inl (L1.mp (by assumption)))) hs2.w (FW.up FW.rf wV_5) (Or.inr rfl) | exact T215F _ _ _ _ (nj (Or.inr (L2.mp (by assumption)))) hs2.w (FW.up FW.rf wV_5) (Or.inr rfl) | exact E (fun z => absurd (L1.mpr z) (by assumption)) (fun z => absurd (L2.mpr z) (by assumption)) | (exfalso; omega)
                                    · first
                                      | (exfalso; omega)
                                      | skip
                                        refine s162_207.mpr ?_
                                        refine (s162_208 (by first | decide | assumption | omega) (by first | decide | assumption | omega)).mpr ?_
                                        first | refine v_want0 h ?_ | refine v_want1 h ?_
                                        refine s162_211.mpr (s162_213.mpr ?_)
                                        first | exact T215F _ _ _ _ (nj (Or.inl (L1.mp (by assumption)))) hs2.w (FW.up FW.rf wV_5) (Or.inr rfl) | exact T215F _ _ _ _ (nj (Or.inr (L2.mp (by assumption)))) hs2.w (FW.up FW.rf wV_5) (Or.inr rfl) | exact E (fun z => absurd (L1.mpr z) (by assumption)) (fun z => absurd (L2.mpr z) (by assumption)) | (exfalso; omega)
                                  · skip
                                    refine s162_192.mpr (wif (fun c192 => ?_) (fun c192 => ?_))
                                    · first
                                      | (exfalso; omega)
                                      | skip
                                        refine s162_195.mpr ?_
                                        refine (s162_197 (by omega)).mpr ?_
                                        refine c_isLinear (fun y197 => ?_) (fun y197 => ?_)
                                        · skip
                                          refine s162_200.mpr (wif (fun c200 => ?_) (fun c200 => ?_))
                                          · first
                                            | (exfalso; omega)
                                            | skip
                                              refine s162_203.mpr (s162_204.mpr ?_)
                                              refine (s162_208 (by first | decide | assumption | omega) (by first | decide | assumption | omega)).mpr ?_
                                              first | refine v_want0 h ?_ | refine v_want1 h ?_
                                              refine s162_211.mpr (s162_213.mpr ?_)
                                              first | exact T215F _ _ _ _ (nj (Or.inl (L1.mp (by assumption)))) hs2.w (FW.up FW.rf wV_5) (Or.inr rfl) | exact T215F _ _ _ _ (nj (Or.inr (L2.mp (by assumption)))) hs2.w (FW.up FW.rf wV_5) (Or.inr rfl) | exact E (fun z => absurd (L1.mpr z) (by assumption)) (fun z => absurd (L2.mpr z) (by assumption)) | (exfalso; omega)
                                          · first
                                            | (exfalso; omega)
                                            | skip
                                              refine s162_207.mpr ?_
                                              refine (s162_208 (by first | decide | assumption | omega) (by first | decide | assumption | omega)).mpr ?_
                                              first | refine v_want0 h ?_ | refine v_want1 h ?_
                                              refine s162_211.mpr (s162_213.mpr ?_)
                                              first | exact T215F _ _ _ _ (nj (Or.inl (L1.mp (by assumption)))) hs2.w (FW.up FW.rf wV_5) (Or.inr rfl) | exact T215F _ _ _ _ (nj (Or.inr (L2.mp (by assumption)))) hs2.w (FW.up FW.rf wV_5) (Or.inr rfl) | exact E (fun z => absurd (L1.mpr z) (by assumption)) (fun z => absurd (L2.mpr z) (by assumption)) | (exfalso; omega)
                                        · skip
                                          refine s162_200.mpr (wif (fun c200 => ?_) (fun c200 => ?_))
                                          · first
                                            | (exfalso; omega)
                                            | skip
                                              refine s162_203.mpr (s162_204.mpr ?_)
                                              refine (s162_208 (by first | decide | assumption | omega) (by first | decide | assumption | omega)).mpr ?_
                                              first | refine v_want0 h ?_ | refine v_want1 h ?_
                                              refine s162_211.mpr (s162_213.mpr ?_)
                                              first | exact T215F _ _ _ _ (nj (Or.inl (L1.mp (by assumption)))) hs2.w (FW.up FW.rf wV_5) (Or.inr rfl) | exact T215F _ _ _ _ (nj (Or.inr (L2.mp (by assumption)))) hs2.w (FW.up FW.rf wV_5) (Or.inr rfl) | exact E (fun z => absurd (L1.mpr z) (by assumption)) (fun z => absurd (L2.mpr z) (by assumption)) | (exfalso; omega)
                                          · first
                                            | (exfalso; omega)
                                            | skip
                                              refine s162_207.mpr ?_
                                              refine (s162_208 (by first | decide | assumption | omega) (by first | decide | assumption | omega)).mpr ?_
                                              first | refine v_want0 h ?_ | refine v_want1 h ?_
                                              refine s162_211.mpr (s162_213.mpr ?_)
                                              first | exact T215F _ _ _ _ (nj (Or.inl (L1.mp (by assumption)))) hs2.w (FW.up FW.rf wV_5) (Or.inr rfl) | exact T215F _ _ _ _ (nj (Or.inr (L2.mp (by assumption)))) hs2.w (FW.up FW.rf wV_5) (Or.inr rfl) | exact E (fun z => absurd (L1.mpr z) (by assumption)) (fun z => absurd (L2.mpr z) (by assumption)) | (exfalso; omega)
                                    · first
                                      | (exfalso; omega)
                                      | skip
                                        refine s162_207.mpr ?_
                                        refine (s162_208 (by first | decide | assumption | omega) (by first | decide | assumption | omega)).mpr ?_
                                        first | refine v_want0 h ?_ | refine v_want1 h ?_
                                        refine s162_211.mpr (s162_213.mpr ?_)
                                        first | exact T215F _ _ _ _ (nj (Or.inl (L1.mp (by assumption)))) hs2.w (FW.up FW.rf wV_5) (Or.inr rfl) | exact T215F _ _ _ _ (nj (Or.inr (L2.mp (by assumption)))) hs2.w (FW.up FW.rf wV_5) (Or.inr rfl) | exact E (fun z => absurd (L1.mpr z) (by assumption)) (fun z => absurd (L2.mpr z) (by assumption)) | (exfalso; omega)
                          · first
                            | (exfalso; omega)
                            | skip
                              first | exact T215F _ _ _ _ (nj (Or.inl (L1.mp (by assumption)))) hs2.w (FW.up FW.rf wV_5) (Or.inr rfl) | exact T215F _ _ _ _ (nj (Or.inr (L2.mp (by assumption)))) hs2.w (FW.up FW.rf wV_5) (Or.inr rfl) | exact E (fun z => absurd (L1.mpr z) (by assumption)) (fun z => absurd (L2.mpr z) (by assumption)) | (exfalso; omega)
              · first
                | (exfalso; omega)
                | skip
                  refine s162_106.mpr (s162_108.mpr ?_)
                  refine s162_110.mpr (wif (fun c110 => ?_) (fun c110 => ?_))
                  · first
                    | (exfalso; omega)
                    | skip
                      refine s162_244.mpr (s162_247.mpr ?_)
                      try simp (disch := first | decide | assumption | omega) only [kon, knt_some, knt_none, Option.toList_some, Option.toList_none, List.cons_append, List.nil_append, r1, r2, hk, e84, e12, fSub_id, e9, fAdd_id]
                      exfalso; omega
                  · first
                    | (exfalso; omega)
                    | skip
                      refine s162_113.mpr (s162_115.mpr ?_)
                      refine s162_117.mpr (wif (fun c117 => ?_) (fun c117 => ?_))
                      · first
                        | (exfalso; omega)
                        | skip
                          refine s162_120.mpr ?_
                          refine (s162_121 (by first | decide | assumption | omega)).mpr ?_
                          refine s162_124.mpr ?_
                          try simp (disch := first | decide | assumption | omega) only [kon, knt_some, knt_none, Option.toList_some, Option.toList_none, List.cons_append, List.nil_append, r1, r2, hk, e84, e12, fSub_id, e9, fAdd_id]
                          refine (s162_126 (by first | decide | assumption | omega) (by first | decide | assumption | omega) (by first | decide | assumption | omega)).mpr ?_
                          refine s162_127.mpr (s162_140.mpr (s162_142.mpr ?_))
                          try simp (disch := first | decide | assumption | omega) only [kon, knt_some, knt_none, Option.toList_some, Option.toList_none, List.cons_append, List.nil_append, r1, r2, hk, e84, e12, fSub_id, e9, fAdd_id]
                          refine s162_143.mpr (wif (fun c143 => ?_) (fun c143 => ?_))
                          · first
                            | (exfalso; omega)
                            | skip
                              refine s162_151.mpr ?_
                              refine (s162_152 (by first | decide | assumption | omega)).mpr ?_
                              refine s162_155.mpr (s162_156.mpr ?_)
                              try simp (disch := first | decide | assumption | omega) only [kon, knt_some, knt_none, Option.toList_some, Option.toList_none, List.cons_append, List.nil_append, r1, r2, hk, e84, e12, fSub_id, e9, fAdd_id]
                              refine (s162_158 (by first | decide | assumption | omega) (by first | decide | assumption | omega)).mpr ?_
                              refine r_typeComing hV q0 (by omega) (by omega) (by omega) ?_
                              simp only [kon, knt_some, knt_none, Option.toList_some, Option.toList_none, List.cons_append, List.nil_append, eb2, eB]
                              refine s162_161.mpr (s162_163.mpr (s162_165.mpr ?_))
                              refine (s162_167 (by omega)).mpr ?_
                              refine c_join hw hv ?_
                              simp only [kon, knt_some, knt_none, Option.toList_some, Option.toList_none, List.cons_append, List.nil_append, e8]
                              refine s162_170.mpr (s162_172.mpr (s162_174.mpr ?_))
                              refine s162_176.mpr (wif (fun c176 => ?_) (fun c176 => ?_))
                              · first
                                | (exfalso; omega)
                                | skip
                                  refine s162_179.mpr (s162_180.mpr (s162_182.mpr ?_))
                                  refine s162_184.mpr (wif (fun c184 => ?_) (fun c184 => ?_))
                                  · first
                                    | (exfalso; omega)
                                    | skip
                                      refine s162_207.mpr ?_
                                      refine (s162_208 (by first | decide | assumption | omega) (by first | decide | assumption | omega)).mpr ?_
                                      first | refine v_want0 h ?_ | refine v_want1 h ?_
                                      refine s162_211.mpr (s162_213.mpr ?_)
                                      first | exact T215F _ _ _ _ (nj (Or.inl (L1.mp (by assumption)))) hs2.w (FW.up FW.rf wV_5) (Or.inr rfl) | exact T215F _ _ _ _ (nj (Or.inr (L2.mp (by assumption)))) hs2.w (FW.up FW.rf wV_5) (Or.inr rfl) | exact E (fun z => absurd (L1.mpr z) (by assumption)) (fun z => absurd (L2.mpr z) (by assumption)) | (exfalso; omega)
                                  · first
                                    | (exfalso; omega)
                                    | skip
                                      refine s162_187.mpr ?_
                                      refine (s162_189 (by omega)).mpr ?_
                                      refine c_isLinear (fun y189 => ?_) (fun y189 => ?_)
                                      · skip
                                        refine s162_192.mpr (wif (fun c192 => ?_) (fun c192 => ?_))
                                        · first
                                          | (exfalso; omega)
                                          | skip
                                            refine s162_195.mpr ?_
                                            refine (s162_197 (by omega)).mpr ?_
                                            refine c_isLinear (fun y197 => ?_) (fun y197 => ?_)
                                            · skip
                                              refine s162_200.mpr (wif (fun c200 => ?_) (fun c200 => ?_))
                                              · first
                                                | (exfalso; omega)
                                                | skip
                                                  refine s162_203.mpr (s162_204.mpr ?_)
                                                  refine (s162_208 (by first | decide | assumption | omega) (by first | decide | assumption | omega)).mpr ?_
                                                  first | refine v_want0 h ?_ | refine v_want1 h ?_
                                                  refine s162_211.mpr (s162_213.mpr ?_)
                                                  first | exact T215F _ _ _ _ (nj (Or.inl (L1.mp (by assumption)))) hs2.w (FW.up FW.rf wV_5) (Or.inr rfl) | exact T215F _ _ _ _ (nj (Or.inr (L2.mp (by assumption)))) hs2.w (FW.up FW.rf wV_5) (Or.inr rfl) | exact E (fun z => absurd (L1.mpr z) (by assumption)) (fun z => absurd (L2.mpr z) (by assumption)) | (exfalso; omega)
                                              · first
                                                | (exfalso; omega)
                                                | skip
                                                  refine s162_207.mpr ?_
                                                  refine (s162_208 (by first | decide | assumption | omega) (by first | decide | assumption | omega)).mpr ?_
                                                  first | refine v_want0 h ?_ | refine v_want1 h ?_
                                                  refine s162_211.mpr (s162_213.mpr ?_)
                                                  first | exact T215F _ _ _ _ (nj (Or.inl (L1.mp (by assumption)))) hs2.w (FW.up FW.rf wV_5) (Or.inr rfl) | exact T215F _ _ _ _ (nj (Or.inr (L2.mp (by assumption)))) hs2.w (FW.up FW.rf wV_5) (Or.inr rfl) | exact E (fun z => absurd (L1.mpr z) (by assumption)) (fun z => absurd (L2.mpr z) (by assumption)) | (exfalso; omega)
                                            · skip
                                              refine s162_200.mpr (wif (fun c200 => ?_) (fun c200 => ?_))
                                              · first
                                                | (exfalso; omega)
                                                | skip
                                                  refine s162_203.mpr (s162_204.mpr ?_)
                                                  refine (s162_208 (by first | decide | assumption | omega) (by first | decide | assumption | omega)).mpr ?_
                                                  first | refine v_want0 h ?_ | refine v_want1 h ?_
                                                  refine s162_211.mpr (s162_213.mpr ?_)
                                                  first | exact T215F _ _ _ _ (nj (Or.inl (L1.mp (by assumption)))) hs2.w (FW.up FW.rf wV_5) (Or.inr rfl) | exact T215F _ _ _ _ (nj (Or.inr (L2.mp (by assumption)))) hs2.w (FW.up FW.rf wV_5) (Or.inr rfl) | exact E (fun z => absurd (L1.mpr z) (by assumption)) (fun z => absurd (L2.mpr z) (by assumption)) | (exfalso; omega)
                                              · first
                                                | (exfalso; omega)
                                                | skip
                                                  refine s162_207.mpr ?_
                                                  refine (s162_208 (by first | decide | assumption | omega) (by first | decide | assumption | omega)).mpr ?_
                                                  first | refine v_want0 h ?_ | refine v_want1 h ?_
                                                  refine s162_211.mpr (s162_213.mpr ?_)
                                                  first | exact T215F _ _ _ _ (nj (Or.inl (L1.mp (by assumption)))) hs2.w (FW.up FW.rf wV_5) (Or.inr rfl) | exact T215F _ _ _ _ (nj (Or.inr (L2.mp (by assumption)))) hs2.w (FW.up FW.rf wV_5) (Or.inr rfl) | exact E (fun z => absurd (L1.mpr z) (by assumption)) (fun z => absurd (L2.mpr z) (by assumption)) | (exfalso; omega)
                                        · first
                                          | (exfalso; omega)
                                          | skip
                                            refine s162_207.mpr ?_
                                            refine (s162_208 (by first | decide | assumption | omega) (by first | decide | assumption | omega)).mpr ?_
                                            first | refine v_want0 h ?_ | refine v_want1 h ?_
                                            refine s162_211.mpr (s162_213.mpr ?_)
                                            first | exact T215F _ _ _ _ (nj (Or.inl (L1.mp (by assumption)))) hs2.w (FW.up FW.rf wV_5) (Or.inr rfl) | exact T215F _ _ _ _ (nj (Or.inr (L2.mp (by assumption)))) hs2.w (FW.up FW.rf wV_5) (Or.inr rfl) | exact E (fun z => absurd (L1.mpr z) (by assumption)) (fun z => absurd (L2.mpr z) (by assumption)) | (exfalso; omega)
                                      · skip
                                        refine s162_192.mpr (wif (fun c192 => ?_) (fun c192 => ?_))
                                        · first
                                          | (exfalso; omega)
                                          | skip
                                            refine s162_195.mpr ?_
                                            refine (s162_197 (by omega)).mpr ?_
                                            refine c_isLinear (fun y197 => ?_) (fun y197 => ?_)
                                            · skip
                                              refine s162_200.mpr (wif (fun c200 => ?_) (fun c200 => ?_))
                                              · first
                                                | (exfalso; omega)
                                                | skip
                                                  refine s162_203.mpr (s162_204.mpr ?_)
                                                  refine (s162_208 (by first | decide | assumption | omega) (by first | decide | assumption | omega)).mpr ?_
                                                  first | refine v_want0 h ?_ | refine v_want1 h ?_
                                                  refine s162_211.mpr (s162_213.mpr ?_)
                                                  first | exact T215F _ _ _ _ (nj (Or.inl (L1.mp (by assumption)))) hs2.w (FW.up FW.rf wV_5) (Or.inr rfl) | exact T215F _ _ _ _ (nj (Or.inr (L2.mp (by assumption)))) hs2.w (FW.up FW.rf wV_5) (Or.inr rfl) | exact E (fun z => absurd (L1.mpr z) (by assumption)) (fun z => absurd (L2.mpr z) (by assumption)) | (exfalso; omega)
                                              · first
                                                | (exfalso; omega)
                                                | skip
                                                  refine s162_207.mpr ?_
                                                  refine (s162_208 (by first | decide | assumption | omega) (by first | decide | assumption | omega)).mpr ?_
                                                  first | refine v_want0 h ?_ | refine v_want1 h ?_
                                                  refine s162_211.mpr (s162_213.mpr ?_)
                                                  first | exact T215F _ _ _ _ (nj (Or.inl (L1.mp (by assumption)))) hs2.w (FW.up FW.rf wV_5) (Or.inr rfl) | exact T215F _ _ _ _ (nj (Or.inr (L2.mp (by assumption)))) hs2.w (FW.up FW.rf wV_5) (Or.inr rfl) | exact E (fun z => absurd (L1.mpr z) (by assumption)) (fun z => absurd (L2.mpr z) (by assumption)) | (exfalso; omega)
                                            · skip
                                              refine s162_200.mpr (wif (fun c200 => ?_) (fun c200 => ?_))
                                              · first
                                                | (exfalso; omega)
                                                | skip
                                                  refine s162_203.mpr (s162_204.mpr ?_)
                                                  refine (s162_208 (by first | decide | assumption | omega) (by first | decide | assumption | omega)).mpr ?_
                                                  first | refine v_want0 h ?_ | refine v_want1 h ?_
                                                  refine s162_211.mpr (s162_213.mpr ?_)
                                                  first | exact T215F _ _ _ _ (nj (Or.inl (L1.mp (by assumption)))) hs2.w (FW.up FW.rf wV_5) (Or.inr rfl) | exact T215F _ _ _ _ (nj (Or.inr (L2.mp (by assumption)))) hs2.w (FW.up FW.rf wV_5) (Or.inr rfl) | exact E (fun z => absurd (L1.mpr z) (by assumption)) (fun z => absurd (L2.mpr z) (by assumption)) | (exfalso; omega)
                                              · first
                                                | (exfalso; omega)
                                                | skip
                                                  refine s162_207.mpr ?_
                                                  refine (s162_208 (by first | decide | assumption | omega) (by first | decide | assumption | omega)).mpr ?_
                                                  first | refine v_want0 h ?_ | refine v_want1 h ?_
                                                  refine s162_211.mpr (s162_213.mpr ?_)
                                                  first | exact T215F _ _ _ _ (nj (Or.inl (L1.mp (by assumption)))) hs2.w (FW.up FW.rf wV_5) (Or.inr rfl) | exact T215F _ _ _ _ (nj (Or.inr (L2.mp (by assumption)))) hs2.w (FW.up FW.rf wV_5) (Or.inr rfl) | exact E (fun z => absurd (L1.mpr z) (by assumption)) (fun z => absurd (L2.mpr z) (by assumption)) | (exfalso; omega)
                                        · first
                                          | (exfalso; omega)
                                          | skip
                                            refine s162_207.mpr ?_
                                            refine (s162_208 (by first | decide | assumption | omega) (by first | decide | assumption | omega)).mpr ?_
                                            first | refine v_want0 h ?_ | refine v_want1 h ?_
                                            refine s162_211.mpr (s162_213.mpr ?_)
                                            first | exact T215F _ _ _ _ (nj (Or.inl (L1.mp (by assumption)))) hs2.w (FW.up FW.rf wV_5) (Or.inr rfl) | exact T215F _ _ _ _ (nj (Or.inr (L2.mp (by assumption)))) hs2.w (FW.up FW.rf wV_5) (Or.inr rfl) | exact E (fun z => absurd (L1.mpr z) (by assumption)) (fun z => absurd (L2.mpr z) (by assumption)) | (exfalso; omega)
                              · first
                                | (exfalso; omega)
                                | skip
                                  first | exact T215F _ _ _ _ (nj (Or.inl (L1.mp (by assumption)))) hs2.w (FW.up FW.rf wV_5) (Or.inr rfl) | exact T215F _ _ _ _ (nj (Or.inr (L2.mp (by assumption)))) hs2.w (FW.up FW.rf wV_5) (Or.inr rfl) | exact E (fun z => absurd (L1.mpr z) (by assumption)) (fun z => absurd (L2.mpr z) (by assumption)) | (exfalso; omega)
                          · first
                            | (exfalso; omega)
                            | skip
                              refine s162_146.mpr (s162_148.mpr (s162_161.mpr (s162_163.mpr (s162_165.mpr ?_))))
                              refine (s162_167 (by omega)).mpr ?_
                              refine c_join hw hv ?_
                              simp only [kon, knt_some, knt_none, Option.toList_some, Option.toList_none, List.cons_append, List.nil_append, e8]
                              refine s162_170.mpr (s162_172.mpr (s162_174.mpr ?_))
                              refine s162_176.mpr (wif (fun c176 => ?_) (fun c176 => ?_))
                              · first
                                | (exfalso; omega)
                                | skip
                                  refine s162_179.mpr (s162_180.mpr (s162_182.mpr ?_))
                                  refine s162_184.mpr (wif (fun c184 => ?_) (fun c184 => ?_))
                                  · first
                                    | (exfalso; omega)
                                    | skip
                                      refine s162_207.mpr ?_
                                      refine (s162_208 (by first | decide | assumption | omega) (by first | decide | assumption | omega)).mpr ?_
                                      first | refine v_want0 h ?_ | refine v_want1 h ?_
                                      refine s162_211.mpr (s162_213.mpr ?_)
                                      first | exact T215F _ _ _ _ (nj (Or.inl (L1.mp (by assumption)))) hs2.w (FW.up FW.rf wV_5) (Or.inr rfl) | exact T215F _ _ _ _ (nj (Or.inr (L2.mp (by assumption)))) hs2.w (FW.up FW.rf wV_5) (Or.inr rfl) | exact E (fun z => absurd (L1.mpr z) (by assumption)) (fun z => absurd (L2.mpr z) (by assumption)) | (exfalso; omega)
                                  · first
                                    | (exfalso; omega)
                                    | skip
                                      refine s162_187.mpr ?_
                                      refine (s162_189 (by omega)).mpr ?_
                                      refine c_isLinear (fun y189 => ?_) (fun y189 => ?_)
                                      · skip
                                        refine s162_192.mpr (wif (fun c192 => ?_) (fun c192 => ?_))
                                        · first
                                          | (exfalso; omega)
                                          | skip
                                            refine s162_195.mpr ?_
                                            refine (s162_197 (by omega)).mpr ?_
                                            refine c_isLinear (fun y197 => ?_) (fun y197 => ?_)
                                            · skip
                                              refine s162_200.mpr (wif (fun c200 => ?_) (fun c200 => ?_))
                                              · first
                                                | (exfalso; omega)
                                                | skip
                                                  refine s162_203.mpr (s162_204.mpr ?_)
                                                  refine (s162_208 (by first | decide | assumption | omega) (by first | decide | assumption | omega)).mpr ?_
                                                  first | refine v_want0 h ?_ | refine v_want1 h ?_
                                                  refine s162_211.mpr (s162_213.mpr ?_)
                                                  first | exact T215F _ _ _ _ (nj (Or.inl (L1.mp (by assumption)))) hs2.w (FW.up FW.rf wV_5) (Or.inr rfl) | exact T215F _ _ _ _ (nj (Or.inr (L2.mp (by assumption)))) hs2.w (FW.up FW.rf wV_5) (Or.inr rfl) | exact E (fun z => absurd (L1.mpr z) (by assumption)) (fun z => absurd (L2.mpr z) (by assumption)) | (exfalso; omega)
                                              · first
                                                | (exfalso; omega)
                                                | skip
                                                  refine s162_207.mpr ?_
                                                  refine (s162_208 (by first | decide | assumption | omega) (by first | decide | assumption | omega)).mpr ?_
                                                  first | refine v_want0 h ?_ | refine v_want1 h ?_
                                                  refine s162_211.mpr (s162_213.mpr ?_)
                                                  first | exact T215F _ _ _ _ (nj (Or.inl (L1.mp (by assumption)))) hs2.w (FW.up FW.rf wV_5) (Or.inr rfl) | exact T215F _ _ _ _ (nj (Or.inr (L2.mp (by assumption)))) hs2.w (FW.up FW.rf wV_5) (Or.inr rfl) | exact E (fun z => absurd (L1.mpr z) (by assumption)) (fun z => absurd (L2.mpr z) (by assumption)) | (exfalso; omega)
                                            · skip
                                              refine s162_200.mpr (wif (fun c200 => ?_) (fun c200 => ?_))
                                              · first
                                                | (exfalso; omega)
                                                | skip
                                                  refine s162_203.mpr (s162_204.mpr ?_)
                                                  refine (s162_208 (by first | decide | assumption | omega) (by first | decide | assumption | omega)).mpr ?_
                                                  first | refine v_want0 h ?_ | refine v_want1 h ?_
                                                  refine s162_211.mpr (s162_213.mpr ?_)
                                                  first | exact T215F _ _ _ _ (nj (Or.inl (L1.mp (by assumption)))) hs2.w (FW.up FW.rf wV_5) (Or.inr rfl) | exact T215F _ _ _ _ (nj (Or.inr (L2.mp (by assumption)))) hs2.w (FW.up FW.rf wV_5) (Or.inr rfl) | exact E (fun z => absurd (L1.mpr z) (by assumption)) (fun z => absurd (L2.mpr z) (by assumption)) | (exfalso; omega)
                                              · first
                                                | (exfalso; omega)
                                                | skip
                                                  refine s162_207.mpr ?_
                                                  refine (s162_208 (by first | decide | assumption | omega) (by first | decide | assumption | omega)).mpr ?_
                                                  first | refine v_want0 h ?_ | refine v_want1 h ?_
                                                  refine s162_211.mpr (s162_213.mpr ?_)
                                                  first | exact T215F _ _ _ _ (nj (Or.inl (L1.mp (by assumption)))) hs2.w (FW.up FW.rf wV_5) (Or.inr rfl) | exact T215F _ _ _ _ (nj (Or.inr (L2.mp (by assumption)))) hs2.w (FW.up FW.rf wV_5) (Or.inr rfl) | exact E (fun z => absurd (L1.mpr z) (by assumption)) (fun z => absurd (L2.mpr z) (by assumption)) | (exfalso; omega)
                                        · first
                                          | (exfalso; omega)
                                          | skip
                                            refine s162_207.mpr ?_
                                            refine (s162_208 (by first | decide | assumption | omega) (by first | decide | assumption | omega)).mpr ?_
                                            first | refine v_want0 h ?_ | refine v_want1 h ?_
                                            refine s162_211.mpr (s162_213.mpr ?_)
                                            first | exact T215F _ _ _ _ (nj (Or.inl (L1.mp (by assumption)))) hs2.w (FW.up FW.rf wV_5) (Or.inr rfl) | exact T215F _ _ _ _ (nj (Or.inr (L2.mp (by assumption)))) hs2.w (FW.up FW.rf wV_5) (Or.inr rfl) | exact E (fun z => absurd (L1.mpr z) (by assumption)) (fun z => absurd (L2.mpr z) (by assumption)) | (exfalso; omega)
                                      · skip
                                        refine s162_192.mpr (wif (fun c192 => ?_) (fun c192 => ?_))
                                        · first
                                          | (exfalso; omega)
                                          | skip
                                            refine s162_195.mpr ?_
                                            refine (s162_197 (by omega)).mpr ?_
                                            refine c_isLinear (fun y197 => ?_) (fun y197 => ?_)
                                            · skip
                                              refine s162_200.mpr (wif (fun c200 => ?_) (fun c200 => ?_))
                                              · first
                                                | (exfalso; omega)
                                                | skip
                                                  refine s162_203.mpr (s162_204.mpr ?_)
                                                  refine (s162_208 (by first | decide | assumption | omega) (by first | decide | assumption | omega)).mpr ?_
                                                  first | refine v_want0 h ?_ | refine v_want1 h ?_
                                                  refine s162_211.mpr (s162_213.mpr ?_)
                                                  first | exact T215F _ _ _ _ (nj (Or.inl (L1.mp (by assumption)))) hs2.w (FW.up FW.rf wV_5) (Or.inr rfl) | exact T215F _ _ _ _ (nj (Or.inr (L2.mp (by assumption)))) hs2.w (FW.up FW.rf wV_5) (Or.inr rfl) | exact E (fun z => absurd (L1.mpr z) (by assumption)) (fun z => absurd (L2.mpr z) (by assumption)) | (exfalso; omega)
                                              · first
                                                | (exfalso; omega)
                                                | skip
                                                  refine s162_207.mpr ?_
                                                  refine (s162_208 (by first | decide | assumption | omega) (by first | decide | assumption | omega)).mpr ?_
                                                  first | refine v_want0 h ?_ | refine v_want1 h ?_
                                                  refine s162_211.mpr (s162_213.mpr ?_)
                                                  first | exact T215F _ _ _ _ (nj (Or.inl (L1.mp (by assumption)))) hs2.w (FW.up FW.rf wV_5) (Or.inr rfl) | exact T215F _ _ _ _ (nj (Or.inr (L2.mp (by assumption)))) hs2.w (FW.up FW.rf wV_5) (Or.inr rfl) | exact E (fun z => absurd (L1.mpr z) (by assumption)) (fun z => absurd (L2.mpr z) (by assumption)) | (exfalso; omega)
                                            · skip
                                              refine s162_200.mpr (wif (fun c200 => ?_) (fun c200 => ?_))
                                              · first
                                                | (exfalso; omega)
                                                | skip
                                                  refine s162_203.mpr (s162_204.mpr ?_)
                                                  refine (s162_208 (by first | decide | assumption | omega) (by first | decide | assumption | omega)).mpr ?_
                                                  first | refine v_want0 h ?_ | refine v_want1 h ?_
                                                  refine s162_211.mpr (s162_213.mpr ?_)
                                                  first | exact T215F _ _ _ _ (nj (Or.inl (L1.mp (by assumption)))) hs2.w (FW.up FW.rf wV_5) (Or.inr rfl) | exact T215F _ _ _ _ (nj (Or.inr (L2.mp (by assumption)))) hs2.w (FW.up FW.rf wV_5) (Or.inr rfl) | exact E (fun z => absurd (L1.mpr z) (by assumption)) (fun z => absurd (L2.mpr z) (by assumption)) | (exfalso; omega)
                                              · first
                                                | (exfalso; omega)
                                                | skip
                                                  refine s162_207.mpr ?_
                                                  refine (s162_208 (by first | decide | assumption | omega) (by first | decide | assumption | omega)).mpr ?_
                                                  first | refine v_want0 h ?_ | refine v_want1 h ?_
                                                  refine s162_211.mpr (s162_213.mpr ?_)
                                                  first | exact T215F _ _ _ _ (nj (Or.inl (L1.mp (by assumption)))) hs2.w (FW.up FW.rf wV_5) (Or.inr rfl) | exact T215F _ _ _ _ (nj (Or.inr (L2.mp (by assumption)))) hs2.w (FW.up FW.rf wV_5) (Or.inr rfl) | exact E (fun z => absurd (L1.mpr z) (by assumption)) (fun z => absurd (L2.mpr z) (by assumption)) | (exfalso; omega)
                                        · first
                                          | (exfalso; omega)
                                          | skip
                                            refine s162_207.mpr ?_
                                            refine (s162_208 (by first | decide | assumption | omega) (by first | decide | assumption | omega)).mpr ?_
                                            first | refine v_want0 h ?_ | refine v_want1 h ?_
                                            refine s162_211.mpr (s162_213.mpr ?_)
                                            first | exact T215F _ _ _ _ (nj (Or.inl (L1.mp (by assumption)))) hs2.w (FW.up FW.rf wV_5) (Or.inr rfl) | exact T215F _ _ _ _ (nj (Or.inr (L2.mp (by assumption)))) hs2.w (FW.up FW.rf wV_5) (Or.inr rfl) | exact E (fun z => absurd (L1.mpr z) (by assumption)) (fun z => absurd (L2.mpr z) (by assumption)) | (exfalso; omega)
                              · first
                                | (exfalso; omega)
                                | skip
                                  first | exact T215F _ _ _ _ (nj (Or.inl (L1.mp (by assumption)))) hs2.w (FW.up FW.rf wV_5) (Or.inr rfl) | exact T215F _ _ _ _ (nj (Or.inr (L2.mp (by assumption)))) hs2.w (FW.up FW.rf wV_5) (Or.inr rfl) | exact E (fun z => absurd (L1.mpr z) (by assumption)) (fun z => absurd (L2.mpr z) (by assumption)) | (exfalso; omega)
                      · first
                        | (exfalso; omega)
                        | skip
                          refine s162_130.mpr ?_
                          refine (s162_131 (by first | decide | assumption | omega)).mpr ?_
                          refine s162_134.mpr (s162_136.mpr (s162_138.mpr ?_))
                          try simp (disch := first | decide | assumption | omega) only [kon, knt_some, knt_none, Option.toList_some, Option.toList_none, List.cons_append, List.nil_append, r1, r2, hk, e84, e12, fSub_id, e9, fAdd_id]
                          refine (s162_139 (by first | decide | assumption | omega) (by first | decide | assumption | omega) (by first | decide | assumption | omega)).mpr ?_
                          refine s162_140.mpr (s162_142.mpr ?_)
                          try simp (disch := first | decide | assumption | omega) only [kon, knt_some, knt_none, Option.toList_some, Option.toList_none, List.cons_append, List.nil_append, r1, r2, hk, e84, e12, fSub_id, e9, fAdd_id]
                          refine s162_143.mpr (wif (fun c143 => ?_) (fun c143 => ?_))
                          · first
                            | (exfalso; omega)
                            | skip
                              refine s162_151.mpr ?_
                              refine (s162_152 (by first | decide | assumption | omega)).mpr ?_
                              refine s162_155.mpr (s162_156.mpr ?_)
                              try simp (disch := first | decide | assumption | omega) only [kon, knt_some, knt_none, Option.toList_some, Option.toList_none, List.cons_append, List.nil_append, r1, r2, hk, e84, e12, fSub_id, e9, fAdd_id]
                              refine (s162_158 (by first | decide | assumption | omega) (by first | decide | assumption | omega)).mpr ?_
                              refine r_typeComing hV q0 (by omega) (by omega) (by omega) ?_
                              simp only [kon, knt_some, knt_none, Option.toList_some, Option.toList_none, List.cons_append, List.nil_append, eb2, eB]
                              refine s162_161.mpr (s162_163.mpr (s162_165.mpr ?_))
                              refine (s162_167 (by omega)).mpr ?_
                              refine c_join hw hv ?_
                              simp only [kon, knt_some, knt_none, Option.toList_some, Option.toList_none, List.cons_append, List.nil_append, e8]
                              refine s162_170.mpr (s162_172.mpr (s162_174.mpr ?_))
                              refine s162_176.mpr (wif (fun c176 => ?_) (fun c176 => ?_))
                              · first
                                | (exfalso; omega)
                                | skip
                                  refine s162_179.mpr (s162_180.mpr (s162_182.mpr ?_))
                                  refine s162_184.mpr (wif (fun c184 => ?_) (fun c184 => ?_))
                                  · first
                                    | (exfalso; omega)
                                    | skip
                                      refine s162_207.mpr ?_
                                      refine (s162_208 (by first | decide | assumption | omega) (by first | decide | assumption | omega)).mpr ?_
                                      first | refine v_want0 h ?_ | refine v_want1 h ?_
                                      refine s162_211.mpr (s162_213.mpr ?_)
                                      first | exact T215F _ _ _ _ (nj (Or.inl (L1.mp (by assumption)))) hs2.w (FW.up FW.rf wV_5) (Or.inr rfl) | exact T215F _ _ _ _ (nj (Or.inr (L2.mp (by assumption)))) hs2.w (FW.up FW.rf wV_5) (Or.inr rfl) | exact E (fun z => absurd (L1.mpr z) (by assumption)) (fun z => absurd (L2.mpr z) (by assumption)) | (exfalso; omega)
                                  · first
                                    | (exfalso; omega)
                                    | skip
                                      refine s162_187.mpr ?_
                                      refine (s162_189 (by omega)).mpr ?_
                                      refine c_isLinear (fun y189 => ?_) (fun y189 => ?_)
                                      · skip
                                        refine s162_192.mpr (wif (fun c192 => ?_) (fun c192 => ?_))
                                        · first
                                          | (exfalso; omega)
                                          | skip
                                            refine s162_195.mpr ?_
                                            refine (s162_197 (by omega)).mpr ?_
                                            refine c_isLinear (fun y197 => ?_) (fun y197 => ?_)
                                            · skip
                                              refine s162_200.mpr (wif (fun c200 => ?_) (fun c200 => ?_))
                                              · first
                                                | (exfalso; omega)
                                                | skip
                                                  refine s162_203.mpr (s162_204.mpr ?_)
                                                  refine (s162_208 (by first | decide | assumption | omega) (by first | decide | assumption | omega)).mpr ?_
                                                  first | refine v_want0 h ?_ | refine v_want1 h ?_
                                                  refine s162_211.mpr (s162_213.mpr ?_)
                                                  first | exact T215F _ _ _ _ (nj (Or.inl (L1.mp (by assumption)))) hs2.w (FW.up FW.rf wV_5) (Or.inr rfl) | exact T215F _ _ _ _ (nj (Or.inr (L2.mp (by assumption)))) hs2.w (FW.up FW.rf wV_5) (Or.inr rfl) | exact E (fun z => absurd (L1.mpr z) (by assumption)) (fun z => absurd (L2.mpr z) (by assumption)) | (exfalso; omega)
                                              · first
                                                | (exfalso; omega)
                                                | skip
                                                  refine s162_207.mpr ?_
                                                  refine (s162_208 (by first | decide | assumption | omega) (by first | decide | assumption | omega)).mpr ?_
                                                  first | refine v_want0 h ?_ | refine v_want1 h ?_
                                                  refine s162_211.mpr (s162_213.mpr ?_)
                                                  first | exact T215F _ _ _ _ (nj (Or.inl (L1.mp (by assumption)))) hs2.w (FW.up FW.rf wV_5) (Or.inr rfl) | exact T215F _ _ _ _ (nj (Or.inr (L2.mp (by assumption)))) hs2.w (FW.up FW.rf wV_5) (Or.inr rfl) | exact E (fun z => absurd (L1.mpr z) (by assumption)) (fun z => absurd (L2.mpr z) (by assumption)) | (exfalso; omega)
                                            · skip
                                              refine s162_200.mpr (wif (fun c200 => ?_) (fun c200 => ?_))
                                              · first
                                                | (exfalso; omega)
                                                | skip
                                                  refine s162_203.mpr (s162_204.mpr ?_)
                                                  refine (s162_208 (by first | decide | assumption | omega) (by first | decide | assumption | omega)).mpr ?_
                                                  first | refine v_want0 h ?_ | refine v_want1 h ?_
                                                  refine s162_211.mpr (s162_213.mpr ?_)
                                                  first | exact T215F _ _ _ _ (nj (Or.inl (L1.mp (by assumption)))) hs2.w (FW.up FW.rf wV_5) (Or.inr rfl) | exact T215F _ _ _ _ (nj (Or.inr (L2.mp (by assumption)))) hs2.w (FW.up FW.rf wV_5) (Or.inr rfl) | exact E (fun z => absurd (L1.mpr z) (by assumption)) (fun z => absurd (L2.mpr z) (by assumption)) | (exfalso; omega)
                                              · first
                                                | (exfalso; omega)
                                                | skip
                                                  refine s162_207.mpr ?_
                                                  refine (s162_208 (by first | decide | assumption | omega) (by first | decide | assumption | omega)).mpr ?_
                                                  first | refine v_want0 h ?_ | refine v_want1 h ?_
                                                  refine s162_211.mpr (s162_213.mpr ?_)
                                                  first | exact T215F _ _ _ _ (nj (Or.inl (L1.mp (by assumption)))) hs2.w (FW.up FW.rf wV_5) (Or.inr rfl) | exact T215F _ _ _ _ (nj (Or.inr (L2.mp (by assumption)))) hs2.w (FW.up FW.rf wV_5) (Or.inr rfl) | exact E (fun z => absurd (L1.mpr z) (by assumption)) (fun z => absurd (L2.mpr z) (by assumption)) | (exfalso; omega)
                                        · first
                                          | (exfalso; omega)
                                          | skip
                                            refine s162_207.mpr ?_
                                            refine (s162_208 (by first | decide | assumption | omega) (by first | decide | assumption | omega)).mpr ?_
                                            first | refine v_want0 h ?_ | refine v_want1 h ?_
                                            refine s162_211.mpr (s162_213.mpr ?_)
                                            first | exact T215F _ _ _ _ (nj (Or.inl (L1.mp (by assumption)))) hs2.w (FW.up FW.rf wV_5) (Or.inr rfl) | exact T215F _ _ _ _ (nj (Or.inr (L2.mp (by assumption)))) hs2.w (FW.up FW.rf wV_5) (Or.inr rfl) | exact E (fun z => absurd (L1.mpr z) (by assumption)) (fun z => absurd (L2.mpr z) (by assumption)) | (exfalso; omega)
                                      · skip
                                        refine s162_192.mpr (wif (fun c192 => ?_) (fun c192 => ?_))
                                        · first
                                          | (exfalso; omega)
                                          | skip
                                            refine s162_195.mpr ?_
                                            refine (s162_197 (by omega)).mpr ?_
                                            refine c_isLinear (fun y197 => ?_) (fun y197 => ?_)
                                            · skip
                                              refine s162_200.mpr (wif (fun c200 => ?_) (fun c200 => ?_))
                                              · first
                                                | (exfalso; omega)
                                                | skip
                                                  refine s162_203.mpr (s162_204.mpr ?_)
                                                  refine (s162_208 (by first | decide | assumption | omega) (by first | decide | assumption | omega)).mpr ?_
                                                  first | refine v_want0 h ?_ | refine v_want1 h ?_
                                                  refine s162_211.mpr (s162_213.mpr ?_)
                                                  first | exact T215F _ _ _ _ (nj (Or.inl (L1.mp (by assumption)))) hs2.w (FW.up FW.rf wV_5) (Or.inr rfl) | exact T215F _ _ _ _ (nj (Or.inr (L2.mp (by assumption)))) hs2.w (FW.up FW.rf wV_5) (Or.inr rfl) | exact E (fun z => absurd (L1.mpr z) (by assumption)) (fun z => absurd (L2.mpr z) (by assumption)) | (exfalso; omega)
                                              · first
                                                | (exfalso; omega)
                                                | skip
                                                  refine s162_207.mpr ?_
                                                  refine (s162_208 (by first | decide | assumption | omega) (by first | decide | assumption | omega)).mpr ?_
                                                  first | refine v_want0 h ?_ | refine v_want1 h ?_
                                                  refine s162_211.mpr (s162_213.mpr ?_)
                                                  first | exact T215F _ _ _ _ (nj (Or.inl (L1.mp (by assumption)))) hs2.w (FW.up FW.rf wV_5) (Or.inr rfl) | exact T215F _ _ _ _ (nj (Or.inr (L2.mp (by assumption)))) hs2.w (FW.up FW.rf wV_5) (Or.inr rfl) | exact E (fun z => absurd (L1.mpr z) (by assumption)) (fun z => absurd (L2.mpr z) (by assumption)) | (exfalso; omega)
                                            · skip
                                              refine s162_200.mpr (wif (fun c200 => ?_) (fun c200 => ?_))
                                              · first
                                                | (exfalso; omega)
                                                | skip
                                                  refine s162_203.mpr (s162_204.mpr ?_)
                                                  refine (s162_208 (by first | decide | assumption | omega) (by first | decide | assumption | omega)).mpr ?_
                                                  first | refine v_want0 h ?_ | refine v_want1 h ?_
                                                  refine s162_211.mpr (s162_213.mpr ?_)
                                                  first | exact T215F _ _ _ _ (nj (Or.inl (L1.mp (by assumption)))) hs2.w (FW.up FW.rf wV_5) (Or.inr rfl) | exact T215F _ _ _ _ (nj (Or.inr (L2.mp (by assumption)))) hs2.w (FW.up FW.rf wV_5) (Or.inr rfl) | exact E (fun z => absurd (L1.mpr z) (by assumption)) (fun z => absurd (L2.mpr z) (by assumption)) | (exfalso; omega)
                                              · first
                                                | (exfalso; omega)
                                                | skip
                                                  refine s162_207.mpr ?_
                                                  refine (s162_208 (by first | decide | assumption | omega) (by first | decide | assumption | omega)).mpr ?_
                                                  first | refine v_want0 h ?_ | refine v_want1 h ?_
                                                  refine s162_211.mpr (s162_213.mpr ?_)
                                                  first | exact T215F _ _ _ _ (nj (Or.inl (L1.mp (by assumption)))) hs2.w (FW.up FW.rf wV_5) (Or.inr rfl) | exact T215F _ _ _ _ (nj (Or.inr (L2.mp (by assumption)))) hs2.w (FW.up FW.rf wV_5) (Or.inr rfl) | exact E (fun z => absurd (L1.mpr z) (by assumption)) (fun z => absurd (L2.mpr z) (by assumption)) | (exfalso; omega)
                                        · first
                                          | (exfalso; omega)
                                          | skip
                                            refine s162_207.mpr ?_
                                            refine (s162_208 (by first | decide | assumption | omega) (by first | decide | assumption | omega)).mpr ?_
                                            first | refine v_want0 h ?_ | refine v_want1 h ?_
                                            refine s162_211.mpr (s162_213.mpr ?_)
                                            first | exact T215F _ _ _ _ (nj (Or.inl (L1.mp (by assumption)))) hs2.w (FW.up FW.rf wV_5) (Or.inr rfl) | exact T215F _ _ _ _ (nj (Or.inr (L2.mp (by assumption)))) hs2.w (FW.up FW.rf wV_5) (Or.inr rfl) | exact E (fun z => absurd (L1.mpr z) (by assumption)) (fun z => absurd (L2.mpr z) (by assumption)) | (exfalso; omega)
                              · first
                                | (exfalso; omega)
                                | skip
                                  first | exact T215F _ _ _ _ (nj (Or.inl (L1.mp (by assumption)))) hs2.w (FW.up FW.rf wV_5) (Or.inr rfl) | exact T215F _ _ _ _ (nj (Or.inr (L2.mp (by assumption)))) hs2.w (FW.up FW.rf wV_5) (Or.inr rfl) | exact E (fun z => absurd (L1.mpr z) (by assumption)) (fun z => absurd (L2.mpr z) (by assumption)) | (exfalso; omega)
                          · first
                            | (exfalso; omega)
                            | skip
                              refine s162_146.mpr (s162_148.mpr (s162_161.mpr (s162_163.mpr (s162_165.mpr ?_))))
                              refine (s162_167 (by omega)).mpr ?_
                              refine c_join hw hv ?_
                              simp only [kon, knt_some, knt_none, Option.toList_some, Option.toList_none, List.cons_append, List.nil_append, e8]
                              refine s162_170.mpr (s162_172.mpr (s162_174.mpr ?_))
                              refine s162_176.mpr (wif (fun c176 => ?_) (fun c176 => ?_))
                              · first
                                | (exfalso; omega)
                                | skip
                                  refine s162_179.mpr (s162_180.mpr (s162_182.mpr ?_))
                                  refine s162_184.mpr (wif (fun c184 => ?_) (fun c184 => ?_))
                                  · first
                                    | (exfalso; omega)
                                    | skip
                                      refine s162_207.mpr ?_
                                      refine (s162_208 (by first | decide | assumption | omega) (by first | decide | assumption | omega)).mpr ?_
                                      first | refine v_want0 h ?_ | refine v_want1 h ?_
                                      refine s162_211.mpr (s162_213.mpr ?_)
                                      first | exact T215F _ _ _ _ (nj (Or.inl (L1.mp (by assumption)))) hs2.w (FW.up FW.rf wV_5) (Or.inr rfl) | exact T215F _ _ _ _ (nj (Or.inr (L2.mp (by assumption)))) hs2.w (FW.up FW.rf wV_5) (Or.inr rfl) | exact E (fun z => absurd (L1.mpr z) (by assumption)) (fun z => absurd (L2.mpr z) (by assumption)) | (exfalso; omega)
                                  · first
                                    | (exfalso; omega)
                                    | skip
                                      refine s162_187.mpr ?_
                                      refine (s162_189 (by omega)).mpr ?_
                                      refine c_isLinear (fun y189 => ?_) (fun y189 => ?_)
                                      · skip
                                        refine s162_192.mpr (wif (fun c192 => ?_) (fun c192 => ?_))
                                        · first
                                          | (exfalso; omega)
                                          | skip
                                            refine s162_195.mpr ?_
                                            refine (s162_197 (by omega)).mpr ?_
                                            refine c_isLinear (fun y197 => ?_) (fun y197 => ?_)
                                            · skip
                                              refine s162_200.mpr (wif (fun c200 => ?_) (fun c200 => ?_))
                                              · first
                                                | (exfalso; omega)
                                                | skip
                                                  refine s162_203.mpr (s162_204.mpr ?_)
                                                  refine (s162_208 (by first | decide | assumption | omega) (by first | decide | assumption | omega)).mpr ?_
                                                  first | refine v_want0 h ?_ | refine v_want1 h ?_
                                                  refine s162_211.mpr (s162_213.mpr ?_)
                                                  first | exact T215F _ _ _ _ (nj (Or.inl (L1.mp (by assumption)))) hs2.w (FW.up FW.rf wV_5) (Or.inr rfl) | exact T215F _ _ _ _ (nj (Or.inr (L2.mp (by assumption)))) hs2.w (FW.up FW.rf wV_5) (Or.inr rfl) | exact E (fun z => absurd (L1.mpr z) (by assumption)) (fun z => absurd (L2.mpr z) (by assumption)) | (exfalso; omega)
                                              · first
                                                | (exfalso; omega)
                                                | skip
                                                  refine s162_207.mpr ?_
                                                  refine (s162_208 (by first | decide | assumption | omega) (by first | decide | assumption | omega)).mpr ?_
                                                  first | refine v_want0 h ?_ | refine v_want1 h ?_
                                                  refine s162_211.mpr (s162_213.mpr ?_)
                                                  first | exact T215F _ _ _ _ (nj (Or.inl (L1.mp (by assumption)))) hs2.w (FW.up FW.rf wV_5) (Or.inr rfl) | exact T215F _ _ _ _ (nj (Or.inr (L2.mp (by assumption)))) hs2.w (FW.up FW.rf wV_5) (Or.inr rfl) | exact E (fun z => absurd (L1.mpr z) (by assumption)) (fun z => absurd (L2.mpr z) (by assumption)) | (exfalso; omega)
                                            · skip
                                              refine s162_200.mpr (wif (fun c200 => ?_) (fun c200 => ?_))
                                              · first
                                                | (exfalso; omega)
                                                | skip
                                                  refine s162_203.mpr (s162_204.mpr ?_)
                                                  refine (s162_208 (by first | decide | assumption | omega) (by first | decide | assumption | omega)).mpr ?_
                                                  first | refine v_want0 h ?_ | refine v_want1 h ?_
                                                  refine s162_211.mpr (s162_213.mpr ?_)
                                                  first | exact T215F _ _ _ _ (nj (Or.inl (L1.mp (by assumption)))) hs2.w (FW.up FW.rf wV_5) (Or.inr rfl) | exact T215F _ _ _ _ (nj (Or.inr (L2.mp (by assumption)))) hs2.w (FW.up FW.rf wV_5) (Or.inr rfl) | exact E (fun z => absurd (L1.mpr z) (by assumption)) (fun z => absurd (L2.mpr z) (by assumption)) | (exfalso; omega)
                                              · first
                                                | (exfalso; omega)
                                                | skip
                                                  refine s162_207.mpr ?_
                                                  refine (s162_208 (by first | decide | assumption | omega) (by first | decide | assumption | omega)).mpr ?_
                                                  first | refine v_want0 h ?_ | refine v_want1 h ?_
                                                  refine s162_211.mpr (s162_213.mpr ?_)
                                                  first | exact T215F _ _ _ _ (nj (Or.inl (L1.mp (by assumption)))) hs2.w (FW.up FW.rf wV_5) (Or.inr rfl) | exact T215F _ _ _ _ (nj (Or.inr (L2.mp (by assumption)))) hs2.w (FW.up FW.rf wV_5) (Or.inr rfl) | exact E (fun z => absurd (L1.mpr z) (by assumption)) (fun z => absurd (L2.mpr z) (by assumption)) | (exfalso; omega)
                                        · first
                                          | (exfalso; omega)
                                          | skip
                                            refine s162_207.mpr ?_
                                            refine (s162_208 (by first | decide | assumption | omega) (by first | decide | assumption | omega)).mpr ?_
                                            first | refine v_want0 h ?_ | refine v_want1 h ?_
                                            refine s162_211.mpr (s162_213.mpr ?_)
                                            first | exact T215F _ _ _ _ (nj (Or.inl (L1.mp (by assumption)))) hs2.w (FW.up FW.rf wV_5) (Or.inr rfl) | exact T215F _ _ _ _ (nj (Or.inr (L2.mp (by assumption)))) hs2.w (FW.up FW.rf wV_5) (Or.inr rfl) | exact E (fun z => absurd (L1.mpr z) (by assumption)) (fun z => absurd (L2.mpr z) (by assumption)) | (exfalso; omega)
                                      · skip
                                        refine s162_192.mpr (wif (fun c192 => ?_) (fun c192 => ?_))
                                        · first
                                          | (exfalso; omega)
                                          | skip
                                            refine s162_195.mpr ?_
                                            refine (s162_197 (by omega)).mpr ?_
                                            refine c_isLinear (fun y197 => ?_) (fun y197 => ?_)
                                            · skip
                                              refine s162_200.mpr (wif (fun c200 => ?_) (fun c200 => ?_))
                                              · first
                                                | (exfalso; omega)
                                                | skip
                                                  refine s162_203.mpr (s162_204.mpr ?_)
                                                  refine (s162_208 (by first | decide | assumption | omega) (by first | decide | assumption | omega)).mpr ?_
                                                  first | refine v_want0 h ?_ | refine v_want1 h ?_
                                                  refine s162_211.mpr (s162_213.mpr ?_)
                                                  first | exact T215F _ _ _ _ (nj (Or.inl (L1.mp (by assumption)))) hs2.w (FW.up FW.rf wV_5) (Or.inr rfl) | exact T215F _ _ _ _ (nj (Or.inr (L2.mp (by assumption)))) hs2.w (FW.up FW.rf wV_5) (Or.inr rfl) | exact E (fun z => absurd (L1.mpr z) (by assumption)) (fun z => absurd (L2.mpr z) (by assumption)) | (exfalso; omega)
                                              · first
                                                | (exfalso; omega)
                                                | skip
                                                  refine s162_207.mpr ?_
                                                  refine (s162_208 (by first | decide | assumption | omega) (by first | decide | assumption | omega)).mpr ?_
                                                  first | refine v_want0 h ?_ | refine v_want1 h ?_
                                                  refine s162_211.mpr (s162_213.mpr ?_)
                                                  first | exact T215F _ _ _ _ (nj (Or.inl (L1.mp (by assumption)))) hs2.w (FW.up FW.rf wV_5) (Or.inr rfl) | exact T215F _ _ _ _ (nj (Or.inr (L2.mp (by assumption)))) hs2.w (FW.up FW.rf wV_5) (Or.inr rfl) | exact E (fun z => absurd (L1.mpr z) (by assumption)) (fun z => absurd (L2.mpr z) (by assumption)) | (exfalso; omega)
                                            · skip
                                              refine s162_200.mpr (wif (fun c200 => ?_) (fun c200 => ?_))
                                              · first
                                                | (exfalso; omega)
                                                | skip
                                                  refine s162_203.mpr (s162_204.mpr ?_)
                                                  refine (s162_208 (by first | decide | assumption | omega) (by first | decide | assumption | omega)).mpr ?_
                                                  first | refine v_want0 h ?_ | refine v_want1 h ?_
                                                  refine s162_211.mpr (s162_213.mpr ?_)
                                                  first | exact T215F _ _ _ _ (nj (Or.inl (L1.mp (by assumption)))) hs2.w (FW.up FW.rf wV_5) (Or.inr rfl) | exact T215F _ _ _ _ (nj (Or.inr (L2.mp (by assumption)))) hs2.w (FW.up FW.rf wV_5) (Or.inr rfl) | exact E (fun z => absurd (L1.mpr z) (by assumption)) (fun z => absurd (L2.mpr z) (by assumption)) | (exfalso; omega)
                                              · first
                                                | (exfalso; omega)
                                                | skip
                                                  refine s162_207.mpr ?_
                                                  refine (s162_208 (by first | decide | assumption | omega) (by first | decide | assumption | omega)).mpr ?_
                                                  first | refine v_want0 h ?_ | refine v_want1 h ?_
                                                  refine s162_211.mpr (s162_213.mpr ?_)
                                                  first | exact T215F _ _ _ _ (nj (Or.inl (L1.mp (by assumption)))) hs2.w (FW.up FW.rf wV_5) (Or.inr rfl) | exact T215F _ _ _ _ (nj (Or.inr (L2.mp (by assumption)))) hs2.w (FW.up FW.rf wV_5) (Or.inr rfl) | exact E (fun z => absurd (L1.mpr z) (by assumption)) (fun z => absurd (L2.mpr z) (by assumption)) | (exfalso; omega)
                                        · first
                                          | (exfalso; omega)
                                          | skip
                                            refine s162_207.mpr ?_
                                            refine (s162_208 (by first | decide | assumption | omega) (by first | decide | assumption | omega)).mpr ?_
                                            first | refine v_want0 h ?_ | refine v_want1 h ?_
                                            refine s162_211.mpr (s162_213.mpr ?_)
                                            first | exact T215F _ _ _ _ (nj (Or.inl (L1.mp (by assumption)))) hs2.w (FW.up FW.rf wV_5) (Or.inr rfl) | exact T215F _ _ _ _ (nj (Or.inr (L2.mp (by assumption)))) hs2.w (FW.up FW.rf wV_5) (Or.inr rfl) | exact E (fun z => absurd (L1.mpr z) (by assumption)) (fun z => absurd (L2.mpr z) (by assumption)) | (exfalso; omega)
                              · first
                                | (exfalso; omega)
                                | skip
                                  first | exact T215F _ _ _ _ (nj (Or.inl (L1.mp (by assumption)))) hs2.w (FW.up FW.rf wV_5) (Or.inr rfl) | exact T215F _ _ _ _ (nj (Or.inr (L2.mp (by assumption)))) hs2.w (FW.up FW.rf wV_5) (Or.inr rfl) | exact E (fun z => absurd (L1.mpr z) (by assumption)) (fun z => absurd (L2.mpr z) (by assumption)) | (exfalso; omega)
          · first
            | (exfalso; omega)
            | skip
              refine s162_250.mpr ?_
              refine s162_251.mpr (wif (fun c251 => ?_) (fun c251 => ?_))
              · first
                | (exfalso; omega)
                | skip
                  refine (s162_266).mpr ?_
                  exfalso; omega
              · first
                | (exfalso; omega)
                | skip
                  refine s162_254.mpr ?_
                  refine (s162_255 (by first | decide | assumption | omega)).mpr ?_
                  refine s162_258.mpr (s162_259.mpr ?_)
                  try simp (disch := first | decide | assumption | omega) only [kon, knt_some, knt_none, Option.toList_some, Option.toList_none, List.cons_append, List.nil_append, r1, r2, hk, e84, e12, fSub_id, e9, fAdd_id]
                  refine (s162_260Z (by first | decide | assumption | omega) (by first | decide | assumption | omega) (by first | decide | assumption | omega)).mpr ?_
                  refine s162_261.mpr (s162_262.mpr ?_)
                  try simp (disch := first | decide | assumption | omega) only [kon, knt_some, knt_none, Option.toList_some, Option.toList_none, List.cons_append, List.nil_append, r1, r2, hk, e84, e12, fSub_id, e9, fAdd_id]
                  refine (s162_263 (by first | decide | assumption | omega) (by first | decide | assumption | omega)).mpr ?_
                  refine (s162_266).mpr ?_
                  exfalso; omega
        · have e8 : (if both (Y.2.2 (i - 16)) (X.2.2 (i - 16)) = -1 then -2 else cv (both (Y.2.2 (i - 16)) (X.2.2 (i - 16)))) = cv (bothL (Y.2.2 (i - 16)) (X.2.2 (i - 16))) := by rw [if_neg b]; unfold bothL; rw [if_neg b]
          have hb2 := cv_rng hb
          have E := T215 (bothL (Y.2.2 (i - 16)) (X.2.2 (i - 16))) (cv (X.2.2 (i - 16))) (Or.inr cc) ej.symm ⟨fun z => absurd z ca, fun _ z => absurd z b⟩ (by rw [eo]; exact eB) (by rw [eo]; exact hw) hb
          rw [eB] at E
          refine s162_90.mpr (s162_92.mpr ?_)
          refine s162_94.mpr (wif (fun c94 => ?_) (fun c94 => ?_))
          · first
            | (exfalso; omega)
            | skip
              refine s162_97.mpr (s162_99.mpr ?_)
              refine (s162_100 (by first | decide | assumption | omega)).mpr ?_
              try simp (disch := first | decide | assumption | omega) only [kon, knt_some, knt_none, Option.toList_some, Option.toList_none, List.cons_append, List.nil_append, r1, r2, hk, e84, e12, fSub_id, e9, fAdd_id]
              refine s162_103.mpr (wif (fun c103 => ?_) (fun c103 => ?_))
              · first
                | (exfalso; omega)
                | skip
                  refine s162_113.mpr (s162_115.mpr ?_)
                  refine s162_117.mpr (wif (fun c117 => ?_) (fun c117 => ?_))
                  · first
                    | (exfalso; omega)
                    | skip
                      refine s162_120.mpr ?_
                      refine (s162_121 (by first | decide | assumption | omega)).mpr ?_
                      refine s162_124.mpr ?_
                      try simp (disch := first | decide | assumption | omega) only [kon, knt_some, knt_none, Option.toList_some, Option.toList_none, List.cons_append, List.nil_append, r1, r2, hk, e84, e12, fSub_id, e9, fAdd_id]
                      refine (s162_126 (by first | decide | assumption | omega) (by first | decide | assumption | omega) (by first | decide | assumption | omega)).mpr ?_
                      refine s162_127.mpr (s162_140.mpr (s162_142.mpr ?_))
                      try simp (disch := first | decide | assumption | omega) only [kon, knt_some, knt_none, Option.toList_some, Option.toList_none, List.cons_append, List.nil_append, r1, r2, hk, e84, e12, fSub_id, e9, fAdd_id]
                      refine s162_143.mpr (wif (fun c143 => ?_) (fun c143 => ?_))
                      · first
                        | (exfalso; omega)
                        | skip
                          refine s162_151.mpr ?_
                          refine (s162_152 (by first | decide | assumption | omega)).mpr ?_
                          refine s162_155.mpr (s162_156.mpr ?_)
                          try simp (disch := first | decide | assumption | omega) only [kon, knt_some, knt_none, Option.toList_some, Option.toList_none, List.cons_append, List.nil_append, r1, r2, hk, e84, e12, fSub_id, e9, fAdd_id]
                          refine (s162_158 (by first | decide | assumption | omega) (by first | decide | assumption | omega)).mpr ?_
                          refine r_typeComing hV q0 (by omega) (by omega) (by omega) ?_
                          simp only [kon, knt_some, knt_none, Option.toList_some, Option.toList_none, List.cons_append, List.nil_append, eb2, eB]
                          refine s162_161.mpr (s162_163.mpr (s162_165.mpr ?_))
                          refine (s162_167 (by omega)).mpr ?_
                          refine c_join hw hv ?_
                          simp only [kon, knt_some, knt_none, Option.toList_some, Option.toList_none, List.cons_append, List.nil_append, e8]
                          refine s162_170.mpr (s162_172.mpr (s162_174.mpr ?_))
                          refine s162_176.mpr (wif (fun c176 => ?_) (fun c176 => ?_))
                          · first
                            | (exfalso; omega)
                            | skip
                              exfalso; omega
                          · first
                            | (exfalso; omega)
                            | skip
                              exact E
                      · first
                        | (exfalso; omega)
                        | skip
                          refine s162_146.mpr (s162_148.mpr (s162_161.mpr (s162_163.mpr (s162_165.mpr ?_))))
                          refine (s162_167 (by omega)).mpr ?_
                          refine c_join hw hv ?_
                          simp only [kon, knt_some, knt_none, Option.toList_some, Option.toList_none, List.cons_append, List.nil_append, e8]
                          refine s162_170.mpr (s162_172.mpr (s162_174.mpr ?_))
                          refine s162_176.mpr (wif (fun c176 => ?_) (fun c176 => ?_))
                          · first
                            | (exfalso; omega)
                            | skip
                              exfalso; omega
                          · first
                            | (exfalso; omega)
                            | skip
                              exact E
                  · first
                    | (exfalso; omega)
                    | skip
                      refine s162_130.mpr ?_
                      refine (s162_131 (by first | decide | assumption | omega)).mpr ?_
                      refine s162_134.mpr (s162_136.mpr (s162_138.mpr ?_))
                      try simp (disch := first | decide | assumption | omega) only [kon, knt_some, knt_none, Option.toList_some, Option.toList_none, List.cons_append, List.nil_append, r1, r2, hk, e84, e12, fSub_id, e9, fAdd_id]
                      refine (s162_139 (by first | decide | assumption | omega) (by first | decide | assumption | omega) (by first | decide | assumption | omega)).mpr ?_
                      refine s162_140.mpr (s162_142.mpr ?_)
                      try simp (disch := first | decide | assumption | omega) only [kon, knt_some, knt_none, Option.toList_some, Option.toList_none, List.cons_append, List.nil_append, r1, r2, hk, e84, e12, fSub_id, e9, fAdd_id]
                      refine s162_143.mpr (wif (fun c143 => ?_) (fun c143 => ?_))
                      · first
                        | (exfalso; omega)
                        | skip
                          refine s162_151.mpr ?_
                          refine (s162_152 (by first | decide | assumption | omega)).mpr ?_
                          refine s162_155.mpr (s162_156.mpr ?_)
                          try simp (disch := first | decide | assumption | omega) only [kon, knt_some, knt_none, Option.toList_some, Option.toList_none, List.cons_append, List.nil_append, r1, r2, hk, e84, e12, fSub_id, e9, fAdd_id]
                          refine (s162_158 (by first | decide | assumption | omega) (by first | decide | assumption | omega)).mpr ?_
                          refine r_typeComing hV q0 (by omega) (by omega) (by omega) ?_
                          simp only [kon, knt_some, knt_none, Option.toList_some, Option.toList_none, List.cons_append, List.nil_append, eb2, eB]
                          refine s162_161.mpr (s162_163.mpr (s162_165.mpr ?_))
                          refine (s162_167 (by omega)).mpr ?_
                          refine c_join hw hv ?_
                          simp only [kon, knt_some, knt_none, Option.toList_some, Option.toList_none, List.cons_append, List.nil_append, e8]
                          refine s162_170.mpr (s162_172.mpr (s162_174.mpr ?_))
                          refine s162_176.mpr (wif (fun c176 => ?_) (fun c176 => ?_))
                          · first
                            | (exfalso; omega)
                            | skip
                              exfalso; omega
                          · first
                            | (exfalso; omega)
                            | skip
                              exact E
                      · first
                        | (exfalso; omega)
                        | skip
                          refine s162_146.mpr (s162_148.mpr (s162_161.mpr (s162_163.mpr (s162_165.mpr ?_))))
                          refine (s162_167 (by omega)).mpr ?_
                          refine c_join hw hv ?_
                          simp only [kon, knt_some, knt_none, Option.toList_some, Option.toList_none, List.cons_append, List.nil_append, e8]
                          refine s162_170.mpr (s162_172.mpr (s162_174.mpr ?_))
                          refine s162_176.mpr (wif (fun c176 => ?_) (fun c176 => ?_))
                          · first
                            | (exfalso; omega)
                            | skip
                              exfalso; omega
                          · first
                            | (exfalso; omega)
                            | skip
                              exact E
              · first
                | (exfalso; omega)
                | skip
                  refine s162_106.mpr (s162_108.mpr ?_)
                  refine s162_110.mpr (wif (fun c110 => ?_) (fun c110 => ?_))
                  · first
                    | (exfalso; omega)
                    | skip
                      refine s162_244.mpr (s162_247.mpr ?_)
                      try simp (disch := first | decide | assumption | omega) only [kon, knt_some, knt_none, Option.toList_some, Option.toList_none, List.cons_append, List.nil_append, r1, r2, hk, e84, e12, fSub_id, e9, fAdd_id]
                      exfalso; omega
                  · first
                    | (exfalso; omega)
                    | skip
                      refine s162_113.mpr (s162_115.mpr ?_)
                      refine s162_117.mpr (wif (fun c117 => ?_) (fun c117 => ?_))
                      · first
                        | (exfalso; omega)
                        | skip
                          refine s162_120.mpr ?_
                          refine (s162_121 (by first | decide | assumption | omega)).mpr ?_
                          refine s162_124.mpr ?_
                          try simp (disch := first | decide | assumption | omega) only [kon, knt_some, knt_none, Option.toList_some, Option.toList_none, List.cons_append, List.nil_append, r1, r2, hk, e84, e12, fSub_id, e9, fAdd_id]
                          refine (s162_126 (by first | decide | assumption | omega) (by first | decide | assumption | omega) (by first | decide | assumption | omega)).mpr ?_
                          refine s162_127.mpr (s162_140.mpr (s162_142.mpr ?_))
                          try simp (disch := first | decide | assumption | omega) only [kon, knt_some, knt_none, Option.toList_some, Option.toList_none, List.cons_append, List.nil_append, r1, r2, hk, e84, e12, fSub_id, e9, fAdd_id]
                          refine s162_143.mpr (wif (fun c143 => ?_) (fun c143 => ?_))
                          · first
                            | (exfalso; omega)
                            | skip
                              refine s162_151.mpr ?_
                              refine (s162_152 (by first | decide | assumption | omega)).mpr ?_
                              refine s162_155.mpr (s162_156.mpr ?_)
                              try simp (disch := first | decide | assumption | omega) only [kon, knt_some, knt_none, Option.toList_some, Option.toList_none, List.cons_append, List.nil_append, r1, r2, hk, e84, e12, fSub_id, e9, fAdd_id]
                              refine (s162_158 (by first | decide | assumption | omega) (by first | decide | assumption | omega)).mpr ?_
                              refine r_typeComing hV q0 (by omega) (by omega) (by omega) ?_
                              simp only [kon, knt_some, knt_none, Option.toList_some, Option.toList_none, List.cons_append, List.nil_append, eb2, eB]
                              refine s162_161.mpr (s162_163.mpr (s162_165.mpr ?_))
                              refine (s162_167 (by omega)).mpr ?_
                              refine c_join hw hv ?_
                              simp only [kon, knt_some, knt_none, Option.toList_some, Option.toList_none, List.cons_append, List.nil_append, e8]
                              refine s162_170.mpr (s162_172.mpr (s162_174.mpr ?_))
                              refine s162_176.mpr (wif (fun c176 => ?_) (fun c176 => ?_))
                              · first
                                | (exfalso; omega)
                                | skip
                                  exfalso; omega
                              · first
                                | (exfalso; omega)
                                | skip
                                  exact E
                          · first
                            | (exfalso; omega)
                            | skip
                              refine s162_146.mpr (s162_148.mpr (s162_161.mpr (s162_163.mpr (s162_165.mpr ?_))))
                              refine (s162_167 (by omega)).mpr ?_
                              refine c_join hw hv ?_
                              simp only [kon, knt_some, knt_none, Option.toList_some, Option.toList_none, List.cons_append, List.nil_append, e8]
                              refine s162_170.mpr (s162_172.mpr (s162_174.mpr ?_))
                              refine s162_176.mpr (wif (fun c176 => ?_) (fun c176 => ?_))
                              · first
                                | (exfalso; omega)
                                | skip
                                  exfalso; omega
                              · first
                                | (exfalso; omega)
                                | skip
                                  exact E
                      · first
                        | (exfalso; omega)
                        | skip
                          refine s162_130.mpr ?_
                          refine (s162_131 (by first | decide | assumption | omega)).mpr ?_
                          refine s162_134.mpr (s162_136.mpr (s162_138.mpr ?_))
                          try simp (disch := first | decide | assumption | omega) only [kon, knt_some, knt_none, Option.toList_some, Option.toList_none, List.cons_append, List.nil_append, r1, r2, hk, e84, e12, fSub_id, e9, fAdd_id]
                          refine (s162_139 (by first | decide | assumption | omega) (by first | decide | assumption | omega) (by first | decide | assumption | omega)).mpr ?_
                          refine s162_140.mpr (s162_142.mpr ?_)
                          try simp (disch := first | decide | assumption | omega) only [kon, knt_some, knt_none, Option.toList_some, Option.toList_none, List.cons_append, List.nil_append, r1, r2, hk, e84, e12, fSub_id, e9, fAdd_id]
                          refine s162_143.mpr (wif (fun c143 => ?_) (fun c143 => ?_))
                          · first
                            | (exfalso; omega)
                            | skip
                              refine s162_151.mpr ?_
                              refine (s162_152 (by first | decide | assumption | omega)).mpr ?_
                              refine s162_155.mpr (s162_156.mpr ?_)
                              try simp (disch := first | decide | assumption | omega) only [kon, knt_some, knt_none, Option.toList_some, Option.toList_none, List.cons_append, List.nil_append, r1, r2, hk, e84, e12, fSub_id, e9, fAdd_id]
                              refine (s162_158 (by first | decide | assumption | omega) (by first | decide | assumption | omega)).mpr ?_
                              refine r_typeComing hV q0 (by omega) (by omega) (by omega) ?_
                              simp only [kon, knt_some, knt_none, Option.toList_some, Option.toList_none, List.cons_append, List.nil_append, eb2, eB]
                              refine s162_161.mpr (s162_163.mpr (s162_165.mpr ?_))
                              refine (s162_167 (by omega)).mpr ?_
                              refine c_join hw hv ?_
                              simp only [kon, knt_some, knt_none, Option.toList_some, Option.toList_none, List.cons_append, List.nil_append, e8]
                              refine s162_170.mpr (s162_172.mpr (s162_174.mpr ?_))
                              refine s162_176.mpr (wif (fun c176 => ?_) (fun c176 => ?_))
                              · first
                                | (exfalso; omega)
                                | skip
                                  exfalso; omega
                              · first
                                | (exfalso; omega)
                                | skip
                                  exact E
                          · first
                            | (exfalso; omega)
                            | skip
                              refine s162_146.mpr (s162_148.mpr (s162_161.mpr (s162_163.mpr (s162_165.mpr ?_))))
                              refine (s162_167 (by omega)).mpr ?_
                              refine c_join hw hv ?_
                              simp only [kon, knt_some, knt_none, Option.toList_some, Option.toList_none, List.cons_append, List.nil_append, e8]
                              refine s162_170.mpr (s162_172.mpr (s162_174.mpr ?_))
                              refine s162_176.mpr (wif (fun c176 => ?_) (fun c176 => ?_))
                              · first
                                | (exfalso; omega)
                                | skip
                                  exfalso; omega
                              · first
                                | (exfalso; omega)
                                | skip
                                  exact E
          · first
            | (exfalso; omega)
            | skip
              refine s162_250.mpr ?_
              refine s162_251.mpr (wif (fun c251 => ?_) (fun c251 => ?_))
              · first
                | (exfalso; omega)
                | skip
                  refine (s162_266).mpr ?_
                  exfalso; omega
              · first
                | (exfalso; omega)
                | skip
                  refine s162_254.mpr ?_
                  refine (s162_255 (by first | decide | assumption | omega)).mpr ?_
                  refine s162_258.mpr (s162_259.mpr ?_)
                  try simp (disch := first | decide | assumption | omega) only [kon, knt_some, knt_none, Option.toList_some, Option.toList_none, List.cons_append, List.nil_append, r1, r2, hk, e84, e12, fSub_id, e9, fAdd_id]
                  refine (s162_260Z (by first | decide | assumption | omega) (by first | decide | assumption | omega) (by first | decide | assumption | omega)).mpr ?_
                  refine s162_261.mpr (s162_262.mpr ?_)
                  try simp (disch := first | decide | assumption | omega) only [kon, knt_some, knt_none, Option.toList_some, Option.toList_none, List.cons_append, List.nil_append, r1, r2, hk, e84, e12, fSub_id, e9, fAdd_id]
                  refine (s162_263 (by first | decide | assumption | omega) (by first | decide | assumption | omega)).mpr ?_
                  refine (s162_266).mpr ?_
                  exfalso; omega
      · skip
        refine s162_90.mpr (s162_92.mpr ?_)
        refine s162_94.mpr (wif (fun c94 => ?_) (fun c94 => ?_))
        · first
          | (exfalso; omega)
          | skip
            refine s162_97.mpr (s162_99.mpr ?_)
            refine (s162_100 (by first | decide | assumption | omega)).mpr ?_
            try simp (disch := first | decide | assumption | omega) only [kon, knt_some, knt_none, Option.toList_some, Option.toList_none, List.cons_append, List.nil_append, e84, fAdd_id]
            refine s162_103.mpr (wif (fun c103 => ?_) (fun c103 => ?_))
            · first
              | (exfalso; omega)
              | skip
                exfalso; omega
            · first
              | (exfalso; omega)
              | skip
                refine s162_106.mpr (s162_108.mpr ?_)
                refine s162_110.mpr (wif (fun c110 => ?_) (fun c110 => ?_))
                · first
                  | (exfalso; omega)
                  | skip
                    refine s162_244.mpr (s162_247.mpr ?_)
                    try simp (disch := first | decide | assumption | omega) only [kon, knt_some, knt_none, Option.toList_some, Option.toList_none, List.cons_append, List.nil_append, e84, fAdd_id]
                    refine nx _ _ ⟨dv, ⟨_, _, _, rfl⟩, hf, fun k k0 k1 kr => ?_, fun k k1 => hu k (by omega), ?_⟩
                    · refine hc k k0 ?_ kr
                      unfold relK at kr; omega
                    · rcases hdv with ⟨y1, y2⟩ | ⟨y1, k, y2, y3, y4, y5⟩
                      · exact Or.inl ⟨y1, fun k k0 k1 kr => y2 k k0 (by unfold relK at kr; omega) kr⟩
                      · exact Or.inr ⟨y1, k, y2, by omega, y4, y5⟩
                · first
                  | (exfalso; omega)
                  | skip
                    exfalso; omega
        · first
          | (exfalso; omega)
          | skip
            refine s162_250.mpr ?_
            refine s162_251.mpr (wif (fun c251 => ?_) (fun c251 => ?_))
            · first
              | (exfalso; omega)
              | skip
                refine (s162_266).mpr ?_
                exfalso; omega
            · first
              | (exfalso; omega)
              | skip
                refine s162_254.mpr ?_
                refine (s162_255 (by first | decide | assumption | omega)).mpr ?_
                refine s162_258.mpr (s162_259.mpr ?_)
                try simp (disch := first | decide | assumption | omega) only [kon, knt_some, knt_none, Option.toList_some, Option.toList_none, List.cons_append, List.nil_append, e84, fAdd_id]
                refine (s162_260Z (by first | decide | assumption | omega) (by first | decide | assumption | omega) (by first | decide | assumption | omega)).mpr ?_
                refine s162_261.mpr (s162_262.mpr ?_)
                try simp (disch := first | decide | assumption | omega) only [kon, knt_some, knt_none, Option.toList_some, Option.toList_none, List.cons_append, List.nil_append, e84, fAdd_id]
                refine (s162_263 (by first | decide | assumption | omega) (by first | decide | assumption | omega)).mpr ?_
                refine (s162_266).mpr ?_
                exfalso; omega
  · rintro ls h2 ⟨dv, ⟨l5, l6, l7, rfl⟩, hf, hc, hu, hdv⟩
    have hJ : jOK Y X := ⟨hXY, fun k k0 k1 => (hc k k0 (by omega) (Or.inl (by omega))).2.1 (by omega), fun k k0 k1 e => by
      have := (hc (16 + k) (by omega) (by omega) (Or.inr (by omega))).2.2 (by omega)
      rw [show 16 + k - 16 = k by omega] at this
      exact this e⟩
    have E := ok h2 dv hJ hf (fun k k0 k1 kr => (hc k k0 (by omega) kr).1) hdv
    rcases hdv with ⟨rfl, -⟩ | ⟨rfl, -⟩
    · rw [if_pos rfl] at E
      refine s162_90.mpr (s162_92.mpr ?_)
      refine s162_94.mpr (wif (fun c94 => ?_) (fun c94 => ?_))
      · first
        | (exfalso; omega)
        | skip
          exfalso; omega
      · first
        | (exfalso; omega)
        | skip
          refine s162_250.mpr ?_
          refine s162_251.mpr (wif (fun c251 => ?_) (fun c251 => ?_))
          · first
            | (exfalso; omega)
            | skip
              refine (s162_266).mpr ?_
              first | exact E | (exfalso; omega)
          · first
            | (exfalso; omega)
            | skip
              refine s162_254.mpr ?_
              refine (s162_255 (by first | decide | assumption | omega)).mpr ?_
              refine s162_258.mpr (s162_259.mpr ?_)
              try simp (disch := first | decide | assumption | omega) only [r3, e1]
              refine (s162_260Z (by first | decide | assumption | omega) (by first | decide | assumption | omega) (by first | decide | assumption | omega)).mpr ?_
              refine s162_261.mpr (s162_262.mpr ?_)
              try simp (disch := first | decide | assumption | omega) only [r3, e1]
              refine (s162_263 (by first | decide | assumption | omega) (by first | decide | assumption | omega)).mpr ?_
              refine (s162_266).mpr ?_
              first | exact E | (exfalso; omega)
    · rw [if_neg (by decide)] at E
      refine s162_90.mpr (s162_92.mpr ?_)
      refine s162_94.mpr (wif (fun c94 => ?_) (fun c94 => ?_))
      · first
        | (exfalso; omega)
        | skip
          exfalso; omega
      · first
        | (exfalso; omega)
        | skip
          refine s162_250.mpr ?_
          refine s162_251.mpr (wif (fun c251 => ?_) (fun c251 => ?_))
          · first
            | (exfalso; omega)
            | skip
              refine (s162_266).mpr ?_
              first | exact E | (exfalso; omega)
          · first
            | (exfalso; omega)
            | skip
              refine s162_254.mpr ?_
              refine (s162_255 (by first | decide | assumption | omega)).mpr ?_
              refine s162_258.mpr (s162_259.mpr ?_)
              try simp (disch := first | decide | assumption | omega) only [r3, e1]
              refine (s162_260Z (by first | decide | assumption | omega) (by first | decide | assumption | omega) (by first | decide | assumption | omega)).mpr ?_
              refine s162_261.mpr (s162_262.mpr ?_)
              try simp (disch := first | decide | assumption | omega) only [r3, e1]
              refine (s162_263 (by first | decide | assumption | omega) (by first | decide | assumption | omega)).mpr ?_
              refine (s162_266).mpr ?_
              first | exact E | (exfalso; omega)
end CV4
