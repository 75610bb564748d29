section CV2
variable {d : Nat} {al : AL} {hi : HI} {hr : HR} {Q : QQ} {B : Int → Int} {N t H C : Nat} {l : Int}
/-- the rows of what comes stand -/
def RV (al : AL) (hr : HR) (t H C : Nat) (l : Int) : Prop := isK al (t + 1) 8 ∧ (hr (t + 1) 8 = some H ∧ isK al H 15 ∧ (aln al H : Int) = l) ∧ (hr (t + 1) 9 = some C ∧ isK al C 15 ∧ (aln al C : Int) = 26 * l) ∧ H ≠ C ∧ 119 ≤ t ∧ 119 ≤ H ∧ 119 ≤ C ∧ 0 ≤ l ∧ l ≤ 240
theorem r_heightAt {p : Int} (hV : RV al hr t H C l) (q : Q (some (some (vI (if p < 0 ∨ l ≤ p then -1 else hi H p)))) al hi hr) : Ev d 111 [vR (some (t + 1)), vI p] al hi hr Q := by
  obtain ⟨kt, ⟨h1, kH, lH⟩, ⟨c1, kC, lC⟩, hHC, t119, H119, C119, l0, l240⟩ := id hV; have rH : isR al H = true := isR_of kH (by decide) (by decide); have rC : isR al C = true := isR_of kC (by decide) (by decide); have nH : t + 1 ≠ H := isK_ne kt kH (by decide); have nC : t + 1 ≠ C := isK_ne kt kC (by decide)
  rw [e111]
  refine s111_0.mpr ?_
  refine (s111_1 (by first | decide | assumption | omega)).mpr ?_
  try simp (disch := first | decide | assumption | omega) only [h1]
  refine s111_4.mpr (wif (fun c4 => ?_) (fun c4 => ?_))
  · skip
    first | (exfalso; cases (‹some H = none›)) | (refine s111_20.mpr ?_; refine s111_21.mpr ?_; refine s111_30.mpr ?_; rw [if_pos (by omega)] at q; exact q)
  · skip
    refine s111_7.mpr ?_
    refine s111_8.mpr (wif (fun c8 => ?_) (fun c8 => ?_))
    · skip
      first | (exfalso; cases (‹some H = none›)) | (refine s111_20.mpr ?_; refine s111_21.mpr ?_; refine s111_30.mpr ?_; rw [if_pos (by omega)] at q; exact q)
    · skip
      refine s111_11.mpr (s111_12.mpr ?_)
      refine (s111_13 (by first | decide | assumption | omega)).mpr ?_
      try simp (disch := first | decide | assumption | omega) only [h1]
      refine (s111_16 (by first | decide | assumption | omega)).mpr ?_
      refine s111_17.mpr (wif (fun c17 => ?_) (fun c17 => ?_))
      · skip
        refine s111_24.mpr ?_
        refine (s111_25 (by first | decide | assumption | omega)).mpr ?_
        refine s111_28.mpr ?_
        try simp (disch := first | decide | assumption | omega) only [h1]
        refine (s111_29 (by first | decide | assumption | omega) (by first | decide | assumption | omega) (by first | decide | assumption | omega)).mpr ?_
        try simp (disch := first | decide | assumption | omega) only [h1]
        refine (s111_30).mpr ?_
        rw [if_neg (by omega)] at q; exact q
      · skip
        first | (exfalso; cases (‹some H = none›)) | (refine s111_20.mpr ?_; refine s111_21.mpr ?_; refine s111_30.mpr ?_; rw [if_pos (by omega)] at q; exact q)
theorem r_setHeight {p x : Int} (hV : RV al hr t H C l) (p0 : 0 ≤ p) (p1 : p < l) (q : Q (some none) al (upI (upI hi H p x) (t + 1) 6 (fMax (hi (t + 1) 6) x)) hr) : Ev d 112 [vR (some (t + 1)), vI p, vI x] al hi hr Q := by
  obtain ⟨kt, ⟨h1, kH, lH⟩, ⟨c1, kC, lC⟩, hHC, t119, H119, C119, l0, l240⟩ := id hV; have rH : isR al H = true := isR_of kH (by decide) (by decide); have rC : isR al C = true := isR_of kC (by decide) (by decide); have nH : t + 1 ≠ H := isK_ne kt kH (by decide); have nC : t + 1 ≠ C := isK_ne kt kC (by decide)
  have u6 : ∀ y z, (upI hi H y z) (t + 1) 6 = hi (t + 1) 6 := fun y z => upI_a nH
  rw [e112]
  refine s112_0.mpr ?_
  refine (s112_1 (by first | decide | assumption | omega)).mpr ?_
  try simp (disch := first | decide | assumption | omega) only [h1, u6]
  refine s112_4.mpr (wif (fun c4 => ?_) (fun c4 => ?_))
  · skip
    first | (exfalso; cases (‹some H = none›)) | (exfalso; omega) | (refine s112_39.mpr ?_; exact q)
  · skip
    refine s112_7.mpr ?_
    refine s112_8.mpr (wif (fun c8 => ?_) (fun c8 => ?_))
    · first
      | (exfalso; omega)
      | skip
        first | (exfalso; cases (‹some H = none›)) | (exfalso; omega) | (refine s112_39.mpr ?_; exact q)
    · first
      | (exfalso; omega)
      | skip
        refine s112_11.mpr (s112_12.mpr ?_)
        refine (s112_13 (by first | decide | assumption | omega)).mpr ?_
        try simp (disch := first | decide | assumption | omega) only [h1, u6]
        refine (s112_16 (by first | decide | assumption | omega)).mpr ?_
        refine s112_17.mpr (wif (fun c17 => ?_) (fun c17 => ?_))
        · first
          | (exfalso; omega)
          | skip
            refine s112_20.mpr ?_
            refine (s112_21 (by first | decide | assumption | omega)).mpr ?_
            refine s112_24.mpr (s112_25.mpr ?_)
            try simp (disch := first | decide | assumption | omega) only [h1, u6]
            refine (s112_26 (by first | decide | assumption | omega) (by first | decide | assumption | omega) (by first | decide | assumption | omega)).mpr ?_
            refine s112_27.mpr (s112_28.mpr ?_)
            try simp (disch := first | decide | assumption | omega) only [h1, u6]
            refine (s112_29 (by first | decide | assumption | omega)).mpr ?_
            refine s112_32.mpr (s112_33.mpr ?_)
            try simp (disch := first | decide | assumption | omega) only [h1, u6]
            refine (s112_36 (by first | decide | assumption | omega)).mpr ?_
            try simp (disch := first | decide | assumption | omega) only [h1, u6]
            first | (exfalso; cases (‹some H = none›)) | (exfalso; omega) | (refine s112_39.mpr ?_; exact q)
        · first
          | (exfalso; omega)
          | skip
            first | (exfalso; cases (‹some H = none›)) | (exfalso; omega) | (refine s112_39.mpr ?_; exact q)
theorem r_typeComing {p s : Int} (hV : RV al hr t H C l) (p0 : 0 ≤ p) (p1 : p < 1000) (s0 : 0 ≤ s) (s1 : s < 26) (q : Q (some (some (vI (if l ≤ p then 7 else hi C (26 * p + s))))) al hi hr) : Ev d 113 [vR (some (t + 1)), vI p, vI s] al hi hr Q := by
  obtain ⟨kt, ⟨h1, kH, lH⟩, ⟨c1, kC, lC⟩, hHC, t119, H119, C119, l0, l240⟩ := id hV; have rH : isR al H = true := isR_of kH (by decide) (by decide); have rC : isR al C = true := isR_of kC (by decide) (by decide); have nH : t + 1 ≠ H := isK_ne kt kH (by decide); have nC : t + 1 ≠ C := isK_ne kt kC (by decide)
  have e9 : fAdd (fMul p 26) s = 26 * p + s := by rw [fMul_id (by omega) (by omega), fAdd_id (by omega) (by omega)]; omega
  rw [e113]
  refine s113_0.mpr (s113_1.mpr (s113_3.mpr (s113_4.mpr (s113_5.mpr (s113_6.mpr ?_)))))
  refine s113_7.mpr ?_
  try simp (disch := first | decide | assumption | omega) only [c1, e9]
  refine (s113_8 (by first | decide | assumption | omega)).mpr ?_
  try simp (disch := first | decide | assumption | omega) only [c1, e9]
  refine s113_11.mpr (wif (fun c11 => ?_) (fun c11 => ?_))
  · skip
    first | (exfalso; cases (‹some C = none›)) | (refine s113_27.mpr ?_; refine s113_29.mpr ?_; refine s113_38.mpr ?_; rw [if_pos (by omega)] at q; exact q)
  · skip
    refine s113_14.mpr ?_
    refine s113_15.mpr (wif (fun c15 => ?_) (fun c15 => ?_))
    · first
      | (exfalso; omega)
      | skip
        first | (exfalso; cases (‹some C = none›)) | (refine s113_27.mpr ?_; refine s113_29.mpr ?_; refine s113_38.mpr ?_; rw [if_pos (by omega)] at q; exact q)
    · first
      | (exfalso; omega)
      | skip
        refine s113_18.mpr (s113_19.mpr ?_)
        refine (s113_20 (by first | decide | assumption | omega)).mpr ?_
        try simp (disch := first | decide | assumption | omega) only [c1, e9]
        refine (s113_23 (by first | decide | assumption | omega)).mpr ?_
        refine s113_24.mpr (wif (fun c24 => ?_) (fun c24 => ?_))
        · first
          | (exfalso; omega)
          | skip
            refine s113_32.mpr ?_
            refine (s113_33 (by first | decide | assumption | omega)).mpr ?_
            refine s113_36.mpr ?_
            try simp (disch := first | decide | assumption | omega) only [c1, e9]
            refine (s113_37 (by first | decide | assumption | omega) (by first | decide | assumption | omega) (by first | decide | assumption | omega)).mpr ?_
            try simp (disch := first | decide | assumption | omega) only [c1, e9]
            refine (s113_38).mpr ?_
            rw [if_neg (by omega)] at q; exact q
        · first
          | (exfalso; omega)
          | skip
            first | (exfalso; cases (‹some C = none›)) | (refine s113_27.mpr ?_; refine s113_29.mpr ?_; refine s113_38.mpr ?_; rw [if_pos (by omega)] at q; exact q)
theorem r_setComing {p s x : Int} (hV : RV al hr t H C l) (p0 : 0 ≤ p) (p1 : p < l) (s0 : 0 ≤ s) (s1 : s < 26) (q : Q (some none) al (upI hi C (26 * p + s) x) hr) : Ev d 114 [vR (some (t + 1)), vI p, vI s, vI x] al hi hr Q := by
  obtain ⟨kt, ⟨h1, kH, lH⟩, ⟨c1, kC, lC⟩, hHC, t119, H119, C119, l0, l240⟩ := id hV; have rH : isR al H = true := isR_of kH (by decide) (by decide); have rC : isR al C = true := isR_of kC (by decide) (by decide); have nH : t + 1 ≠ H := isK_ne kt kH (by decide); have nC : t + 1 ≠ C := isK_ne kt kC (by decide)
  have e9 : fAdd (fMul p 26) s = 26 * p + s := by rw [fMul_id (by omega) (by omega), fAdd_id (by omega) (by omega)]; omega
  rw [e114]
  refine s114_0.mpr (s114_1.mpr (s114_3.mpr (s114_4.mpr (s114_5.mpr (s114_6.mpr ?_)))))
  refine s114_8.mpr ?_
  try simp (disch := first | decide | assumption | omega) only [c1, e9]
  refine (s114_9 (by first | decide | assumption | omega)).mpr ?_
  try simp (disch := first | decide | assumption | omega) only [c1, e9]
  refine s114_12.mpr (wif (fun c12 => ?_) (fun c12 => ?_))
  · skip
    first | (exfalso; cases (‹some C = none›)) | (exfalso; omega) | (refine s114_38.mpr ?_; exact q)
  · skip
    refine s114_15.mpr ?_
    refine s114_17.mpr (wif (fun c17 => ?_) (fun c17 => ?_))
    · first
      | (exfalso; omega)
      | skip
        first | (exfalso; cases (‹some C = none›)) | (exfalso; omega) | (refine s114_38.mpr ?_; exact q)
    · first
      | (exfalso; omega)
      | skip
        refine s114_20.mpr (s114_22.mpr ?_)
        refine (s114_23 (by first | decide | assumption | omega)).mpr ?_
        try simp (disch := first | decide | assumption | omega) only [c1, e9]
        refine (s114_26 (by first | decide | assumption | omega)).mpr ?_
        refine s114_27.mpr (wif (fun c27 => ?_) (fun c27 => ?_))
        · first
          | (exfalso; omega)
          | skip
            refine s114_30.mpr ?_
            refine (s114_31 (by first | decide | assumption | omega)).mpr ?_
            refine s114_34.mpr (s114_36.mpr ?_)
            try simp (disch := first | decide | assumption | omega) only [c1, e9]
            refine (s114_37 (by first | decide | assumption | omega) (by first | decide | assumption | omega) (by first | decide | assumption | omega)).mpr ?_
            try simp (disch := first | decide | assumption | omega) only [c1, e9]
            first | (exfalso; cases (‹some C = none›)) | (exfalso; omega) | (refine s114_38.mpr ?_; exact q)
        · first
          | (exfalso; omega)
          | skip
            first | (exfalso; cases (‹some C = none›)) | (exfalso; omega) | (refine s114_38.mpr ?_; exact q)
/-- what comes, as the rows have it -/
def MC (A : Asg) (hi : HI) (t H C : Nat) (l : Int) : Prop := (∀ p, 0 ≤ p → p < l → match A p with
  | none => hi H p = -1
  | some X => hi H p = X.1 ∧ 0 ≤ X.1 ∧ X.1 ≤ 16 ∧ (∀ k, 0 ≤ k → k < X.1 → hi C (26 * p + k) = cv (X.2.1 k)) ∧ (∀ k, 0 ≤ k → k < 10 → hi C (26 * p + 16 + k) = cv (X.2.2 k))) ∧ (∀ p, l ≤ p → A p = none) ∧ 0 ≤ hi (t + 1) 6 ∧ (∀ p X, 0 ≤ p → A p = some X → X.1 ≤ hi (t + 1) 6) ∧ hgE A (hi (t + 1) 6)
/-- what an arrival may write -/
def wA (t H C : Nat) (a : Nat) (i : Int) : Prop := (a = 8 ∧ (i = 5 ∨ i = 6)) ∨ a = 13 ∨ a = H ∨ a = C ∨ (a = t + 1 ∧ i = 6)
theorem wA_a {a : Nat} {i : Int} (h1 : a ≠ 8) (h2 : a ≠ 13) (h3 : a ≠ H) (h4 : a ≠ C) (h5 : a ≠ t + 1) : ¬ wA t H C a i := fun q => by unfold wA at q; omega
theorem MC.fr {A : Asg} {hi' : HI} (h : MC A hi t H C l) (h1 : ∀ i, hi' H i = hi H i) (h2 : ∀ i, hi' C i = hi C i) (h3 : hi' (t + 1) 6 = hi (t + 1) 6) : MC A hi' t H C l := by
  obtain ⟨a1, a2, a3, a4, a5⟩ := h
  refine ⟨fun p p0 p1 => ?_, a2, by rw [h3]; exact a3, by rw [h3]; exact a4, by rw [h3]; exact a5⟩
  have := a1 p p0 p1
  cases e : A p with
  | none => rw [e] at this; show hi' H p = -1; rw [h1]; exact this
  | some X =>
    rw [e] at this
    obtain ⟨b1, b2, b3, b4, b5⟩ := this
    exact ⟨by rw [h1]; exact b1, b2, b3, fun k k0 k1 => by rw [h2]; exact b4 k k0 k1, fun k k0 k1 => by rw [h2]; exact b5 k k0 k1⟩
theorem v_arriveW {q : Int} (h : VR al hr) (hs : VS none hi) (W : ∀ hi', VS none hi' → FW (wA t H C) hi hi' → Q (some none) al hi' hr) : Ev d 162 [vR (some 8), vI q] al hi hr Q := by
  have k8 := h.k8
  have h5 := hs.1
  rw [e162]
  refine s162_0.mpr ?_
  refine (s162_1 (by first | decide | assumption | omega)).mpr ?_
  try simp (disch := first | decide | assumption | omega) only [h5]
  refine s162_4.mpr (wif (fun c4 => ?_) (fun c4 => ?_))
  · skip
    exfalso; omega
  · skip
    refine s162_25.mpr (s162_26.mpr ?_)
    refine (s162_27 (by first | decide | assumption | omega) (by first | decide | assumption | omega)).mpr ?_
    refine (s162_30).mpr ?_
    exact W _ hs.w (FW.up FW.rf (Or.inl ⟨rfl, Or.inl rfl⟩))
/-- the end of an arrival, when something is wrong -/
theorem v_arrF {q l2 dv : Int} {l5 l6 l7 : AV} (h : VR al hr) (hV : RV al hr t H C l) (hk : hr 8 8 = some (t + 1)) (hd : 2 ≤ d) (q0 : 0 ≤ q) (q1 : q < l) (hdv : dv = 0 ∨ dv = 1) (hl2 : l2 = 0 ∨ l2 = 1) (i : Nat) (hi26 : i ≤ 26) (hs : VS none hi) (W : ∀ hi', VS none hi' → FW (wA t H C) hi hi' → Q (some none) al hi' hr) : Wp d 162 90 [vR (some 8), vI q, vI l2, vI dv, vI i, l5, l6, l7] [] al hi hr Q := by
  have k8 := h.k8; have k11 := h.k11; have k12 := h.k12; have l11 := h.l11; have l12 := h.l12; have r1 := h.2.2.1; have r2 := h.2.2.2.1
  have k13 := h.k13
  have l13 := h.l13
  have r3 := h.2.2.2.2
  obtain ⟨kt, ⟨h1, kH, lH⟩, ⟨c1, kC, lC⟩, hHC, t119, H119, C119, l0, l240⟩ := id hV; have rH : isR al H = true := isR_of kH (by decide) (by decide); have rC : isR al C = true := isR_of kC (by decide) (by decide); have nH : t + 1 ≠ H := isK_ne kt kH (by decide); have nC : t + 1 ≠ C := isK_ne kt kC (by decide)
  have key : ∀ (m i : Nat) hi1 dv l5 l6 l7, i + m = 26 → (dv = 0 ∨ dv = 1) → VS none hi1 → FW (wA t H C) hi hi1 → Wp d 162 90 [vR (some 8), vI q, vI l2, vI dv, vI i, l5, l6, l7] [] al hi1 hr Q := by
    intro m
    induction m with
    | zero =>
      intro i hi1 dv l5 l6 l7 hm hdv hs hf
      have e : (i : Int) = 26 := by omega
      rw [e]
      refine s162_90.mpr (s162_92.mpr ?_)
      refine s162_94.mpr (wif (fun c94 => ?_) (fun c94 => ?_))
      · skip
        exfalso; omega
      · skip
        refine s162_250.mpr ?_
        refine s162_251.mpr (wif (fun c251 => ?_) (fun c251 => ?_))
        · skip
          refine (s162_266).mpr ?_
          first | exact W _ hs hf | exact W _ ((hs.up (by decide) (by decide) (by omega)).up (by decide) (by decide) (by omega)) ((hf.up (Or.inr (Or.inl rfl))).up (Or.inl ⟨rfl, Or.inr rfl⟩))
        · skip
          refine s162_254.mpr ?_
          refine (s162_255 (by first | decide | assumption | omega)).mpr ?_
          refine s162_258.mpr (s162_259.mpr ?_)
          try simp (disch := first | decide | assumption | omega) only [r3]
          refine (s162_260Z (by first | decide | assumption | omega) (by first | decide | assumption | omega) (by first | decide | assumption | omega)).mpr ?_
          refine s162_261.mpr (s162_262.mpr ?_)
          try simp (disch := first | decide | assumption | omega) only [r3]
          refine (s162_263 (by first | decide | assumption | omega) (by first | decide | assumption | omega)).mpr ?_
          refine (s162_266).mpr ?_
          first | exact W _ hs hf | exact W _ ((hs.up (by decide) (by decide) (by omega)).up (by decide) (by decide) (by omega)) ((hf.up (Or.inr (Or.inl rfl))).up (Or.inl ⟨rfl, Or.inr rfl⟩))
    | succ m ih =>
      intro i hi1 dv l5 l6 l7 hm hdv hs hf
      have hh := hs.h
      have T176 : ∀ x5 x6 x7, Wp d 162 172 [vR (some 8), vI q, vI l2, vI dv, vI i, vI x5, vI x6, vI x7] [] al hi1 hr Q := by
        intro x5 x6 x7
        have T215 : ∀ hi2 x7, VS none hi2 → FW wV hi1 hi2 → (hi2 = hi1 ∨ hi2 = upI hi1 8 5 1) → Wp d 162 215 [vR (some 8), vI q, vI l2, vI dv, vI i, vI x5, vI x6, vI x7] [] al hi2 hr Q := by
          intro hi2 x7 hs2 _ he
          have hf2 : FW (wA t H C) hi hi2 := by
            rcases he with rfl | rfl
            · exact hf
            · exact hf.up (Or.inl ⟨rfl, Or.inl rfl⟩)
          refine s162_215.mpr ?_
          refine (s162_216 (by first | decide | assumption | omega)).mpr ?_
          refine s162_219.mpr (s162_220.mpr (s162_222.mpr ?_))
          try simp (disch := first | decide | assumption | omega) only [kon, knt_some, knt_none, Option.toList_some, Option.toList_none, List.cons_append, List.nil_append, hk, fAdd_id]
          refine (s162_224 (by first | decide | assumption | omega) (by first | decide | assumption | omega)).mpr ?_
          refine r_setComing hV q0 q1 (by omega) (by omega) ?_
          refine s162_227.mpr ?_
          refine s162_228.mpr (wif (fun c228 => ?_) (fun c228 => ?_))
          · skip
            refine s162_231.mpr (s162_233.mpr ?_)
            refine s162_235.mpr (wif (fun c235 => ?_) (fun c235 => ?_))
            · skip
              refine s162_242.mpr (s162_243.mpr (s162_244.mpr (s162_247.mpr ?_)))
              try simp (disch := first | decide | assumption | omega) only [kon, knt_some, knt_none, Option.toList_some, Option.toList_none, List.cons_append, List.nil_append, hk, fAdd_id]
              exact ih (i + 1) _ _ _ _ _ (by omega) (by omega) (hs2.up (by omega) (by omega) (by omega)) (hf2.up (Or.inr (Or.inr (Or.inr (Or.inl rfl)))))
            · skip
              refine s162_238.mpr (s162_239.mpr (s162_243.mpr (s162_244.mpr (s162_247.mpr ?_))))
              try simp (disch := first | decide | assumption | omega) only [kon, knt_some, knt_none, Option.toList_some, Option.toList_none, List.cons_append, List.nil_append, hk, fAdd_id]
              exact ih (i + 1) _ _ _ _ _ (by omega) (by omega) (hs2.up (by omega) (by omega) (by omega)) (hf2.up (Or.inr (Or.inr (Or.inr (Or.inl rfl)))))
          · skip
            refine s162_238.mpr (s162_239.mpr (s162_243.mpr (s162_244.mpr (s162_247.mpr ?_))))
            try simp (disch := first | decide | assumption | omega) only [kon, knt_some, knt_none, Option.toList_some, Option.toList_none, List.cons_append, List.nil_append, hk, fAdd_id]
            exact ih (i + 1) _ _ _ _ _ (by omega) (by omega) (hs2.up (by omega) (by omega) (by omega)) (hf2.up (Or.inr (Or.inr (Or.inr (Or.inl rfl)))))
        refine s162_172.mpr (s162_174.mpr ?_)
        refine s162_176.mpr (wif (fun c176 => ?_) (fun c176 => ?_))
        · skip
          refine s162_179.mpr (s162_180.mpr (s162_182.mpr ?_))
          refine s162_184.mpr (wif (fun c184 => ?_) (fun c184 => ?_))
          · skip
            refine s162_207.mpr ?_
            refine (s162_208 (by first | decide | assumption | omega) (by first | decide | assumption | omega)).mpr ?_
            refine v_wantW h hs (fun hi2 s2 f2 e2 => ?_)
            refine s162_211.mpr (s162_213.mpr ?_)
            first | exact T215 _ _ hs FW.rf (Or.inl rfl) | exact T215 _ _ s2 f2 e2
          · skip
            refine s162_187.mpr ?_
            refine (s162_189 (by omega)).mpr ?_
            refine c_isLinear (fun _ => ?_) (fun _ => ?_)
            · skip
              refine s162_192.mpr (wif (fun c192 => ?_) (fun c192 => ?_))
              · skip
                refine s162_195.mpr ?_
                refine (s162_197 (by omega)).mpr ?_
                refine c_isLinear (fun _ => ?_) (fun _ => ?_)
                · skip
                  refine s162_200.mpr (wif (fun c200 => ?_) (fun c200 => ?_))
                  · skip
                    refine s162_203.mpr (s162_204.mpr ?_)
                    refine (s162_208 (by first | decide | assumption | omega) (by first | decide | assumption | omega)).mpr ?_
                    refine v_wantW h hs (fun hi2 s2 f2 e2 => ?_)
                    refine s162_211.mpr (s162_213.mpr ?_)
                    first | exact T215 _ _ hs FW.rf (Or.inl rfl) | exact T215 _ _ s2 f2 e2
                  · skip
                    refine s162_207.mpr ?_
                    refine (s162_208 (by first | decide | assumption | omega) (by first | decide | assumption | omega)).mpr ?_
                    refine v_wantW h hs (fun hi2 s2 f2 e2 => ?_)
                    refine s162_211.mpr (s162_213.mpr ?_)
                    first | exact T215 _ _ hs FW.rf (Or.inl rfl) | exact T215 _ _ s2 f2 e2
                · skip
                  refine s162_200.mpr (wif (fun c200 => ?_) (fun c200 => ?_))
                  · skip
                    refine s162_203.mpr (s162_204.mpr ?_)
                    refine (s162_208 (by first | decide | assumption | omega) (by first | decide | assumption | omega)).mpr ?_
                    refine v_wantW h hs (fun hi2 s2 f2 e2 => ?_)
                    refine s162_211.mpr (s162_213.mpr ?_)
                    first | exact T215 _ _ hs FW.rf (Or.inl rfl) | exact T215 _ _ s2 f2 e2
                  · skip
                    refine s162_207.mpr ?_
                    refine (s162_208 (by first | decide | assumption | omega) (by first | decide | assumption | omega)).mpr ?_
                    refine v_wantW h hs (fun hi2 s2 f2 e2 => ?_)
                    refine s162_211.mpr (s162_213.mpr ?_)
                    first | exact T215 _ _ hs FW.rf (Or.inl rfl) | exact T215 _ _ s2 f2 e2
              · skip
                refine s162_207.mpr ?_
                refine (s162_208 (by first | decide | assumption | omega) (by first | decide | assumption | omega)).mpr ?_
                refine v_wantW h hs (fun hi2 s2 f2 e2 => ?_)
                refine s162_211.mpr (s162_213.mpr ?_)
                first | exact T215 _ _ hs FW.rf (Or.inl rfl) | exact T215 _ _ s2 f2 e2
            · skip
              refine s162_192.mpr (wif (fun c192 => ?_) (fun c192 => ?_))
              · skip
                refine s162_195.mpr ?_
                refine (s162_197 (by omega)).mpr ?_
                refine c_isLinear (fun _ => ?_) (fun _ => ?_)
                · skip
                  refine s162_200.mpr (wif (fun c200 => ?_) (fun c200 => ?_))
                  · skip
                    refine s162_203.mpr (s162_204.mpr ?_)
                    refine (s162_208 (by first | decide | assumption | omega) (by first | decide | assumption | omega)).mpr ?_
                    refine v_wantW h hs (fun hi2 s2 f2 e2 => ?_)
                    refine s162_211.mpr (s162_213.mpr ?_)
                    first | exact T215 _ _ hs FW.rf (Or.inl rfl) | exact T215 _ _ s2 f2 e2
                  · skip
                    refine s162_207.mpr ?_
                    refine (s162_208 (by first | decide | assumption | omega) (by first | decide | assumption | omega)).mpr ?_
                    refine v_wantW h hs (fun hi2 s2 f2 e2 => ?_)
                    refine s162_211.mpr (s162_213.mpr ?_)
                    first | exact T215 _ _ hs FW.rf (Or.inl rfl) | exact T215 _ _ s2 f2 e2
                · skip
                  refine s162_200.mpr (wif (fun c200 => ?_) (fun c200 => ?_))
                  · skip
                    refine s162_203.mpr (s162_204.mpr ?_)
                    refine (s162_208 (by first | decide | assumption | omega) (by first | decide | assumption | omega)).mpr ?_
                    refine v_wantW h hs (fun hi2 s2 f2 e2 => ?_)
                    refine s162_211.mpr (s162_213.mpr ?_)
                    first | exact T215 _ _ hs FW.rf (Or.inl rfl) | exact T215 _ _ s2 f2 e2
                  · skip
                    refine s162_207.mpr ?_
                    refine (s162_208 (by first | decide | assumption | omega) (by first | decide | assumption | omega)).mpr ?_
                    refine v_wantW h hs (fun hi2 s2 f2 e2 => ?_)
                    refine s162_211.mpr (s162_213.mpr ?_)
                    first | exact T215 _ _ hs FW.rf (Or.inl rfl) | exact T215 _ _ s2 f2 e2
              · skip
                refine s162_207.mpr ?_
                refine (s162_208 (by first | decide | assumption | omega) (by first | decide | assumption | omega)).mpr ?_
                refine v_wantW h hs (fun hi2 s2 f2 e2 => ?_)
                refine s162_211.mpr (s162_213.mpr ?_)
                first | exact T215 _ _ hs FW.rf (Or.inl rfl) | exact T215 _ _ s2 f2 e2
        · skip
          first | exact T215 _ _ hs FW.rf (Or.inl rfl) | exact T215 _ _ s2 f2 e2
      refine s162_90.mpr (s162_92.mpr ?_)
      refine s162_94.mpr (wif (fun c94 => ?_) (fun c94 => ?_))
      · first
        | (exfalso; omega)
        | skip
          refine s162_97.mpr (s162_99.mpr ?_)
          refine (s162_100 (by first | decide | assumption | omega)).mpr ?_
          try simp (disch := first | decide | assumption | omega) only [kon, knt_some, knt_none, Option.toList_some, Option.toList_none, List.cons_append, List.nil_append, r1, r2, hk, fSub_id, fAdd_id]
          refine s162_103.mpr (wif (fun c103 => ?_) (fun c103 => ?_))
          · first
            | (exfalso; omega)
            | skip
              refine s162_113.mpr (s162_115.mpr ?_)
              refine s162_117.mpr (wif (fun c117 => ?_) (fun c117 => ?_))
              · first
                | (exfalso; omega)
                | skip
                  refine s162_120.mpr ?_
                  refine (s162_121 (by first | decide | assumption | omega)).mpr ?_
                  refine s162_124.mpr ?_
                  try simp (disch := first | decide | assumption | omega) only [kon, knt_some, knt_none, Option.toList_some, Option.toList_none, List.cons_append, List.nil_append, r1, r2, hk, fSub_id, fAdd_id]
                  refine (s162_126 (by first | decide | assumption | omega) (by first | decide | assumption | omega) (by first | decide | assumption | omega)).mpr ?_
                  refine s162_127.mpr (s162_140.mpr (s162_142.mpr ?_))
                  try simp (disch := first | decide | assumption | omega) only [kon, knt_some, knt_none, Option.toList_some, Option.toList_none, List.cons_append, List.nil_append, r1, r2, hk, fSub_id, fAdd_id]
                  refine s162_143.mpr (wif (fun c143 => ?_) (fun c143 => ?_))
                  · first
                    | (exfalso; omega)
                    | skip
                      refine s162_151.mpr ?_
                      refine (s162_152 (by first | decide | assumption | omega)).mpr ?_
                      refine s162_155.mpr (s162_156.mpr ?_)
                      try simp (disch := first | decide | assumption | omega) only [kon, knt_some, knt_none, Option.toList_some, Option.toList_none, List.cons_append, List.nil_append, r1, r2, hk, fSub_id, fAdd_id]
                      refine (s162_158 (by first | decide | assumption | omega) (by first | decide | assumption | omega)).mpr ?_
                      refine r_typeComing hV q0 (by omega) (by omega) (by omega) ?_
                      refine s162_161.mpr (s162_163.mpr (s162_165.mpr ?_))
                      refine (s162_167 (by omega)).mpr ?_
                      refine c_joinW (fun x7 => ?_)
                      refine s162_170.mpr ?_
                      exact T176 _ _ _
                  · first
                    | (exfalso; omega)
                    | skip
                      refine s162_146.mpr (s162_148.mpr (s162_161.mpr (s162_163.mpr (s162_165.mpr ?_))))
                      refine (s162_167 (by omega)).mpr ?_
                      refine c_joinW (fun x7 => ?_)
                      refine s162_170.mpr ?_
                      exact T176 _ _ _
              · first
                | (exfalso; omega)
                | skip
                  refine s162_130.mpr ?_
                  refine (s162_131 (by first | decide | assumption | omega)).mpr ?_
                  refine s162_134.mpr (s162_136.mpr (s162_138.mpr ?_))
                  try simp (disch := first | decide | assumption | omega) only [kon, knt_some, knt_none, Option.toList_some, Option.toList_none, List.cons_append, List.nil_append, r1, r2, hk, fSub_id, fAdd_id]
                  refine (s162_139 (by first | decide | assumption | omega) (by first | decide | assumption | omega) (by first | decide | assumption | omega)).mpr ?_
                  refine s162_140.mpr (s162_142.mpr ?_)
                  try simp (disch := first | decide | assumption | omega) only [kon, knt_some, knt_none, Option.toList_some, Option.toList_none, List.cons_append, List.nil_append, r1, r2, hk, fSub_id, fAdd_id]
                  refine s162_143.mpr (wif (fun c143 => ?_) (fun c143 => ?_))
                  · first
                    | (exfalso; omega)
                    | skip
                      refine s162_151.mpr ?_
                      refine (s162_152 (by first | decide | assumption | omega)).mpr ?_
                      refine s162_155.mpr (s162_156.mpr ?_)
                      try simp (disch := first | decide | assumption | omega) only [kon, knt_some, knt_none, Option.toList_some, Option.toList_none, List.cons_append, List.nil_append, r1, r2, hk, fSub_id, fAdd_id]
                      refine (s162_158 (by first | decide | assumption | omega) (by first | decide | assumption | omega)).mpr ?_
                      refine r_typeComing hV q0 (by omega) (by omega) (by omega) ?_
                      refine s162_161.mpr (s162_163.mpr (s162_165.mpr ?_))
                      refine (s162_167 (by omega)).mpr ?_
                      refine c_joinW (fun x7 => ?_)
                      refine s162_170.mpr ?_
                      exact T176 _ _ _
                  · first
                    | (exfalso; omega)
                    | skip
                      refine s162_146.mpr (s162_148.mpr (s162_161.mpr (s162_163.mpr (s162_165.mpr ?_))))
                      refine (s162_167 (by omega)).mpr ?_
                      refine c_joinW (fun x7 => ?_)
                      refine s162_170.mpr ?_
                      exact T176 _ _ _
          · first
            | (exfalso; omega)
            | skip
              refine s162_106.mpr (s162_108.mpr ?_)
              refine s162_110.mpr (wif (fun c110 => ?_) (fun c110 => ?_))
              · first
                | (exfalso; omega)
                | skip
                  refine s162_244.mpr (s162_247.mpr ?_)
                  try simp (disch := first | decide | assumption | omega) only [kon, knt_some, knt_none, Option.toList_some, Option.toList_none, List.cons_append, List.nil_append, r1, r2, hk, fSub_id, fAdd_id]
                  exact ih (i + 1) hi1 dv _ _ _ (by omega) hdv hs hf
              · first
                | (exfalso; omega)
                | skip
                  refine s162_113.mpr (s162_115.mpr ?_)
                  refine s162_117.mpr (wif (fun c117 => ?_) (fun c117 => ?_))
                  · first
                    | (exfalso; omega)
                    | skip
                      refine s162_120.mpr ?_
                      refine (s162_121 (by first | decide | assumption | omega)).mpr ?_
                      refine s162_124.mpr ?_
                      try simp (disch := first | decide | assumption | omega) only [kon, knt_some, knt_none, Option.toList_some, Option.toList_none, List.cons_append, List.nil_append, r1, r2, hk, fSub_id, fAdd_id]
                      refine (s162_126 (by first | decide | assumption | omega) (by first | decide | assumption | omega) (by first | decide | assumption | omega)).mpr ?_
                      refine s162_127.mpr (s162_140.mpr (s162_142.mpr ?_))
                      try simp (disch := first | decide | assumption | omega) only [kon, knt_some, knt_none, Option.toList_some, Option.toList_none, List.cons_append, List.nil_append, r1, r2, hk, fSub_id, fAdd_id]
                      refine s162_143.mpr (wif (fun c143 => ?_) (fun c143 => ?_))
                      · first
                        | (exfalso; omega)
                        | skip
                          refine s162_151.mpr ?_
                          refine (s162_152 (by first | decide | assumption | omega)).mpr ?_
                          refine s162_155.mpr (s162_156.mpr ?_)
                          try simp (disch := first | decide | assumption | omega) only [kon, knt_some, knt_none, Option.toList_some, Option.toList_none, List.cons_append, List.nil_append, r1, r2, hk, fSub_id, fAdd_id]
                          refine (s162_158 (by first | decide | assumption | omega) (by first | decide | assumption | omega)).mpr ?_
                          refine r_typeComing hV q0 (by omega) (by omega) (by omega) ?_
                          refine s162_161.mpr (s162_163.mpr (s162_165.mpr ?_))
                          refine (s162_167 (by omega)).mpr ?_
                          refine c_joinW (fun x7 => ?_)
                          refine s162_170.mpr ?_
                          exact T176 _ _ _
                      · first
                        | (exfalso; omega)
                        | skip
                          refine s162_146.mpr (s162_148.mpr (s162_161.mpr (s162_163.mpr (s162_165.mpr ?_))))
                          refine (s162_167 (by omega)).mpr ?_
                          refine c_joinW (fun x7 => ?_)
                          refine s162_170.mpr ?_
                          exact T176 _ _ _
                  · first
                    | (exfalso; omega)
                    | skip
                      refine s162_130.mpr ?_
                      refine (s162_131 (by first | decide | assumption | omega)).mpr ?_
                      refine s162_134.mpr (s162_136.mpr (s162_138.mpr ?_))
                      try simp (disch := first | decide | assumption | omega) only [kon, knt_some, knt_none, Option.toList_some, Option.toList_none, List.cons_append, List.nil_append, r1, r2, hk, fSub_id, fAdd_id]
                      refine (s162_139 (by first | decide | assumption | omega) (by first | decide | assumption | omega) (by first | decide | assumption | omega)).mpr ?_
                      refine s162_140.mpr (s162_142.mpr ?_)
                      try simp (disch := first | decide | assumption | omega) only [kon, knt_some, knt_none, Option.toList_some, Option.toList_none, List.cons_append, List.nil_append, r1, r2, hk, fSub_id, fAdd_id]
                      refine s162_143.mpr (wif (fun c143 => ?_) (fun c143 => ?_))
                      · first
                        | (exfalso; omega)
                        | skip
                          refine s162_151.mpr ?_
                          refine (s162_152 (by first | decide | assumption | omega)).mpr ?_
                          refine s162_155.mpr (s162_156.mpr ?_)
                          try simp (disch := first | decide | assumption | omega) only [kon, knt_some, knt_none, Option.toList_some, Option.toList_none, List.cons_append, List.nil_append, r1, r2, hk, fSub_id, fAdd_id]
                          refine (s162_158 (by first | decide | assumption | omega) (by first | decide | assumption | omega)).mpr ?_
                          refine r_typeComing hV q0 (by omega) (by omega) (by omega) ?_
                          refine s162_161.mpr (s162_163.mpr (s162_165.mpr ?_))
                          refine (s162_167 (by omega)).mpr ?_
                          refine c_joinW (fun x7 => ?_)
                          refine s162_170.mpr ?_
                          exact T176 _ _ _
                      · first
                        | (exfalso; omega)
                        | skip
                          refine s162_146.mpr (s162_148.mpr (s162_161.mpr (s162_163.mpr (s162_165.mpr ?_))))
                          refine (s162_167 (by omega)).mpr ?_
                          refine c_joinW (fun x7 => ?_)
                          refine s162_170.mpr ?_
                          exact T176 _ _ _
      · first
        | (exfalso; omega)
        | skip
          refine s162_250.mpr ?_
          refine s162_251.mpr (wif (fun c251 => ?_) (fun c251 => ?_))
          · first
            | (exfalso; omega)
            | skip
              refine (s162_266).mpr ?_
              exfalso; omega
          · first
            | (exfalso; omega)
            | skip
              refine s162_254.mpr ?_
              refine (s162_255 (by first | decide | assumption | omega)).mpr ?_
              refine s162_258.mpr (s162_259.mpr ?_)
              try simp (disch := first | decide | assumption | omega) only [kon, knt_some, knt_none, Option.toList_some, Option.toList_none, List.cons_append, List.nil_append, r1, r2, hk, fSub_id, fAdd_id]
              refine (s162_260Z (by first | decide | assumption | omega) (by first | decide | assumption | omega) (by first | decide | assumption | omega)).mpr ?_
              refine s162_261.mpr (s162_262.mpr ?_)
              try simp (disch := first | decide | assumption | omega) only [kon, knt_some, knt_none, Option.toList_some, Option.toList_none, List.cons_append, List.nil_append, r1, r2, hk, fSub_id, fAdd_id]
              refine (s162_263 (by first | decide | assumption | omega) (by first | decide | assumption | omega)).mpr ?_
              refine (s162_266).mpr ?_
              exfalso; omega
  exact key (26 - i) i hi dv l5 l6 l7 (by omega) hdv hs FW.rf
end CV2
