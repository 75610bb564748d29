section CD2
variable {d : Nat} {al : AL} {hi : HI} {hr : HR} {Q : QQ} {B : Int → Int} {N : Nat} {n nm : Int}
theorem tyC_0 {ks no p q : Int} (h : tyP B ks no p = .ok q) : tyC B p = 0 ↔ tyV B p = 0 := by
  obtain ⟨h1, h2, h3⟩ := tyP_v h
  unfold tyC tyV
  by_cases c1 : B p = 255
  · rw [if_pos c1, if_pos c1]
  · rw [if_neg c1, if_neg c1]
    by_cases c2 : B p = 0 ∨ B p = 2
    · rw [if_pos c2, if_pos c2]
    · rw [if_neg c2, if_neg c2]
      by_cases c3 : B p ≠ 5
      · rw [if_pos c3, if_pos c3]
        have := h2 (by omega)
        constructor <;> intro _ <;> omega
      · rw [if_neg c3, if_neg c3]
        have := h2 (by omega)
        have := h3 (by omega)
        constructor <;> intro _ <;> omega
theorem szR_u {a : Nat} {i x : Int} {r : Int} (h : a ≠ N + 1) : szR (upI hi a i x) N r = szR hi N r := by
  unfold szR; rw [upI_a h.symm]
theorem tfR_fw {hi' : HI} (hN : 119 ≤ N) (hf : FW (wY 6) hi hi') (r f : Int) : tfR hi' N r f = tfR hi N r f ∧ szR hi' N r = szR hi N r := by
  have e : szR hi' N r = szR hi N r := by unfold szR; rw [hf (N + 1) r (wY_6 (by omega))]
  exact ⟨by unfold tfR; rw [e, hf (N + 2) _ (wY_6 (by omega))], e⟩
theorem plain_i {r : Int} (h : NF al hi hr N B) (r0 : 0 ≤ r) (r1 : r < nRec B) : (∀ f, 0 ≤ f → f < szR hi N r → tfR hi N r f = 0) ↔ plainR B r := by
  obtain ⟨a1, a2, a3, a4, a5, a6⟩ := h
  have hS := a6.2.2.1 r r0 r1
  have h8 := a6.2.1
  obtain ⟨b1, b2⟩ := a4 r r0 r1
  have e : szR hi N r = nFld B r := by rw [szR_y r0 (by omega), b1]
  have e2 : ∀ f, 0 ≤ f → f < nFld B r → tfR hi N r f = tyC B (pFld B r f) := fun f f0 f1 => by
    unfold tfR
    rw [if_neg (by rw [e]; omega)]
    exact b2 f f0 f1
  rw [e]
  constructor
  · intro q k k0 k1
    have := q k k0 k1
    rw [e2 k k0 k1] at this
    exact (tyC_0 (hS.2.2.2.1 k k0 k1).1).mp this
  · intro q k k0 k1
    rw [e2 k k0 k1]
    exact (tyC_0 (hS.2.2.2.1 k k0 k1).1).mpr (q k k0 k1)
noncomputable def blD (B : Int → Int) (nm lim p : Int) : Ex := @ite _ (p < lim ∧ 0 ≤ B p ∧ (nm = 1 → B p < nRec B ∧ plainR B (B p))) (Classical.propDecidable _) (.ok (p + 1)) (.error p)
theorem naD_ok {lim c p q : Int} (h : naD B nm lim c p = .ok q) : q = p + 1 ∧ p < lim ∧ 0 ≤ B p ∧ (nm = 1 → B p < c) := by
  unfold naD at h
  split at h
  · cases h; exact ⟨rfl, by assumption⟩
  · cases h
theorem naD_er {lim c p q : Int} (h : naD B nm lim c p = .error q) : q = p ∧ ¬ (p < lim ∧ 0 ≤ B p ∧ (nm = 1 → B p < c)) := by
  unfold naD at h
  split at h
  · cases h
  · cases h; exact ⟨rfl, by assumption⟩
theorem d_takeBlockRecord (h : DC al hi hr N n B nm) (hF : nm = 1 → NF al hi hr N B) (hd : 4 ≤ d) (h0 : 0 ≤ hi 6 3)
    (fm : hi 6 4 ≠ 0 → ∀ x, 0 ≤ x → x < 256 → Q (some (some (vI x))) al hi hr)
    (hq : hi 6 4 = 0 → kEx (blD B nm (hi 6 2) (hi 6 3)) (fun p' => Q (some (some (vI (B (hi 6 3))))) al (upI hi 6 3 p') hr) (fun q => ∀ x hi', 0 ≤ x → x < 256 → EF hi hi' q → Q (some (some (vI x))) al hi' hr)) : Ev d 37 [vR (some 5), vR (some N)] al hi hr Q := by
  have h' := h
  obtain ⟨hA, a2, a3, a4, a5, a6, a7, a8, a9⟩ := h
  have k6 : isK al 6 2 := hA.k (by decide) (by decide) rfl
  have k5 : isK al 5 4 := hA.k (by decide) (by decide) rfl
  have kN := a6.1
  have hrg := a5.rg (hi 6 3)
  rw [e37]
  -- behind a fault
  have TE : ∀ x hi' q, 0 ≤ x → x < 256 → FW (wY 6) hi hi' → hi' 6 4 ≠ 0 → (∀ x, 0 ≤ x → x < 256 → Q (some (some (vI x))) al hi' hr) → Wp d 37 17 [vR (some 5), vR (some N), vI q, vI x] [] al hi' hr Q := by
    intro x hi' q x0 x1 hf e4 hq
    have h2 := h'.fw hf
    have a3' := h2.2.2.1
    have a8' := h2.2.2.2.2.2.2.2.1
    refine s37_17.mpr ?_
    refine (s37_18 (by first | decide | assumption | omega)).mpr ?_
    try simp (disch := first | decide | assumption | omega) only [kon, knt_some, knt_none, Option.toList_some, Option.toList_none, List.cons_append, List.nil_append, a2, a3']
    refine s37_21.mpr (wif (fun c21 => ?_) (fun c21 => ?_))
    · skip
      refine s37_41.mpr ?_
      refine (s37_42).mpr ?_
      exact hq x x0 x1
    · skip
      refine s37_24.mpr (s37_25.mpr ?_)
      refine (s37_26 (by first | decide | assumption | omega) (by first | decide | assumption | omega)).mpr ?_
      refine t_hasIntsAlone a6 (by omega) a8' (fun _ => ?_) (fun _ => ?_)
      · skip
        refine s37_29.mpr (wif (fun c29 => ?_) (fun c29 => ?_))
        · skip
          refine s37_32.mpr ?_
          refine (s37_33 (by first | decide | assumption | omega)).mpr ?_
          refine s37_36.mpr (s37_37.mpr ?_)
          try simp (disch := first | decide | assumption | omega) only [kon, knt_some, knt_none, Option.toList_some, Option.toList_none, List.cons_append, List.nil_append, a2, a3']
          refine (s37_38 (by first | decide | assumption | omega) (by first | decide | assumption | omega)).mpr ?_
          refine b_fail k6 (fun q => absurd q e4) (fun _ => ?_)
          refine s37_41.mpr ?_
          refine (s37_42).mpr ?_
          exact hq x x0 x1
        · skip
          refine s37_41.mpr ?_
          refine (s37_42).mpr ?_
          exact hq x x0 x1
      · skip
        refine s37_29.mpr (wif (fun c29 => ?_) (fun c29 => ?_))
        · skip
          refine s37_32.mpr ?_
          refine (s37_33 (by first | decide | assumption | omega)).mpr ?_
          refine s37_36.mpr (s37_37.mpr ?_)
          try simp (disch := first | decide | assumption | omega) only [kon, knt_some, knt_none, Option.toList_some, Option.toList_none, List.cons_append, List.nil_append, a2, a3']
          refine (s37_38 (by first | decide | assumption | omega) (by first | decide | assumption | omega)).mpr ?_
          refine b_fail k6 (fun q => absurd q e4) (fun _ => ?_)
          refine s37_41.mpr ?_
          refine (s37_42).mpr ?_
          exact hq x x0 x1
        · skip
          refine s37_41.mpr ?_
          refine (s37_42).mpr ?_
          exact hq x x0 x1
  by_cases c4 : hi 6 4 = 0
  · have hq := hq c4
    have T17 : hi 6 3 < hi 6 2 → 0 ≤ B (hi 6 3) → (nm = 1 → B (hi 6 3) < hi N 2) → Wp d 37 17 [vR (some 5), vR (some N), vI (hi 6 3), vI (B (hi 6 3))] [] al (upI hi 6 3 (hi 6 3 + 1)) hr Q := by
      intro q1 q2 q3
      have h2 := h'.u3 (p := hi 6 3 + 1)
      have a3' := h2.2.2.1
      have a8' := h2.2.2.2.2.2.2.2.1
      by_cases c9 : nm = 1
      · have hN := hF c9
        have hN2 := hN.u3 (p := hi 6 3 + 1) hA a7
        have q3 := q3 c9
        rw [hN.1] at q3
        have hp := plain_i hN2 q2 q3
        by_cases cp : plainR B (B (hi 6 3))
        · rw [show blD B nm (hi 6 2) (hi 6 3) = .ok (hi 6 3 + 1) from if_pos ⟨q1, q2, fun _ => ⟨q3, cp⟩⟩, kEx_ok] at hq
          refine s37_17.mpr ?_
          refine (s37_18 (by first | decide | assumption | omega)).mpr ?_
          try simp (disch := first | decide | assumption | omega) only [kon, knt_some, knt_none, Option.toList_some, Option.toList_none, List.cons_append, List.nil_append, a2, a3']
          refine s37_21.mpr (wif (fun c21 => ?_) (fun c21 => ?_))
          · first
            | (exfalso; omega)
            | skip
              refine s37_41.mpr ?_
              refine (s37_42).mpr ?_
              exact hq
          · first
            | (exfalso; omega)
            | skip
              refine s37_24.mpr (s37_25.mpr ?_)
              refine (s37_26 (by first | decide | assumption | omega) (by first | decide | assumption | omega)).mpr ?_
              refine t_hasIntsAlone a6 (by omega) a8' (fun e9 => ?_) (fun e9 => absurd (hp.mpr cp) e9)
              refine s37_29.mpr (wif (fun c29 => ?_) (fun c29 => ?_))
              · first
                | (exfalso; omega)
                | skip
                  refine s37_32.mpr ?_
                  refine (s37_33 (by first | decide | assumption | omega)).mpr ?_
                  refine s37_36.mpr (s37_37.mpr ?_)
                  try simp (disch := first | decide | assumption | omega) only [kon, knt_some, knt_none, Option.toList_some, Option.toList_none, List.cons_append, List.nil_append, a2, a3']
                  refine (s37_38 (by first | decide | assumption | omega) (by first | decide | assumption | omega)).mpr ?_
                  exfalso; omega
                  refine s37_41.mpr ?_
                  refine (s37_42).mpr ?_
                  exact hq
              · first
                | (exfalso; omega)
                | skip
                  refine s37_41.mpr ?_
                  refine (s37_42).mpr ?_
                  exact hq
        · rw [show blD B nm (hi 6 2) (hi 6 3) = .error (hi 6 3) from if_neg (fun q => cp (q.2.2 c9).2), kEx_er] at hq
          refine s37_17.mpr ?_
          refine (s37_18 (by first | decide | assumption | omega)).mpr ?_
          try simp (disch := first | decide | assumption | omega) only [kon, knt_some, knt_none, Option.toList_some, Option.toList_none, List.cons_append, List.nil_append, a2, a3']
          refine s37_21.mpr (wif (fun c21 => ?_) (fun c21 => ?_))
          · first
            | (exfalso; omega)
            | skip
              refine s37_41.mpr ?_
              refine (s37_42).mpr ?_
              refine hq _ _ (by omega) (by omega) ⟨FW.up (FW.up (FW.up FW.rf ⟨rfl, by omega⟩) ⟨rfl, by omega⟩) ⟨rfl, by omega⟩, by (try simp (disch := decide) only [upI_eq, upI_a, upI_i, upR_eq, upR_a, upR_i]), by (try simp (disch := decide) only [upI_eq, upI_a, upI_i, upR_eq, upR_a, upR_i]), by (try simp (disch := decide) only [upI_eq, upI_a, upI_i, upR_eq, upR_a, upR_i]); omega⟩
          · first
            | (exfalso; omega)
            | skip
              refine s37_24.mpr (s37_25.mpr ?_)
              refine (s37_26 (by first | decide | assumption | omega) (by first | decide | assumption | omega)).mpr ?_
              refine t_hasIntsAlone a6 (by omega) a8' (fun e9 => absurd (hp.mp e9) cp) (fun e9 => ?_)
              refine s37_29.mpr (wif (fun c29 => ?_) (fun c29 => ?_))
              · first
                | (exfalso; omega)
                | skip
                  refine s37_32.mpr ?_
                  refine (s37_33 (by first | decide | assumption | omega)).mpr ?_
                  refine s37_36.mpr (s37_37.mpr ?_)
                  try simp (disch := first | decide | assumption | omega) only [kon, knt_some, knt_none, Option.toList_some, Option.toList_none, List.cons_append, List.nil_append, a2, a3']
                  refine (s37_38 (by first | decide | assumption | omega) (by first | decide | assumption | omega)).mpr ?_
                  refine b_fail k6 (fun q => ?_) (fun q => absurd (by (try simp (disch := decide) only [upI_eq, upI_a, upI_i, upR_eq, upR_a, upR_i]); exact c4) q)
                  refine s37_41.mpr ?_
                  refine (s37_42).mpr ?_
                  refine hq _ _ (by omega) (by omega) ⟨FW.up (FW.up (FW.up FW.rf ⟨rfl, by omega⟩) ⟨rfl, by omega⟩) ⟨rfl, by omega⟩, by (try simp (disch := decide) only [upI_eq, upI_a, upI_i, upR_eq, upR_a, upR_i]), by (try simp (disch := decide) only [upI_eq, upI_a, upI_i, upR_eq, upR_a, upR_i]), by (try simp (disch := decide) only [upI_eq, upI_a, upI_i, upR_eq, upR_a, upR_i]); omega⟩
              · first
                | (exfalso; omega)
                | skip
                  refine s37_41.mpr ?_
                  refine (s37_42).mpr ?_
                  refine hq _ _ (by omega) (by omega) ⟨FW.up (FW.up (FW.up FW.rf ⟨rfl, by omega⟩) ⟨rfl, by omega⟩) ⟨rfl, by omega⟩, by (try simp (disch := decide) only [upI_eq, upI_a, upI_i, upR_eq, upR_a, upR_i]), by (try simp (disch := decide) only [upI_eq, upI_a, upI_i, upR_eq, upR_a, upR_i]), by (try simp (disch := decide) only [upI_eq, upI_a, upI_i, upR_eq, upR_a, upR_i]); omega⟩
      · rw [show blD B nm (hi 6 2) (hi 6 3) = .ok (hi 6 3 + 1) from if_pos ⟨q1, q2, fun q => absurd q c9⟩, kEx_ok] at hq
        refine s37_17.mpr ?_
        refine (s37_18 (by first | decide | assumption | omega)).mpr ?_
        try simp (disch := first | decide | assumption | omega) only [kon, knt_some, knt_none, Option.toList_some, Option.toList_none, List.cons_append, List.nil_append, a2, a3']
        refine s37_21.mpr (wif (fun c21 => ?_) (fun c21 => ?_))
        · first
          | (exfalso; omega)
          | skip
            refine s37_41.mpr ?_
            refine (s37_42).mpr ?_
            exact hq
        · first
          | (exfalso; omega)
          | skip
            refine s37_24.mpr (s37_25.mpr ?_)
            refine (s37_26 (by first | decide | assumption | omega) (by first | decide | assumption | omega)).mpr ?_
            exfalso; omega
    refine s37_0.mpr ?_
    refine (s37_1 (by first | decide | assumption | omega)).mpr ?_
    try simp (disch := first | decide | assumption | omega) only [kon, knt_some, knt_none, Option.toList_some, Option.toList_none, List.cons_append, List.nil_append, a2, a3]
    refine (s37_4 (by first | decide | assumption | omega)).mpr ?_
    refine s37_7.mpr (s37_8.mpr (s37_9.mpr ?_))
    try simp (disch := first | decide | assumption | omega) only [kon, knt_some, knt_none, Option.toList_some, Option.toList_none, List.cons_append, List.nil_append, a2, a3]
    refine (s37_10 (by first | decide | assumption | omega)).mpr ?_
    try simp (disch := first | decide | assumption | omega) only [kon, knt_some, knt_none, Option.toList_some, Option.toList_none, List.cons_append, List.nil_append, a2, a3]
    refine (s37_13 (by first | decide | assumption | omega) (by first | decide | assumption | omega)).mpr ?_
    refine d_takeName h' (by omega) h0 (fun q => absurd c4 q) (fun _ => ?_)
    refine kEx_of (fun q13 e13 => ?_) (fun q13 e13 => ?_)
    rotate_left
    intro x13 h13 y13 z13 v13
    · skip
      refine s37_16.mpr ?_
      first | exact TE _ _ _ y13 z13 v13.1 (by rw [v13.2.1]; decide) (fun x y z => by
          have e9 : blD B nm (hi 6 2) (hi 6 3) = .error q13 := by
            unfold naD at e13
            split at e13
            · cases e13
            · rename_i c9; cases e13; exact if_neg (fun q => c9 ⟨q.1, q.2.1, fun e => by rw [(hF e).1]; exact (q.2.2 e).1⟩)
          rw [e9, kEx_er] at hq
          exact hq x _ y z v13) | (obtain ⟨rfl, u1, u2, u3⟩ := naD_ok e13; exact T17 u1 u2 u3)
    · skip
      refine s37_16.mpr ?_
      first | exact TE _ _ _ y13 z13 v13.1 (by rw [v13.2.1]; decide) (fun x y z => by
          have e9 : blD B nm (hi 6 2) (hi 6 3) = .error q13 := by
            unfold naD at e13
            split at e13
            · cases e13
            · rename_i c9; cases e13; exact if_neg (fun q => c9 ⟨q.1, q.2.1, fun e => by rw [(hF e).1]; exact (q.2.2 e).1⟩)
          rw [e9, kEx_er] at hq
          exact hq x _ y z v13) | (obtain ⟨rfl, u1, u2, u3⟩ := naD_ok e13; exact T17 u1 u2 u3)
  · have fm := fm c4
    refine s37_0.mpr ?_
    refine (s37_1 (by first | decide | assumption | omega)).mpr ?_
    try simp (disch := first | decide | assumption | omega) only [kon, knt_some, knt_none, Option.toList_some, Option.toList_none, List.cons_append, List.nil_append, a2, a3]
    refine (s37_4 (by first | decide | assumption | omega)).mpr ?_
    refine s37_7.mpr (s37_8.mpr (s37_9.mpr ?_))
    try simp (disch := first | decide | assumption | omega) only [kon, knt_some, knt_none, Option.toList_some, Option.toList_none, List.cons_append, List.nil_append, a2, a3]
    refine (s37_10 (by first | decide | assumption | omega)).mpr ?_
    try simp (disch := first | decide | assumption | omega) only [kon, knt_some, knt_none, Option.toList_some, Option.toList_none, List.cons_append, List.nil_append, a2, a3]
    refine (s37_13 (by first | decide | assumption | omega) (by first | decide | assumption | omega)).mpr ?_
    refine d_takeName h' (by omega) h0 (fun _ x y z => ?_) (fun q => absurd q c4)
    refine s37_16.mpr ?_
    exact TE x _ _ y z FW.rf c4 fm
variable {t : Nat} {c l : Int}
noncomputable def tgD (B : Int → Int) (c l nm lim p : Int) : Ex := @ite _ (p < lim ∧ 0 ≤ B p ∧ (nm = 1 → bgn B c l (B p))) (Classical.propDecidable _) (.ok (p + 1)) (.error p)
theorem bgA_fw {hi' : HI} {p : Int} (ht : t + 2 ≠ 6) (hf : FW (wY 6) hi hi') : bgA al hi' t p ↔ bgA al hi t p := by
  unfold bgA; rw [hf (t + 2) p (wY_6 ht)]
theorem d_takeTarget (h : DC al hi hr N n B nm) (hT : RtS al hr t) (hG : nm = 1 → ∀ p, bgA al hi t p ↔ bgn B c l p) (hd : 3 ≤ d) (h0 : 0 ≤ hi 6 3)
    (fm : hi 6 4 ≠ 0 → Q (some none) al hi hr)
    (hq : hi 6 4 = 0 → kEx (tgD B c l nm (hi 6 2) (hi 6 3)) (fun p' => Q (some none) al (upI hi 6 3 p') hr) (fun q => ∀ hi', EF hi hi' q → Q (some none) al hi' hr)) : Ev d 38 [vR (some 5), vR (some (t + 1))] al hi hr Q := by
  have h' := h
  obtain ⟨hA, a2, a3, a4, a5, a6, a7, a8, a9⟩ := h
  have k6 : isK al 6 2 := hA.k (by decide) (by decide) rfl
  have k5 : isK al 5 4 := hA.k (by decide) (by decide) rfl
  have kT := hT.1
  have t6 : t + 2 ≠ 6 := isK_ne hT.2.2.2 k6 (by decide)
  have hrg := a5.rg (hi 6 3)
  have u51 : ∀ i x h', (upI h' 6 i x) 5 1 = h' 5 1 := fun _ _ _ => upI_a (by decide)
  rw [e38]
  by_cases c4 : hi 6 4 = 0
  · have hq := hq c4
    by_cases cc : hi 6 3 < hi 6 2 ∧ 0 ≤ B (hi 6 3)
    · by_cases c9 : nm = 1 → bgn B c l (B (hi 6 3))
      · rw [show tgD B c l nm (hi 6 2) (hi 6 3) = .ok (hi 6 3 + 1) from if_pos ⟨cc.1, cc.2, c9⟩, kEx_ok] at hq
        refine s38_0.mpr ?_
        refine (s38_1 (by first | decide | assumption | omega)).mpr ?_
        try simp (disch := first | decide | assumption | omega) only [kon, knt_some, knt_none, Option.toList_some, Option.toList_none, List.cons_append, List.nil_append, a2, u51, a3]
        refine (s38_4 (by first | decide | assumption | omega)).mpr ?_
        refine s38_7.mpr (s38_8.mpr ?_)
        try simp (disch := first | decide | assumption | omega) only [kon, knt_some, knt_none, Option.toList_some, Option.toList_none, List.cons_append, List.nil_append, a2, u51, a3]
        refine (s38_9 (by first | decide | assumption | omega)).mpr ?_
        try simp (disch := first | decide | assumption | omega) only [kon, knt_some, knt_none, Option.toList_some, Option.toList_none, List.cons_append, List.nil_append, a2, u51, a3]
        refine (s38_12 (by first | decide | assumption | omega) (by first | decide | assumption | omega)).mpr ?_
        refine b_take a5 (by omega) h0 (fun q => absurd c4 q) (fun _ q => absurd cc q) (fun _ _ _ => ?_)
        refine s38_15.mpr (s38_16.mpr ?_)
        refine (s38_17 (by first | decide | assumption | omega)).mpr ?_
        try simp (disch := first | decide | assumption | omega) only [kon, knt_some, knt_none, Option.toList_some, Option.toList_none, List.cons_append, List.nil_append, a2, u51, a3]
        refine s38_20.mpr (wif (fun c20 => ?_) (fun c20 => ?_))
        · first
          | (exfalso; omega)
          | skip
            refine (s38_40).mpr ?_
            exact hq
        · first
          | (exfalso; omega)
          | skip
            refine s38_23.mpr (s38_24.mpr ?_)
            refine (s38_25 (by first | decide | assumption | omega) (by first | decide | assumption | omega)).mpr ?_
            refine r_beginsAt hT (fun q => ?_) (fun q => absurd ((bgA_fw t6 (FW.up FW.rf ⟨rfl, by omega⟩)).mpr ((hG (by omega) _).mpr (c9 (by omega)))) q)
            refine s38_28.mpr (wif (fun c28 => ?_) (fun c28 => ?_))
            · first
              | (exfalso; omega)
              | skip
                refine s38_31.mpr ?_
                refine (s38_32 (by first | decide | assumption | omega)).mpr ?_
                refine s38_35.mpr (s38_36.mpr ?_)
                try simp (disch := first | decide | assumption | omega) only [kon, knt_some, knt_none, Option.toList_some, Option.toList_none, List.cons_append, List.nil_append, a2, u51, a3]
                refine (s38_37 (by first | decide | assumption | omega) (by first | decide | assumption | omega)).mpr ?_
                exfalso; omega
            · first
              | (exfalso; omega)
              | skip
                refine (s38_40).mpr ?_
                exact hq
      · have n1 : nm = 1 := Classical.byContradiction fun q => c9 (fun e => absurd e q)
        have c8 : ¬ bgn B c l (B (hi 6 3)) := fun q => c9 (fun _ => q)
        rw [show tgD B c l nm (hi 6 2) (hi 6 3) = .error (hi 6 3) from if_neg (fun q => c9 q.2.2), kEx_er] at hq
        refine s38_0.mpr ?_
        refine (s38_1 (by first | decide | assumption | omega)).mpr ?_
        try simp (disch := first | decide | assumption | omega) only [kon, knt_some, knt_none, Option.toList_some, Option.toList_none, List.cons_append, List.nil_append, a2, u51, a3]
        refine (s38_4 (by first | decide | assumption | omega)).mpr ?_
        refine s38_7.mpr (s38_8.mpr ?_)
        try simp (disch := first | decide | assumption | omega) only [kon, knt_some, knt_none, Option.toList_some, Option.toList_none, List.cons_append, List.nil_append, a2, u51, a3]
        refine (s38_9 (by first | decide | assumption | omega)).mpr ?_
        try simp (disch := first | decide | assumption | omega) only [kon, knt_some, knt_none, Option.toList_some, Option.toList_none, List.cons_append, List.nil_append, a2, u51, a3]
        refine (s38_12 (by first | decide | assumption | omega) (by first | decide | assumption | omega)).mpr ?_
        refine b_take a5 (by omega) h0 (fun q => absurd c4 q) (fun _ q => absurd cc q) (fun _ _ _ => ?_)
        refine s38_15.mpr (s38_16.mpr ?_)
        refine (s38_17 (by first | decide | assumption | omega)).mpr ?_
        try simp (disch := first | decide | assumption | omega) only [kon, knt_some, knt_none, Option.toList_some, Option.toList_none, List.cons_append, List.nil_append, a2, u51, a3]
        refine s38_20.mpr (wif (fun c20 => ?_) (fun c20 => ?_))
        · first
          | (exfalso; omega)
          | skip
            refine (s38_40).mpr ?_
            refine hq _ ⟨FW.up (FW.up (FW.up FW.rf ⟨rfl, by omega⟩) ⟨rfl, by omega⟩) ⟨rfl, by omega⟩, by (try simp (disch := decide) only [upI_eq, upI_a, upI_i, upR_eq, upR_a, upR_i]), by (try simp (disch := decide) only [upI_eq, upI_a, upI_i, upR_eq, upR_a, upR_i]), by (try simp (disch := decide) only [upI_eq, upI_a, upI_i, upR_eq, upR_a, upR_i]); omega⟩
        · first
          | (exfalso; omega)
          | skip
            refine s38_23.mpr (s38_24.mpr ?_)
            refine (s38_25 (by first | decide | assumption | omega) (by first | decide | assumption | omega)).mpr ?_
            refine r_beginsAt hT (fun q => absurd ((hG n1 _).mp ((bgA_fw t6 (FW.up FW.rf ⟨rfl, by omega⟩)).mp q)) c8) (fun q => ?_)
            refine s38_28.mpr (wif (fun c28 => ?_) (fun c28 => ?_))
            · first
              | (exfalso; omega)
              | skip
                refine s38_31.mpr ?_
                refine (s38_32 (by first | decide | assumption | omega)).mpr ?_
                refine s38_35.mpr (s38_36.mpr ?_)
                try simp (disch := first | decide | assumption | omega) only [kon, knt_some, knt_none, Option.toList_some, Option.toList_none, List.cons_append, List.nil_append, a2, u51, a3]
                refine (s38_37 (by first | decide | assumption | omega) (by first | decide | assumption | omega)).mpr ?_
                refine b_fail k6 (fun q => ?_) (fun q => absurd (by (try simp (disch := decide) only [upI_eq, upI_a, upI_i, upR_eq, upR_a, upR_i]); exact c4) q)
                refine (s38_40).mpr ?_
                refine hq _ ⟨FW.up (FW.up (FW.up FW.rf ⟨rfl, by omega⟩) ⟨rfl, by omega⟩) ⟨rfl, by omega⟩, by (try simp (disch := decide) only [upI_eq, upI_a, upI_i, upR_eq, upR_a, upR_i]), by (try simp (disch := decide) only [upI_eq, upI_a, upI_i, upR_eq, upR_a, upR_i]), by (try simp (disch := decide) only [upI_eq, upI_a, upI_i, upR_eq, upR_a, upR_i]); omega⟩
            · first
              | (exfalso; omega)
              | skip
                refine (s38_40).mpr ?_
                refine hq _ ⟨FW.up (FW.up (FW.up FW.rf ⟨rfl, by omega⟩) ⟨rfl, by omega⟩) ⟨rfl, by omega⟩, by (try simp (disch := decide) only [upI_eq, upI_a, upI_i, upR_eq, upR_a, upR_i]), by (try simp (disch := decide) only [upI_eq, upI_a, upI_i, upR_eq, upR_a, upR_i]), by (try simp (disch := decide) only [upI_eq, upI_a, upI_i, upR_eq, upR_a, upR_i]); omega⟩
    · rw [show tgD B c l nm (hi 6 2) (hi 6 3) = .error (hi 6 3) from if_neg (fun q => cc ⟨q.1, q.2.1⟩), kEx_er] at hq
      have hE : EF hi (upI (upI hi 6 4 1) 6 5 (hi 6 3)) (hi 6 3) := ⟨FW.up (FW.up FW.rf ⟨rfl, by omega⟩) ⟨rfl, by omega⟩, by (try simp (disch := decide) only [upI_eq, upI_a, upI_i, upR_eq, upR_a, upR_i]), by (try simp (disch := decide) only [upI_eq, upI_a, upI_i, upR_eq, upR_a, upR_i]), by (try simp (disch := decide) only [upI_eq, upI_a, upI_i, upR_eq, upR_a, upR_i]); omega⟩
      refine s38_0.mpr ?_
      refine (s38_1 (by first | decide | assumption | omega)).mpr ?_
      try simp (disch := first | decide | assumption | omega) only [kon, knt_some, knt_none, Option.toList_some, Option.toList_none, List.cons_append, List.nil_append, a2, u51, a3]
      refine (s38_4 (by first | decide | assumption | omega)).mpr ?_
      refine s38_7.mpr (s38_8.mpr ?_)
      try simp (disch := first | decide | assumption | omega) only [kon, knt_some, knt_none, Option.toList_some, Option.toList_none, List.cons_append, List.nil_append, a2, u51, a3]
      refine (s38_9 (by first | decide | assumption | omega)).mpr ?_
      try simp (disch := first | decide | assumption | omega) only [kon, knt_some, knt_none, Option.toList_some, Option.toList_none, List.cons_append, List.nil_append, a2, u51, a3]
      refine (s38_12 (by first | decide | assumption | omega) (by first | decide | assumption | omega)).mpr ?_
      refine b_take a5 (by omega) h0 (fun q => absurd c4 q) (fun _ _ => ?_) (fun _ q1 q2 => absurd ⟨q1, q2⟩ cc)
      refine s38_15.mpr (s38_16.mpr ?_)
      refine (s38_17 (by first | decide | assumption | omega)).mpr ?_
      try simp (disch := first | decide | assumption | omega) only [kon, knt_some, knt_none, Option.toList_some, Option.toList_none, List.cons_append, List.nil_append, a2, u51, a3]
      refine s38_20.mpr (wif (fun c20 => ?_) (fun c20 => ?_))
      · skip
        refine (s38_40).mpr ?_
        exact hq _ hE
      · skip
        refine s38_23.mpr (s38_24.mpr ?_)
        refine (s38_25 (by first | decide | assumption | omega) (by first | decide | assumption | omega)).mpr ?_
        refine r_beginsAt hT (fun q => ?_) (fun q => ?_)
        · skip
          refine s38_28.mpr (wif (fun c28 => ?_) (fun c28 => ?_))
          · skip
            refine s38_31.mpr ?_
            refine (s38_32 (by first | decide | assumption | omega)).mpr ?_
            refine s38_35.mpr (s38_36.mpr ?_)
            try simp (disch := first | decide | assumption | omega) only [kon, knt_some, knt_none, Option.toList_some, Option.toList_none, List.cons_append, List.nil_append, a2, u51, a3]
            refine (s38_37 (by first | decide | assumption | omega) (by first | decide | assumption | omega)).mpr ?_
            refine b_fail k6 (fun q => absurd q (by (try simp (disch := decide) only [upI_eq, upI_a, upI_i, upR_eq, upR_a, upR_i]); decide)) (fun _ => ?_)
            refine (s38_40).mpr ?_
            exact hq _ hE
          · skip
            refine (s38_40).mpr ?_
            exact hq _ hE
        · skip
          refine s38_28.mpr (wif (fun c28 => ?_) (fun c28 => ?_))
          · skip
            refine s38_31.mpr ?_
            refine (s38_32 (by first | decide | assumption | omega)).mpr ?_
            refine s38_35.mpr (s38_36.mpr ?_)
            try simp (disch := first | decide | assumption | omega) only [kon, knt_some, knt_none, Option.toList_some, Option.toList_none, List.cons_append, List.nil_append, a2, u51, a3]
            refine (s38_37 (by first | decide | assumption | omega) (by first | decide | assumption | omega)).mpr ?_
            refine b_fail k6 (fun q => absurd q (by (try simp (disch := decide) only [upI_eq, upI_a, upI_i, upR_eq, upR_a, upR_i]); decide)) (fun _ => ?_)
            refine (s38_40).mpr ?_
            exact hq _ hE
          · skip
            refine (s38_40).mpr ?_
            exact hq _ hE
  · have fm := fm c4
    refine s38_0.mpr ?_
    refine (s38_1 (by first | decide | assumption | omega)).mpr ?_
    try simp (disch := first | decide | assumption | omega) only [kon, knt_some, knt_none, Option.toList_some, Option.toList_none, List.cons_append, List.nil_append, a2, a3]
    refine (s38_4 (by first | decide | assumption | omega)).mpr ?_
    refine s38_7.mpr (s38_8.mpr ?_)
    try simp (disch := first | decide | assumption | omega) only [kon, knt_some, knt_none, Option.toList_some, Option.toList_none, List.cons_append, List.nil_append, a2, a3]
    refine (s38_9 (by first | decide | assumption | omega)).mpr ?_
    try simp (disch := first | decide | assumption | omega) only [kon, knt_some, knt_none, Option.toList_some, Option.toList_none, List.cons_append, List.nil_append, a2, a3]
    refine (s38_12 (by first | decide | assumption | omega) (by first | decide | assumption | omega)).mpr ?_
    refine b_take a5 (by omega) h0 (fun _ => ?_) (fun q => absurd q c4) (fun q => absurd q c4)
    refine s38_15.mpr (s38_16.mpr ?_)
    refine (s38_17 (by first | decide | assumption | omega)).mpr ?_
    try simp (disch := first | decide | assumption | omega) only [kon, knt_some, knt_none, Option.toList_some, Option.toList_none, List.cons_append, List.nil_append, a2, a3]
    refine s38_20.mpr (wif (fun c20 => ?_) (fun c20 => ?_))
    · skip
      refine (s38_40).mpr ?_
      exact fm
    · skip
      refine s38_23.mpr (s38_24.mpr ?_)
      refine (s38_25 (by first | decide | assumption | omega) (by first | decide | assumption | omega)).mpr ?_
      refine r_beginsAt hT (fun q => ?_) (fun q => ?_)
      · skip
        refine s38_28.mpr (wif (fun c28 => ?_) (fun c28 => ?_))
        · skip
          refine s38_31.mpr ?_
          refine (s38_32 (by first | decide | assumption | omega)).mpr ?_
          refine s38_35.mpr (s38_36.mpr ?_)
          try simp (disch := first | decide | assumption | omega) only [kon, knt_some, knt_none, Option.toList_some, Option.toList_none, List.cons_append, List.nil_append, a2, a3]
          refine (s38_37 (by first | decide | assumption | omega) (by first | decide | assumption | omega)).mpr ?_
          refine b_fail k6 (fun q => absurd q c4) (fun _ => ?_)
          refine (s38_40).mpr ?_
          exact fm
        · skip
          refine (s38_40).mpr ?_
          exact fm
      · skip
        refine s38_28.mpr (wif (fun c28 => ?_) (fun c28 => ?_))
        · skip
          refine s38_31.mpr ?_
          refine (s38_32 (by first | decide | assumption | omega)).mpr ?_
          refine s38_35.mpr (s38_36.mpr ?_)
          try simp (disch := first | decide | assumption | omega) only [kon, knt_some, knt_none, Option.toList_some, Option.toList_none, List.cons_append, List.nil_append, a2, a3]
          refine (s38_37 (by first | decide | assumption | omega) (by first | decide | assumption | omega)).mpr ?_
          refine b_fail k6 (fun q => absurd q c4) (fun _ => ?_)
          refine (s38_40).mpr ?_
          exact fm
        · skip
          refine (s38_40).mpr ?_
          exact fm
end CD2
