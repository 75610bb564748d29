/-! THE CLASS: bytes that are read -/
section CB
variable {d : Nat} {al : AL} {hi : HI} {hr : HR} {Q : QQ} {B : Int → Int}
/-- the reader y stands over the row b: a text B of n bytes -/
def BY (al : AL) (hi : HI) (hr : HR) (y b : Nat) (n : Int) (B : Int → Int) : Prop := isK al y 2 ∧ hr y 0 = some b ∧ isK al b 15 ∧ hi y 1 = n ∧ n ≤ aln al b ∧ (∀ k, 0 ≤ k → k < n → hi b k = B k) ∧ (∀ k, (0 ≤ k ∧ k < n → 0 ≤ B k ∧ B k ≤ 255) ∧ (¬ (0 ≤ k ∧ k < n) → B k = -1)) ∧ 0 ≤ n ∧ n ≤ 2000
theorem BY.ne {y b : Nat} {n : Int} (h : BY al hi hr y b n B) : b ≠ y := isK_ne h.2.2.1 h.1 (by decide)
theorem BY.up {y b a : Nat} {n i x : Int} (h : BY al hi hr y b n B) (h1 : a ≠ b) (h2 : a = y → i ≠ 1) : BY al (upI hi a i x) hr y b n B := by
  obtain ⟨a1, a2, a3, a4, a5, a6, a7⟩ := h
  refine ⟨a1, a2, a3, ?_, a5, fun k k0 k1 => by rw [upI_a (fun e => h1 e.symm)]; exact a6 k k0 k1, a7⟩
  by_cases e : y = a
  · rw [upI_i (fun q => h2 e.symm q.symm)]; exact a4
  · rw [upI_a e]; exact a4
theorem BY.uy {y b : Nat} {n i x : Int} (h : BY al hi hr y b n B) (h2 : i ≠ 1) : BY al (upI hi y i x) hr y b n B := h.up h.ne.symm (fun _ => h2)
theorem BY.rg {y b : Nat} {n : Int} (h : BY al hi hr y b n B) (k : Int) : -1 ≤ B k ∧ B k ≤ 255 := by
  have := h.2.2.2.2.2.2.1 k
  by_cases c : 0 ≤ k ∧ k < n
  · have := this.1 c; omega
  · have := this.2 c; omega
theorem BY.lt {y b : Nat} {n k : Int} (h : BY al hi hr y b n B) (hk : B k ≠ -1) : 0 ≤ k ∧ k < n := by
  apply Classical.byContradiction
  intro c
  exact hk ((h.2.2.2.2.2.2.1 k).2 c)
/-- a part, read before lim -/
def prL (B : Int → Int) (lim lo hg p : Int) : Ex := if p < lim ∧ lo ≤ B p ∧ B p ≤ hg ∧ 0 ≤ B p then .ok (p + 1) else .error p
def wY (y : Nat) (a : Nat) (i : Int) : Prop := a = y ∧ (i = 3 ∨ i = 4 ∨ i = 5)
variable {y b : Nat} {n : Int}
theorem b_isRight (hy : isK al y 2) (q1 : hi y 4 = 0 → Q (some (some (vI 1))) al hi hr) (q2 : hi y 4 ≠ 0 → Q (some (some (vI 0))) al hi hr) : Ev d 12 [vR (some y)] al hi hr Q := by
  rw [e12]
  refine s12_0.mpr ?_
  refine (s12_1 (by first | decide | assumption | omega)).mpr ?_
  refine s12_4.mpr (wif (fun c4 => ?_) (fun c4 => ?_))
  · skip
    refine s12_7.mpr (s12_8.mpr ?_)
    refine (s12_12 (by first | assumption | omega)).mpr ?_
    first | exact q1 (by assumption) | exact q2 (by assumption)
  · skip
    refine s12_11.mpr ?_
    refine (s12_12 (by first | assumption | omega)).mpr ?_
    first | exact q1 (by assumption) | exact q2 (by assumption)
theorem b_fail {w q : Int} (hy : isK al y 2) (q1 : hi y 4 = 0 → Q (some none) al (upI (upI hi y 4 w) y 5 q) hr) (q2 : hi y 4 ≠ 0 → Q (some none) al hi hr) : Ev d 13 [vR (some y), vI w, vI q] al hi hr Q := by
  rw [e13]
  refine s13_0.mpr ?_
  refine (s13_1 (by first | decide | assumption | omega)).mpr ?_
  refine s13_4.mpr (wif (fun c4 => ?_) (fun c4 => ?_))
  · skip
    refine s13_7.mpr (s13_8.mpr ?_)
    refine (s13_9 (by first | decide | assumption | omega)).mpr ?_
    refine s13_12.mpr (s13_13.mpr ?_)
    refine (s13_14 (by first | decide | assumption | omega)).mpr ?_
    refine (s13_17).mpr ?_
    first | exact q1 (by assumption) | exact q2 (by assumption)
  · skip
    refine (s13_17).mpr ?_
    first | exact q1 (by assumption) | exact q2 (by assumption)
theorem b_peek (h : BY al hi hr y b n B) (h0 : 0 ≤ hi y 3) (q1 : hi y 3 < hi y 2 → B (hi y 3) ≠ -1 → Q (some (some (vI (B (hi y 3))))) al hi hr) (q2 : ¬ (hi y 3 < hi y 2 ∧ 0 ≤ B (hi y 3)) → Q (some (some (vI (-1)))) al hi hr) : Ev d 14 [vR (some y)] al hi hr Q := by
  obtain ⟨a1, a2, a3, a4, a5, a6, a7, a8⟩ := h
  have e : hi y 3 < fMin (hi y 2) n ↔ hi y 3 < hi y 2 ∧ hi y 3 < n := by unfold fMin; split <;> omega
  rw [e14]
  by_cases c : hi y 3 < n
  · have e6 := a6 _ h0 c
    have e7 := (a7 (hi y 3)).1 ⟨h0, c⟩
    refine s14_0.mpr ?_
    refine (s14_1 (by first | decide | assumption | omega)).mpr ?_
    refine s14_4.mpr ?_
    try simp (disch := first | decide | assumption | omega) only [a4, a2, e, e6]
    refine (s14_5 (by first | decide | assumption | omega)).mpr ?_
    refine s14_8.mpr ?_
    try simp (disch := first | decide | assumption | omega) only [a4, a2, e, e6]
    refine (s14_9 (by first | decide | assumption | omega)).mpr ?_
    refine s14_12.mpr ?_
    try simp (disch := first | decide | assumption | omega) only [a4, a2, e, e6]
    refine s14_15.mpr (wif (fun c15 => ?_) (fun c15 => ?_))
    · skip
      refine s14_18.mpr ?_
      refine (s14_19 (by first | decide | assumption | omega)).mpr ?_
      refine s14_22.mpr ?_
      try simp (disch := first | decide | assumption | omega) only [a4, a2, e, e6]
      refine (s14_23 (by first | decide | assumption | omega)).mpr ?_
      try simp (disch := first | decide | assumption | omega) only [a4, a2, e, e6]
      refine (s14_26 (by first | decide | assumption | omega) (by first | decide | assumption | omega) (by first | decide | assumption | omega)).mpr ?_
      refine s14_27.mpr ?_
      try simp (disch := first | decide | assumption | omega) only [a4, a2, e, e6]
      refine (s14_31).mpr ?_
      first | (exact q1 (by omega) (by omega)) | (exact q2 (fun h => by omega))
    · skip
      refine s14_30.mpr ?_
      refine (s14_31).mpr ?_
      first | (exact q1 (by omega) (by omega)) | (exact q2 (fun h => by omega))
  · have e7 := (a7 (hi y 3)).2 (fun q => c q.2)
    refine s14_0.mpr ?_
    refine (s14_1 (by first | decide | assumption | omega)).mpr ?_
    refine s14_4.mpr ?_
    try simp (disch := first | decide | assumption | omega) only [a4, a2, e]
    refine (s14_5 (by first | decide | assumption | omega)).mpr ?_
    refine s14_8.mpr ?_
    try simp (disch := first | decide | assumption | omega) only [a4, a2, e]
    refine (s14_9 (by first | decide | assumption | omega)).mpr ?_
    refine s14_12.mpr ?_
    try simp (disch := first | decide | assumption | omega) only [a4, a2, e]
    refine s14_15.mpr (wif (fun c15 => ?_) (fun c15 => ?_))
    · skip
      exfalso; omega
    · skip
      refine s14_30.mpr ?_
      refine (s14_31).mpr ?_
      first | (exact q2 (fun h => by omega))
theorem b_take (h : BY al hi hr y b n B) (hd : 1 ≤ d) (h0 : 0 ≤ hi y 3)
    (fm : hi y 4 ≠ 0 → Q (some (some (vI 0))) al hi hr)
    (no : hi y 4 = 0 → ¬ (hi y 3 < hi y 2 ∧ 0 ≤ B (hi y 3)) → Q (some (some (vI 0))) al (upI (upI hi y 4 1) y 5 (hi y 3)) hr)
    (ok : hi y 4 = 0 → hi y 3 < hi y 2 → 0 ≤ B (hi y 3) → Q (some (some (vI (B (hi y 3))))) al (upI hi y 3 (hi y 3 + 1)) hr) : Ev d 15 [vR (some y)] al hi hr Q := by
  have a1 := h.1
  have hrg := h.rg (hi y 3)
  rw [e15]
  by_cases c4 : hi y 4 = 0
  · have T1 : hi y 3 < hi y 2 → B (hi y 3) ≠ -1 → Wp d 15 13 [vR (some y), none] [vI (B (hi y 3))] al hi hr Q := by
      intro c c2
      have hl := h.lt c2
      have hn := h.2.2.2.2.2.2.2.2
      refine s15_13.mpr (s15_14.mpr (s15_15.mpr ?_))
      refine s15_16.mpr (wif (fun c16 => ?_) (fun c16 => ?_))
      · skip
        exfalso; omega
      · skip
        refine s15_30.mpr (s15_31.mpr ?_)
        refine (s15_32 (by first | decide | assumption | omega)).mpr ?_
        refine s15_35.mpr (s15_36.mpr ?_)
        try simp (disch := first | decide | assumption | omega) only [fAdd_id]
        refine (s15_37 (by first | decide | assumption | omega)).mpr ?_
        refine s15_40.mpr ?_
        try simp (disch := first | decide | assumption | omega) only [fAdd_id]
        refine (s15_41).mpr ?_
        exact ok c4 c (by omega)
    have T2 : ¬ (hi y 3 < hi y 2 ∧ 0 ≤ B (hi y 3)) → Wp d 15 13 [vR (some y), none] [vI (-1)] al hi hr Q := by
      intro c
      refine s15_13.mpr (s15_14.mpr (s15_15.mpr ?_))
      refine s15_16.mpr (wif (fun c16 => ?_) (fun c16 => ?_))
      · skip
        refine s15_19.mpr (s15_20.mpr (s15_21.mpr ?_))
        refine (s15_22 (by first | decide | assumption | omega)).mpr ?_
        try simp (disch := first | decide | assumption | omega) only [kon, knt_some, knt_none, Option.toList_some, Option.toList_none, List.cons_append, List.nil_append]
        refine (s15_25 (by first | decide | assumption | omega) (by first | decide | assumption | omega)).mpr ?_
        refine b_fail a1 (fun _ => ?_) (fun q => absurd c4 q)
        refine s15_28.mpr ?_
        refine (s15_29).mpr ?_
        exact no c4 c
      · skip
        exfalso; omega
    refine s15_0.mpr ?_
    refine (s15_1 (by first | decide | assumption | omega)).mpr ?_
    refine s15_4.mpr (wif (fun c4 => ?_) (fun c4 => ?_))
    · skip
      refine s15_9.mpr ?_
      refine (s15_10 (by first | decide | assumption | omega) (by first | decide | assumption | omega)).mpr ?_
      refine b_peek h h0 (fun c c2 => ?_) (fun c => ?_)
      all_goals simp only [kon, knt_some, knt_none, Option.toList_some, Option.toList_none, List.cons_append, List.nil_append]
      · skip
        first | exact T1 c c2 | exact T2 c
      · skip
        first | exact T1 c c2 | exact T2 c
    · skip
      exfalso; omega
  · skip
    refine s15_0.mpr ?_
    refine (s15_1 (by first | decide | assumption | omega)).mpr ?_
    refine s15_4.mpr (wif (fun c4 => ?_) (fun c4 => ?_))
    · skip
      exfalso; omega
    · skip
      refine s15_7.mpr ?_
      refine (s15_8).mpr ?_
      exact fm c4
theorem b_within {lo hg : Int} (h : BY al hi hr y b n B) (hd : 2 ≤ d) (h0 : 0 ≤ hi y 3)
    (fm : hi y 4 ≠ 0 → ∀ x, (lo ≤ hg → lo ≤ x ∧ x ≤ hg) → Q (some (some (vI x))) al hi hr)
    (hq : hi y 4 = 0 → kEx (prL B (hi y 2) lo hg (hi y 3)) (fun p' => Q (some (some (vI (B (hi y 3))))) al (upI hi y 3 p') hr) (fun q => ∀ x hi', (lo ≤ hg → lo ≤ x ∧ x ≤ hg) → FW (wY y) hi hi' → hi' y 4 = 1 → hi' y 5 = q → 0 ≤ hi' y 3 → Q (some (some (vI x))) al hi' hr)) : Ev d 16 [vR (some y), vI lo, vI hg] al hi hr Q := by
  have a1 := h.1
  rw [e16]
  by_cases c4 : hi y 4 = 0
  · have hq := hq c4
    by_cases c : hi y 3 < hi y 2 ∧ lo ≤ B (hi y 3) ∧ B (hi y 3) ≤ hg ∧ 0 ≤ B (hi y 3)
    · have e : prL B (hi y 2) lo hg (hi y 3) = .ok (hi y 3 + 1) := if_pos c
      rw [e, kEx_ok] at hq
      refine s16_0.mpr ?_
      refine (s16_1 (by first | decide | assumption | omega)).mpr ?_
      refine s16_4.mpr (s16_5.mpr ?_)
      try simp (disch := first | decide | assumption | omega) only [kon, knt_some, knt_none, Option.toList_some, Option.toList_none, List.cons_append, List.nil_append]
      refine (s16_6 (by first | decide | assumption | omega) (by first | decide | assumption | omega)).mpr ?_
      refine b_take h (by omega) h0 (fun q => absurd c4 q) (fun _ q => absurd ⟨c.1, c.2.2.2⟩ q) (fun _ _ _ => ?_)
      refine s16_9.mpr (s16_11.mpr (s16_13.mpr ?_))
      refine s16_14.mpr (wif (fun c14 => ?_) (fun c14 => ?_))
      · first
        | (exfalso; omega)
        | skip
          exfalso; omega
      · first
        | (exfalso; omega)
        | skip
          refine s16_17.mpr (s16_19.mpr ?_)
          refine s16_20.mpr (wif (fun c20 => ?_) (fun c20 => ?_))
          · first
            | (exfalso; omega)
            | skip
              exfalso; omega
          · first
            | (exfalso; omega)
            | skip
              refine s16_31.mpr ?_
              refine (s16_33).mpr ?_
              exact hq
    · have e : prL B (hi y 2) lo hg (hi y 3) = .error (hi y 3) := if_neg c
      rw [e, kEx_er] at hq
      have T9 : ¬ (hi y 3 < hi y 2 ∧ 0 ≤ B (hi y 3)) → Wp d 16 9 [vR (some y), vI lo, vI hg, vI (hi y 3), none] [vI 0] al (upI (upI hi y 4 1) y 5 (hi y 3)) hr Q := by
        intro q
        have F : ∀ x, (lo ≤ hg → lo ≤ x ∧ x ≤ hg) → Q (some (some (vI x))) al (upI (upI hi y 4 1) y 5 (hi y 3)) hr := fun x hx => hq x _ hx (FW.up (FW.up FW.rf ⟨rfl, by omega⟩) ⟨rfl, by omega⟩) (by (try simp (disch := decide) only [upI_eq, upI_a, upI_i, upR_eq, upR_a, upR_i])) (by (try simp (disch := decide) only [upI_eq, upI_a, upI_i, upR_eq, upR_a, upR_i])) (by (try simp (disch := decide) only [upI_eq, upI_a, upI_i, upR_eq, upR_a, upR_i]); exact h0)
        refine s16_9.mpr (s16_11.mpr (s16_13.mpr ?_))
        refine s16_14.mpr (wif (fun c14 => ?_) (fun c14 => ?_))
        · skip
          refine s16_23.mpr (s16_24.mpr (s16_25.mpr ?_))
          refine (s16_26 (by first | decide | assumption | omega) (by first | decide | assumption | omega)).mpr ?_
          refine b_fail a1 (fun q => absurd q (by (try simp (disch := decide) only [upI_eq, upI_a, upI_i, upR_eq, upR_a, upR_i]); decide)) (fun _ => ?_)
          refine s16_29.mpr ?_
          refine (s16_30).mpr ?_
          exact F _ (fun _ => by omega)
        · skip
          refine s16_17.mpr (s16_19.mpr ?_)
          refine s16_20.mpr (wif (fun c20 => ?_) (fun c20 => ?_))
          · skip
            refine s16_23.mpr (s16_24.mpr (s16_25.mpr ?_))
            refine (s16_26 (by first | decide | assumption | omega) (by first | decide | assumption | omega)).mpr ?_
            refine b_fail a1 (fun q => absurd q (by (try simp (disch := decide) only [upI_eq, upI_a, upI_i, upR_eq, upR_a, upR_i]); decide)) (fun _ => ?_)
            refine s16_29.mpr ?_
            refine (s16_30).mpr ?_
            exact F _ (fun _ => by omega)
          · skip
            refine s16_31.mpr ?_
            refine (s16_33).mpr ?_
            exact F _ (fun _ => by omega)
      have T9b : hi y 3 < hi y 2 → 0 ≤ B (hi y 3) → Wp d 16 9 [vR (some y), vI lo, vI hg, vI (hi y 3), none] [vI (B (hi y 3))] al (upI hi y 3 (hi y 3 + 1)) hr Q := by
        intro q1 q2
        refine s16_9.mpr (s16_11.mpr (s16_13.mpr ?_))
        refine s16_14.mpr (wif (fun c14 => ?_) (fun c14 => ?_))
        · skip
          refine s16_23.mpr (s16_24.mpr (s16_25.mpr ?_))
          refine (s16_26 (by first | decide | assumption | omega) (by first | decide | assumption | omega)).mpr ?_
          refine b_fail a1 (fun _ => ?_) (fun q => absurd (by (try simp (disch := decide) only [upI_eq, upI_a, upI_i, upR_eq, upR_a, upR_i]); exact c4) q)
          refine s16_29.mpr ?_
          refine (s16_30).mpr ?_
          refine hq lo _ (fun _ => by omega) (FW.up (FW.up (FW.up FW.rf ⟨rfl, by omega⟩) ⟨rfl, by omega⟩) ⟨rfl, by omega⟩) (by (try simp (disch := decide) only [upI_eq, upI_a, upI_i, upR_eq, upR_a, upR_i])) (by (try simp (disch := decide) only [upI_eq, upI_a, upI_i, upR_eq, upR_a, upR_i])) (by (try simp (disch := decide) only [upI_eq, upI_a, upI_i, upR_eq, upR_a, upR_i]); omega)
        · skip
          refine s16_17.mpr (s16_19.mpr ?_)
          refine s16_20.mpr (wif (fun c20 => ?_) (fun c20 => ?_))
          · skip
            refine s16_23.mpr (s16_24.mpr (s16_25.mpr ?_))
            refine (s16_26 (by first | decide | assumption | omega) (by first | decide | assumption | omega)).mpr ?_
            refine b_fail a1 (fun _ => ?_) (fun q => absurd (by (try simp (disch := decide) only [upI_eq, upI_a, upI_i, upR_eq, upR_a, upR_i]); exact c4) q)
            refine s16_29.mpr ?_
            refine (s16_30).mpr ?_
            refine hq lo _ (fun _ => by omega) (FW.up (FW.up (FW.up FW.rf ⟨rfl, by omega⟩) ⟨rfl, by omega⟩) ⟨rfl, by omega⟩) (by (try simp (disch := decide) only [upI_eq, upI_a, upI_i, upR_eq, upR_a, upR_i])) (by (try simp (disch := decide) only [upI_eq, upI_a, upI_i, upR_eq, upR_a, upR_i])) (by (try simp (disch := decide) only [upI_eq, upI_a, upI_i, upR_eq, upR_a, upR_i]); omega)
          · skip
            exfalso; omega
      refine s16_0.mpr ?_
      refine (s16_1 (by first | decide | assumption | omega)).mpr ?_
      refine s16_4.mpr (s16_5.mpr ?_)
      try simp (disch := first | decide | assumption | omega) only [kon, knt_some, knt_none, Option.toList_some, Option.toList_none, List.cons_append, List.nil_append]
      refine (s16_6 (by first | decide | assumption | omega) (by first | decide | assumption | omega)).mpr ?_
      refine b_take h (by omega) h0 (fun q => absurd c4 q) (fun _ q => ?_) (fun _ q1 q2 => ?_)
      · skip
        first | exact T9 q | exact T9b q1 q2
      · skip
        first | exact T9 q | exact T9b q1 q2
  · have fm := fm c4
    refine s16_0.mpr ?_
    refine (s16_1 (by first | decide | assumption | omega)).mpr ?_
    refine s16_4.mpr (s16_5.mpr ?_)
    try simp (disch := first | decide | assumption | omega) only [kon, knt_some, knt_none, Option.toList_some, Option.toList_none, List.cons_append, List.nil_append]
    refine (s16_6 (by first | decide | assumption | omega) (by first | decide | assumption | omega)).mpr ?_
    refine b_take h (by omega) h0 (fun _ => ?_) (fun q => absurd q c4) (fun q => absurd q c4)
    refine s16_9.mpr (s16_11.mpr (s16_13.mpr ?_))
    refine s16_14.mpr (wif (fun c14 => ?_) (fun c14 => ?_))
    · skip
      refine s16_23.mpr (s16_24.mpr (s16_25.mpr ?_))
      refine (s16_26 (by first | decide | assumption | omega) (by first | decide | assumption | omega)).mpr ?_
      refine b_fail a1 (fun q => absurd q c4) (fun _ => ?_)
      refine s16_29.mpr ?_
      refine (s16_30).mpr ?_
      exact fm _ (fun _ => by omega)
    · skip
      refine s16_17.mpr (s16_19.mpr ?_)
      refine s16_20.mpr (wif (fun c20 => ?_) (fun c20 => ?_))
      · skip
        refine s16_23.mpr (s16_24.mpr (s16_25.mpr ?_))
        refine (s16_26 (by first | decide | assumption | omega) (by first | decide | assumption | omega)).mpr ?_
        refine b_fail a1 (fun q => absurd q c4) (fun _ => ?_)
        refine s16_29.mpr ?_
        refine (s16_30).mpr ?_
        exact fm _ (fun _ => by omega)
      · skip
        refine s16_31.mpr ?_
        refine (s16_33).mpr ?_
        exact fm _ (fun _ => by omega)
theorem b_expectEnd (h : BY al hi hr y b n B) (hd : 1 ≤ d) (fm : hi y 4 ≠ 0 → Q (some none) al hi hr) (no : hi y 4 = 0 → hi y 3 < n → Q (some none) al (upI (upI hi y 4 1) y 5 (hi y 3)) hr) (ok : hi y 4 = 0 → ¬ hi y 3 < n → Q (some none) al hi hr) : Ev d 18 [vR (some y)] al hi hr Q := by
  have a1 := h.1
  have a4 := h.2.2.2.1
  rw [e18]
  by_cases c4 : hi y 4 = 0
  · skip
    refine s18_0.mpr ?_
    refine (s18_1 (by first | decide | assumption | omega)).mpr ?_
    refine s18_4.mpr ?_
    try simp (disch := first | decide | assumption | omega) only [kon, knt_some, knt_none, Option.toList_some, Option.toList_none, List.cons_append, List.nil_append, a4]
    refine (s18_5 (by first | decide | assumption | omega)).mpr ?_
    try simp (disch := first | decide | assumption | omega) only [kon, knt_some, knt_none, Option.toList_some, Option.toList_none, List.cons_append, List.nil_append, a4]
    refine s18_8.mpr (wif (fun c8 => ?_) (fun c8 => ?_))
    · skip
      refine s18_11.mpr (s18_12.mpr (s18_13.mpr ?_))
      refine (s18_14 (by first | decide | assumption | omega)).mpr ?_
      try simp (disch := first | decide | assumption | omega) only [kon, knt_some, knt_none, Option.toList_some, Option.toList_none, List.cons_append, List.nil_append, a4]
      refine (s18_17 (by first | decide | assumption | omega) (by first | decide | assumption | omega)).mpr ?_
      refine b_fail a1 (fun q => ?_) (fun q => absurd c4 q)
      refine (s18_20).mpr ?_
      first | exact no c4 (by assumption) | exact ok c4 (by assumption)
    · skip
      refine (s18_20).mpr ?_
      first | exact no c4 (by assumption) | exact ok c4 (by assumption)
  · skip
    refine s18_0.mpr ?_
    refine (s18_1 (by first | decide | assumption | omega)).mpr ?_
    refine s18_4.mpr ?_
    try simp (disch := first | decide | assumption | omega) only [kon, knt_some, knt_none, Option.toList_some, Option.toList_none, List.cons_append, List.nil_append, a4]
    refine (s18_5 (by first | decide | assumption | omega)).mpr ?_
    try simp (disch := first | decide | assumption | omega) only [kon, knt_some, knt_none, Option.toList_some, Option.toList_none, List.cons_append, List.nil_append, a4]
    refine s18_8.mpr (wif (fun c8 => ?_) (fun c8 => ?_))
    · skip
      refine s18_11.mpr (s18_12.mpr (s18_13.mpr ?_))
      refine (s18_14 (by first | decide | assumption | omega)).mpr ?_
      try simp (disch := first | decide | assumption | omega) only [kon, knt_some, knt_none, Option.toList_some, Option.toList_none, List.cons_append, List.nil_append, a4]
      refine (s18_17 (by first | decide | assumption | omega) (by first | decide | assumption | omega)).mpr ?_
      refine b_fail a1 (fun q => absurd q c4) (fun q => ?_)
      refine (s18_20).mpr ?_
      exact fm c4
    · skip
      refine (s18_20).mpr ?_
      exact fm c4
theorem b_startOver {c : Int} (hy : isK al y 2) (hb : isK al b 15) (h0 : 0 ≤ c) (h1 : c ≤ aln al b) (ok : Q (some none) al (upI (upI (upI (upI (upI hi y 1 c) y 2 c) y 3 0) y 4 0) y 5 (-1)) (upR hr y 0 (some b))) : Ev d 11 [vR (some y), vR (some b), vI c] al hi hr Q := by
  have e1 : fMax 0 (fMin c (aln al b)) = c := by unfold fMax fMin; split <;> split <;> omega
  have hR9 : isR al b = true := isR_of hb (by decide) (by decide)
  rw [e11]
  refine s11_0.mpr (s11_1.mpr ?_)
  refine (s11_2 (by first | decide | assumption | omega)).mpr ?_
  refine s11_5.mpr (s11_6.mpr (s11_7.mpr (s11_8.mpr ?_)))
  refine (s11_9 (by first | decide | assumption | omega)).mpr ?_
  refine s11_10.mpr (s11_13.mpr ?_)
  try simp (disch := first | decide | assumption | omega) only [upI_eq, upI_a, upI_i, upR_eq, upR_a, upR_i, e1]
  refine (s11_16 (by first | decide | assumption | omega)).mpr ?_
  refine s11_19.mpr (s11_20.mpr ?_)
  try simp (disch := first | decide | assumption | omega) only [upI_eq, upI_a, upI_i, upR_eq, upR_a, upR_i, e1]
  refine (s11_21 (by first | decide | assumption | omega)).mpr ?_
  try simp (disch := first | decide | assumption | omega) only [upI_eq, upI_a, upI_i, upR_eq, upR_a, upR_i, e1]
  refine (s11_24 (by first | decide | assumption | omega)).mpr ?_
  refine s11_27.mpr (s11_28.mpr ?_)
  try simp (disch := first | decide | assumption | omega) only [upI_eq, upI_a, upI_i, upR_eq, upR_a, upR_i, e1]
  refine (s11_29 (by first | decide | assumption | omega)).mpr ?_
  refine s11_32.mpr (s11_33.mpr ?_)
  try simp (disch := first | decide | assumption | omega) only [upI_eq, upI_a, upI_i, upR_eq, upR_a, upR_i, e1]
  refine (s11_34 (by first | decide | assumption | omega)).mpr ?_
  refine s11_37.mpr (s11_38.mpr ?_)
  try simp (disch := first | decide | assumption | omega) only [upI_eq, upI_a, upI_i, upR_eq, upR_a, upR_i, e1]
  refine (s11_39 (by first | decide | assumption | omega)).mpr ?_
  try simp (disch := first | decide | assumption | omega) only [upI_eq, upI_a, upI_i, upR_eq, upR_a, upR_i, e1]
  refine (s11_42).mpr ?_
  exact ok
end CB
