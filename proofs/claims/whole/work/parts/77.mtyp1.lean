/-! THE REFERENCE and types: small ones -/
section MT1
variable {d : Nat} {al : AL} {hi : HI} {hr : HR} {Q : QQ} {B : Int → Int}
def wS (a : Nat) (i : Int) : Prop := (a = 49 ∧ (i = 35 ∨ i = 36 ∨ i = 38)) ∨ a = 75 ∨ a = 76
/-- the scratch rows are in order -/
def TS (hi : HI) : Prop := (hi 49 36 = 0 ∨ hi 49 36 = 1) ∧ 0 ≤ hi 49 35 ∧ hi 49 35 ≤ 20
theorem m_isLinear {t : Int} (hd : 1 ≤ d) (hy : linT t → Q (some (some (vI 1))) al hi hr) (hn : ¬ linT t → Q (some (some (vI 0))) al hi hr) : Ev d 228 [vI t] al hi hr Q := by
  have h9 : t < 0 → kindM t = -1 := fun h => if_pos h
  rw [e228]
  refine s228_0.mpr ?_
  refine s228_1.mpr (wif (fun c1 => ?_) (fun c1 => ?_))
  · skip
    refine s228_24.mpr ?_
    refine (s228_25 (by first | assumption | omega)).mpr ?_
    first | exact hy (by unfold linT; omega) | exact hn (by unfold linT; omega)
  · skip
    refine s228_4.mpr ?_
    refine (s228_5 (by omega)).mpr ?_
    refine m_kind.mpr ?_
    refine s228_8.mpr ?_
    refine s228_9.mpr (wif (fun c9 => ?_) (fun c9 => ?_))
    · skip
      refine s228_20.mpr (s228_21.mpr ?_)
      refine (s228_25 (by first | assumption | omega)).mpr ?_
      first | exact hy (by unfold linT; omega) | exact hn (by unfold linT; omega)
    · skip
      refine s228_12.mpr ?_
      refine (s228_13 (by omega)).mpr ?_
      refine m_kind.mpr ?_
      refine s228_16.mpr ?_
      refine s228_17.mpr (wif (fun c17 => ?_) (fun c17 => ?_))
      · skip
        refine s228_20.mpr (s228_21.mpr ?_)
        refine (s228_25 (by first | assumption | omega)).mpr ?_
        first | exact hy (by unfold linT; omega) | exact hn (by unfold linT; omega)
      · skip
        refine s228_24.mpr ?_
        refine (s228_25 (by first | assumption | omega)).mpr ?_
        first | exact hy (by unfold linT; omega) | exact hn (by unfold linT; omega)
theorem m_isHeap {t : Int} (hd : 1 ≤ d) (hy : heapT t → Q (some (some (vI 1))) al hi hr) (hn : ¬ heapT t → Q (some (some (vI 0))) al hi hr) : Ev d 229 [vI t] al hi hr Q := by
  have h9 : t < 0 → kindM t = -1 := fun h => if_pos h
  rw [e229]
  refine s229_0.mpr ?_
  refine s229_1.mpr (wif (fun c1 => ?_) (fun c1 => ?_))
  · skip
    refine s229_24.mpr ?_
    refine (s229_25 (by first | assumption | omega)).mpr ?_
    first | exact hy (by unfold heapT; omega) | exact hn (by unfold heapT; omega)
  · skip
    refine s229_4.mpr ?_
    refine (s229_5 (by omega)).mpr ?_
    refine m_kind.mpr ?_
    refine s229_8.mpr ?_
    refine s229_9.mpr (wif (fun c9 => ?_) (fun c9 => ?_))
    · skip
      refine s229_24.mpr ?_
      refine (s229_25 (by first | assumption | omega)).mpr ?_
      first | exact hy (by unfold heapT; omega) | exact hn (by unfold heapT; omega)
    · skip
      refine s229_12.mpr ?_
      refine (s229_13 (by omega)).mpr ?_
      refine m_kind.mpr ?_
      refine s229_16.mpr ?_
      refine s229_17.mpr (wif (fun c17 => ?_) (fun c17 => ?_))
      · skip
        refine s229_24.mpr ?_
        refine (s229_25 (by first | assumption | omega)).mpr ?_
        first | exact hy (by unfold heapT; omega) | exact hn (by unfold heapT; omega)
      · skip
        refine s229_20.mpr (s229_21.mpr ?_)
        refine (s229_25 (by first | assumption | omega)).mpr ?_
        first | exact hy (by unfold heapT; omega) | exact hn (by unfold heapT; omega)
theorem m_both {a b : Int} (hd : 2 ≤ d) (hq : Q (some (some (vI (both a b)))) al hi hr) : Ev d 246 [vI a, vI b] al hi hr Q := by
  unfold both at hq
  rw [e246]
  refine s246_0.mpr (s246_1.mpr ?_)
  refine s246_2.mpr (wif (fun c2 => ?_) (fun c2 => ?_))
  · skip
    refine s246_5.mpr (s246_6.mpr ?_)
    refine (s246_44).mpr ?_
    first | (exfalso; omega) | (rw [if_pos c2] at hq; exact hq) | (rw [if_neg c2, if_pos (And.intro (by assumption) (by assumption))] at hq; exact hq) | (rw [if_neg c2, if_neg (by omega), if_pos (And.intro (by assumption) (by assumption))] at hq; exact hq) | (rw [if_neg c2, if_neg (by omega), if_neg (by omega)] at hq; exact hq)
  · skip
    refine s246_9.mpr (s246_10.mpr ?_)
    refine s246_12.mpr (wif (fun c12 => ?_) (fun c12 => ?_))
    · skip
      refine s246_15.mpr ?_
      refine (s246_16 (by omega)).mpr ?_
      refine m_isHeap (by omega) (fun y16 => ?_) (fun y16 => ?_)
      · skip
        refine s246_19.mpr (wif (fun c19 => ?_) (fun c19 => ?_))
        · skip
          refine s246_26.mpr (s246_27.mpr ?_)
          refine s246_29.mpr (wif (fun c29 => ?_) (fun c29 => ?_))
          · skip
            refine s246_32.mpr ?_
            refine (s246_33 (by omega)).mpr ?_
            refine m_isHeap (by omega) (fun y33 => ?_) (fun y33 => ?_)
            · skip
              refine s246_36.mpr (wif (fun c36 => ?_) (fun c36 => ?_))
              · skip
                refine s246_43.mpr ?_
                refine (s246_44).mpr ?_
                first | (exfalso; omega) | (rw [if_pos c2] at hq; exact hq) | (rw [if_neg c2, if_pos (And.intro (by assumption) (by assumption))] at hq; exact hq) | (rw [if_neg c2, if_neg (by omega), if_pos (And.intro (by assumption) (by assumption))] at hq; exact hq) | (rw [if_neg c2, if_neg (by omega), if_neg (by omega)] at hq; exact hq)
              · skip
                refine s246_39.mpr (s246_40.mpr ?_)
                refine (s246_44).mpr ?_
                first | (exfalso; omega) | (rw [if_pos c2] at hq; exact hq) | (rw [if_neg c2, if_pos (And.intro (by assumption) (by assumption))] at hq; exact hq) | (rw [if_neg c2, if_neg (by omega), if_pos (And.intro (by assumption) (by assumption))] at hq; exact hq) | (rw [if_neg c2, if_neg (by omega), if_neg (by omega)] at hq; exact hq)
            · skip
              refine s246_36.mpr (wif (fun c36 => ?_) (fun c36 => ?_))
              · skip
                refine s246_43.mpr ?_
                refine (s246_44).mpr ?_
                first | (exfalso; omega) | (rw [if_pos c2] at hq; exact hq) | (rw [if_neg c2, if_pos (And.intro (by assumption) (by assumption))] at hq; exact hq) | (rw [if_neg c2, if_neg (by omega), if_pos (And.intro (by assumption) (by assumption))] at hq; exact hq) | (rw [if_neg c2, if_neg (by omega), if_neg (by omega)] at hq; exact hq)
              · skip
                refine s246_39.mpr (s246_40.mpr ?_)
                refine (s246_44).mpr ?_
                first | (exfalso; omega) | (rw [if_pos c2] at hq; exact hq) | (rw [if_neg c2, if_pos (And.intro (by assumption) (by assumption))] at hq; exact hq) | (rw [if_neg c2, if_neg (by omega), if_pos (And.intro (by assumption) (by assumption))] at hq; exact hq) | (rw [if_neg c2, if_neg (by omega), if_neg (by omega)] at hq; exact hq)
          · skip
            refine s246_43.mpr ?_
            refine (s246_44).mpr ?_
            first | (exfalso; omega) | (rw [if_pos c2] at hq; exact hq) | (rw [if_neg c2, if_pos (And.intro (by assumption) (by assumption))] at hq; exact hq) | (rw [if_neg c2, if_neg (by omega), if_pos (And.intro (by assumption) (by assumption))] at hq; exact hq) | (rw [if_neg c2, if_neg (by omega), if_neg (by omega)] at hq; exact hq)
        · skip
          refine s246_22.mpr (s246_23.mpr ?_)
          refine (s246_44).mpr ?_
          first | (exfalso; omega) | (rw [if_pos c2] at hq; exact hq) | (rw [if_neg c2, if_pos (And.intro (by assumption) (by assumption))] at hq; exact hq) | (rw [if_neg c2, if_neg (by omega), if_pos (And.intro (by assumption) (by assumption))] at hq; exact hq) | (rw [if_neg c2, if_neg (by omega), if_neg (by omega)] at hq; exact hq)
      · skip
        refine s246_19.mpr (wif (fun c19 => ?_) (fun c19 => ?_))
        · skip
          refine s246_26.mpr (s246_27.mpr ?_)
          refine s246_29.mpr (wif (fun c29 => ?_) (fun c29 => ?_))
          · skip
            refine s246_32.mpr ?_
            refine (s246_33 (by omega)).mpr ?_
            refine m_isHeap (by omega) (fun y33 => ?_) (fun y33 => ?_)
            · skip
              refine s246_36.mpr (wif (fun c36 => ?_) (fun c36 => ?_))
              · skip
                refine s246_43.mpr ?_
                refine (s246_44).mpr ?_
                first | (exfalso; omega) | (rw [if_pos c2] at hq; exact hq) | (rw [if_neg c2, if_pos (And.intro (by assumption) (by assumption))] at hq; exact hq) | (rw [if_neg c2, if_neg (by omega), if_pos (And.intro (by assumption) (by assumption))] at hq; exact hq) | (rw [if_neg c2, if_neg (by omega), if_neg (by omega)] at hq; exact hq)
              · skip
                refine s246_39.mpr (s246_40.mpr ?_)
                refine (s246_44).mpr ?_
                first | (exfalso; omega) | (rw [if_pos c2] at hq; exact hq) | (rw [if_neg c2, if_pos (And.intro (by assumption) (by assumption))] at hq; exact hq) | (rw [if_neg c2, if_neg (by omega), if_pos (And.intro (by assumption) (by assumption))] at hq; exact hq) | (rw [if_neg c2, if_neg (by omega), if_neg (by omega)] at hq; exact hq)
            · skip
              refine s246_36.mpr (wif (fun c36 => ?_) (fun c36 => ?_))
              · skip
                refine s246_43.mpr ?_
                refine (s246_44).mpr ?_
                first | (exfalso; omega) | (rw [if_pos c2] at hq; exact hq) | (rw [if_neg c2, if_pos (And.intro (by assumption) (by assumption))] at hq; exact hq) | (rw [if_neg c2, if_neg (by omega), if_pos (And.intro (by assumption) (by assumption))] at hq; exact hq) | (rw [if_neg c2, if_neg (by omega), if_neg (by omega)] at hq; exact hq)
              · skip
                refine s246_39.mpr (s246_40.mpr ?_)
                refine (s246_44).mpr ?_
                first | (exfalso; omega) | (rw [if_pos c2] at hq; exact hq) | (rw [if_neg c2, if_pos (And.intro (by assumption) (by assumption))] at hq; exact hq) | (rw [if_neg c2, if_neg (by omega), if_pos (And.intro (by assumption) (by assumption))] at hq; exact hq) | (rw [if_neg c2, if_neg (by omega), if_neg (by omega)] at hq; exact hq)
          · skip
            refine s246_43.mpr ?_
            refine (s246_44).mpr ?_
            first | (exfalso; omega) | (rw [if_pos c2] at hq; exact hq) | (rw [if_neg c2, if_pos (And.intro (by assumption) (by assumption))] at hq; exact hq) | (rw [if_neg c2, if_neg (by omega), if_pos (And.intro (by assumption) (by assumption))] at hq; exact hq) | (rw [if_neg c2, if_neg (by omega), if_neg (by omega)] at hq; exact hq)
        · skip
          refine s246_22.mpr (s246_23.mpr ?_)
          refine (s246_44).mpr ?_
          first | (exfalso; omega) | (rw [if_pos c2] at hq; exact hq) | (rw [if_neg c2, if_pos (And.intro (by assumption) (by assumption))] at hq; exact hq) | (rw [if_neg c2, if_neg (by omega), if_pos (And.intro (by assumption) (by assumption))] at hq; exact hq) | (rw [if_neg c2, if_neg (by omega), if_neg (by omega)] at hq; exact hq)
    · skip
      refine s246_26.mpr (s246_27.mpr ?_)
      refine s246_29.mpr (wif (fun c29 => ?_) (fun c29 => ?_))
      · skip
        refine s246_32.mpr ?_
        refine (s246_33 (by omega)).mpr ?_
        refine m_isHeap (by omega) (fun y33 => ?_) (fun y33 => ?_)
        · skip
          refine s246_36.mpr (wif (fun c36 => ?_) (fun c36 => ?_))
          · skip
            refine s246_43.mpr ?_
            refine (s246_44).mpr ?_
            first | (exfalso; omega) | (rw [if_pos c2] at hq; exact hq) | (rw [if_neg c2, if_pos (And.intro (by assumption) (by assumption))] at hq; exact hq) | (rw [if_neg c2, if_neg (by omega), if_pos (And.intro (by assumption) (by assumption))] at hq; exact hq) | (rw [if_neg c2, if_neg (by omega), if_neg (by omega)] at hq; exact hq)
          · skip
            refine s246_39.mpr (s246_40.mpr ?_)
            refine (s246_44).mpr ?_
            first | (exfalso; omega) | (rw [if_pos c2] at hq; exact hq) | (rw [if_neg c2, if_pos (And.intro (by assumption) (by assumption))] at hq; exact hq) | (rw [if_neg c2, if_neg (by omega), if_pos (And.intro (by assumption) (by assumption))] at hq; exact hq) | (rw [if_neg c2, if_neg (by omega), if_neg (by omega)] at hq; exact hq)
        · skip
          refine s246_36.mpr (wif (fun c36 => ?_) (fun c36 => ?_))
          · skip
            refine s246_43.mpr ?_
            refine (s246_44).mpr ?_
            first | (exfalso; omega) | (rw [if_pos c2] at hq; exact hq) | (rw [if_neg c2, if_pos (And.intro (by assumption) (by assumption))] at hq; exact hq) | (rw [if_neg c2, if_neg (by omega), if_pos (And.intro (by assumption) (by assumption))] at hq; exact hq) | (rw [if_neg c2, if_neg (by omega), if_neg (by omega)] at hq; exact hq)
          · skip
            refine s246_39.mpr (s246_40.mpr ?_)
            refine (s246_44).mpr ?_
            first | (exfalso; omega) | (rw [if_pos c2] at hq; exact hq) | (rw [if_neg c2, if_pos (And.intro (by assumption) (by assumption))] at hq; exact hq) | (rw [if_neg c2, if_neg (by omega), if_pos (And.intro (by assumption) (by assumption))] at hq; exact hq) | (rw [if_neg c2, if_neg (by omega), if_neg (by omega)] at hq; exact hq)
      · skip
        refine s246_43.mpr ?_
        refine (s246_44).mpr ?_
        first | (exfalso; omega) | (rw [if_pos c2] at hq; exact hq) | (rw [if_neg c2, if_pos (And.intro (by assumption) (by assumption))] at hq; exact hq) | (rw [if_neg c2, if_neg (by omega), if_pos (And.intro (by assumption) (by assumption))] at hq; exact hq) | (rw [if_neg c2, if_neg (by omega), if_neg (by omega)] at hq; exact hq)
theorem m_wants {x r : Int} (hA : SA al) (hx : x = 0 ∨ x = 1) (h36 : hi 49 36 = r) (hr2 : r = 0 ∨ r = 1) (ok : r = 1 ∧ x = 1 → Q (some none) al hi hr) (no : r = 0 ∨ x = 0 → Q (some none) al (upI hi 49 36 0) hr) : Ev d 244 [vR (some 49), vI x] al hi hr Q := by
  rw [e244]
  have kM : isK al 49 13 := hA.k (by decide) (by decide) rfl
  refine s244_0.mpr (s244_1.mpr ?_)
  refine (s244_2 kM).mpr ?_
  try simp (disch := first | decide | assumption | omega) only [h36]
  refine s244_5.mpr (wif (fun c5 => ?_) (fun c5 => ?_))
  · skip
    refine s244_16.mpr ?_
    refine (s244_17 kM (by first | assumption | omega)).mpr ?_
    refine (s244_20).mpr ?_
    first | (exfalso; omega) | exact no (by omega) | (rw [upI_same (by omega)]; exact ok (by omega))
  · skip
    refine s244_8.mpr ?_
    refine s244_9.mpr (wif (fun c9 => ?_) (fun c9 => ?_))
    · skip
      refine s244_16.mpr ?_
      refine (s244_17 kM (by first | assumption | omega)).mpr ?_
      refine (s244_20).mpr ?_
      first | (exfalso; omega) | exact no (by omega) | (rw [upI_same (by omega)]; exact ok (by omega))
    · skip
      refine s244_12.mpr (s244_13.mpr ?_)
      refine (s244_17 kM (by first | assumption | omega)).mpr ?_
      refine (s244_20).mpr ?_
      first | (exfalso; omega) | exact no (by omega) | (rw [upI_same (by omega)]; exact ok (by omega))
theorem m_pop {t r : Int} (hA : SA al) (hR : MR hr) (hd : 1 ≤ d) (h36 : hi 49 36 = r) (hr2 : r = 0 ∨ r = 1) (ht : hi 49 35 = t) (ht0 : 0 ≤ t ∧ t ≤ 20) (ok : r = 1 ∧ 0 < t → Q (some (some (vI (hi 75 (t - 1))))) al (upI hi 49 35 (t - 1)) hr) (no : ∀ v hi', FW wS hi hi' → hi' 49 36 = 0 → hi' 49 35 = t → (r = 0 ∨ ¬ 0 < t) → Q (some (some (vI v))) al hi' hr) : Ev d 247 [vR (some 49)] al hi hr Q := by
  rw [e247]
  have kM : isK al 49 13 := hA.k (by decide) (by decide) rfl
  have l75 := SA.len (a := 75) (n := 24) hA (by decide) (by decide) rfl
  refine s247_0.mpr (s247_1.mpr ?_)
  refine (s247_2 kM).mpr ?_
  try simp (disch := first | decide | assumption | omega) only [kon, knt_some, knt_none, Option.toList_some, Option.toList_none, List.cons_append, List.nil_append, upI_eq, upI_a, upI_i, upR_eq, upR_a, upR_i, ht, h36, fSub_id]
  refine s247_5.mpr (wif (fun c5 => ?_) (fun c5 => ?_))
  · skip
    refine s247_8.mpr (s247_9.mpr ?_)
    refine (s247_13 (by omega) kM).mpr ?_
    refine m_wants hA (by omega) (by (try simp (disch := decide) only [upI_eq, upI_a, upI_i, upR_eq, upR_a, upR_i]); first | assumption | rfl) (by omega) (fun y13 => ?_) (fun y13 => ?_)
    · skip
      refine s247_16.mpr ?_
      refine (s247_17 kM).mpr ?_
      try simp (disch := first | decide | assumption | omega) only [kon, knt_some, knt_none, Option.toList_some, Option.toList_none, List.cons_append, List.nil_append, upI_eq, upI_a, upI_i, upR_eq, upR_a, upR_i, ht, h36, fSub_id]
      refine s247_20.mpr (wif (fun c20 => ?_) (fun c20 => ?_))
      · skip
        refine s247_23.mpr ?_
        refine (s247_24).mpr ?_
        first | (exfalso; omega) | exact ok (by omega) | exact no _ _ (by repeat' (first | assumption | exact FW.rf | refine FW.up ?_ (by unfold wS; omega) | (refine FW.tr ?_ (by assumption)))) (by (try simp (disch := decide) only [upI_eq, upI_a, upI_i, upR_eq, upR_a, upR_i])) (by (try simp (disch := decide) only [upI_eq, upI_a, upI_i, upR_eq, upR_a, upR_i]); exact ht) (by omega)
      · skip
        refine s247_25.mpr (s247_26.mpr ?_)
        refine (s247_27 kM).mpr ?_
        refine s247_30.mpr (s247_31.mpr ?_)
        try simp (disch := first | decide | assumption | omega) only [kon, knt_some, knt_none, Option.toList_some, Option.toList_none, List.cons_append, List.nil_append, upI_eq, upI_a, upI_i, upR_eq, upR_a, upR_i, ht, h36, fSub_id]
        refine (s247_32 kM).mpr ?_
        refine s247_35.mpr ((s247_36 kM).mpr ?_)
        rw [mr_33 hR]
        refine s247_39.mpr ?_
        try simp (disch := first | decide | assumption | omega) only [kon, knt_some, knt_none, Option.toList_some, Option.toList_none, List.cons_append, List.nil_append, upI_eq, upI_a, upI_i, upR_eq, upR_a, upR_i, ht, h36, fSub_id]
        refine (s247_40 kM).mpr ?_
        try simp (disch := first | decide | assumption | omega) only [kon, knt_some, knt_none, Option.toList_some, Option.toList_none, List.cons_append, List.nil_append, upI_eq, upI_a, upI_i, upR_eq, upR_a, upR_i, ht, h36, fSub_id]
        refine (s247_43 (hA.k (by decide) (by decide) rfl) (by first | assumption | omega) (by first | assumption | omega)).mpr ?_
        try simp (disch := first | decide | assumption | omega) only [kon, knt_some, knt_none, Option.toList_some, Option.toList_none, List.cons_append, List.nil_append, upI_eq, upI_a, upI_i, upR_eq, upR_a, upR_i, ht, h36, fSub_id]
        refine (s247_44).mpr ?_
        first | (exfalso; omega) | exact ok (by omega) | exact no _ _ (by repeat' (first | assumption | exact FW.rf | refine FW.up ?_ (by unfold wS; omega) | (refine FW.tr ?_ (by assumption)))) (by (try simp (disch := decide) only [upI_eq, upI_a, upI_i, upR_eq, upR_a, upR_i])) (by (try simp (disch := decide) only [upI_eq, upI_a, upI_i, upR_eq, upR_a, upR_i]); exact ht) (by omega)
    · skip
      refine s247_16.mpr ?_
      refine (s247_17 kM).mpr ?_
      try simp (disch := first | decide | assumption | omega) only [kon, knt_some, knt_none, Option.toList_some, Option.toList_none, List.cons_append, List.nil_append, upI_eq, upI_a, upI_i, upR_eq, upR_a, upR_i, ht, h36, fSub_id]
      refine s247_20.mpr (wif (fun c20 => ?_) (fun c20 => ?_))
      · skip
        refine s247_23.mpr ?_
        refine (s247_24).mpr ?_
        first | (exfalso; omega) | exact ok (by omega) | exact no _ _ (by repeat' (first | assumption | exact FW.rf | refine FW.up ?_ (by unfold wS; omega) | (refine FW.tr ?_ (by assumption)))) (by (try simp (disch := decide) only [upI_eq, upI_a, upI_i, upR_eq, upR_a, upR_i])) (by (try simp (disch := decide) only [upI_eq, upI_a, upI_i, upR_eq, upR_a, upR_i]); exact ht) (by omega)
      · skip
        refine s247_25.mpr (s247_26.mpr ?_)
        refine (s247_27 kM).mpr ?_
        refine s247_30.mpr (s247_31.mpr ?_)
        try simp (disch := first | decide | assumption | omega) only [kon, knt_some, knt_none, Option.toList_some, Option.toList_none, List.cons_append, List.nil_append, upI_eq, upI_a, upI_i, upR_eq, upR_a, upR_i, ht, h36, fSub_id]
        refine (s247_32 kM).mpr ?_
        refine s247_35.mpr ((s247_36 kM).mpr ?_)
        rw [mr_33 hR]
        refine s247_39.mpr ?_
        try simp (disch := first | decide | assumption | omega) only [kon, knt_some, knt_none, Option.toList_some, Option.toList_none, List.cons_append, List.nil_append, upI_eq, upI_a, upI_i, upR_eq, upR_a, upR_i, ht, h36, fSub_id]
        refine (s247_40 kM).mpr ?_
        try simp (disch := first | decide | assumption | omega) only [kon, knt_some, knt_none, Option.toList_some, Option.toList_none, List.cons_append, List.nil_append, upI_eq, upI_a, upI_i, upR_eq, upR_a, upR_i, ht, h36, fSub_id]
        refine (s247_43 (hA.k (by decide) (by decide) rfl) (by first | assumption | omega) (by first | assumption | omega)).mpr ?_
        try simp (disch := first | decide | assumption | omega) only [kon, knt_some, knt_none, Option.toList_some, Option.toList_none, List.cons_append, List.nil_append, upI_eq, upI_a, upI_i, upR_eq, upR_a, upR_i, ht, h36, fSub_id]
        refine (s247_44).mpr ?_
        first | (exfalso; omega) | exact ok (by omega) | exact no _ _ (by repeat' (first | assumption | exact FW.rf | refine FW.up ?_ (by unfold wS; omega) | (refine FW.tr ?_ (by assumption)))) (by (try simp (disch := decide) only [upI_eq, upI_a, upI_i, upR_eq, upR_a, upR_i])) (by (try simp (disch := decide) only [upI_eq, upI_a, upI_i, upR_eq, upR_a, upR_i]); exact ht) (by omega)
  · skip
    refine s247_12.mpr ?_
    refine (s247_13 (by omega) kM).mpr ?_
    refine m_wants hA (by omega) (by (try simp (disch := decide) only [upI_eq, upI_a, upI_i, upR_eq, upR_a, upR_i]); first | assumption | rfl) (by omega) (fun y13 => ?_) (fun y13 => ?_)
    · skip
      refine s247_16.mpr ?_
      refine (s247_17 kM).mpr ?_
      try simp (disch := first | decide | assumption | omega) only [kon, knt_some, knt_none, Option.toList_some, Option.toList_none, List.cons_append, List.nil_append, upI_eq, upI_a, upI_i, upR_eq, upR_a, upR_i, ht, h36, fSub_id]
      refine s247_20.mpr (wif (fun c20 => ?_) (fun c20 => ?_))
      · skip
        refine s247_23.mpr ?_
        refine (s247_24).mpr ?_
        first | (exfalso; omega) | exact ok (by omega) | exact no _ _ (by repeat' (first | assumption | exact FW.rf | refine FW.up ?_ (by unfold wS; omega) | (refine FW.tr ?_ (by assumption)))) (by (try simp (disch := decide) only [upI_eq, upI_a, upI_i, upR_eq, upR_a, upR_i])) (by (try simp (disch := decide) only [upI_eq, upI_a, upI_i, upR_eq, upR_a, upR_i]); exact ht) (by omega)
      · skip
        refine s247_25.mpr (s247_26.mpr ?_)
        refine (s247_27 kM).mpr ?_
        refine s247_30.mpr (s247_31.mpr ?_)
        try simp (disch := first | decide | assumption | omega) only [kon, knt_some, knt_none, Option.toList_some, Option.toList_none, List.cons_append, List.nil_append, upI_eq, upI_a, upI_i, upR_eq, upR_a, upR_i, ht, h36, fSub_id]
        refine (s247_32 kM).mpr ?_
        refine s247_35.mpr ((s247_36 kM).mpr ?_)
        rw [mr_33 hR]
        refine s247_39.mpr ?_
        try simp (disch := first | decide | assumption | omega) only [kon, knt_some, knt_none, Option.toList_some, Option.toList_none, List.cons_append, List.nil_append, upI_eq, upI_a, upI_i, upR_eq, upR_a, upR_i, ht, h36, fSub_id]
        refine (s247_40 kM).mpr ?_
        try simp (disch := first | decide | assumption | omega) only [kon, knt_some, knt_none, Option.toList_some, Option.toList_none, List.cons_append, List.nil_append, upI_eq, upI_a, upI_i, upR_eq, upR_a, upR_i, ht, h36, fSub_id]
        refine (s247_43 (hA.k (by decide) (by decide) rfl) (by first | assumption | omega) (by first | assumption | omega)).mpr ?_
        try simp (disch := first | decide | assumption | omega) only [kon, knt_some, knt_none, Option.toList_some, Option.toList_none, List.cons_append, List.nil_append, upI_eq, upI_a, upI_i, upR_eq, upR_a, upR_i, ht, h36, fSub_id]
        refine (s247_44).mpr ?_
        first | (exfalso; omega) | exact ok (by omega) | exact no _ _ (by repeat' (first | assumption | exact FW.rf | refine FW.up ?_ (by unfold wS; omega) | (refine FW.tr ?_ (by assumption)))) (by (try simp (disch := decide) only [upI_eq, upI_a, upI_i, upR_eq, upR_a, upR_i])) (by (try simp (disch := decide) only [upI_eq, upI_a, upI_i, upR_eq, upR_a, upR_i]); exact ht) (by omega)
    · skip
      refine s247_16.mpr ?_
      refine (s247_17 kM).mpr ?_
      try simp (disch := first | decide | assumption | omega) only [kon, knt_some, knt_none, Option.toList_some, Option.toList_none, List.cons_append, List.nil_append, upI_eq, upI_a, upI_i, upR_eq, upR_a, upR_i, ht, h36, fSub_id]
      refine s247_20.mpr (wif (fun c20 => ?_) (fun c20 => ?_))
      · skip
        refine s247_23.mpr ?_
        refine (s247_24).mpr ?_
        first | (exfalso; omega) | exact ok (by omega) | exact no _ _ (by repeat' (first | assumption | exact FW.rf | refine FW.up ?_ (by unfold wS; omega) | (refine FW.tr ?_ (by assumption)))) (by (try simp (disch := decide) only [upI_eq, upI_a, upI_i, upR_eq, upR_a, upR_i])) (by (try simp (disch := decide) only [upI_eq, upI_a, upI_i, upR_eq, upR_a, upR_i]); exact ht) (by omega)
      · skip
        refine s247_25.mpr (s247_26.mpr ?_)
        refine (s247_27 kM).mpr ?_
        refine s247_30.mpr (s247_31.mpr ?_)
        try simp (disch := first | decide | assumption | omega) only [kon, knt_some, knt_none, Option.toList_some, Option.toList_none, List.cons_append, List.nil_append, upI_eq, upI_a, upI_i, upR_eq, upR_a, upR_i, ht, h36, fSub_id]
        refine (s247_32 kM).mpr ?_
        refine s247_35.mpr ((s247_36 kM).mpr ?_)
        rw [mr_33 hR]
        refine s247_39.mpr ?_
        try simp (disch := first | decide | assumption | omega) only [kon, knt_some, knt_none, Option.toList_some, Option.toList_none, List.cons_append, List.nil_append, upI_eq, upI_a, upI_i, upR_eq, upR_a, upR_i, ht, h36, fSub_id]
        refine (s247_40 kM).mpr ?_
        try simp (disch := first | decide | assumption | omega) only [kon, knt_some, knt_none, Option.toList_some, Option.toList_none, List.cons_append, List.nil_append, upI_eq, upI_a, upI_i, upR_eq, upR_a, upR_i, ht, h36, fSub_id]
        refine (s247_43 (hA.k (by decide) (by decide) rfl) (by first | assumption | omega) (by first | assumption | omega)).mpr ?_
        try simp (disch := first | decide | assumption | omega) only [kon, knt_some, knt_none, Option.toList_some, Option.toList_none, List.cons_append, List.nil_append, upI_eq, upI_a, upI_i, upR_eq, upR_a, upR_i, ht, h36, fSub_id]
        refine (s247_44).mpr ?_
        first | (exfalso; omega) | exact ok (by omega) | exact no _ _ (by repeat' (first | assumption | exact FW.rf | refine FW.up ?_ (by unfold wS; omega) | (refine FW.tr ?_ (by assumption)))) (by (try simp (disch := decide) only [upI_eq, upI_a, upI_i, upR_eq, upR_a, upR_i])) (by (try simp (disch := decide) only [upI_eq, upI_a, upI_i, upR_eq, upR_a, upR_i]); exact ht) (by omega)
theorem m_push {t v : Int} (hA : SA al) (hR : MR hr) (ht : hi 49 35 = t) (ht0 : 0 ≤ t ∧ t < 24) (hq : Q (some none) al (upI (upI hi 75 t v) 49 35 (t + 1)) hr) : Ev d 248 [vR (some 49), vI v] al hi hr Q := by
  rw [e248]
  have kM : isK al 49 13 := hA.k (by decide) (by decide) rfl
  have l75 := SA.len (a := 75) (n := 24) hA (by decide) (by decide) rfl
  refine s248_0.mpr ((s248_1 kM).mpr ?_)
  rw [mr_33 hR]
  refine s248_4.mpr ?_
  refine (s248_5 kM).mpr ?_
  refine s248_8.mpr ?_
  try simp (disch := first | decide | assumption | omega) only [upI_eq, upI_a, upI_i, upR_eq, upR_a, upR_i, ht, fAdd_id]
  refine (s248_9 (hA.k (by decide) (by decide) rfl) (by first | assumption | omega) (by first | assumption | omega)).mpr ?_
  refine s248_10.mpr (s248_11.mpr ?_)
  try simp (disch := first | decide | assumption | omega) only [upI_eq, upI_a, upI_i, upR_eq, upR_a, upR_i, ht, fAdd_id]
  refine (s248_12 kM).mpr ?_
  refine s248_15.mpr (s248_16.mpr ?_)
  try simp (disch := first | decide | assumption | omega) only [upI_eq, upI_a, upI_i, upR_eq, upR_a, upR_i, ht, fAdd_id]
  refine (s248_17 kM).mpr ?_
  try simp (disch := first | decide | assumption | omega) only [upI_eq, upI_a, upI_i, upR_eq, upR_a, upR_i, ht, fAdd_id]
  refine (s248_20).mpr ?_
  exact hq
theorem m_popFor {t v r : Int} (hA : SA al) (hR : MR hr) (hd : 2 ≤ d) (h36 : hi 49 36 = r) (hr2 : r = 0 ∨ r = 1) (ht : hi 49 35 = t) (ht0 : 0 ≤ t ∧ t ≤ 20) (ok : r = 1 ∧ 0 < t ∧ leT (hi 75 (t - 1)) v → Q (some none) al (upI hi 49 35 (t - 1)) hr) (no : ∀ hi' t', FW wS hi hi' → hi' 49 36 = 0 → hi' 49 35 = t' → (0 ≤ t' ∧ t' ≤ 20) → (r = 0 ∨ ¬ (0 < t ∧ leT (hi 75 (t - 1)) v)) → Q (some none) al hi' hr) : Ev d 249 [vR (some 49), vI v] al hi hr Q := by
  rw [e249]
  have kM : isK al 49 13 := hA.k (by decide) (by decide) rfl
  refine s249_0.mpr ?_
  refine (s249_1 (by omega) kM).mpr ?_
  refine m_pop hA hR (by omega) (by (try simp (disch := decide) only [upI_eq, upI_a, upI_i, upR_eq, upR_a, upR_i]); first | assumption | rfl) (by omega) (by (try simp (disch := decide) only [upI_eq, upI_a, upI_i, upR_eq, upR_a, upR_i]); first | assumption | rfl) (by omega) (fun y1 => ?_) (fun v1 hi1 w1 z1 u1 x1 => ?_)
  · skip
    refine s249_4.mpr (s249_5.mpr (s249_6.mpr ?_))
    refine (s249_7 kM).mpr ?_
    try simp (disch := first | decide | assumption | omega) only [kon, knt_some, knt_none, Option.toList_some, Option.toList_none, List.cons_append, List.nil_append, upI_eq, upI_a, upI_i, upR_eq, upR_a, upR_i, h36]
    refine s249_10.mpr (wif (fun c10 => ?_) (fun c10 => ?_))
    · skip
      refine s249_35.mpr ?_
      refine (s249_36 (by omega) kM).mpr ?_
      refine m_wants hA (by omega) (by (try simp (disch := decide) only [upI_eq, upI_a, upI_i, upR_eq, upR_a, upR_i]); first | assumption | rfl) (by omega) (fun y36 => ?_) (fun y36 => ?_)
      · skip
        refine (s249_39).mpr ?_
        first | (exfalso; omega) | exact ok (by unfold leT; omega) | exact no _ _ (by repeat' (first | assumption | exact FW.rf | refine FW.up ?_ (by unfold wS; omega) | (refine FW.tr ?_ (by assumption)))) (by (try simp (disch := decide) only [upI_eq, upI_a, upI_i, upR_eq, upR_a, upR_i]); try assumption) (by (try simp (disch := decide) only [upI_eq, upI_a, upI_i, upR_eq, upR_a, upR_i]); first | assumption | rfl) (by omega) (by unfold leT; omega)
      · skip
        refine (s249_39).mpr ?_
        first | (exfalso; omega) | exact ok (by unfold leT; omega) | exact no _ _ (by repeat' (first | assumption | exact FW.rf | refine FW.up ?_ (by unfold wS; omega) | (refine FW.tr ?_ (by assumption)))) (by (try simp (disch := decide) only [upI_eq, upI_a, upI_i, upR_eq, upR_a, upR_i]); try assumption) (by (try simp (disch := decide) only [upI_eq, upI_a, upI_i, upR_eq, upR_a, upR_i]); first | assumption | rfl) (by omega) (by unfold leT; omega)
    · skip
      refine s249_13.mpr (s249_14.mpr ?_)
      refine s249_15.mpr (wif (fun c15 => ?_) (fun c15 => ?_))
      · skip
        refine s249_31.mpr (s249_32.mpr ?_)
        refine (s249_36 (by omega) kM).mpr ?_
        refine m_wants hA (by omega) (by (try simp (disch := decide) only [upI_eq, upI_a, upI_i, upR_eq, upR_a, upR_i]); first | assumption | rfl) (by omega) (fun y36 => ?_) (fun y36 => ?_)
        · skip
          refine (s249_39).mpr ?_
          first | (exfalso; omega) | exact ok (by unfold leT; omega) | exact no _ _ (by repeat' (first | assumption | exact FW.rf | refine FW.up ?_ (by unfold wS; omega) | (refine FW.tr ?_ (by assumption)))) (by (try simp (disch := decide) only [upI_eq, upI_a, upI_i, upR_eq, upR_a, upR_i]); try assumption) (by (try simp (disch := decide) only [upI_eq, upI_a, upI_i, upR_eq, upR_a, upR_i]); first | assumption | rfl) (by omega) (by unfold leT; omega)
        · skip
          refine (s249_39).mpr ?_
          first | (exfalso; omega) | exact ok (by unfold leT; omega) | exact no _ _ (by repeat' (first | assumption | exact FW.rf | refine FW.up ?_ (by unfold wS; omega) | (refine FW.tr ?_ (by assumption)))) (by (try simp (disch := decide) only [upI_eq, upI_a, upI_i, upR_eq, upR_a, upR_i]); try assumption) (by (try simp (disch := decide) only [upI_eq, upI_a, upI_i, upR_eq, upR_a, upR_i]); first | assumption | rfl) (by omega) (by unfold leT; omega)
      · skip
        refine s249_18.mpr (s249_19.mpr ?_)
        refine s249_21.mpr (wif (fun c21 => ?_) (fun c21 => ?_))
        · skip
          refine s249_24.mpr ?_
          refine (s249_25 (by omega)).mpr ?_
          refine m_isHeap (by omega) (fun y25 => ?_) (fun y25 => ?_)
          · skip
            refine s249_28.mpr (wif (fun c28 => ?_) (fun c28 => ?_))
            · skip
              refine s249_35.mpr ?_
              refine (s249_36 (by omega) kM).mpr ?_
              refine m_wants hA (by omega) (by (try simp (disch := decide) only [upI_eq, upI_a, upI_i, upR_eq, upR_a, upR_i]); first | assumption | rfl) (by omega) (fun y36 => ?_) (fun y36 => ?_)
              · skip
                refine (s249_39).mpr ?_
                first | (exfalso; omega) | exact ok (by unfold leT; omega) | exact no _ _ (by repeat' (first | assumption | exact FW.rf | refine FW.up ?_ (by unfold wS; omega) | (refine FW.tr ?_ (by assumption)))) (by (try simp (disch := decide) only [upI_eq, upI_a, upI_i, upR_eq, upR_a, upR_i]); try assumption) (by (try simp (disch := decide) only [upI_eq, upI_a, upI_i, upR_eq, upR_a, upR_i]); first | assumption | rfl) (by omega) (by unfold leT; omega)
              · skip
                refine (s249_39).mpr ?_
                first | (exfalso; omega) | exact ok (by unfold leT; omega) | exact no _ _ (by repeat' (first | assumption | exact FW.rf | refine FW.up ?_ (by unfold wS; omega) | (refine FW.tr ?_ (by assumption)))) (by (try simp (disch := decide) only [upI_eq, upI_a, upI_i, upR_eq, upR_a, upR_i]); try assumption) (by (try simp (disch := decide) only [upI_eq, upI_a, upI_i, upR_eq, upR_a, upR_i]); first | assumption | rfl) (by omega) (by unfold leT; omega)
            · skip
              refine s249_31.mpr (s249_32.mpr ?_)
              refine (s249_36 (by omega) kM).mpr ?_
              refine m_wants hA (by omega) (by (try simp (disch := decide) only [upI_eq, upI_a, upI_i, upR_eq, upR_a, upR_i]); first | assumption | rfl) (by omega) (fun y36 => ?_) (fun y36 => ?_)
              · skip
                refine (s249_39).mpr ?_
                first | (exfalso; omega) | exact ok (by unfold leT; omega) | exact no _ _ (by repeat' (first | assumption | exact FW.rf | refine FW.up ?_ (by unfold wS; omega) | (refine FW.tr ?_ (by assumption)))) (by (try simp (disch := decide) only [upI_eq, upI_a, upI_i, upR_eq, upR_a, upR_i]); try assumption) (by (try simp (disch := decide) only [upI_eq, upI_a, upI_i, upR_eq, upR_a, upR_i]); first | assumption | rfl) (by omega) (by unfold leT; omega)
              · skip
                refine (s249_39).mpr ?_
                first | (exfalso; omega) | exact ok (by unfold leT; omega) | exact no _ _ (by repeat' (first | assumption | exact FW.rf | refine FW.up ?_ (by unfold wS; omega) | (refine FW.tr ?_ (by assumption)))) (by (try simp (disch := decide) only [upI_eq, upI_a, upI_i, upR_eq, upR_a, upR_i]); try assumption) (by (try simp (disch := decide) only [upI_eq, upI_a, upI_i, upR_eq, upR_a, upR_i]); first | assumption | rfl) (by omega) (by unfold leT; omega)
          · skip
            refine s249_28.mpr (wif (fun c28 => ?_) (fun c28 => ?_))
            · skip
              refine s249_35.mpr ?_
              refine (s249_36 (by omega) kM).mpr ?_
              refine m_wants hA (by omega) (by (try simp (disch := decide) only [upI_eq, upI_a, upI_i, upR_eq, upR_a, upR_i]); first | assumption | rfl) (by omega) (fun y36 => ?_) (fun y36 => ?_)
              · skip
                refine (s249_39).mpr ?_
                first | (exfalso; omega) | exact ok (by unfold leT; omega) | exact no _ _ (by repeat' (first | assumption | exact FW.rf | refine FW.up ?_ (by unfold wS; omega) | (refine FW.tr ?_ (by assumption)))) (by (try simp (disch := decide) only [upI_eq, upI_a, upI_i, upR_eq, upR_a, upR_i]); try assumption) (by (try simp (disch := decide) only [upI_eq, upI_a, upI_i, upR_eq, upR_a, upR_i]); first | assumption | rfl) (by omega) (by unfold leT; omega)
              · skip
                refine (s249_39).mpr ?_
                first | (exfalso; omega) | exact ok (by unfold leT; omega) | exact no _ _ (by repeat' (first | assumption | exact FW.rf | refine FW.up ?_ (by unfold wS; omega) | (refine FW.tr ?_ (by assumption)))) (by (try simp (disch := decide) only [upI_eq, upI_a, upI_i, upR_eq, upR_a, upR_i]); try assumption) (by (try simp (disch := decide) only [upI_eq, upI_a, upI_i, upR_eq, upR_a, upR_i]); first | assumption | rfl) (by omega) (by unfold leT; omega)
            · skip
              refine s249_31.mpr (s249_32.mpr ?_)
              refine (s249_36 (by omega) kM).mpr ?_
              refine m_wants hA (by omega) (by (try simp (disch := decide) only [upI_eq, upI_a, upI_i, upR_eq, upR_a, upR_i]); first | assumption | rfl) (by omega) (fun y36 => ?_) (fun y36 => ?_)
              · skip
                refine (s249_39).mpr ?_
                first | (exfalso; omega) | exact ok (by unfold leT; omega) | exact no _ _ (by repeat' (first | assumption | exact FW.rf | refine FW.up ?_ (by unfold wS; omega) | (refine FW.tr ?_ (by assumption)))) (by (try simp (disch := decide) only [upI_eq, upI_a, upI_i, upR_eq, upR_a, upR_i]); try assumption) (by (try simp (disch := decide) only [upI_eq, upI_a, upI_i, upR_eq, upR_a, upR_i]); first | assumption | rfl) (by omega) (by unfold leT; omega)
              · skip
                refine (s249_39).mpr ?_
                first | (exfalso; omega) | exact ok (by unfold leT; omega) | exact no _ _ (by repeat' (first | assumption | exact FW.rf | refine FW.up ?_ (by unfold wS; omega) | (refine FW.tr ?_ (by assumption)))) (by (try simp (disch := decide) only [upI_eq, upI_a, upI_i, upR_eq, upR_a, upR_i]); try assumption) (by (try simp (disch := decide) only [upI_eq, upI_a, upI_i, upR_eq, upR_a, upR_i]); first | assumption | rfl) (by omega) (by unfold leT; omega)
        · skip
          refine s249_35.mpr ?_
          refine (s249_36 (by omega) kM).mpr ?_
          refine m_wants hA (by omega) (by (try simp (disch := decide) only [upI_eq, upI_a, upI_i, upR_eq, upR_a, upR_i]); first | assumption | rfl) (by omega) (fun y36 => ?_) (fun y36 => ?_)
          · skip
            refine (s249_39).mpr ?_
            first | (exfalso; omega) | exact ok (by unfold leT; omega) | exact no _ _ (by repeat' (first | assumption | exact FW.rf | refine FW.up ?_ (by unfold wS; omega) | (refine FW.tr ?_ (by assumption)))) (by (try simp (disch := decide) only [upI_eq, upI_a, upI_i, upR_eq, upR_a, upR_i]); try assumption) (by (try simp (disch := decide) only [upI_eq, upI_a, upI_i, upR_eq, upR_a, upR_i]); first | assumption | rfl) (by omega) (by unfold leT; omega)
          · skip
            refine (s249_39).mpr ?_
            first | (exfalso; omega) | exact ok (by unfold leT; omega) | exact no _ _ (by repeat' (first | assumption | exact FW.rf | refine FW.up ?_ (by unfold wS; omega) | (refine FW.tr ?_ (by assumption)))) (by (try simp (disch := decide) only [upI_eq, upI_a, upI_i, upR_eq, upR_a, upR_i]); try assumption) (by (try simp (disch := decide) only [upI_eq, upI_a, upI_i, upR_eq, upR_a, upR_i]); first | assumption | rfl) (by omega) (by unfold leT; omega)
  · skip
    refine s249_4.mpr (s249_5.mpr (s249_6.mpr ?_))
    refine (s249_7 kM).mpr ?_
    try simp (disch := first | decide | assumption | omega) only [kon, knt_some, knt_none, Option.toList_some, Option.toList_none, List.cons_append, List.nil_append, upI_eq, upI_a, upI_i, upR_eq, upR_a, upR_i, h36]
    refine s249_10.mpr (wif (fun c10 => ?_) (fun c10 => ?_))
    · skip
      refine s249_35.mpr ?_
      refine (s249_36 (by omega) kM).mpr ?_
      refine m_wants hA (by omega) (by (try simp (disch := decide) only [upI_eq, upI_a, upI_i, upR_eq, upR_a, upR_i]); first | assumption | rfl) (by omega) (fun y36 => ?_) (fun y36 => ?_)
      · skip
        refine (s249_39).mpr ?_
        first | (exfalso; omega) | exact ok (by unfold leT; omega) | exact no _ _ (by repeat' (first | assumption | exact FW.rf | refine FW.up ?_ (by unfold wS; omega) | (refine FW.tr ?_ (by assumption)))) (by (try simp (disch := decide) only [upI_eq, upI_a, upI_i, upR_eq, upR_a, upR_i]); try assumption) (by (try simp (disch := decide) only [upI_eq, upI_a, upI_i, upR_eq, upR_a, upR_i]); first | assumption | rfl) (by omega) (by unfold leT; omega)
      · skip
        refine (s249_39).mpr ?_
        first | (exfalso; omega) | exact ok (by unfold leT; omega) | exact no _ _ (by repeat' (first | assumption | exact FW.rf | refine FW.up ?_ (by unfold wS; omega) | (refine FW.tr ?_ (by assumption)))) (by (try simp (disch := decide) only [upI_eq, upI_a, upI_i, upR_eq, upR_a, upR_i]); try assumption) (by (try simp (disch := decide) only [upI_eq, upI_a, upI_i, upR_eq, upR_a, upR_i]); first | assumption | rfl) (by omega) (by unfold leT; omega)
    · skip
      refine s249_13.mpr (s249_14.mpr ?_)
      refine s249_15.mpr (wif (fun c15 => ?_) (fun c15 => ?_))
      · skip
        refine s249_31.mpr (s249_32.mpr ?_)
        refine (s249_36 (by omega) kM).mpr ?_
        refine m_wants hA (by omega) (by (try simp (disch := decide) only [upI_eq, upI_a, upI_i, upR_eq, upR_a, upR_i]); first | assumption | rfl) (by omega) (fun y36 => ?_) (fun y36 => ?_)
        · skip
          refine (s249_39).mpr ?_
          first | (exfalso; omega) | exact ok (by unfold leT; omega) | exact no _ _ (by repeat' (first | assumption | exact FW.rf | refine FW.up ?_ (by unfold wS; omega) | (refine FW.tr ?_ (by assumption)))) (by (try simp (disch := decide) only [upI_eq, upI_a, upI_i, upR_eq, upR_a, upR_i]); try assumption) (by (try simp (disch := decide) only [upI_eq, upI_a, upI_i, upR_eq, upR_a, upR_i]); first | assumption | rfl) (by omega) (by unfold leT; omega)
        · skip
          refine (s249_39).mpr ?_
          first | (exfalso; omega) | exact ok (by unfold leT; omega) | exact no _ _ (by repeat' (first | assumption | exact FW.rf | refine FW.up ?_ (by unfold wS; omega) | (refine FW.tr ?_ (by assumption)))) (by (try simp (disch := decide) only [upI_eq, upI_a, upI_i, upR_eq, upR_a, upR_i]); try assumption) (by (try simp (disch := decide) only [upI_eq, upI_a, upI_i, upR_eq, upR_a, upR_i]); first | assumption | rfl) (by omega) (by unfold leT; omega)
      · skip
        refine s249_18.mpr (s249_19.mpr ?_)
        refine s249_21.mpr (wif (fun c21 => ?_) (fun c21 => ?_))
        · skip
          refine s249_24.mpr ?_
          refine (s249_25 (by omega)).mpr ?_
          refine m_isHeap (by omega) (fun y25 => ?_) (fun y25 => ?_)
          · skip
            refine s249_28.mpr (wif (fun c28 => ?_) (fun c28 => ?_))
            · skip
              refine s249_35.mpr ?_
              refine (s249_36 (by omega) kM).mpr ?_
              refine m_wants hA (by omega) (by (try simp (disch := decide) only [upI_eq, upI_a, upI_i, upR_eq, upR_a, upR_i]); first | assumption | rfl) (by omega) (fun y36 => ?_) (fun y36 => ?_)
              · skip
                refine (s249_39).mpr ?_
                first | (exfalso; omega) | exact ok (by unfold leT; omega) | exact no _ _ (by repeat' (first | assumption | exact FW.rf | refine FW.up ?_ (by unfold wS; omega) | (refine FW.tr ?_ (by assumption)))) (by (try simp (disch := decide) only [upI_eq, upI_a, upI_i, upR_eq, upR_a, upR_i]); try assumption) (by (try simp (disch := decide) only [upI_eq, upI_a, upI_i, upR_eq, upR_a, upR_i]); first | assumption | rfl) (by omega) (by unfold leT; omega)
              · skip
                refine (s249_39).mpr ?_
                first | (exfalso; omega) | exact ok (by unfold leT; omega) | exact no _ _ (by repeat' (first | assumption | exact FW.rf | refine FW.up ?_ (by unfold wS; omega) | (refine FW.tr ?_ (by assumption)))) (by (try simp (disch := decide) only [upI_eq, upI_a, upI_i, upR_eq, upR_a, upR_i]); try assumption) (by (try simp (disch := decide) only [upI_eq, upI_a, upI_i, upR_eq, upR_a, upR_i]); first | assumption | rfl) (by omega) (by unfold leT; omega)
            · skip
              refine s249_31.mpr (s249_32.mpr ?_)
              refine (s249_36 (by omega) kM).mpr ?_
              refine m_wants hA (by omega) (by (try simp (disch := decide) only [upI_eq, upI_a, upI_i, upR_eq, upR_a, upR_i]); first | assumption | rfl) (by omega) (fun y36 => ?_) (fun y36 => ?_)
              · skip
                refine (s249_39).mpr ?_
                first | (exfalso; omega) | exact ok (by unfold leT; omega) | exact no _ _ (by repeat' (first | assumption | exact FW.rf | refine FW.up ?_ (by unfold wS; omega) | (refine FW.tr ?_ (by assumption)))) (by (try simp (disch := decide) only [upI_eq, upI_a, upI_i, upR_eq, upR_a, upR_i]); try assumption) (by (try simp (disch := decide) only [upI_eq, upI_a, upI_i, upR_eq, upR_a, upR_i]); first | assumption | rfl) (by omega) (by unfold leT; omega)
              · skip
                refine (s249_39).mpr ?_
                first | (exfalso; omega) | exact ok (by unfold leT; omega) | exact no _ _ (by repeat' (first | assumption | exact FW.rf | refine FW.up ?_ (by unfold wS; omega) | (refine FW.tr ?_ (by assumption)))) (by (try simp (disch := decide) only [upI_eq, upI_a, upI_i, upR_eq, upR_a, upR_i]); try assumption) (by (try simp (disch := decide) only [upI_eq, upI_a, upI_i, upR_eq, upR_a, upR_i]); first | assumption | rfl) (by omega) (by unfold leT; omega)
          · skip
            refine s249_28.mpr (wif (fun c28 => ?_) (fun c28 => ?_))
            · skip
              refine s249_35.mpr ?_
              refine (s249_36 (by omega) kM).mpr ?_
              refine m_wants hA (by omega) (by (try simp (disch := decide) only [upI_eq, upI_a, upI_i, upR_eq, upR_a, upR_i]); first | assumption | rfl) (by omega) (fun y36 => ?_) (fun y36 => ?_)
              · skip
                refine (s249_39).mpr ?_
                first | (exfalso; omega) | exact ok (by unfold leT; omega) | exact no _ _ (by repeat' (first | assumption | exact FW.rf | refine FW.up ?_ (by unfold wS; omega) | (refine FW.tr ?_ (by assumption)))) (by (try simp (disch := decide) only [upI_eq, upI_a, upI_i, upR_eq, upR_a, upR_i]); try assumption) (by (try simp (disch := decide) only [upI_eq, upI_a, upI_i, upR_eq, upR_a, upR_i]); first | assumption | rfl) (by omega) (by unfold leT; omega)
              · skip
                refine (s249_39).mpr ?_
                first | (exfalso; omega) | exact ok (by unfold leT; omega) | exact no _ _ (by repeat' (first | assumption | exact FW.rf | refine FW.up ?_ (by unfold wS; omega) | (refine FW.tr ?_ (by assumption)))) (by (try simp (disch := decide) only [upI_eq, upI_a, upI_i, upR_eq, upR_a, upR_i]); try assumption) (by (try simp (disch := decide) only [upI_eq, upI_a, upI_i, upR_eq, upR_a, upR_i]); first | assumption | rfl) (by omega) (by unfold leT; omega)
            · skip
              refine s249_31.mpr (s249_32.mpr ?_)
              refine (s249_36 (by omega) kM).mpr ?_
              refine m_wants hA (by omega) (by (try simp (disch := decide) only [upI_eq, upI_a, upI_i, upR_eq, upR_a, upR_i]); first | assumption | rfl) (by omega) (fun y36 => ?_) (fun y36 => ?_)
              · skip
                refine (s249_39).mpr ?_
                first | (exfalso; omega) | exact ok (by unfold leT; omega) | exact no _ _ (by repeat' (first | assumption | exact FW.rf | refine FW.up ?_ (by unfold wS; omega) | (refine FW.tr ?_ (by assumption)))) (by (try simp (disch := decide) only [upI_eq, upI_a, upI_i, upR_eq, upR_a, upR_i]); try assumption) (by (try simp (disch := decide) only [upI_eq, upI_a, upI_i, upR_eq, upR_a, upR_i]); first | assumption | rfl) (by omega) (by unfold leT; omega)
              · skip
                refine (s249_39).mpr ?_
                first | (exfalso; omega) | exact ok (by unfold leT; omega) | exact no _ _ (by repeat' (first | assumption | exact FW.rf | refine FW.up ?_ (by unfold wS; omega) | (refine FW.tr ?_ (by assumption)))) (by (try simp (disch := decide) only [upI_eq, upI_a, upI_i, upR_eq, upR_a, upR_i]); try assumption) (by (try simp (disch := decide) only [upI_eq, upI_a, upI_i, upR_eq, upR_a, upR_i]); first | assumption | rfl) (by omega) (by unfold leT; omega)
        · skip
          refine s249_35.mpr ?_
          refine (s249_36 (by omega) kM).mpr ?_
          refine m_wants hA (by omega) (by (try simp (disch := decide) only [upI_eq, upI_a, upI_i, upR_eq, upR_a, upR_i]); first | assumption | rfl) (by omega) (fun y36 => ?_) (fun y36 => ?_)
          · skip
            refine (s249_39).mpr ?_
            first | (exfalso; omega) | exact ok (by unfold leT; omega) | exact no _ _ (by repeat' (first | assumption | exact FW.rf | refine FW.up ?_ (by unfold wS; omega) | (refine FW.tr ?_ (by assumption)))) (by (try simp (disch := decide) only [upI_eq, upI_a, upI_i, upR_eq, upR_a, upR_i]); try assumption) (by (try simp (disch := decide) only [upI_eq, upI_a, upI_i, upR_eq, upR_a, upR_i]); first | assumption | rfl) (by omega) (by unfold leT; omega)
          · skip
            refine (s249_39).mpr ?_
            first | (exfalso; omega) | exact ok (by unfold leT; omega) | exact no _ _ (by repeat' (first | assumption | exact FW.rf | refine FW.up ?_ (by unfold wS; omega) | (refine FW.tr ?_ (by assumption)))) (by (try simp (disch := decide) only [upI_eq, upI_a, upI_i, upR_eq, upR_a, upR_i]); try assumption) (by (try simp (disch := decide) only [upI_eq, upI_a, upI_i, upR_eq, upR_a, upR_i]); first | assumption | rfl) (by omega) (by unfold leT; omega)
theorem m_popKind {t k r : Int} (hA : SA al) (hR : MR hr) (hd : 2 ≤ d) (h36 : hi 49 36 = r) (hr2 : r = 0 ∨ r = 1) (ht : hi 49 35 = t) (ht0 : 0 ≤ t ∧ t ≤ 20) (ok : r = 1 ∧ 0 < t ∧ kindM (hi 75 (t - 1)) = k → Q (some (some (vI (hi 75 (t - 1))))) al (upI hi 49 35 (t - 1)) hr) (no : ∀ v hi' t', FW wS hi hi' → hi' 49 36 = 0 → hi' 49 35 = t' → (0 ≤ t' ∧ t' ≤ 20) → (r = 0 ∨ ¬ (0 < t ∧ kindM (hi 75 (t - 1)) = k)) → Q (some (some (vI v))) al hi' hr) : Ev d 250 [vR (some 49), vI k] al hi hr Q := by
  rw [e250]
  have kM : isK al 49 13 := hA.k (by decide) (by decide) rfl
  refine s250_0.mpr ?_
  refine (s250_1 (by omega) kM).mpr ?_
  refine m_pop hA hR (by omega) (by (try simp (disch := decide) only [upI_eq, upI_a, upI_i, upR_eq, upR_a, upR_i]); first | assumption | rfl) (by omega) (by (try simp (disch := decide) only [upI_eq, upI_a, upI_i, upR_eq, upR_a, upR_i]); first | assumption | rfl) (by omega) (fun y1 => ?_) (fun v1 hi1 w1 z1 u1 x1 => ?_)
  · skip
    refine s250_4.mpr (s250_5.mpr (s250_6.mpr ?_))
    refine (s250_7 kM).mpr ?_
    try simp (disch := first | decide | assumption | omega) only [kon, knt_some, knt_none, Option.toList_some, Option.toList_none, List.cons_append, List.nil_append, upI_eq, upI_a, upI_i, upR_eq, upR_a, upR_i, h36]
    refine s250_10.mpr (wif (fun c10 => ?_) (fun c10 => ?_))
    · skip
      refine s250_25.mpr ?_
      refine (s250_26 (by omega) kM).mpr ?_
      refine m_wants hA (by omega) (by (try simp (disch := decide) only [upI_eq, upI_a, upI_i, upR_eq, upR_a, upR_i]); first | assumption | rfl) (by omega) (fun y26 => ?_) (fun y26 => ?_)
      · skip
        refine s250_29.mpr ?_
        refine (s250_30).mpr ?_
        first | (exfalso; omega) | exact ok (by omega) | exact no _ _ _ (by repeat' (first | assumption | exact FW.rf | refine FW.up ?_ (by unfold wS; omega) | (refine FW.tr ?_ (by assumption)))) (by (try simp (disch := decide) only [upI_eq, upI_a, upI_i, upR_eq, upR_a, upR_i]); try assumption) (by (try simp (disch := decide) only [upI_eq, upI_a, upI_i, upR_eq, upR_a, upR_i]); first | assumption | rfl) (by omega) (by omega)
      · skip
        refine s250_29.mpr ?_
        refine (s250_30).mpr ?_
        first | (exfalso; omega) | exact ok (by omega) | exact no _ _ _ (by repeat' (first | assumption | exact FW.rf | refine FW.up ?_ (by unfold wS; omega) | (refine FW.tr ?_ (by assumption)))) (by (try simp (disch := decide) only [upI_eq, upI_a, upI_i, upR_eq, upR_a, upR_i]); try assumption) (by (try simp (disch := decide) only [upI_eq, upI_a, upI_i, upR_eq, upR_a, upR_i]); first | assumption | rfl) (by omega) (by omega)
    · skip
      refine s250_13.mpr ?_
      refine (s250_14 (by omega)).mpr ?_
      refine m_kind.mpr ?_
      refine s250_17.mpr ?_
      refine s250_18.mpr (wif (fun c18 => ?_) (fun c18 => ?_))
      · skip
        refine s250_21.mpr (s250_22.mpr ?_)
        refine (s250_26 (by omega) kM).mpr ?_
        refine m_wants hA (by omega) (by (try simp (disch := decide) only [upI_eq, upI_a, upI_i, upR_eq, upR_a, upR_i]); first | assumption | rfl) (by omega) (fun y26 => ?_) (fun y26 => ?_)
        · skip
          refine s250_29.mpr ?_
          refine (s250_30).mpr ?_
          first | (exfalso; omega) | exact ok (by omega) | exact no _ _ _ (by repeat' (first | assumption | exact FW.rf | refine FW.up ?_ (by unfold wS; omega) | (refine FW.tr ?_ (by assumption)))) (by (try simp (disch := decide) only [upI_eq, upI_a, upI_i, upR_eq, upR_a, upR_i]); try assumption) (by (try simp (disch := decide) only [upI_eq, upI_a, upI_i, upR_eq, upR_a, upR_i]); first | assumption | rfl) (by omega) (by omega)
        · skip
          refine s250_29.mpr ?_
          refine (s250_30).mpr ?_
          first | (exfalso; omega) | exact ok (by omega) | exact no _ _ _ (by repeat' (first | assumption | exact FW.rf | refine FW.up ?_ (by unfold wS; omega) | (refine FW.tr ?_ (by assumption)))) (by (try simp (disch := decide) only [upI_eq, upI_a, upI_i, upR_eq, upR_a, upR_i]); try assumption) (by (try simp (disch := decide) only [upI_eq, upI_a, upI_i, upR_eq, upR_a, upR_i]); first | assumption | rfl) (by omega) (by omega)
      · skip
        refine s250_25.mpr ?_
        refine (s250_26 (by omega) kM).mpr ?_
        refine m_wants hA (by omega) (by (try simp (disch := decide) only [upI_eq, upI_a, upI_i, upR_eq, upR_a, upR_i]); first | assumption | rfl) (by omega) (fun y26 => ?_) (fun y26 => ?_)
        · skip
          refine s250_29.mpr ?_
          refine (s250_30).mpr ?_
          first | (exfalso; omega) | exact ok (by omega) | exact no _ _ _ (by repeat' (first | assumption | exact FW.rf | refine FW.up ?_ (by unfold wS; omega) | (refine FW.tr ?_ (by assumption)))) (by (try simp (disch := decide) only [upI_eq, upI_a, upI_i, upR_eq, upR_a, upR_i]); try assumption) (by (try simp (disch := decide) only [upI_eq, upI_a, upI_i, upR_eq, upR_a, upR_i]); first | assumption | rfl) (by omega) (by omega)
        · skip
          refine s250_29.mpr ?_
          refine (s250_30).mpr ?_
          first | (exfalso; omega) | exact ok (by omega) | exact no _ _ _ (by repeat' (first | assumption | exact FW.rf | refine FW.up ?_ (by unfold wS; omega) | (refine FW.tr ?_ (by assumption)))) (by (try simp (disch := decide) only [upI_eq, upI_a, upI_i, upR_eq, upR_a, upR_i]); try assumption) (by (try simp (disch := decide) only [upI_eq, upI_a, upI_i, upR_eq, upR_a, upR_i]); first | assumption | rfl) (by omega) (by omega)
  · skip
    refine s250_4.mpr (s250_5.mpr (s250_6.mpr ?_))
    refine (s250_7 kM).mpr ?_
    try simp (disch := first | decide | assumption | omega) only [kon, knt_some, knt_none, Option.toList_some, Option.toList_none, List.cons_append, List.nil_append, upI_eq, upI_a, upI_i, upR_eq, upR_a, upR_i, h36]
    refine s250_10.mpr (wif (fun c10 => ?_) (fun c10 => ?_))
    · skip
      refine s250_25.mpr ?_
      refine (s250_26 (by omega) kM).mpr ?_
      refine m_wants hA (by omega) (by (try simp (disch := decide) only [upI_eq, upI_a, upI_i, upR_eq, upR_a, upR_i]); first | assumption | rfl) (by omega) (fun y26 => ?_) (fun y26 => ?_)
      · skip
        refine s250_29.mpr ?_
        refine (s250_30).mpr ?_
        first | (exfalso; omega) | exact ok (by omega) | exact no _ _ _ (by repeat' (first | assumption | exact FW.rf | refine FW.up ?_ (by unfold wS; omega) | (refine FW.tr ?_ (by assumption)))) (by (try simp (disch := decide) only [upI_eq, upI_a, upI_i, upR_eq, upR_a, upR_i]); try assumption) (by (try simp (disch := decide) only [upI_eq, upI_a, upI_i, upR_eq, upR_a, upR_i]); first | assumption | rfl) (by omega) (by omega)
      · skip
        refine s250_29.mpr ?_
        refine (s250_30).mpr ?_
        first | (exfalso; omega) | exact ok (by omega) | exact no _ _ _ (by repeat' (first | assumption | exact FW.rf | refine FW.up ?_ (by unfold wS; omega) | (refine FW.tr ?_ (by assumption)))) (by (try simp (disch := decide) only [upI_eq, upI_a, upI_i, upR_eq, upR_a, upR_i]); try assumption) (by (try simp (disch := decide) only [upI_eq, upI_a, upI_i, upR_eq, upR_a, upR_i]); first | assumption | rfl) (by omega) (by omega)
    · skip
      refine s250_13.mpr ?_
      refine (s250_14 (by omega)).mpr ?_
      refine m_kind.mpr ?_
      refine s250_17.mpr ?_
      refine s250_18.mpr (wif (fun c18 => ?_) (fun c18 => ?_))
      · skip
        refine s250_21.mpr (s250_22.mpr ?_)
        refine (s250_26 (by omega) kM).mpr ?_
        refine m_wants hA (by omega) (by (try simp (disch := decide) only [upI_eq, upI_a, upI_i, upR_eq, upR_a, upR_i]); first | assumption | rfl) (by omega) (fun y26 => ?_) (fun y26 => ?_)
        · skip
          refine s250_29.mpr ?_
          refine (s250_30).mpr ?_
          first | (exfalso; omega) | exact ok (by omega) | exact no _ _ _ (by repeat' (first | assumption | exact FW.rf | refine FW.up ?_ (by unfold wS; omega) | (refine FW.tr ?_ (by assumption)))) (by (try simp (disch := decide) only [upI_eq, upI_a, upI_i, upR_eq, upR_a, upR_i]); try assumption) (by (try simp (disch := decide) only [upI_eq, upI_a, upI_i, upR_eq, upR_a, upR_i]); first | assumption | rfl) (by omega) (by omega)
        · skip
          refine s250_29.mpr ?_
          refine (s250_30).mpr ?_
          first | (exfalso; omega) | exact ok (by omega) | exact no _ _ _ (by repeat' (first | assumption | exact FW.rf | refine FW.up ?_ (by unfold wS; omega) | (refine FW.tr ?_ (by assumption)))) (by (try simp (disch := decide) only [upI_eq, upI_a, upI_i, upR_eq, upR_a, upR_i]); try assumption) (by (try simp (disch := decide) only [upI_eq, upI_a, upI_i, upR_eq, upR_a, upR_i]); first | assumption | rfl) (by omega) (by omega)
      · skip
        refine s250_25.mpr ?_
        refine (s250_26 (by omega) kM).mpr ?_
        refine m_wants hA (by omega) (by (try simp (disch := decide) only [upI_eq, upI_a, upI_i, upR_eq, upR_a, upR_i]); first | assumption | rfl) (by omega) (fun y26 => ?_) (fun y26 => ?_)
        · skip
          refine s250_29.mpr ?_
          refine (s250_30).mpr ?_
          first | (exfalso; omega) | exact ok (by omega) | exact no _ _ _ (by repeat' (first | assumption | exact FW.rf | refine FW.up ?_ (by unfold wS; omega) | (refine FW.tr ?_ (by assumption)))) (by (try simp (disch := decide) only [upI_eq, upI_a, upI_i, upR_eq, upR_a, upR_i]); try assumption) (by (try simp (disch := decide) only [upI_eq, upI_a, upI_i, upR_eq, upR_a, upR_i]); first | assumption | rfl) (by omega) (by omega)
        · skip
          refine s250_29.mpr ?_
          refine (s250_30).mpr ?_
          first | (exfalso; omega) | exact ok (by omega) | exact no _ _ _ (by repeat' (first | assumption | exact FW.rf | refine FW.up ?_ (by unfold wS; omega) | (refine FW.tr ?_ (by assumption)))) (by (try simp (disch := decide) only [upI_eq, upI_a, upI_i, upR_eq, upR_a, upR_i]); try assumption) (by (try simp (disch := decide) only [upI_eq, upI_a, upI_i, upR_eq, upR_a, upR_i]); first | assumption | rfl) (by omega) (by omega)
theorem m_popNode {t r : Int} (hA : SA al) (hR : MR hr) (hd : 2 ≤ d) (h36 : hi 49 36 = r) (hr2 : r = 0 ∨ r = 1) (ht : hi 49 35 = t) (ht0 : 0 ≤ t ∧ t ≤ 20)
    (ok : r = 1 ∧ 0 < t ∧ kindM (hi 75 (t - 1)) = 1 → Q (some (some (vI (hi 75 (t - 1))))) al (upI (upI hi 49 35 (t - 1)) 49 38 0) hr)
    (st : r = 1 ∧ 0 < t ∧ hi 75 (t - 1) = 6 → Q (some (some (vI 6))) al (upI (upI hi 49 35 (t - 1)) 49 38 1) hr)
    (no : ∀ v hi' t', FW wS hi hi' → hi' 49 36 = 0 → hi' 49 38 = 0 → hi' 49 35 = t' → (0 ≤ t' ∧ t' ≤ 20) → (r = 0 ∨ ¬ (0 < t ∧ (hi 75 (t - 1) = 6 ∨ kindM (hi 75 (t - 1)) = 1))) → Q (some (some (vI v))) al hi' hr) : Ev d 251 [vR (some 49)] al hi hr Q := by
  have h6 : hi 75 (t - 1) = 6 → kindM (hi 75 (t - 1)) = 6 := fun h => by rw [h]; rfl
  rw [e251]
  have kM : isK al 49 13 := hA.k (by decide) (by decide) rfl
  refine s251_0.mpr ?_
  refine (s251_1 (by omega) kM).mpr ?_
  refine m_pop hA hR (by omega) (by (try simp (disch := decide) only [upI_eq, upI_a, upI_i, upR_eq, upR_a, upR_i]); first | assumption | rfl) (by omega) (by (try simp (disch := decide) only [upI_eq, upI_a, upI_i, upR_eq, upR_a, upR_i]); first | assumption | rfl) (by omega) (fun y1 => ?_) (fun v1 hi1 w1 z1 u1 x1 => ?_)
  · skip
    refine s251_4.mpr (s251_5.mpr (s251_6.mpr ?_))
    refine (s251_7 kM).mpr ?_
    try simp (disch := first | decide | assumption | omega) only [kon, knt_some, knt_none, Option.toList_some, Option.toList_none, List.cons_append, List.nil_append, upI_eq, upI_a, upI_i, upR_eq, upR_a, upR_i, h36]
    refine s251_10.mpr (wif (fun c10 => ?_) (fun c10 => ?_))
    · skip
      refine s251_31.mpr ?_
      refine (s251_32 (by omega) kM).mpr ?_
      refine m_wants hA (by omega) (by (try simp (disch := decide) only [upI_eq, upI_a, upI_i, upR_eq, upR_a, upR_i]); first | assumption | rfl) (by omega) (fun y32 => ?_) (fun y32 => ?_)
      · skip
        refine s251_35.mpr (s251_36.mpr ?_)
        refine (s251_37 kM).mpr ?_
        try simp (disch := first | decide | assumption | omega) only [kon, knt_some, knt_none, Option.toList_some, Option.toList_none, List.cons_append, List.nil_append, upI_eq, upI_a, upI_i, upR_eq, upR_a, upR_i, h36]
        refine s251_40.mpr (wif (fun c40 => ?_) (fun c40 => ?_))
        · skip
          refine s251_53.mpr ?_
          refine (s251_54 kM (by first | assumption | omega)).mpr ?_
          refine s251_57.mpr ?_
          refine (s251_58).mpr ?_
          first | (exfalso; omega) | exact ok (by omega) | (rw [show hi 75 (t - 1) = 6 by omega]; exact st (by omega)) | exact no _ _ _ (by repeat' (first | assumption | exact FW.rf | refine FW.up ?_ (by unfold wS; omega) | (refine FW.tr ?_ (by assumption)))) (by (try simp (disch := decide) only [upI_eq, upI_a, upI_i, upR_eq, upR_a, upR_i]); try assumption) (by (try simp (disch := decide) only [upI_eq, upI_a, upI_i, upR_eq, upR_a, upR_i]); try assumption) (by (try simp (disch := decide) only [upI_eq, upI_a, upI_i, upR_eq, upR_a, upR_i]); first | assumption | rfl) (by omega) (by omega)
        · skip
          refine s251_43.mpr (s251_44.mpr ?_)
          refine s251_46.mpr (wif (fun c46 => ?_) (fun c46 => ?_))
          · skip
            refine s251_49.mpr (s251_50.mpr ?_)
            refine (s251_54 kM (by first | assumption | omega)).mpr ?_
            refine s251_57.mpr ?_
            refine (s251_58).mpr ?_
            first | (exfalso; omega) | exact ok (by omega) | (rw [show hi 75 (t - 1) = 6 by omega]; exact st (by omega)) | exact no _ _ _ (by repeat' (first | assumption | exact FW.rf | refine FW.up ?_ (by unfold wS; omega) | (refine FW.tr ?_ (by assumption)))) (by (try simp (disch := decide) only [upI_eq, upI_a, upI_i, upR_eq, upR_a, upR_i]); try assumption) (by (try simp (disch := decide) only [upI_eq, upI_a, upI_i, upR_eq, upR_a, upR_i]); try assumption) (by (try simp (disch := decide) only [upI_eq, upI_a, upI_i, upR_eq, upR_a, upR_i]); first | assumption | rfl) (by omega) (by omega)
          · skip
            refine s251_53.mpr ?_
            refine (s251_54 kM (by first | assumption | omega)).mpr ?_
            refine s251_57.mpr ?_
            refine (s251_58).mpr ?_
            first | (exfalso; omega) | exact ok (by omega) | (rw [show hi 75 (t - 1) = 6 by omega]; exact st (by omega)) | exact no _ _ _ (by repeat' (first | assumption | exact FW.rf | refine FW.up ?_ (by unfold wS; omega) | (refine FW.tr ?_ (by assumption)))) (by (try simp (disch := decide) only [upI_eq, upI_a, upI_i, upR_eq, upR_a, upR_i]); try assumption) (by (try simp (disch := decide) only [upI_eq, upI_a, upI_i, upR_eq, upR_a, upR_i]); try assumption) (by (try simp (disch := decide) only [upI_eq, upI_a, upI_i, upR_eq, upR_a, upR_i]); first | assumption | rfl) (by omega) (by omega)
      · skip
        refine s251_35.mpr (s251_36.mpr ?_)
        refine (s251_37 kM).mpr ?_
        try simp (disch := first | decide | assumption | omega) only [kon, knt_some, knt_none, Option.toList_some, Option.toList_none, List.cons_append, List.nil_append, upI_eq, upI_a, upI_i, upR_eq, upR_a, upR_i, h36]
        refine s251_40.mpr (wif (fun c40 => ?_) (fun c40 => ?_))
        · skip
          refine s251_53.mpr ?_
          refine (s251_54 kM (by first | assumption | omega)).mpr ?_
          refine s251_57.mpr ?_
          refine (s251_58).mpr ?_
          first | (exfalso; omega) | exact ok (by omega) | (rw [show hi 75 (t - 1) = 6 by omega]; exact st (by omega)) | exact no _ _ _ (by repeat' (first | assumption | exact FW.rf | refine FW.up ?_ (by unfold wS; omega) | (refine FW.tr ?_ (by assumption)))) (by (try simp (disch := decide) only [upI_eq, upI_a, upI_i, upR_eq, upR_a, upR_i]); try assumption) (by (try simp (disch := decide) only [upI_eq, upI_a, upI_i, upR_eq, upR_a, upR_i]); try assumption) (by (try simp (disch := decide) only [upI_eq, upI_a, upI_i, upR_eq, upR_a, upR_i]); first | assumption | rfl) (by omega) (by omega)
        · skip
          refine s251_43.mpr (s251_44.mpr ?_)
          refine s251_46.mpr (wif (fun c46 => ?_) (fun c46 => ?_))
          · skip
            refine s251_49.mpr (s251_50.mpr ?_)
            refine (s251_54 kM (by first | assumption | omega)).mpr ?_
            refine s251_57.mpr ?_
            refine (s251_58).mpr ?_
            first | (exfalso; omega) | exact ok (by omega) | (rw [show hi 75 (t - 1) = 6 by omega]; exact st (by omega)) | exact no _ _ _ (by repeat' (first | assumption | exact FW.rf | refine FW.up ?_ (by unfold wS; omega) | (refine FW.tr ?_ (by assumption)))) (by (try simp (disch := decide) only [upI_eq, upI_a, upI_i, upR_eq, upR_a, upR_i]); try assumption) (by (try simp (disch := decide) only [upI_eq, upI_a, upI_i, upR_eq, upR_a, upR_i]); try assumption) (by (try simp (disch := decide) only [upI_eq, upI_a, upI_i, upR_eq, upR_a, upR_i]); first | assumption | rfl) (by omega) (by omega)
          · skip
            refine s251_53.mpr ?_
            refine (s251_54 kM (by first | assumption | omega)).mpr ?_
            refine s251_57.mpr ?_
            refine (s251_58).mpr ?_
            first | (exfalso; omega) | exact ok (by omega) | (rw [show hi 75 (t - 1) = 6 by omega]; exact st (by omega)) | exact no _ _ _ (by repeat' (first | assumption | exact FW.rf | refine FW.up ?_ (by unfold wS; omega) | (refine FW.tr ?_ (by assumption)))) (by (try simp (disch := decide) only [upI_eq, upI_a, upI_i, upR_eq, upR_a, upR_i]); try assumption) (by (try simp (disch := decide) only [upI_eq, upI_a, upI_i, upR_eq, upR_a, upR_i]); try assumption) (by (try simp (disch := decide) only [upI_eq, upI_a, upI_i, upR_eq, upR_a, upR_i]); first | assumption | rfl) (by omega) (by omega)
    · skip
      refine s251_13.mpr (s251_14.mpr ?_)
      refine s251_16.mpr (wif (fun c16 => ?_) (fun c16 => ?_))
      · skip
        refine s251_27.mpr (s251_28.mpr ?_)
        refine (s251_32 (by omega) kM).mpr ?_
        refine m_wants hA (by omega) (by (try simp (disch := decide) only [upI_eq, upI_a, upI_i, upR_eq, upR_a, upR_i]); first | assumption | rfl) (by omega) (fun y32 => ?_) (fun y32 => ?_)
        · skip
          refine s251_35.mpr (s251_36.mpr ?_)
          refine (s251_37 kM).mpr ?_
          try simp (disch := first | decide | assumption | omega) only [kon, knt_some, knt_none, Option.toList_some, Option.toList_none, List.cons_append, List.nil_append, upI_eq, upI_a, upI_i, upR_eq, upR_a, upR_i, h36]
          refine s251_40.mpr (wif (fun c40 => ?_) (fun c40 => ?_))
          · skip
            refine s251_53.mpr ?_
            refine (s251_54 kM (by first | assumption | omega)).mpr ?_
            refine s251_57.mpr ?_
            refine (s251_58).mpr ?_
            first | (exfalso; omega) | exact ok (by omega) | (rw [show hi 75 (t - 1) = 6 by omega]; exact st (by omega)) | exact no _ _ _ (by repeat' (first | assumption | exact FW.rf | refine FW.up ?_ (by unfold wS; omega) | (refine FW.tr ?_ (by assumption)))) (by (try simp (disch := decide) only [upI_eq, upI_a, upI_i, upR_eq, upR_a, upR_i]); try assumption) (by (try simp (disch := decide) only [upI_eq, upI_a, upI_i, upR_eq, upR_a, upR_i]); try assumption) (by (try simp (disch := decide) only [upI_eq, upI_a, upI_i, upR_eq, upR_a, upR_i]); first | assumption | rfl) (by omega) (by omega)
          · skip
            refine s251_43.mpr (s251_44.mpr ?_)
            refine s251_46.mpr (wif (fun c46 => ?_) (fun c46 => ?_))
            · skip
              refine s251_49.mpr (s251_50.mpr ?_)
              refine (s251_54 kM (by first | assumption | omega)).mpr ?_
              refine s251_57.mpr ?_
              refine (s251_58).mpr ?_
              first | (exfalso; omega) | exact ok (by omega) | (rw [show hi 75 (t - 1) = 6 by omega]; exact st (by omega)) | exact no _ _ _ (by repeat' (first | assumption | exact FW.rf | refine FW.up ?_ (by unfold wS; omega) | (refine FW.tr ?_ (by assumption)))) (by (try simp (disch := decide) only [upI_eq, upI_a, upI_i, upR_eq, upR_a, upR_i]); try assumption) (by (try simp (disch := decide) only [upI_eq, upI_a, upI_i, upR_eq, upR_a, upR_i]); try assumption) (by (try simp (disch := decide) only [upI_eq, upI_a, upI_i, upR_eq, upR_a, upR_i]); first | assumption | rfl) (by omega) (by omega)
            · skip
              refine s251_53.mpr ?_
              refine (s251_54 kM (by first | assumption | omega)).mpr ?_
              refine s251_57.mpr ?_
              refine (s251_58).mpr ?_
              first | (exfalso; omega) | exact ok (by omega) | (rw [show hi 75 (t - 1) = 6 by omega]; exact st (by omega)) | exact no _ _ _ (by repeat' (first | assumption | exact FW.rf | refine FW.up ?_ (by unfold wS; omega) | (refine FW.tr ?_ (by assumption)))) (by (try simp (disch := decide) only [upI_eq, upI_a, upI_i, upR_eq, upR_a, upR_i]); try assumption) (by (try simp (disch := decide) only [upI_eq, upI_a, upI_i, upR_eq, upR_a, upR_i]); try assumption) (by (try simp (disch := decide) only [upI_eq, upI_a, upI_i, upR_eq, upR_a, upR_i]); first | assumption | rfl) (by omega) (by omega)
        · skip
          refine s251_35.mpr (s251_36.mpr ?_)
          refine (s251_37 kM).mpr ?_
          try simp (disch := first | decide | assumption | omega) only [kon, knt_some, knt_none, Option.toList_some, Option.toList_none, List.cons_append, List.nil_append, upI_eq, upI_a, upI_i, upR_eq, upR_a, upR_i, h36]
          refine s251_40.mpr (wif (fun c40 => ?_) (fun c40 => ?_))
          · skip
            refine s251_53.mpr ?_
            refine (s251_54 kM (by first | assumption | omega)).mpr ?_
            refine s251_57.mpr ?_
            refine (s251_58).mpr ?_
            first | (exfalso; omega) | exact ok (by omega) | (rw [show hi 75 (t - 1) = 6 by omega]; exact st (by omega)) | exact no _ _ _ (by repeat' (first | assumption | exact FW.rf | refine FW.up ?_ (by unfold wS; omega) | (refine FW.tr ?_ (by assumption)))) (by (try simp (disch := decide) only [upI_eq, upI_a, upI_i, upR_eq, upR_a, upR_i]); try assumption) (by (try simp (disch := decide) only [upI_eq, upI_a, upI_i, upR_eq, upR_a, upR_i]); try assumption) (by (try simp (disch := decide) only [upI_eq, upI_a, upI_i, upR_eq, upR_a, upR_i]); first | assumption | rfl) (by omega) (by omega)
          · skip
            refine s251_43.mpr (s251_44.mpr ?_)
            refine s251_46.mpr (wif (fun c46 => ?_) (fun c46 => ?_))
            · skip
              refine s251_49.mpr (s251_50.mpr ?_)
              refine (s251_54 kM (by first | assumption | omega)).mpr ?_
              refine s251_57.mpr ?_
              refine (s251_58).mpr ?_
              first | (exfalso; omega) | exact ok (by omega) | (rw [show hi 75 (t - 1) = 6 by omega]; exact st (by omega)) | exact no _ _ _ (by repeat' (first | assumption | exact FW.rf | refine FW.up ?_ (by unfold wS; omega) | (refine FW.tr ?_ (by assumption)))) (by (try simp (disch := decide) only [upI_eq, upI_a, upI_i, upR_eq, upR_a, upR_i]); try assumption) (by (try simp (disch := decide) only [upI_eq, upI_a, upI_i, upR_eq, upR_a, upR_i]); try assumption) (by (try simp (disch := decide) only [upI_eq, upI_a, upI_i, upR_eq, upR_a, upR_i]); first | assumption | rfl) (by omega) (by omega)
            · skip
              refine s251_53.mpr ?_
              refine (s251_54 kM (by first | assumption | omega)).mpr ?_
              refine s251_57.mpr ?_
              refine (s251_58).mpr ?_
              first | (exfalso; omega) | exact ok (by omega) | (rw [show hi 75 (t - 1) = 6 by omega]; exact st (by omega)) | exact no _ _ _ (by repeat' (first | assumption | exact FW.rf | refine FW.up ?_ (by unfold wS; omega) | (refine FW.tr ?_ (by assumption)))) (by (try simp (disch := decide) only [upI_eq, upI_a, upI_i, upR_eq, upR_a, upR_i]); try assumption) (by (try simp (disch := decide) only [upI_eq, upI_a, upI_i, upR_eq, upR_a, upR_i]); try assumption) (by (try simp (disch := decide) only [upI_eq, upI_a, upI_i, upR_eq, upR_a, upR_i]); first | assumption | rfl) (by omega) (by omega)
      · skip
        refine s251_19.mpr ?_
        refine (s251_20 (by omega)).mpr ?_
        refine m_kind.mpr ?_
        refine s251_23.mpr ?_
        refine s251_24.mpr (wif (fun c24 => ?_) (fun c24 => ?_))
        · skip
          refine s251_27.mpr (s251_28.mpr ?_)
          refine (s251_32 (by omega) kM).mpr ?_
          refine m_wants hA (by omega) (by (try simp (disch := decide) only [upI_eq, upI_a, upI_i, upR_eq, upR_a, upR_i]); first | assumption | rfl) (by omega) (fun y32 => ?_) (fun y32 => ?_)
          · skip
            refine s251_35.mpr (s251_36.mpr ?_)
            refine (s251_37 kM).mpr ?_
            try simp (disch := first | decide | assumption | omega) only [kon, knt_some, knt_none, Option.toList_some, Option.toList_none, List.cons_append, List.nil_append, upI_eq, upI_a, upI_i, upR_eq, upR_a, upR_i, h36]
            refine s251_40.mpr (wif (fun c40 => ?_) (fun c40 => ?_))
            · skip
              refine s251_53.mpr ?_
              refine (s251_54 kM (by first | assumption | omega)).mpr ?_
              refine s251_57.mpr ?_
              refine (s251_58).mpr ?_
              first | (exfalso; omega) | exact ok (by omega) | (rw [show hi 75 (t - 1) = 6 by omega]; exact st (by omega)) | exact no _ _ _ (by repeat' (first | assumption | exact FW.rf | refine FW.up ?_ (by unfold wS; omega) | (refine FW.tr ?_ (by assumption)))) (by (try simp (disch := decide) only [upI_eq, upI_a, upI_i, upR_eq, upR_a, upR_i]); try assumption) (by (try simp (disch := decide) only [upI_eq, upI_a, upI_i, upR_eq, upR_a, upR_i]); try assumption) (by (try simp (disch := decide) only [upI_eq, upI_a, upI_i, upR_eq, upR_a, upR_i]); first | assumption | rfl) (by omega) (by omega)
            · skip
              refine s251_43.mpr (s251_44.mpr ?_)
              refine s251_46.mpr (wif (fun c46 => ?_) (fun c46 => ?_))
              · skip
                refine s251_49.mpr (s251_50.mpr ?_)
                refine (s251_54 kM (by first | assumption | omega)).mpr ?_
                refine s251_57.mpr ?_
                refine (s251_58).mpr ?_
                first | (exfalso; omega) | exact ok (by omega) | (rw [show hi 75 (t - 1) = 6 by omega]; exact st (by omega)) | exact no _ _ _ (by repeat' (first | assumption | exact FW.rf | refine FW.up ?_ (by unfold wS; omega) | (refine FW.tr ?_ (by assumption)))) (by (try simp (disch := decide) only [upI_eq, upI_a, upI_i, upR_eq, upR_a, upR_i]); try assumption) (by (try simp (disch := decide) only [upI_eq, upI_a, upI_i, upR_eq, upR_a, upR_i]); try assumption) (by (try simp (disch := decide) only [upI_eq, upI_a, upI_i, upR_eq, upR_a, upR_i]); first | assumption | rfl) (by omega) (by omega)
              · skip
                refine s251_53.mpr ?_
                refine (s251_54 kM (by first | assumption | omega)).mpr ?_
                refine s251_57.mpr ?_
                refine (s251_58).mpr ?_
                first | (exfalso; omega) | exact ok (by omega) | (rw [show hi 75 (t - 1) = 6 by omega]; exact st (by omega)) | exact no _ _ _ (by repeat' (first | assumption | exact FW.rf | refine FW.up ?_ (by unfold wS; omega) | (refine FW.tr ?_ (by assumption)))) (by (try simp (disch := decide) only [upI_eq, upI_a, upI_i, upR_eq, upR_a, upR_i]); try assumption) (by (try simp (disch := decide) only [upI_eq, upI_a, upI_i, upR_eq, upR_a, upR_i]); try assumption) (by (try simp (disch := decide) only [upI_eq, upI_a, upI_i, upR_eq, upR_a, upR_i]); first | assumption | rfl) (by omega) (by omega)
          · skip
            refine s251_35.mpr (s251_36.mpr ?_)
            refine (s251_37 kM).mpr ?_
            try simp (disch := first | decide | assumption | omega) only [kon, knt_some, knt_none, Option.toList_some, Option.toList_none, List.cons_append, List.nil_append, upI_eq, upI_a, upI_i, upR_eq, upR_a, upR_i, h36]
            refine s251_40.mpr (wif (fun c40 => ?_) (fun c40 => ?_))
            · skip
              refine s251_53.mpr ?_
              refine (s251_54 kM (by first | assumption | omega)).mpr ?_
              refine s251_57.mpr ?_
              refine (s251_58).mpr ?_
              first | (exfalso; omega) | exact ok (by omega) | (rw [show hi 75 (t - 1) = 6 by omega]; exact st (by omega)) | exact no _ _ _ (by repeat' (first | assumption | exact FW.rf | refine FW.up ?_ (by unfold wS; omega) | (refine FW.tr ?_ (by assumption)))) (by (try simp (disch := decide) only [upI_eq, upI_a, upI_i, upR_eq, upR_a, upR_i]); try assumption) (by (try simp (disch := decide) only [upI_eq, upI_a, upI_i, upR_eq, upR_a, upR_i]); try assumption) (by (try simp (disch := decide) only [upI_eq, upI_a, upI_i, upR_eq, upR_a, upR_i]); first | assumption | rfl) (by omega) (by omega)
            · skip
              refine s251_43.mpr (s251_44.mpr ?_)
              refine s251_46.mpr (wif (fun c46 => ?_) (fun c46 => ?_))
              · skip
                refine s251_49.mpr (s251_50.mpr ?_)
                refine (s251_54 kM (by first | assumption | omega)).mpr ?_
                refine s251_57.mpr ?_
                refine (s251_58).mpr ?_
                first | (exfalso; omega) | exact ok (by omega) | (rw [show hi 75 (t - 1) = 6 by omega]; exact st (by omega)) | exact no _ _ _ (by repeat' (first | assumption | exact FW.rf | refine FW.up ?_ (by unfold wS; omega) | (refine FW.tr ?_ (by assumption)))) (by (try simp (disch := decide) only [upI_eq, upI_a, upI_i, upR_eq, upR_a, upR_i]); try assumption) (by (try simp (disch := decide) only [upI_eq, upI_a, upI_i, upR_eq, upR_a, upR_i]); try assumption) (by (try simp (disch := decide) only [upI_eq, upI_a, upI_i, upR_eq, upR_a, upR_i]); first | assumption | rfl) (by omega) (by omega)
              · skip
                refine s251_53.mpr ?_
                refine (s251_54 kM (by first | assumption | omega)).mpr ?_
                refine s251_57.mpr ?_
                refine (s251_58).mpr ?_
                first | (exfalso; omega) | exact ok (by omega) | (rw [show hi 75 (t - 1) = 6 by omega]; exact st (by omega)) | exact no _ _ _ (by repeat' (first | assumption | exact FW.rf | refine FW.up ?_ (by unfold wS; omega) | (refine FW.tr ?_ (by assumption)))) (by (try simp (disch := decide) only [upI_eq, upI_a, upI_i, upR_eq, upR_a, upR_i]); try assumption) (by (try simp (disch := decide) only [upI_eq, upI_a, upI_i, upR_eq, upR_a, upR_i]); try assumption) (by (try simp (disch := decide) only [upI_eq, upI_a, upI_i, upR_eq, upR_a, upR_i]); first | assumption | rfl) (by omega) (by omega)
        · skip
          refine s251_31.mpr ?_
          refine (s251_32 (by omega) kM).mpr ?_
          refine m_wants hA (by omega) (by (try simp (disch := decide) only [upI_eq, upI_a, upI_i, upR_eq, upR_a, upR_i]); first | assumption | rfl) (by omega) (fun y32 => ?_) (fun y32 => ?_)
          · skip
            refine s251_35.mpr (s251_36.mpr ?_)
            refine (s251_37 kM).mpr ?_
            try simp (disch := first | decide | assumption | omega) only [kon, knt_some, knt_none, Option.toList_some, Option.toList_none, List.cons_append, List.nil_append, upI_eq, upI_a, upI_i, upR_eq, upR_a, upR_i, h36]
            refine s251_40.mpr (wif (fun c40 => ?_) (fun c40 => ?_))
            · skip
              refine s251_53.mpr ?_
              refine (s251_54 kM (by first | assumption | omega)).mpr ?_
              refine s251_57.mpr ?_
              refine (s251_58).mpr ?_
              first | (exfalso; omega) | exact ok (by omega) | (rw [show hi 75 (t - 1) = 6 by omega]; exact st (by omega)) | exact no _ _ _ (by repeat' (first | assumption | exact FW.rf | refine FW.up ?_ (by unfold wS; omega) | (refine FW.tr ?_ (by assumption)))) (by (try simp (disch := decide) only [upI_eq, upI_a, upI_i, upR_eq, upR_a, upR_i]); try assumption) (by (try simp (disch := decide) only [upI_eq, upI_a, upI_i, upR_eq, upR_a, upR_i]); try assumption) (by (try simp (disch := decide) only [upI_eq, upI_a, upI_i, upR_eq, upR_a, upR_i]); first | assumption | rfl) (by omega) (by omega)
            · skip
              refine s251_43.mpr (s251_44.mpr ?_)
              refine s251_46.mpr (wif (fun c46 => ?_) (fun c46 => ?_))
              · skip
                refine s251_49.mpr (s251_50.mpr ?_)
                refine (s251_54 kM (by first | assumption | omega)).mpr ?_
                refine s251_57.mpr ?_
                refine (s251_58).mpr ?_
                first | (exfalso; omega) | exact ok (by omega) | (rw [show hi 75 (t - 1) = 6 by omega]; exact st (by omega)) | exact no _ _ _ (by repeat' (first | assumption | exact FW.rf | refine FW.up ?_ (by unfold wS; omega) | (refine FW.tr ?_ (by assumption)))) (by (try simp (disch := decide) only [upI_eq, upI_a, upI_i, upR_eq, upR_a, upR_i]); try assumption) (by (try simp (disch := decide) only [upI_eq, upI_a, upI_i, upR_eq, upR_a, upR_i]); try assumption) (by (try simp (disch := decide) only [upI_eq, upI_a, upI_i, upR_eq, upR_a, upR_i]); first | assumption | rfl) (by omega) (by omega)
              · skip
                refine s251_53.mpr ?_
                refine (s251_54 kM (by first | assumption | omega)).mpr ?_
                refine s251_57.mpr ?_
                refine (s251_58).mpr ?_
                first | (exfalso; omega) | exact ok (by omega) | (rw [show hi 75 (t - 1) = 6 by omega]; exact st (by omega)) | exact no _ _ _ (by repeat' (first | assumption | exact FW.rf | refine FW.up ?_ (by unfold wS; omega) | (refine FW.tr ?_ (by assumption)))) (by (try simp (disch := decide) only [upI_eq, upI_a, upI_i, upR_eq, upR_a, upR_i]); try assumption) (by (try simp (disch := decide) only [upI_eq, upI_a, upI_i, upR_eq, upR_a, upR_i]); try assumption) (by (try simp (disch := decide) only [upI_eq, upI_a, upI_i, upR_eq, upR_a, upR_i]); first | assumption | rfl) (by omega) (by omega)
          · skip
            refine s251_35.mpr (s251_36.mpr ?_)
            refine (s251_37 kM).mpr ?_
            try simp (disch := first | decide | assumption | omega) only [kon, knt_some, knt_none, Option.toList_some, Option.toList_none, List.cons_append, List.nil_append, upI_eq, upI_a, upI_i, upR_eq, upR_a, upR_i, h36]
            refine s251_40.mpr (wif (fun c40 => ?_) (fun c40 => ?_))
            · skip
              refine s251_53.mpr ?_
              refine (s251_54 kM (by first | assumption | omega)).mpr ?_
              refine s251_57.mpr ?_
              refine (s251_58).mpr ?_
              first | (exfalso; omega) | exact ok (by omega) | (rw [show hi 75 (t - 1) = 6 by omega]; exact st (by omega)) | exact no _ _ _ (by repeat' (first | assumption | exact FW.rf | refine FW.up ?_ (by unfold wS; omega) | (refine FW.tr ?_ (by assumption)))) (by (try simp (disch := decide) only [upI_eq, upI_a, upI_i, upR_eq, upR_a, upR_i]); try assumption) (by (try simp (disch := decide) only [upI_eq, upI_a, upI_i, upR_eq, upR_a, upR_i]); try assumption) (by (try simp (disch := decide) only [upI_eq, upI_a, upI_i, upR_eq, upR_a, upR_i]); first | assumption | rfl) (by omega) (by omega)
            · skip
              refine s251_43.mpr (s251_44.mpr ?_)
              refine s251_46.mpr (wif (fun c46 => ?_) (fun c46 => ?_))
              · skip
                refine s251_49.mpr (s251_50.mpr ?_)
                refine (s251_54 kM (by first | assumption | omega)).mpr ?_
                refine s251_57.mpr ?_
                refine (s251_58).mpr ?_
                first | (exfalso; omega) | exact ok (by omega) | (rw [show hi 75 (t - 1) = 6 by omega]; exact st (by omega)) | exact no _ _ _ (by repeat' (first | assumption | exact FW.rf | refine FW.up ?_ (by unfold wS; omega) | (refine FW.tr ?_ (by assumption)))) (by (try simp (disch := decide) only [upI_eq, upI_a, upI_i, upR_eq, upR_a, upR_i]); try assumption) (by (try simp (disch := decide) only [upI_eq, upI_a, upI_i, upR_eq, upR_a, upR_i]); try assumption) (by (try simp (disch := decide) only [upI_eq, upI_a, upI_i, upR_eq, upR_a, upR_i]); first | assumption | rfl) (by omega) (by omega)
              · skip
                refine s251_53.mpr ?_
                refine (s251_54 kM (by first | assumption | omega)).mpr ?_
                refine s251_57.mpr ?_
                refine (s251_58).mpr ?_
                first | (exfalso; omega) | exact ok (by omega) | (rw [show hi 75 (t - 1) = 6 by omega]; exact st (by omega)) | exact no _ _ _ (by repeat' (first | assumption | exact FW.rf | refine FW.up ?_ (by unfold wS; omega) | (refine FW.tr ?_ (by assumption)))) (by (try simp (disch := decide) only [upI_eq, upI_a, upI_i, upR_eq, upR_a, upR_i]); try assumption) (by (try simp (disch := decide) only [upI_eq, upI_a, upI_i, upR_eq, upR_a, upR_i]); try assumption) (by (try simp (disch := decide) only [upI_eq, upI_a, upI_i, upR_eq, upR_a, upR_i]); first | assumption | rfl) (by omega) (by omega)
  · skip
    refine s251_4.mpr (s251_5.mpr (s251_6.mpr ?_))
    refine (s251_7 kM).mpr ?_
    try simp (disch := first | decide | assumption | omega) only [kon, knt_some, knt_none, Option.toList_some, Option.toList_none, List.cons_append, List.nil_append, upI_eq, upI_a, upI_i, upR_eq, upR_a, upR_i, h36]
    refine s251_10.mpr (wif (fun c10 => ?_) (fun c10 => ?_))
    · skip
      refine s251_31.mpr ?_
      refine (s251_32 (by omega) kM).mpr ?_
      refine m_wants hA (by omega) (by (try simp (disch := decide) only [upI_eq, upI_a, upI_i, upR_eq, upR_a, upR_i]); first | assumption | rfl) (by omega) (fun y32 => ?_) (fun y32 => ?_)
      · skip
        refine s251_35.mpr (s251_36.mpr ?_)
        refine (s251_37 kM).mpr ?_
        try simp (disch := first | decide | assumption | omega) only [kon, knt_some, knt_none, Option.toList_some, Option.toList_none, List.cons_append, List.nil_append, upI_eq, upI_a, upI_i, upR_eq, upR_a, upR_i, h36]
        refine s251_40.mpr (wif (fun c40 => ?_) (fun c40 => ?_))
        · skip
          refine s251_53.mpr ?_
          refine (s251_54 kM (by first | assumption | omega)).mpr ?_
          refine s251_57.mpr ?_
          refine (s251_58).mpr ?_
          first | (exfalso; omega) | exact ok (by omega) | (rw [show hi 75 (t - 1) = 6 by omega]; exact st (by omega)) | exact no _ _ _ (by repeat' (first | assumption | exact FW.rf | refine FW.up ?_ (by unfold wS; omega) | (refine FW.tr ?_ (by assumption)))) (by (try simp (disch := decide) only [upI_eq, upI_a, upI_i, upR_eq, upR_a, upR_i]); try assumption) (by (try simp (disch := decide) only [upI_eq, upI_a, upI_i, upR_eq, upR_a, upR_i]); try assumption) (by (try simp (disch := decide) only [upI_eq, upI_a, upI_i, upR_eq, upR_a, upR_i]); first | assumption | rfl) (by omega) (by omega)
        · skip
          refine s251_43.mpr (s251_44.mpr ?_)
          refine s251_46.mpr (wif (fun c46 => ?_) (fun c46 => ?_))
          · skip
            refine s251_49.mpr (s251_50.mpr ?_)
            refine (s251_54 kM (by first | assumption | omega)).mpr ?_
            refine s251_57.mpr ?_
            refine (s251_58).mpr ?_
            first | (exfalso; omega) | exact ok (by omega) | (rw [show hi 75 (t - 1) = 6 by omega]; exact st (by omega)) | exact no _ _ _ (by repeat' (first | assumption | exact FW.rf | refine FW.up ?_ (by unfold wS; omega) | (refine FW.tr ?_ (by assumption)))) (by (try simp (disch := decide) only [upI_eq, upI_a, upI_i, upR_eq, upR_a, upR_i]); try assumption) (by (try simp (disch := decide) only [upI_eq, upI_a, upI_i, upR_eq, upR_a, upR_i]); try assumption) (by (try simp (disch := decide) only [upI_eq, upI_a, upI_i, upR_eq, upR_a, upR_i]); first | assumption | rfl) (by omega) (by omega)
          · skip
            refine s251_53.mpr ?_
            refine (s251_54 kM (by first | assumption | omega)).mpr ?_
            refine s251_57.mpr ?_
            refine (s251_58).mpr ?_
            first | (exfalso; omega) | exact ok (by omega) | (rw [show hi 75 (t - 1) = 6 by omega]; exact st (by omega)) | exact no _ _ _ (by repeat' (first | assumption | exact FW.rf | refine FW.up ?_ (by unfold wS; omega) | (refine FW.tr ?_ (by assumption)))) (by (try simp (disch := decide) only [upI_eq, upI_a, upI_i, upR_eq, upR_a, upR_i]); try assumption) (by (try simp (disch := decide) only [upI_eq, upI_a, upI_i, upR_eq, upR_a, upR_i]); try assumption) (by (try simp (disch := decide) only [upI_eq, upI_a, upI_i, upR_eq, upR_a, upR_i]); first | assumption | rfl) (by omega) (by omega)
      · skip
        refine s251_35.mpr (s251_36.mpr ?_)
        refine (s251_37 kM).mpr ?_
        try simp (disch := first | decide | assumption | omega) only [kon, knt_some, knt_none, Option.toList_some, Option.toList_none, List.cons_append, List.nil_append, upI_eq, upI_a, upI_i, upR_eq, upR_a, upR_i, h36]
        refine s251_40.mpr (wif (fun c40 => ?_) (fun c40 => ?_))
        · skip
          refine s251_53.mpr ?_
          refine (s251_54 kM (by first | assumption | omega)).mpr ?_
          refine s251_57.mpr ?_
          refine (s251_58).mpr ?_
          first | (exfalso; omega) | exact ok (by omega) | (rw [show hi 75 (t - 1) = 6 by omega]; exact st (by omega)) | exact no _ _ _ (by repeat' (first | assumption | exact FW.rf | refine FW.up ?_ (by unfold wS; omega) | (refine FW.tr ?_ (by assumption)))) (by (try simp (disch := decide) only [upI_eq, upI_a, upI_i, upR_eq, upR_a, upR_i]); try assumption) (by (try simp (disch := decide) only [upI_eq, upI_a, upI_i, upR_eq, upR_a, upR_i]); try assumption) (by (try simp (disch := decide) only [upI_eq, upI_a, upI_i, upR_eq, upR_a, upR_i]); first | assumption | rfl) (by omega) (by omega)
        · skip
          refine s251_43.mpr (s251_44.mpr ?_)
          refine s251_46.mpr (wif (fun c46 => ?_) (fun c46 => ?_))
          · skip
            refine s251_49.mpr (s251_50.mpr ?_)
            refine (s251_54 kM (by first | assumption | omega)).mpr ?_
            refine s251_57.mpr ?_
            refine (s251_58).mpr ?_
            first | (exfalso; omega) | exact ok (by omega) | (rw [show hi 75 (t - 1) = 6 by omega]; exact st (by omega)) | exact no _ _ _ (by repeat' (first | assumption | exact FW.rf | refine FW.up ?_ (by unfold wS; omega) | (refine FW.tr ?_ (by assumption)))) (by (try simp (disch := decide) only [upI_eq, upI_a, upI_i, upR_eq, upR_a, upR_i]); try assumption) (by (try simp (disch := decide) only [upI_eq, upI_a, upI_i, upR_eq, upR_a, upR_i]); try assumption) (by (try simp (disch := decide) only [upI_eq, upI_a, upI_i, upR_eq, upR_a, upR_i]); first | assumption | rfl) (by omega) (by omega)
          · skip
            refine s251_53.mpr ?_
            refine (s251_54 kM (by first | assumption | omega)).mpr ?_
            refine s251_57.mpr ?_
            refine (s251_58).mpr ?_
            first | (exfalso; omega) | exact ok (by omega) | (rw [show hi 75 (t - 1) = 6 by omega]; exact st (by omega)) | exact no _ _ _ (by repeat' (first | assumption | exact FW.rf | refine FW.up ?_ (by unfold wS; omega) | (refine FW.tr ?_ (by assumption)))) (by (try simp (disch := decide) only [upI_eq, upI_a, upI_i, upR_eq, upR_a, upR_i]); try assumption) (by (try simp (disch := decide) only [upI_eq, upI_a, upI_i, upR_eq, upR_a, upR_i]); try assumption) (by (try simp (disch := decide) only [upI_eq, upI_a, upI_i, upR_eq, upR_a, upR_i]); first | assumption | rfl) (by omega) (by omega)
    · skip
      refine s251_13.mpr (s251_14.mpr ?_)
      refine s251_16.mpr (wif (fun c16 => ?_) (fun c16 => ?_))
      · skip
        refine s251_27.mpr (s251_28.mpr ?_)
        refine (s251_32 (by omega) kM).mpr ?_
        refine m_wants hA (by omega) (by (try simp (disch := decide) only [upI_eq, upI_a, upI_i, upR_eq, upR_a, upR_i]); first | assumption | rfl) (by omega) (fun y32 => ?_) (fun y32 => ?_)
        · skip
          refine s251_35.mpr (s251_36.mpr ?_)
          refine (s251_37 kM).mpr ?_
          try simp (disch := first | decide | assumption | omega) only [kon, knt_some, knt_none, Option.toList_some, Option.toList_none, List.cons_append, List.nil_append, upI_eq, upI_a, upI_i, upR_eq, upR_a, upR_i, h36]
          refine s251_40.mpr (wif (fun c40 => ?_) (fun c40 => ?_))
          · skip
            refine s251_53.mpr ?_
            refine (s251_54 kM (by first | assumption | omega)).mpr ?_
            refine s251_57.mpr ?_
            refine (s251_58).mpr ?_
            first | (exfalso; omega) | exact ok (by omega) | (rw [show hi 75 (t - 1) = 6 by omega]; exact st (by omega)) | exact no _ _ _ (by repeat' (first | assumption | exact FW.rf | refine FW.up ?_ (by unfold wS; omega) | (refine FW.tr ?_ (by assumption)))) (by (try simp (disch := decide) only [upI_eq, upI_a, upI_i, upR_eq, upR_a, upR_i]); try assumption) (by (try simp (disch := decide) only [upI_eq, upI_a, upI_i, upR_eq, upR_a, upR_i]); try assumption) (by (try simp (disch := decide) only [upI_eq, upI_a, upI_i, upR_eq, upR_a, upR_i]); first | assumption | rfl) (by omega) (by omega)
          · skip
            refine s251_43.mpr (s251_44.mpr ?_)
            refine s251_46.mpr (wif (fun c46 => ?_) (fun c46 => ?_))
            · skip
              refine s251_49.mpr (s251_50.mpr ?_)
              refine (s251_54 kM (by first | assumption | omega)).mpr ?_
              refine s251_57.mpr ?_
              refine (s251_58).mpr ?_
              first | (exfalso; omega) | exact ok (by omega) | (rw [show hi 75 (t - 1) = 6 by omega]; exact st (by omega)) | exact no _ _ _ (by repeat' (first | assumption | exact FW.rf | refine FW.up ?_ (by unfold wS; omega) | (refine FW.tr ?_ (by assumption)))) (by (try simp (disch := decide) only [upI_eq, upI_a, upI_i, upR_eq, upR_a, upR_i]); try assumption) (by (try simp (disch := decide) only [upI_eq, upI_a, upI_i, upR_eq, upR_a, upR_i]); try assumption) (by (try simp (disch := decide) only [upI_eq, upI_a, upI_i, upR_eq, upR_a, upR_i]); first | assumption | rfl) (by omega) (by omega)
            · skip
              refine s251_53.mpr ?_
              refine (s251_54 kM (by first | assumption | omega)).mpr ?_
              refine s251_57.mpr ?_
              refine (s251_58).mpr ?_
              first | (exfalso; omega) | exact ok (by omega) | (rw [show hi 75 (t - 1) = 6 by omega]; exact st (by omega)) | exact no _ _ _ (by repeat' (first | assumption | exact FW.rf | refine FW.up ?_ (by unfold wS; omega) | (refine FW.tr ?_ (by assumption)))) (by (try simp (disch := decide) only [upI_eq, upI_a, upI_i, upR_eq, upR_a, upR_i]); try assumption) (by (try simp (disch := decide) only [upI_eq, upI_a, upI_i, upR_eq, upR_a, upR_i]); try assumption) (by (try simp (disch := decide) only [upI_eq, upI_a, upI_i, upR_eq, upR_a, upR_i]); first | assumption | rfl) (by omega) (by omega)
        · skip
          refine s251_35.mpr (s251_36.mpr ?_)
          refine (s251_37 kM).mpr ?_
          try simp (disch := first | decide | assumption | omega) only [kon, knt_some, knt_none, Option.toList_some, Option.toList_none, List.cons_append, List.nil_append, upI_eq, upI_a, upI_i, upR_eq, upR_a, upR_i, h36]
          refine s251_40.mpr (wif (fun c40 => ?_) (fun c40 => ?_))
          · skip
            refine s251_53.mpr ?_
            refine (s251_54 kM (by first | assumption | omega)).mpr ?_
            refine s251_57.mpr ?_
            refine (s251_58).mpr ?_
            first | (exfalso; omega) | exact ok (by omega) | (rw [show hi 75 (t - 1) = 6 by omega]; exact st (by omega)) | exact no _ _ _ (by repeat' (first | assumption | exact FW.rf | refine FW.up ?_ (by unfold wS; omega) | (refine FW.tr ?_ (by assumption)))) (by (try simp (disch := decide) only [upI_eq, upI_a, upI_i, upR_eq, upR_a, upR_i]); try assumption) (by (try simp (disch := decide) only [upI_eq, upI_a, upI_i, upR_eq, upR_a, upR_i]); try assumption) (by (try simp (disch := decide) only [upI_eq, upI_a, upI_i, upR_eq, upR_a, upR_i]); first | assumption | rfl) (by omega) (by omega)
          · skip
            refine s251_43.mpr (s251_44.mpr ?_)
            refine s251_46.mpr (wif (fun c46 => ?_) (fun c46 => ?_))
            · skip
              refine s251_49.mpr (s251_50.mpr ?_)
              refine (s251_54 kM (by first | assumption | omega)).mpr ?_
              refine s251_57.mpr ?_
              refine (s251_58).mpr ?_
              first | (exfalso; omega) | exact ok (by omega) | (rw [show hi 75 (t - 1) = 6 by omega]; exact st (by omega)) | exact no _ _ _ (by repeat' (first | assumption | exact FW.rf | refine FW.up ?_ (by unfold wS; omega) | (refine FW.tr ?_ (by assumption)))) (by (try simp (disch := decide) only [upI_eq, upI_a, upI_i, upR_eq, upR_a, upR_i]); try assumption) (by (try simp (disch := decide) only [upI_eq, upI_a, upI_i, upR_eq, upR_a, upR_i]); try assumption) (by (try simp (disch := decide) only [upI_eq, upI_a, upI_i, upR_eq, upR_a, upR_i]); first | assumption | rfl) (by omega) (by omega)
            · skip
              refine s251_53.mpr ?_
              refine (s251_54 kM (by first | assumption | omega)).mpr ?_
              refine s251_57.mpr ?_
              refine (s251_58).mpr ?_
              first | (exfalso; omega) | exact ok (by omega) | (rw [show hi 75 (t - 1) = 6 by omega]; exact st (by omega)) | exact no _ _ _ (by repeat' (first | assumption | exact FW.rf | refine FW.up ?_ (by unfold wS; omega) | (refine FW.tr ?_ (by assumption)))) (by (try simp (disch := decide) only [upI_eq, upI_a, upI_i, upR_eq, upR_a, upR_i]); try assumption) (by (try simp (disch := decide) only [upI_eq, upI_a, upI_i, upR_eq, upR_a, upR_i]); try assumption) (by (try simp (disch := decide) only [upI_eq, upI_a, upI_i, upR_eq, upR_a, upR_i]); first | assumption | rfl) (by omega) (by omega)
      · skip
        refine s251_19.mpr ?_
        refine (s251_20 (by omega)).mpr ?_
        refine m_kind.mpr ?_
        refine s251_23.mpr ?_
        refine s251_24.mpr (wif (fun c24 => ?_) (fun c24 => ?_))
        · skip
          refine s251_27.mpr (s251_28.mpr ?_)
          refine (s251_32 (by omega) kM).mpr ?_
          refine m_wants hA (by omega) (by (try simp (disch := decide) only [upI_eq, upI_a, upI_i, upR_eq, upR_a, upR_i]); first | assumption | rfl) (by omega) (fun y32 => ?_) (fun y32 => ?_)
          · skip
            refine s251_35.mpr (s251_36.mpr ?_)
            refine (s251_37 kM).mpr ?_
            try simp (disch := first | decide | assumption | omega) only [kon, knt_some, knt_none, Option.toList_some, Option.toList_none, List.cons_append, List.nil_append, upI_eq, upI_a, upI_i, upR_eq, upR_a, upR_i, h36]
            refine s251_40.mpr (wif (fun c40 => ?_) (fun c40 => ?_))
            · skip
              refine s251_53.mpr ?_
              refine (s251_54 kM (by first | assumption | omega)).mpr ?_
              refine s251_57.mpr ?_
              refine (s251_58).mpr ?_
              first | (exfalso; omega) | exact ok (by omega) | (rw [show hi 75 (t - 1) = 6 by omega]; exact st (by omega)) | exact no _ _ _ (by repeat' (first | assumption | exact FW.rf | refine FW.up ?_ (by unfold wS; omega) | (refine FW.tr ?_ (by assumption)))) (by (try simp (disch := decide) only [upI_eq, upI_a, upI_i, upR_eq, upR_a, upR_i]); try assumption) (by (try simp (disch := decide) only [upI_eq, upI_a, upI_i, upR_eq, upR_a, upR_i]); try assumption) (by (try simp (disch := decide) only [upI_eq, upI_a, upI_i, upR_eq, upR_a, upR_i]); first | assumption | rfl) (by omega) (by omega)
            · skip
              refine s251_43.mpr (s251_44.mpr ?_)
              refine s251_46.mpr (wif (fun c46 => ?_) (fun c46 => ?_))
              · skip
                refine s251_49.mpr (s251_50.mpr ?_)
                refine (s251_54 kM (by first | assumption | omega)).mpr ?_
                refine s251_57.mpr ?_
                refine (s251_58).mpr ?_
                first | (exfalso; omega) | exact ok (by omega) | (rw [show hi 75 (t - 1) = 6 by omega]; exact st (by omega)) | exact no _ _ _ (by repeat' (first | assumption | exact FW.rf | refine FW.up ?_ (by unfold wS; omega) | (refine FW.tr ?_ (by assumption)))) (by (try simp (disch := decide) only [upI_eq, upI_a, upI_i, upR_eq, upR_a, upR_i]); try assumption) (by (try simp (disch := decide) only [upI_eq, upI_a, upI_i, upR_eq, upR_a, upR_i]); try assumption) (by (try simp (disch := decide) only [upI_eq, upI_a, upI_i, upR_eq, upR_a, upR_i]); first | assumption | rfl) (by omega) (by omega)
              · skip
                refine s251_53.mpr ?_
                refine (s251_54 kM (by first | assumption | omega)).mpr ?_
                refine s251_57.mpr ?_
                refine (s251_58).mpr ?_
                first | (exfalso; omega) | exact ok (by omega) | (rw [show hi 75 (t - 1) = 6 by omega]; exact st (by omega)) | exact no _ _ _ (by repeat' (first | assumption | exact FW.rf | refine FW.up ?_ (by unfold wS; omega) | (refine FW.tr ?_ (by assumption)))) (by (try simp (disch := decide) only [upI_eq, upI_a, upI_i, upR_eq, upR_a, upR_i]); try assumption) (by (try simp (disch := decide) only [upI_eq, upI_a, upI_i, upR_eq, upR_a, upR_i]); try assumption) (by (try simp (disch := decide) only [upI_eq, upI_a, upI_i, upR_eq, upR_a, upR_i]); first | assumption | rfl) (by omega) (by omega)
          · skip
            refine s251_35.mpr (s251_36.mpr ?_)
            refine (s251_37 kM).mpr ?_
            try simp (disch := first | decide | assumption | omega) only [kon, knt_some, knt_none, Option.toList_some, Option.toList_none, List.cons_append, List.nil_append, upI_eq, upI_a, upI_i, upR_eq, upR_a, upR_i, h36]
            refine s251_40.mpr (wif (fun c40 => ?_) (fun c40 => ?_))
            · skip
              refine s251_53.mpr ?_
              refine (s251_54 kM (by first | assumption | omega)).mpr ?_
              refine s251_57.mpr ?_
              refine (s251_58).mpr ?_
              first | (exfalso; omega) | exact ok (by omega) | (rw [show hi 75 (t - 1) = 6 by omega]; exact st (by omega)) | exact no _ _ _ (by repeat' (first | assumption | exact FW.rf | refine FW.up ?_ (by unfold wS; omega) | (refine FW.tr ?_ (by assumption)))) (by (try simp (disch := decide) only [upI_eq, upI_a, upI_i, upR_eq, upR_a, upR_i]); try assumption) (by (try simp (disch := decide) only [upI_eq, upI_a, upI_i, upR_eq, upR_a, upR_i]); try assumption) (by (try simp (disch := decide) only [upI_eq, upI_a, upI_i, upR_eq, upR_a, upR_i]); first | assumption | rfl) (by omega) (by omega)
            · skip
              refine s251_43.mpr (s251_44.mpr ?_)
              refine s251_46.mpr (wif (fun c46 => ?_) (fun c46 => ?_))
              · skip
                refine s251_49.mpr (s251_50.mpr ?_)
                refine (s251_54 kM (by first | assumption | omega)).mpr ?_
                refine s251_57.mpr ?_
                refine (s251_58).mpr ?_
                first | (exfalso; omega) | exact ok (by omega) | (rw [show hi 75 (t - 1) = 6 by omega]; exact st (by omega)) | exact no _ _ _ (by repeat' (first | assumption | exact FW.rf | refine FW.up ?_ (by unfold wS; omega) | (refine FW.tr ?_ (by assumption)))) (by (try simp (disch := decide) only [upI_eq, upI_a, upI_i, upR_eq, upR_a, upR_i]); try assumption) (by (try simp (disch := decide) only [upI_eq, upI_a, upI_i, upR_eq, upR_a, upR_i]); try assumption) (by (try simp (disch := decide) only [upI_eq, upI_a, upI_i, upR_eq, upR_a, upR_i]); first | assumption | rfl) (by omega) (by omega)
              · skip
                refine s251_53.mpr ?_
                refine (s251_54 kM (by first | assumption | omega)).mpr ?_
                refine s251_57.mpr ?_
                refine (s251_58).mpr ?_
                first | (exfalso; omega) | exact ok (by omega) | (rw [show hi 75 (t - 1) = 6 by omega]; exact st (by omega)) | exact no _ _ _ (by repeat' (first | assumption | exact FW.rf | refine FW.up ?_ (by unfold wS; omega) | (refine FW.tr ?_ (by assumption)))) (by (try simp (disch := decide) only [upI_eq, upI_a, upI_i, upR_eq, upR_a, upR_i]); try assumption) (by (try simp (disch := decide) only [upI_eq, upI_a, upI_i, upR_eq, upR_a, upR_i]); try assumption) (by (try simp (disch := decide) only [upI_eq, upI_a, upI_i, upR_eq, upR_a, upR_i]); first | assumption | rfl) (by omega) (by omega)
        · skip
          refine s251_31.mpr ?_
          refine (s251_32 (by omega) kM).mpr ?_
          refine m_wants hA (by omega) (by (try simp (disch := decide) only [upI_eq, upI_a, upI_i, upR_eq, upR_a, upR_i]); first | assumption | rfl) (by omega) (fun y32 => ?_) (fun y32 => ?_)
          · skip
            refine s251_35.mpr (s251_36.mpr ?_)
            refine (s251_37 kM).mpr ?_
            try simp (disch := first | decide | assumption | omega) only [kon, knt_some, knt_none, Option.toList_some, Option.toList_none, List.cons_append, List.nil_append, upI_eq, upI_a, upI_i, upR_eq, upR_a, upR_i, h36]
            refine s251_40.mpr (wif (fun c40 => ?_) (fun c40 => ?_))
            · skip
              refine s251_53.mpr ?_
              refine (s251_54 kM (by first | assumption | omega)).mpr ?_
              refine s251_57.mpr ?_
              refine (s251_58).mpr ?_
              first | (exfalso; omega) | exact ok (by omega) | (rw [show hi 75 (t - 1) = 6 by omega]; exact st (by omega)) | exact no _ _ _ (by repeat' (first | assumption | exact FW.rf | refine FW.up ?_ (by unfold wS; omega) | (refine FW.tr ?_ (by assumption)))) (by (try simp (disch := decide) only [upI_eq, upI_a, upI_i, upR_eq, upR_a, upR_i]); try assumption) (by (try simp (disch := decide) only [upI_eq, upI_a, upI_i, upR_eq, upR_a, upR_i]); try assumption) (by (try simp (disch := decide) only [upI_eq, upI_a, upI_i, upR_eq, upR_a, upR_i]); first | assumption | rfl) (by omega) (by omega)
            · skip
              refine s251_43.mpr (s251_44.mpr ?_)
              refine s251_46.mpr (wif (fun c46 => ?_) (fun c46 => ?_))
              · skip
                refine s251_49.mpr (s251_50.mpr ?_)
                refine (s251_54 kM (by first | assumption | omega)).mpr ?_
                refine s251_57.mpr ?_
                refine (s251_58).mpr ?_
                first | (exfalso; omega) | exact ok (by omega) | (rw [show hi 75 (t - 1) = 6 by omega]; exact st (by omega)) | exact no _ _ _ (by repeat' (first | assumption | exact FW.rf | refine FW.up ?_ (by unfold wS; omega) | (refine FW.tr ?_ (by assumption)))) (by (try simp (disch := decide) only [upI_eq, upI_a, upI_i, upR_eq, upR_a, upR_i]); try assumption) (by (try simp (disch := decide) only [upI_eq, upI_a, upI_i, upR_eq, upR_a, upR_i]); try assumption) (by (try simp (disch := decide) only [upI_eq, upI_a, upI_i, upR_eq, upR_a, upR_i]); first | assumption | rfl) (by omega) (by omega)
              · skip
                refine s251_53.mpr ?_
                refine (s251_54 kM (by first | assumption | omega)).mpr ?_
                refine s251_57.mpr ?_
                refine (s251_58).mpr ?_
                first | (exfalso; omega) | exact ok (by omega) | (rw [show hi 75 (t - 1) = 6 by omega]; exact st (by omega)) | exact no _ _ _ (by repeat' (first | assumption | exact FW.rf | refine FW.up ?_ (by unfold wS; omega) | (refine FW.tr ?_ (by assumption)))) (by (try simp (disch := decide) only [upI_eq, upI_a, upI_i, upR_eq, upR_a, upR_i]); try assumption) (by (try simp (disch := decide) only [upI_eq, upI_a, upI_i, upR_eq, upR_a, upR_i]); try assumption) (by (try simp (disch := decide) only [upI_eq, upI_a, upI_i, upR_eq, upR_a, upR_i]); first | assumption | rfl) (by omega) (by omega)
          · skip
            refine s251_35.mpr (s251_36.mpr ?_)
            refine (s251_37 kM).mpr ?_
            try simp (disch := first | decide | assumption | omega) only [kon, knt_some, knt_none, Option.toList_some, Option.toList_none, List.cons_append, List.nil_append, upI_eq, upI_a, upI_i, upR_eq, upR_a, upR_i, h36]
            refine s251_40.mpr (wif (fun c40 => ?_) (fun c40 => ?_))
            · skip
              refine s251_53.mpr ?_
              refine (s251_54 kM (by first | assumption | omega)).mpr ?_
              refine s251_57.mpr ?_
              refine (s251_58).mpr ?_
              first | (exfalso; omega) | exact ok (by omega) | (rw [show hi 75 (t - 1) = 6 by omega]; exact st (by omega)) | exact no _ _ _ (by repeat' (first | assumption | exact FW.rf | refine FW.up ?_ (by unfold wS; omega) | (refine FW.tr ?_ (by assumption)))) (by (try simp (disch := decide) only [upI_eq, upI_a, upI_i, upR_eq, upR_a, upR_i]); try assumption) (by (try simp (disch := decide) only [upI_eq, upI_a, upI_i, upR_eq, upR_a, upR_i]); try assumption) (by (try simp (disch := decide) only [upI_eq, upI_a, upI_i, upR_eq, upR_a, upR_i]); first | assumption | rfl) (by omega) (by omega)
            · skip
              refine s251_43.mpr (s251_44.mpr ?_)
              refine s251_46.mpr (wif (fun c46 => ?_) (fun c46 => ?_))
              · skip
                refine s251_49.mpr (s251_50.mpr ?_)
                refine (s251_54 kM (by first | assumption | omega)).mpr ?_
                refine s251_57.mpr ?_
                refine (s251_58).mpr ?_
                first | (exfalso; omega) | exact ok (by omega) | (rw [show hi 75 (t - 1) = 6 by omega]; exact st (by omega)) | exact no _ _ _ (by repeat' (first | assumption | exact FW.rf | refine FW.up ?_ (by unfold wS; omega) | (refine FW.tr ?_ (by assumption)))) (by (try simp (disch := decide) only [upI_eq, upI_a, upI_i, upR_eq, upR_a, upR_i]); try assumption) (by (try simp (disch := decide) only [upI_eq, upI_a, upI_i, upR_eq, upR_a, upR_i]); try assumption) (by (try simp (disch := decide) only [upI_eq, upI_a, upI_i, upR_eq, upR_a, upR_i]); first | assumption | rfl) (by omega) (by omega)
              · skip
                refine s251_53.mpr ?_
                refine (s251_54 kM (by first | assumption | omega)).mpr ?_
                refine s251_57.mpr ?_
                refine (s251_58).mpr ?_
                first | (exfalso; omega) | exact ok (by omega) | (rw [show hi 75 (t - 1) = 6 by omega]; exact st (by omega)) | exact no _ _ _ (by repeat' (first | assumption | exact FW.rf | refine FW.up ?_ (by unfold wS; omega) | (refine FW.tr ?_ (by assumption)))) (by (try simp (disch := decide) only [upI_eq, upI_a, upI_i, upR_eq, upR_a, upR_i]); try assumption) (by (try simp (disch := decide) only [upI_eq, upI_a, upI_i, upR_eq, upR_a, upR_i]); try assumption) (by (try simp (disch := decide) only [upI_eq, upI_a, upI_i, upR_eq, upR_a, upR_i]); first | assumption | rfl) (by omega) (by omega)
theorem m_popRow {t r : Int} (hA : SA al) (hR : MR hr) (hd : 2 ≤ d) (h36 : hi 49 36 = r) (hr2 : r = 0 ∨ r = 1) (ht : hi 49 35 = t) (ht0 : 0 ≤ t ∧ t ≤ 20)
    (ok : r = 1 ∧ 0 < t ∧ (kindM (hi 75 (t - 1)) = 2 ∨ kindM (hi 75 (t - 1)) = 3) → Q (some (some (vI (hi 75 (t - 1))))) al (upI (upI hi 49 35 (t - 1)) 49 38 0) hr)
    (st : r = 1 ∧ 0 < t ∧ hi 75 (t - 1) = 6 → Q (some (some (vI 6))) al (upI (upI hi 49 35 (t - 1)) 49 38 1) hr)
    (no : ∀ v hi' t', FW wS hi hi' → hi' 49 36 = 0 → hi' 49 38 = 0 → hi' 49 35 = t' → (0 ≤ t' ∧ t' ≤ 20) → (r = 0 ∨ ¬ (0 < t ∧ (hi 75 (t - 1) = 6 ∨ kindM (hi 75 (t - 1)) = 2 ∨ kindM (hi 75 (t - 1)) = 3))) → Q (some (some (vI v))) al hi' hr) : Ev d 252 [vR (some 49)] al hi hr Q := by
  have h6 : hi 75 (t - 1) = 6 → kindM (hi 75 (t - 1)) = 6 := fun h => by rw [h]; rfl
  rw [e252]
  have kM : isK al 49 13 := hA.k (by decide) (by decide) rfl
  refine s252_0.mpr ?_
  refine (s252_1 (by omega) kM).mpr ?_
  refine m_pop hA hR (by omega) (by (try simp (disch := decide) only [upI_eq, upI_a, upI_i, upR_eq, upR_a, upR_i]); first | assumption | rfl) (by omega) (by (try simp (disch := decide) only [upI_eq, upI_a, upI_i, upR_eq, upR_a, upR_i]); first | assumption | rfl) (by omega) (fun y1 => ?_) (fun v1 hi1 w1 z1 u1 x1 => ?_)
  · skip
    refine s252_4.mpr (s252_5.mpr (s252_6.mpr ?_))
    refine (s252_7 kM).mpr ?_
    try simp (disch := first | decide | assumption | omega) only [kon, knt_some, knt_none, Option.toList_some, Option.toList_none, List.cons_append, List.nil_append, upI_eq, upI_a, upI_i, upR_eq, upR_a, upR_i, h36]
    refine s252_10.mpr (wif (fun c10 => ?_) (fun c10 => ?_))
    · skip
      refine s252_39.mpr ?_
      refine (s252_40 (by omega) kM).mpr ?_
      refine m_wants hA (by omega) (by (try simp (disch := decide) only [upI_eq, upI_a, upI_i, upR_eq, upR_a, upR_i]); first | assumption | rfl) (by omega) (fun y40 => ?_) (fun y40 => ?_)
      · skip
        refine s252_43.mpr (s252_44.mpr ?_)
        refine (s252_45 kM).mpr ?_
        try simp (disch := first | decide | assumption | omega) only [kon, knt_some, knt_none, Option.toList_some, Option.toList_none, List.cons_append, List.nil_append, upI_eq, upI_a, upI_i, upR_eq, upR_a, upR_i, h36]
        refine s252_48.mpr (wif (fun c48 => ?_) (fun c48 => ?_))
        · skip
          refine s252_61.mpr ?_
          refine (s252_62 kM (by first | assumption | omega)).mpr ?_
          refine s252_65.mpr ?_
          refine (s252_66).mpr ?_
          first | (exfalso; omega) | exact ok (by omega) | (rw [show hi 75 (t - 1) = 6 by omega]; exact st (by omega)) | exact no _ _ _ (by repeat' (first | assumption | exact FW.rf | refine FW.up ?_ (by unfold wS; omega) | (refine FW.tr ?_ (by assumption)))) (by (try simp (disch := decide) only [upI_eq, upI_a, upI_i, upR_eq, upR_a, upR_i]); try assumption) (by (try simp (disch := decide) only [upI_eq, upI_a, upI_i, upR_eq, upR_a, upR_i]); try assumption) (by (try simp (disch := decide) only [upI_eq, upI_a, upI_i, upR_eq, upR_a, upR_i]); first | assumption | rfl) (by omega) (by omega)
        · skip
          refine s252_51.mpr (s252_52.mpr ?_)
          refine s252_54.mpr (wif (fun c54 => ?_) (fun c54 => ?_))
          · skip
            refine s252_57.mpr (s252_58.mpr ?_)
            refine (s252_62 kM (by first | assumption | omega)).mpr ?_
            refine s252_65.mpr ?_
            refine (s252_66).mpr ?_
            first | (exfalso; omega) | exact ok (by omega) | (rw [show hi 75 (t - 1) = 6 by omega]; exact st (by omega)) | exact no _ _ _ (by repeat' (first | assumption | exact FW.rf | refine FW.up ?_ (by unfold wS; omega) | (refine FW.tr ?_ (by assumption)))) (by (try simp (disch := decide) only [upI_eq, upI_a, upI_i, upR_eq, upR_a, upR_i]); try assumption) (by (try simp (disch := decide) only [upI_eq, upI_a, upI_i, upR_eq, upR_a, upR_i]); try assumption) (by (try simp (disch := decide) only [upI_eq, upI_a, upI_i, upR_eq, upR_a, upR_i]); first | assumption | rfl) (by omega) (by omega)
          · skip
            refine s252_61.mpr ?_
            refine (s252_62 kM (by first | assumption | omega)).mpr ?_
            refine s252_65.mpr ?_
            refine (s252_66).mpr ?_
            first | (exfalso; omega) | exact ok (by omega) | (rw [show hi 75 (t - 1) = 6 by omega]; exact st (by omega)) | exact no _ _ _ (by repeat' (first | assumption | exact FW.rf | refine FW.up ?_ (by unfold wS; omega) | (refine FW.tr ?_ (by assumption)))) (by (try simp (disch := decide) only [upI_eq, upI_a, upI_i, upR_eq, upR_a, upR_i]); try assumption) (by (try simp (disch := decide) only [upI_eq, upI_a, upI_i, upR_eq, upR_a, upR_i]); try assumption) (by (try simp (disch := decide) only [upI_eq, upI_a, upI_i, upR_eq, upR_a, upR_i]); first | assumption | rfl) (by omega) (by omega)
      · skip
        refine s252_43.mpr (s252_44.mpr ?_)
        refine (s252_45 kM).mpr ?_
        try simp (disch := first | decide | assumption | omega) only [kon, knt_some, knt_none, Option.toList_some, Option.toList_none, List.cons_append, List.nil_append, upI_eq, upI_a, upI_i, upR_eq, upR_a, upR_i, h36]
        refine s252_48.mpr (wif (fun c48 => ?_) (fun c48 => ?_))
        · skip
          refine s252_61.mpr ?_
          refine (s252_62 kM (by first | assumption | omega)).mpr ?_
          refine s252_65.mpr ?_
          refine (s252_66).mpr ?_
          first | (exfalso; omega) | exact ok (by omega) | (rw [show hi 75 (t - 1) = 6 by omega]; exact st (by omega)) | exact no _ _ _ (by repeat' (first | assumption | exact FW.rf | refine FW.up ?_ (by unfold wS; omega) | (refine FW.tr ?_ (by assumption)))) (by (try simp (disch := decide) only [upI_eq, upI_a, upI_i, upR_eq, upR_a, upR_i]); try assumption) (by (try simp (disch := decide) only [upI_eq, upI_a, upI_i, upR_eq, upR_a, upR_i]); try assumption) (by (try simp (disch := decide) only [upI_eq, upI_a, upI_i, upR_eq, upR_a, upR_i]); first | assumption | rfl) (by omega) (by omega)
        · skip
          refine s252_51.mpr (s252_52.mpr ?_)
          refine s252_54.mpr (wif (fun c54 => ?_) (fun c54 => ?_))
          · skip
            refine s252_57.mpr (s252_58.mpr ?_)
            refine (s252_62 kM (by first | assumption | omega)).mpr ?_
            refine s252_65.mpr ?_
            refine (s252_66).mpr ?_
            first | (exfalso; omega) | exact ok (by omega) | (rw [show hi 75 (t - 1) = 6 by omega]; exact st (by omega)) | exact no _ _ _ (by repeat' (first | assumption | exact FW.rf | refine FW.up ?_ (by unfold wS; omega) | (refine FW.tr ?_ (by assumption)))) (by (try simp (disch := decide) only [upI_eq, upI_a, upI_i, upR_eq, upR_a, upR_i]); try assumption) (by (try simp (disch := decide) only [upI_eq, upI_a, upI_i, upR_eq, upR_a, upR_i]); try assumption) (by (try simp (disch := decide) only [upI_eq, upI_a, upI_i, upR_eq, upR_a, upR_i]); first | assumption | rfl) (by omega) (by omega)
          · skip
            refine s252_61.mpr ?_
            refine (s252_62 kM (by first | assumption | omega)).mpr ?_
            refine s252_65.mpr ?_
            refine (s252_66).mpr ?_
            first | (exfalso; omega) | exact ok (by omega) | (rw [show hi 75 (t - 1) = 6 by omega]; exact st (by omega)) | exact no _ _ _ (by repeat' (first | assumption | exact FW.rf | refine FW.up ?_ (by unfold wS; omega) | (refine FW.tr ?_ (by assumption)))) (by (try simp (disch := decide) only [upI_eq, upI_a, upI_i, upR_eq, upR_a, upR_i]); try assumption) (by (try simp (disch := decide) only [upI_eq, upI_a, upI_i, upR_eq, upR_a, upR_i]); try assumption) (by (try simp (disch := decide) only [upI_eq, upI_a, upI_i, upR_eq, upR_a, upR_i]); first | assumption | rfl) (by omega) (by omega)
    · skip
      refine s252_13.mpr (s252_14.mpr ?_)
      refine s252_16.mpr (wif (fun c16 => ?_) (fun c16 => ?_))
      · skip
        refine s252_35.mpr (s252_36.mpr ?_)
        refine (s252_40 (by omega) kM).mpr ?_
        refine m_wants hA (by omega) (by (try simp (disch := decide) only [upI_eq, upI_a, upI_i, upR_eq, upR_a, upR_i]); first | assumption | rfl) (by omega) (fun y40 => ?_) (fun y40 => ?_)
        · skip
          refine s252_43.mpr (s252_44.mpr ?_)
          refine (s252_45 kM).mpr ?_
          try simp (disch := first | decide | assumption | omega) only [kon, knt_some, knt_none, Option.toList_some, Option.toList_none, List.cons_append, List.nil_append, upI_eq, upI_a, upI_i, upR_eq, upR_a, upR_i, h36]
          refine s252_48.mpr (wif (fun c48 => ?_) (fun c48 => ?_))
          · skip
            refine s252_61.mpr ?_
            refine (s252_62 kM (by first | assumption | omega)).mpr ?_
            refine s252_65.mpr ?_
            refine (s252_66).mpr ?_
            first | (exfalso; omega) | exact ok (by omega) | (rw [show hi 75 (t - 1) = 6 by omega]; exact st (by omega)) | exact no _ _ _ (by repeat' (first | assumption | exact FW.rf | refine FW.up ?_ (by unfold wS; omega) | (refine FW.tr ?_ (by assumption)))) (by (try simp (disch := decide) only [upI_eq, upI_a, upI_i, upR_eq, upR_a, upR_i]); try assumption) (by (try simp (disch := decide) only [upI_eq, upI_a, upI_i, upR_eq, upR_a, upR_i]); try assumption) (by (try simp (disch := decide) only [upI_eq, upI_a, upI_i, upR_eq, upR_a, upR_i]); first | assumption | rfl) (by omega) (by omega)
          · skip
            refine s252_51.mpr (s252_52.mpr ?_)
            refine s252_54.mpr (wif (fun c54 => ?_) (fun c54 => ?_))
            · skip
              refine s252_57.mpr (s252_58.mpr ?_)
              refine (s252_62 kM (by first | assumption | omega)).mpr ?_
              refine s252_65.mpr ?_
              refine (s252_66).mpr ?_
              first | (exfalso; omega) | exact ok (by omega) | (rw [show hi 75 (t - 1) = 6 by omega]; exact st (by omega)) | exact no _ _ _ (by repeat' (first | assumption | exact FW.rf | refine FW.up ?_ (by unfold wS; omega) | (refine FW.tr ?_ (by assumption)))) (by (try simp (disch := decide) only [upI_eq, upI_a, upI_i, upR_eq, upR_a, upR_i]); try assumption) (by (try simp (disch := decide) only [upI_eq, upI_a, upI_i, upR_eq, upR_a, upR_i]); try assumption) (by (try simp (disch := decide) only [upI_eq, upI_a, upI_i, upR_eq, upR_a, upR_i]); first | assumption | rfl) (by omega) (by omega)
            · skip
              refine s252_61.mpr ?_
              refine (s252_62 kM (by first | assumption | omega)).mpr ?_
              refine s252_65.mpr ?_
              refine (s252_66).mpr ?_
              first | (exfalso; omega) | exact ok (by omega) | (rw [show hi 75 (t - 1) = 6 by omega]; exact st (by omega)) | exact no _ _ _ (by repeat' (first | assumption | exact FW.rf | refine FW.up ?_ (by unfold wS; omega) | (refine FW.tr ?_ (by assumption)))) (by (try simp (disch := decide) only [upI_eq, upI_a, upI_i, upR_eq, upR_a, upR_i]); try assumption) (by (try simp (disch := decide) only [upI_eq, upI_a, upI_i, upR_eq, upR_a, upR_i]); try assumption) (by (try simp (disch := decide) only [upI_eq, upI_a, upI_i, upR_eq, upR_a, upR_i]); first | assumption | rfl) (by omega) (by omega)
        · skip
          refine s252_43.mpr (s252_44.mpr ?_)
          refine (s252_45 kM).mpr ?_
          try simp (disch := first | decide | assumption | omega) only [kon, knt_some, knt_none, Option.toList_some, Option.toList_none, List.cons_append, List.nil_append, upI_eq, upI_a, upI_i, upR_eq, upR_a, upR_i, h36]
          refine s252_48.mpr (wif (fun c48 => ?_) (fun c48 => ?_))
          · skip
            refine s252_61.mpr ?_
            refine (s252_62 kM (by first | assumption | omega)).mpr ?_
            refine s252_65.mpr ?_
            refine (s252_66).mpr ?_
            first | (exfalso; omega) | exact ok (by omega) | (rw [show hi 75 (t - 1) = 6 by omega]; exact st (by omega)) | exact no _ _ _ (by repeat' (first | assumption | exact FW.rf | refine FW.up ?_ (by unfold wS; omega) | (refine FW.tr ?_ (by assumption)))) (by (try simp (disch := decide) only [upI_eq, upI_a, upI_i, upR_eq, upR_a, upR_i]); try assumption) (by (try simp (disch := decide) only [upI_eq, upI_a, upI_i, upR_eq, upR_a, upR_i]); try assumption) (by (try simp (disch := decide) only [upI_eq, upI_a, upI_i, upR_eq, upR_a, upR_i]); first | assumption | rfl) (by omega) (by omega)
          · skip
            refine s252_51.mpr (s252_52.mpr ?_)
            refine s252_54.mpr (wif (fun c54 => ?_) (fun c54 => ?_))
            · skip
              refine s252_57.mpr (s252_58.mpr ?_)
              refine (s252_62 kM (by first | assumption | omega)).mpr ?_
              refine s252_65.mpr ?_
              refine (s252_66).mpr ?_
              first | (exfalso; omega) | exact ok (by omega) | (rw [show hi 75 (t - 1) = 6 by omega]; exact st (by omega)) | exact no _ _ _ (by repeat' (first | assumption | exact FW.rf | refine FW.up ?_ (by unfold wS; omega) | (refine FW.tr ?_ (by assumption)))) (by (try simp (disch := decide) only [upI_eq, upI_a, upI_i, upR_eq, upR_a, upR_i]); try assumption) (by (try simp (disch := decide) only [upI_eq, upI_a, upI_i, upR_eq, upR_a, upR_i]); try assumption) (by (try simp (disch := decide) only [upI_eq, upI_a, upI_i, upR_eq, upR_a, upR_i]); first | assumption | rfl) (by omega) (by omega)
            · skip
              refine s252_61.mpr ?_
              refine (s252_62 kM (by first | assumption | omega)).mpr ?_
              refine s252_65.mpr ?_
              refine (s252_66).mpr ?_
              first | (exfalso; omega) | exact ok (by omega) | (rw [show hi 75 (t - 1) = 6 by omega]; exact st (by omega)) | exact no _ _ _ (by repeat' (first | assumption | exact FW.rf | refine FW.up ?_ (by unfold wS; omega) | (refine FW.tr ?_ (by assumption)))) (by (try simp (disch := decide) only [upI_eq, upI_a, upI_i, upR_eq, upR_a, upR_i]); try assumption) (by (try simp (disch := decide) only [upI_eq, upI_a, upI_i, upR_eq, upR_a, upR_i]); try assumption) (by (try simp (disch := decide) only [upI_eq, upI_a, upI_i, upR_eq, upR_a, upR_i]); first | assumption | rfl) (by omega) (by omega)
      · skip
        refine s252_19.mpr ?_
        refine (s252_20 (by omega)).mpr ?_
        refine m_kind.mpr ?_
        refine s252_23.mpr ?_
        refine s252_24.mpr (wif (fun c24 => ?_) (fun c24 => ?_))
        · skip
          refine s252_35.mpr (s252_36.mpr ?_)
          refine (s252_40 (by omega) kM).mpr ?_
          refine m_wants hA (by omega) (by (try simp (disch := decide) only [upI_eq, upI_a, upI_i, upR_eq, upR_a, upR_i]); first | assumption | rfl) (by omega) (fun y40 => ?_) (fun y40 => ?_)
          · skip
            refine s252_43.mpr (s252_44.mpr ?_)
            refine (s252_45 kM).mpr ?_
            try simp (disch := first | decide | assumption | omega) only [kon, knt_some, knt_none, Option.toList_some, Option.toList_none, List.cons_append, List.nil_append, upI_eq, upI_a, upI_i, upR_eq, upR_a, upR_i, h36]
            refine s252_48.mpr (wif (fun c48 => ?_) (fun c48 => ?_))
            · skip
              refine s252_61.mpr ?_
              refine (s252_62 kM (by first | assumption | omega)).mpr ?_
              refine s252_65.mpr ?_
              refine (s252_66).mpr ?_
              first | (exfalso; omega) | exact ok (by omega) | (rw [show hi 75 (t - 1) = 6 by omega]; exact st (by omega)) | exact no _ _ _ (by repeat' (first | assumption | exact FW.rf | refine FW.up ?_ (by unfold wS; omega) | (refine FW.tr ?_ (by assumption)))) (by (try simp (disch := decide) only [upI_eq, upI_a, upI_i, upR_eq, upR_a, upR_i]); try assumption) (by (try simp (disch := decide) only [upI_eq, upI_a, upI_i, upR_eq, upR_a, upR_i]); try assumption) (by (try simp (disch := decide) only [upI_eq, upI_a, upI_i, upR_eq, upR_a, upR_i]); first | assumption | rfl) (by omega) (by omega)
            · skip
              refine s252_51.mpr (s252_52.mpr ?_)
              refine s252_54.mpr (wif (fun c54 => ?_) (fun c54 => ?_))
              · skip
                refine s252_57.mpr (s252_58.mpr ?_)
                refine (s252_62 kM (by first | assumption | omega)).mpr ?_
                refine s252_65.mpr ?_
                refine (s252_66).mpr ?_
                first | (exfalso; omega) | exact ok (by omega) | (rw [show hi 75 (t - 1) = 6 by omega]; exact st (by omega)) | exact no _ _ _ (by repeat' (first | assumption | exact FW.rf | refine FW.up ?_ (by unfold wS; omega) | (refine FW.tr ?_ (by assumption)))) (by (try simp (disch := decide) only [upI_eq, upI_a, upI_i, upR_eq, upR_a, upR_i]); try assumption) (by (try simp (disch := decide) only [upI_eq, upI_a, upI_i, upR_eq, upR_a, upR_i]); try assumption) (by (try simp (disch := decide) only [upI_eq, upI_a, upI_i, upR_eq, upR_a, upR_i]); first | assumption | rfl) (by omega) (by omega)
              · skip
                refine s252_61.mpr ?_
                refine (s252_62 kM (by first | assumption | omega)).mpr ?_
                refine s252_65.mpr ?_
                refine (s252_66).mpr ?_
                first | (exfalso; omega) | exact ok (by omega) | (rw [show hi 75 (t - 1) = 6 by omega]; exact st (by omega)) | exact no _ _ _ (by repeat' (first | assumption | exact FW.rf | refine FW.up ?_ (by unfold wS; omega) | (refine FW.tr ?_ (by assumption)))) (by (try simp (disch := decide) only [upI_eq, upI_a, upI_i, upR_eq, upR_a, upR_i]); try assumption) (by (try simp (disch := decide) only [upI_eq, upI_a, upI_i, upR_eq, upR_a, upR_i]); try assumption) (by (try simp (disch := decide) only [upI_eq, upI_a, upI_i, upR_eq, upR_a, upR_i]); first | assumption | rfl) (by omega) (by omega)
          · skip
            refine s252_43.mpr (s252_44.mpr ?_)
            refine (s252_45 kM).mpr ?_
            try simp (disch := first | decide | assumption | omega) only [kon, knt_some, knt_none, Option.toList_some, Option.toList_none, List.cons_append, List.nil_append, upI_eq, upI_a, upI_i, upR_eq, upR_a, upR_i, h36]
            refine s252_48.mpr (wif (fun c48 => ?_) (fun c48 => ?_))
            · skip
              refine s252_61.mpr ?_
              refine (s252_62 kM (by first | assumption | omega)).mpr ?_
              refine s252_65.mpr ?_
              refine (s252_66).mpr ?_
              first | (exfalso; omega) | exact ok (by omega) | (rw [show hi 75 (t - 1) = 6 by omega]; exact st (by omega)) | exact no _ _ _ (by repeat' (first | assumption | exact FW.rf | refine FW.up ?_ (by unfold wS; omega) | (refine FW.tr ?_ (by assumption)))) (by (try simp (disch := decide) only [upI_eq, upI_a, upI_i, upR_eq, upR_a, upR_i]); try assumption) (by (try simp (disch := decide) only [upI_eq, upI_a, upI_i, upR_eq, upR_a, upR_i]); try assumption) (by (try simp (disch := decide) only [upI_eq, upI_a, upI_i, upR_eq, upR_a, upR_i]); first | assumption | rfl) (by omega) (by omega)
            · skip
              refine s252_51.mpr (s252_52.mpr ?_)
              refine s252_54.mpr (wif (fun c54 => ?_) (fun c54 => ?_))
              · skip
                refine s252_57.mpr (s252_58.mpr ?_)
                refine (s252_62 kM (by first | assumption | omega)).mpr ?_
                refine s252_65.mpr ?_
                refine (s252_66).mpr ?_
                first | (exfalso; omega) | exact ok (by omega) | (rw [show hi 75 (t - 1) = 6 by omega]; exact st (by omega)) | exact no _ _ _ (by repeat' (first | assumption | exact FW.rf | refine FW.up ?_ (by unfold wS; omega) | (refine FW.tr ?_ (by assumption)))) (by (try simp (disch := decide) only [upI_eq, upI_a, upI_i, upR_eq, upR_a, upR_i]); try assumption) (by (try simp (disch := decide) only [upI_eq, upI_a, upI_i, upR_eq, upR_a, upR_i]); try assumption) (by (try simp (disch := decide) only [upI_eq, upI_a, upI_i, upR_eq, upR_a, upR_i]); first | assumption | rfl) (by omega) (by omega)
              · skip
                refine s252_61.mpr ?_
                refine (s252_62 kM (by first | assumption | omega)).mpr ?_
                refine s252_65.mpr ?_
                refine (s252_66).mpr ?_
                first | (exfalso; omega) | exact ok (by omega) | (rw [show hi 75 (t - 1) = 6 by omega]; exact st (by omega)) | exact no _ _ _ (by repeat' (first | assumption | exact FW.rf | refine FW.up ?_ (by unfold wS; omega) | (refine FW.tr ?_ (by assumption)))) (by (try simp (disch := decide) only [upI_eq, upI_a, upI_i, upR_eq, upR_a, upR_i]); try assumption) (by (try simp (disch := decide) only [upI_eq, upI_a, upI_i, upR_eq, upR_a, upR_i]); try assumption) (by (try simp (disch := decide) only [upI_eq, upI_a, upI_i, upR_eq, upR_a, upR_i]); first | assumption | rfl) (by omega) (by omega)
        · skip
          refine s252_27.mpr ?_
          refine (s252_28 (by omega)).mpr ?_
          refine m_kind.mpr ?_
          refine s252_31.mpr ?_
          refine s252_32.mpr (wif (fun c32 => ?_) (fun c32 => ?_))
          · skip
            refine s252_35.mpr (s252_36.mpr ?_)
            refine (s252_40 (by omega) kM).mpr ?_
            refine m_wants hA (by omega) (by (try simp (disch := decide) only [upI_eq, upI_a, upI_i, upR_eq, upR_a, upR_i]); first | assumption | rfl) (by omega) (fun y40 => ?_) (fun y40 => ?_)
            · skip
              refine s252_43.mpr (s252_44.mpr ?_)
              refine (s252_45 kM).mpr ?_
              try simp (disch := first | decide | assumption | omega) only [kon, knt_some, knt_none, Option.toList_some, Option.toList_none, List.cons_append, List.nil_append, upI_eq, upI_a, upI_i, upR_eq, upR_a, upR_i, h36]
              refine s252_48.mpr (wif (fun c48 => ?_) (fun c48 => ?_))
              · skip
                refine s252_61.mpr ?_
                refine (s252_62 kM (by first | assumption | omega)).mpr ?_
                refine s252_65.mpr ?_
                refine (s252_66).mpr ?_
                first | (exfalso; omega) | exact ok (by omega) | (rw [show hi 75 (t - 1) = 6 by omega]; exact st (by omega)) | exact no _ _ _ (by repeat' (first | assumption | exact FW.rf | refine FW.up ?_ (by unfold wS; omega) | (refine FW.tr ?_ (by assumption)))) (by (try simp (disch := decide) only [upI_eq, upI_a, upI_i, upR_eq, upR_a, upR_i]); try assumption) (by (try simp (disch := decide) only [upI_eq, upI_a, upI_i, upR_eq, upR_a, upR_i]); try assumption) (by (try simp (disch := decide) only [upI_eq, upI_a, upI_i, upR_eq, upR_a, upR_i]); first | assumption | rfl) (by omega) (by omega)
              · skip
                refine s252_51.mpr (s252_52.mpr ?_)
                refine s252_54.mpr (wif (fun c54 => ?_) (fun c54 => ?_))
                · skip
                  refine s252_57.mpr (s252_58.mpr ?_)
                  refine (s252_62 kM (by first | assumption | omega)).mpr ?_
                  refine s252_65.mpr ?_
                  refine (s252_66).mpr ?_
                  first | (exfalso; omega) | exact ok (by omega) | (rw [show hi 75 (t - 1) = 6 by omega]; exact st (by omega)) | exact no _ _ _ (by repeat' (first | assumption | exact FW.rf | refine FW.up ?_ (by unfold wS; omega) | (refine FW.tr ?_ (by assumption)))) (by (try simp (disch := decide) only [upI_eq, upI_a, upI_i, upR_eq, upR_a, upR_i]); try assumption) (by (try simp (disch := decide) only [upI_eq, upI_a, upI_i, upR_eq, upR_a, upR_i]); try assumption) (by (try simp (disch := decide) only [upI_eq, upI_a, upI_i, upR_eq, upR_a, upR_i]); first | assumption | rfl) (by omega) (by omega)
                · skip
                  refine s252_61.mpr ?_
                  refine (s252_62 kM (by first | assumption | omega)).mpr ?_
                  refine s252_65.mpr ?_
                  refine (s252_66).mpr ?_
                  first | (exfalso; omega) | exact ok (by omega) | (rw [show hi 75 (t - 1) = 6 by omega]; exact st (by omega)) | exact no _ _ _ (by repeat' (first | assumption | exact FW.rf | refine FW.up ?_ (by unfold wS; omega) | (refine FW.tr ?_ (by assumption)))) (by (try simp (disch := decide) only [upI_eq, upI_a, upI_i, upR_eq, upR_a, upR_i]); try assumption) (by (try simp (disch := decide) only [upI_eq, upI_a, upI_i, upR_eq, upR_a, upR_i]); try assumption) (by (try simp (disch := decide) only [upI_eq, upI_a, upI_i, upR_eq, upR_a, upR_i]); first | assumption | rfl) (by omega) (by omega)
            · skip
              refine s252_43.mpr (s252_44.mpr ?_)
              refine (s252_45 kM).mpr ?_
              try simp (disch := first | decide | assumption | omega) only [kon, knt_some, knt_none, Option.toList_some, Option.toList_none, List.cons_append, List.nil_append, upI_eq, upI_a, upI_i, upR_eq, upR_a, upR_i, h36]
              refine s252_48.mpr (wif (fun c48 => ?_) (fun c48 => ?_))
              · skip
                refine s252_61.mpr ?_
                refine (s252_62 kM (by first | assumption | omega)).mpr ?_
                refine s252_65.mpr ?_
                refine (s252_66).mpr ?_
                first | (exfalso; omega) | exact ok (by omega) | (rw [show hi 75 (t - 1) = 6 by omega]; exact st (by omega)) | exact no _ _ _ (by repeat' (first | assumption | exact FW.rf | refine FW.up ?_ (by unfold wS; omega) | (refine FW.tr ?_ (by assumption)))) (by (try simp (disch := decide) only [upI_eq, upI_a, upI_i, upR_eq, upR_a, upR_i]); try assumption) (by (try simp (disch := decide) only [upI_eq, upI_a, upI_i, upR_eq, upR_a, upR_i]); try assumption) (by (try simp (disch := decide) only [upI_eq, upI_a, upI_i, upR_eq, upR_a, upR_i]); first | assumption | rfl) (by omega) (by omega)
              · skip
                refine s252_51.mpr (s252_52.mpr ?_)
                refine s252_54.mpr (wif (fun c54 => ?_) (fun c54 => ?_))
                · skip
                  refine s252_57.mpr (s252_58.mpr ?_)
                  refine (s252_62 kM (by first | assumption | omega)).mpr ?_
                  refine s252_65.mpr ?_
                  refine (s252_66).mpr ?_
                  first | (exfalso; omega) | exact ok (by omega) | (rw [show hi 75 (t - 1) = 6 by omega]; exact st (by omega)) | exact no _ _ _ (by repeat' (first | assumption | exact FW.rf | refine FW.up ?_ (by unfold wS; omega) | (refine FW.tr ?_ (by assumption)))) (by (try simp (disch := decide) only [upI_eq, upI_a, upI_i, upR_eq, upR_a, upR_i]); try assumption) (by (try simp (disch := decide) only [upI_eq, upI_a, upI_i, upR_eq, upR_a, upR_i]); try assumption) (by (try simp (disch := decide) only [upI_eq, upI_a, upI_i, upR_eq, upR_a, upR_i]); first | assumption | rfl) (by omega) (by omega)
                · skip
                  refine s252_61.mpr ?_
                  refine (s252_62 kM (by first | assumption | omega)).mpr ?_
                  refine s252_65.mpr ?_
                  refine (s252_66).mpr ?_
                  first | (exfalso; omega) | exact ok (by omega) | (rw [show hi 75 (t - 1) = 6 by omega]; exact st (by omega)) | exact no _ _ _ (by repeat' (first | assumption | exact FW.rf | refine FW.up ?_ (by unfold wS; omega) | (refine FW.tr ?_ (by assumption)))) (by (try simp (disch := decide) only [upI_eq, upI_a, upI_i, upR_eq, upR_a, upR_i]); try assumption) (by (try simp (disch := decide) only [upI_eq, upI_a, upI_i, upR_eq, upR_a, upR_i]); try assumption) (by (try simp (disch := decide) only [upI_eq, upI_a, upI_i, upR_eq, upR_a, upR_i]); first | assumption | rfl) (by omega) (by omega)
          · skip
            refine s252_39.mpr ?_
            refine (s252_40 (by omega) kM).mpr ?_
            refine m_wants hA (by omega) (by (try simp (disch := decide) only [upI_eq, upI_a, upI_i, upR_eq, upR_a, upR_i]); first | assumption | rfl) (by omega) (fun y40 => ?_) (fun y40 => ?_)
            · skip
              refine s252_43.mpr (s252_44.mpr ?_)
              refine (s252_45 kM).mpr ?_
              try simp (disch := first | decide | assumption | omega) only [kon, knt_some, knt_none, Option.toList_some, Option.toList_none, List.cons_append, List.nil_append, upI_eq, upI_a, upI_i, upR_eq, upR_a, upR_i, h36]
              refine s252_48.mpr (wif (fun c48 => ?_) (fun c48 => ?_))
              · skip
                refine s252_61.mpr ?_
                refine (s252_62 kM (by first | assumption | omega)).mpr ?_
                refine s252_65.mpr ?_
                refine (s252_66).mpr ?_
                first | (exfalso; omega) | exact ok (by omega) | (rw [show hi 75 (t - 1) = 6 by omega]; exact st (by omega)) | exact no _ _ _ (by repeat' (first | assumption | exact FW.rf | refine FW.up ?_ (by unfold wS; omega) | (refine FW.tr ?_ (by assumption)))) (by (try simp (disch := decide) only [upI_eq, upI_a, upI_i, upR_eq, upR_a, upR_i]); try assumption) (by (try simp (disch := decide) only [upI_eq, upI_a, upI_i, upR_eq, upR_a, upR_i]); try assumption) (by (try simp (disch := decide) only [upI_eq, upI_a, upI_i, upR_eq, upR_a, upR_i]); first | assumption | rfl) (by omega) (by omega)
              · skip
                refine s252_51.mpr (s252_52.mpr ?_)
                refine s252_54.mpr (wif (fun c54 => ?_) (fun c54 => ?_))
                · skip
                  refine s252_57.mpr (s252_58.mpr ?_)
                  refine (s252_62 kM (by first | assumption | omega)).mpr ?_
                  refine s252_65.mpr ?_
                  refine (s252_66).mpr ?_
                  first | (exfalso; omega) | exact ok (by omega) | (rw [show hi 75 (t - 1) = 6 by omega]; exact st (by omega)) | exact no _ _ _ (by repeat' (first | assumption | exact FW.rf | refine FW.up ?_ (by unfold wS; omega) | (refine FW.tr ?_ (by assumption)))) (by (try simp (disch := decide) only [upI_eq, upI_a, upI_i, upR_eq, upR_a, upR_i]); try assumption) (by (try simp (disch := decide) only [upI_eq, upI_a, upI_i, upR_eq, upR_a, upR_i]); try assumption) (by (try simp (disch := decide) only [upI_eq, upI_a, upI_i, upR_eq, upR_a, upR_i]); first | assumption | rfl) (by omega) (by omega)
                · skip
                  refine s252_61.mpr ?_
                  refine (s252_62 kM (by first | assumption | omega)).mpr ?_
                  refine s252_65.mpr ?_
                  refine (s252_66).mpr ?_
                  first | (exfalso; omega) | exact ok (by omega) | (rw [show hi 75 (t - 1) = 6 by omega]; exact st (by omega)) | exact no _ _ _ (by repeat' (first | assumption | exact FW.rf | refine FW.up ?_ (by unfold wS; omega) | (refine FW.tr ?_ (by assumption)))) (by (try simp (disch := decide) only [upI_eq, upI_a, upI_i, upR_eq, upR_a, upR_i]); try assumption) (by (try simp (disch := decide) only [upI_eq, upI_a, upI_i, upR_eq, upR_a, upR_i]); try assumption) (by (try simp (disch := decide) only [upI_eq, upI_a, upI_i, upR_eq, upR_a, upR_i]); first | assumption | rfl) (by omega) (by omega)
            · skip
              refine s252_43.mpr (s252_44.mpr ?_)
              refine (s252_45 kM).mpr ?_
              try simp (disch := first | decide | assumption | omega) only [kon, knt_some, knt_none, Option.toList_some, Option.toList_none, List.cons_append, List.nil_append, upI_eq, upI_a, upI_i, upR_eq, upR_a, upR_i, h36]
              refine s252_48.mpr (wif (fun c48 => ?_) (fun c48 => ?_))
              · skip
                refine s252_61.mpr ?_
                refine (s252_62 kM (by first | assumption | omega)).mpr ?_
                refine s252_65.mpr ?_
                refine (s252_66).mpr ?_
                first | (exfalso; omega) | exact ok (by omega) | (rw [show hi 75 (t - 1) = 6 by omega]; exact st (by omega)) | exact no _ _ _ (by repeat' (first | assumption | exact FW.rf | refine FW.up ?_ (by unfold wS; omega) | (refine FW.tr ?_ (by assumption)))) (by (try simp (disch := decide) only [upI_eq, upI_a, upI_i, upR_eq, upR_a, upR_i]); try assumption) (by (try simp (disch := decide) only [upI_eq, upI_a, upI_i, upR_eq, upR_a, upR_i]); try assumption) (by (try simp (disch := decide) only [upI_eq, upI_a, upI_i, upR_eq, upR_a, upR_i]); first | assumption | rfl) (by omega) (by omega)
              · skip
                refine s252_51.mpr (s252_52.mpr ?_)
                refine s252_54.mpr (wif (fun c54 => ?_) (fun c54 => ?_))
                · skip
                  refine s252_57.mpr (s252_58.mpr ?_)
                  refine (s252_62 kM (by first | assumption | omega)).mpr ?_
                  refine s252_65.mpr ?_
                  refine (s252_66).mpr ?_
                  first | (exfalso; omega) | exact ok (by omega) | (rw [show hi 75 (t - 1) = 6 by omega]; exact st (by omega)) | exact no _ _ _ (by repeat' (first | assumption | exact FW.rf | refine FW.up ?_ (by unfold wS; omega) | (refine FW.tr ?_ (by assumption)))) (by (try simp (disch := decide) only [upI_eq, upI_a, upI_i, upR_eq, upR_a, upR_i]); try assumption) (by (try simp (disch := decide) only [upI_eq, upI_a, upI_i, upR_eq, upR_a, upR_i]); try assumption) (by (try simp (disch := decide) only [upI_eq, upI_a, upI_i, upR_eq, upR_a, upR_i]); first | assumption | rfl) (by omega) (by omega)
                · skip
                  refine s252_61.mpr ?_
                  refine (s252_62 kM (by first | assumption | omega)).mpr ?_
                  refine s252_65.mpr ?_
                  refine (s252_66).mpr ?_
                  first | (exfalso; omega) | exact ok (by omega) | (rw [show hi 75 (t - 1) = 6 by omega]; exact st (by omega)) | exact no _ _ _ (by repeat' (first | assumption | exact FW.rf | refine FW.up ?_ (by unfold wS; omega) | (refine FW.tr ?_ (by assumption)))) (by (try simp (disch := decide) only [upI_eq, upI_a, upI_i, upR_eq, upR_a, upR_i]); try assumption) (by (try simp (disch := decide) only [upI_eq, upI_a, upI_i, upR_eq, upR_a, upR_i]); try assumption) (by (try simp (disch := decide) only [upI_eq, upI_a, upI_i, upR_eq, upR_a, upR_i]); first | assumption | rfl) (by omega) (by omega)
  · skip
    refine s252_4.mpr (s252_5.mpr (s252_6.mpr ?_))
    refine (s252_7 kM).mpr ?_
    try simp (disch := first | decide | assumption | omega) only [kon, knt_some, knt_none, Option.toList_some, Option.toList_none, List.cons_append, List.nil_append, upI_eq, upI_a, upI_i, upR_eq, upR_a, upR_i, h36]
    refine s252_10.mpr (wif (fun c10 => ?_) (fun c10 => ?_))
    · skip
      refine s252_39.mpr ?_
      refine (s252_40 (by omega) kM).mpr ?_
      refine m_wants hA (by omega) (by (try simp (disch := decide) only [upI_eq, upI_a, upI_i, upR_eq, upR_a, upR_i]); first | assumption | rfl) (by omega) (fun y40 => ?_) (fun y40 => ?_)
      · skip
        refine s252_43.mpr (s252_44.mpr ?_)
        refine (s252_45 kM).mpr ?_
        try simp (disch := first | decide | assumption | omega) only [kon, knt_some, knt_none, Option.toList_some, Option.toList_none, List.cons_append, List.nil_append, upI_eq, upI_a, upI_i, upR_eq, upR_a, upR_i, h36]
        refine s252_48.mpr (wif (fun c48 => ?_) (fun c48 => ?_))
        · skip
          refine s252_61.mpr ?_
          refine (s252_62 kM (by first | assumption | omega)).mpr ?_
          refine s252_65.mpr ?_
          refine (s252_66).mpr ?_
          first | (exfalso; omega) | exact ok (by omega) | (rw [show hi 75 (t - 1) = 6 by omega]; exact st (by omega)) | exact no _ _ _ (by repeat' (first | assumption | exact FW.rf | refine FW.up ?_ (by unfold wS; omega) | (refine FW.tr ?_ (by assumption)))) (by (try simp (disch := decide) only [upI_eq, upI_a, upI_i, upR_eq, upR_a, upR_i]); try assumption) (by (try simp (disch := decide) only [upI_eq, upI_a, upI_i, upR_eq, upR_a, upR_i]); try assumption) (by (try simp (disch := decide) only [upI_eq, upI_a, upI_i, upR_eq, upR_a, upR_i]); first | assumption | rfl) (by omega) (by omega)
        · skip
          refine s252_51.mpr (s252_52.mpr ?_)
          refine s252_54.mpr (wif (fun c54 => ?_) (fun c54 => ?_))
          · skip
            refine s252_57.mpr (s252_58.mpr ?_)
            refine (s252_62 kM (by first | assumption | omega)).mpr ?_
            refine s252_65.mpr ?_
            refine (s252_66).mpr ?_
            first | (exfalso; omega) | exact ok (by omega) | (rw [show hi 75 (t - 1) = 6 by omega]; exact st (by omega)) | exact no _ _ _ (by repeat' (first | assumption | exact FW.rf | refine FW.up ?_ (by unfold wS; omega) | (refine FW.tr ?_ (by assumption)))) (by (try simp (disch := decide) only [upI_eq, upI_a, upI_i, upR_eq, upR_a, upR_i]); try assumption) (by (try simp (disch := decide) only [upI_eq, upI_a, upI_i, upR_eq, upR_a, upR_i]); try assumption) (by (try simp (disch := decide) only [upI_eq, upI_a, upI_i, upR_eq, upR_a, upR_i]); first | assumption | rfl) (by omega) (by omega)
          · skip
            refine s252_61.mpr ?_
            refine (s252_62 kM (by first | assumption | omega)).mpr ?_
            refine s252_65.mpr ?_
            refine (s252_66).mpr ?_
            first | (exfalso; omega) | exact ok (by omega) | (rw [show hi 75 (t - 1) = 6 by omega]; exact st (by omega)) | exact no _ _ _ (by repeat' (first | assumption | exact FW.rf | refine FW.up ?_ (by unfold wS; omega) | (refine FW.tr ?_ (by assumption)))) (by (try simp (disch := decide) only [upI_eq, upI_a, upI_i, upR_eq, upR_a, upR_i]); try assumption) (by (try simp (disch := decide) only [upI_eq, upI_a, upI_i, upR_eq, upR_a, upR_i]); try assumption) (by (try simp (disch := decide) only [upI_eq, upI_a, upI_i, upR_eq, upR_a, upR_i]); first | assumption | rfl) (by omega) (by omega)
      · skip
        refine s252_43.mpr (s252_44.mpr ?_)
        refine (s252_45 kM).mpr ?_
        try simp (disch := first | decide | assumption | omega) only [kon, knt_some, knt_none, Option.toList_some, Option.toList_none, List.cons_append, List.nil_append, upI_eq, upI_a, upI_i, upR_eq, upR_a, upR_i, h36]
        refine s252_48.mpr (wif (fun c48 => ?_) (fun c48 => ?_))
        · skip
          refine s252_61.mpr ?_
          refine (s252_62 kM (by first | assumption | omega)).mpr ?_
          refine s252_65.mpr ?_
          refine (s252_66).mpr ?_
          first | (exfalso; omega) | exact ok (by omega) | (rw [show hi 75 (t - 1) = 6 by omega]; exact st (by omega)) | exact no _ _ _ (by repeat' (first | assumption | exact FW.rf | refine FW.up ?_ (by unfold wS; omega) | (refine FW.tr ?_ (by assumption)))) (by (try simp (disch := decide) only [upI_eq, upI_a, upI_i, upR_eq, upR_a, upR_i]); try assumption) (by (try simp (disch := decide) only [upI_eq, upI_a, upI_i, upR_eq, upR_a, upR_i]); try assumption) (by (try simp (disch := decide) only [upI_eq, upI_a, upI_i, upR_eq, upR_a, upR_i]); first | assumption | rfl) (by omega) (by omega)
        · skip
          refine s252_51.mpr (s252_52.mpr ?_)
          refine s252_54.mpr (wif (fun c54 => ?_) (fun c54 => ?_))
          · skip
            refine s252_57.mpr (s252_58.mpr ?_)
            refine (s252_62 kM (by first | assumption | omega)).mpr ?_
            refine s252_65.mpr ?_
            refine (s252_66).mpr ?_
            first | (exfalso; omega) | exact ok (by omega) | (rw [show hi 75 (t - 1) = 6 by omega]; exact st (by omega)) | exact no _ _ _ (by repeat' (first | assumption | exact FW.rf | refine FW.up ?_ (by unfold wS; omega) | (refine FW.tr ?_ (by assumption)))) (by (try simp (disch := decide) only [upI_eq, upI_a, upI_i, upR_eq, upR_a, upR_i]); try assumption) (by (try simp (disch := decide) only [upI_eq, upI_a, upI_i, upR_eq, upR_a, upR_i]); try assumption) (by (try simp (disch := decide) only [upI_eq, upI_a, upI_i, upR_eq, upR_a, upR_i]); first | assumption | rfl) (by omega) (by omega)
          · skip
            refine s252_61.mpr ?_
            refine (s252_62 kM (by first | assumption | omega)).mpr ?_
            refine s252_65.mpr ?_
            refine (s252_66).mpr ?_
            first | (exfalso; omega) | exact ok (by omega) | (rw [show hi 75 (t - 1) = 6 by omega]; exact st (by omega)) | exact no _ _ _ (by repeat' (first | assumption | exact FW.rf | refine FW.up ?_ (by unfold wS; omega) | (refine FW.tr ?_ (by assumption)))) (by (try simp (disch := decide) only [upI_eq, upI_a, upI_i, upR_eq, upR_a, upR_i]); try assumption) (by (try simp (disch := decide) only [upI_eq, upI_a, upI_i, upR_eq, upR_a, upR_i]); try assumption) (by (try simp (disch := decide) only [upI_eq, upI_a, upI_i, upR_eq, upR_a, upR_i]); first | assumption | rfl) (by omega) (by omega)
    · skip
      refine s252_13.mpr (s252_14.mpr ?_)
      refine s252_16.mpr (wif (fun c16 => ?_) (fun c16 => ?_))
      · skip
        refine s252_35.mpr (s252_36.mpr ?_)
        refine (s252_40 (by omega) kM).mpr ?_
        refine m_wants hA (by omega) (by (try simp (disch := decide) only [upI_eq, upI_a, upI_i, upR_eq, upR_a, upR_i]); first | assumption | rfl) (by omega) (fun y40 => ?_) (fun y40 => ?_)
        · skip
          refine s252_43.mpr (s252_44.mpr ?_)
          refine (s252_45 kM).mpr ?_
          try simp (disch := first | decide | assumption | omega) only [kon, knt_some, knt_none, Option.toList_some, Option.toList_none, List.cons_append, List.nil_append, upI_eq, upI_a, upI_i, upR_eq, upR_a, upR_i, h36]
          refine s252_48.mpr (wif (fun c48 => ?_) (fun c48 => ?_))
          · skip
            refine s252_61.mpr ?_
            refine (s252_62 kM (by first | assumption | omega)).mpr ?_
            refine s252_65.mpr ?_
            refine (s252_66).mpr ?_
            first | (exfalso; omega) | exact ok (by omega) | (rw [show hi 75 (t - 1) = 6 by omega]; exact st (by omega)) | exact no _ _ _ (by repeat' (first | assumption | exact FW.rf | refine FW.up ?_ (by unfold wS; omega) | (refine FW.tr ?_ (by assumption)))) (by (try simp (disch := decide) only [upI_eq, upI_a, upI_i, upR_eq, upR_a, upR_i]); try assumption) (by (try simp (disch := decide) only [upI_eq, upI_a, upI_i, upR_eq, upR_a, upR_i]); try assumption) (by (try simp (disch := decide) only [upI_eq, upI_a, upI_i, upR_eq, upR_a, upR_i]); first | assumption | rfl) (by omega) (by omega)
          · skip
            refine s252_51.mpr (s252_52.mpr ?_)
            refine s252_54.mpr (wif (fun c54 => ?_) (fun c54 => ?_))
            · skip
              refine s252_57.mpr (s252_58.mpr ?_)
              refine (s252_62 kM (by first | assumption | omega)).mpr ?_
              refine s252_65.mpr ?_
              refine (s252_66).mpr ?_
              first | (exfalso; omega) | exact ok (by omega) | (rw [show hi 75 (t - 1) = 6 by omega]; exact st (by omega)) | exact no _ _ _ (by repeat' (first | assumption | exact FW.rf | refine FW.up ?_ (by unfold wS; omega) | (refine FW.tr ?_ (by assumption)))) (by (try simp (disch := decide) only [upI_eq, upI_a, upI_i, upR_eq, upR_a, upR_i]); try assumption) (by (try simp (disch := decide) only [upI_eq, upI_a, upI_i, upR_eq, upR_a, upR_i]); try assumption) (by (try simp (disch := decide) only [upI_eq, upI_a, upI_i, upR_eq, upR_a, upR_i]); first | assumption | rfl) (by omega) (by omega)
            · skip
              refine s252_61.mpr ?_
              refine (s252_62 kM (by first | assumption | omega)).mpr ?_
              refine s252_65.mpr ?_
              refine (s252_66).mpr ?_
              first | (exfalso; omega) | exact ok (by omega) | (rw [show hi 75 (t - 1) = 6 by omega]; exact st (by omega)) | exact no _ _ _ (by repeat' (first | assumption | exact FW.rf | refine FW.up ?_ (by unfold wS; omega) | (refine FW.tr ?_ (by assumption)))) (by (try simp (disch := decide) only [upI_eq, upI_a, upI_i, upR_eq, upR_a, upR_i]); try assumption) (by (try simp (disch := decide) only [upI_eq, upI_a, upI_i, upR_eq, upR_a, upR_i]); try assumption) (by (try simp (disch := decide) only [upI_eq, upI_a, upI_i, upR_eq, upR_a, upR_i]); first | assumption | rfl) (by omega) (by omega)
        · skip
          refine s252_43.mpr (s252_44.mpr ?_)
          refine (s252_45 kM).mpr ?_
          try simp (disch := first | decide | assumption | omega) only [kon, knt_some, knt_none, Option.toList_some, Option.toList_none, List.cons_append, List.nil_append, upI_eq, upI_a, upI_i, upR_eq, upR_a, upR_i, h36]
          refine s252_48.mpr (wif (fun c48 => ?_) (fun c48 => ?_))
          · skip
            refine s252_61.mpr ?_
            refine (s252_62 kM (by first | assumption | omega)).mpr ?_
            refine s252_65.mpr ?_
            refine (s252_66).mpr ?_
            first | (exfalso; omega) | exact ok (by omega) | (rw [show hi 75 (t - 1) = 6 by omega]; exact st (by omega)) | exact no _ _ _ (by repeat' (first | assumption | exact FW.rf | refine FW.up ?_ (by unfold wS; omega) | (refine FW.tr ?_ (by assumption)))) (by (try simp (disch := decide) only [upI_eq, upI_a, upI_i, upR_eq, upR_a, upR_i]); try assumption) (by (try simp (disch := decide) only [upI_eq, upI_a, upI_i, upR_eq, upR_a, upR_i]); try assumption) (by (try simp (disch := decide) only [upI_eq, upI_a, upI_i, upR_eq, upR_a, upR_i]); first | assumption | rfl) (by omega) (by omega)
          · skip
            refine s252_51.mpr (s252_52.mpr ?_)
            refine s252_54.mpr (wif (fun c54 => ?_) (fun c54 => ?_))
            · skip
              refine s252_57.mpr (s252_58.mpr ?_)
              refine (s252_62 kM (by first | assumption | omega)).mpr ?_
              refine s252_65.mpr ?_
              refine (s252_66).mpr ?_
              first | (exfalso; omega) | exact ok (by omega) | (rw [show hi 75 (t - 1) = 6 by omega]; exact st (by omega)) | exact no _ _ _ (by repeat' (first | assumption | exact FW.rf | refine FW.up ?_ (by unfold wS; omega) | (refine FW.tr ?_ (by assumption)))) (by (try simp (disch := decide) only [upI_eq, upI_a, upI_i, upR_eq, upR_a, upR_i]); try assumption) (by (try simp (disch := decide) only [upI_eq, upI_a, upI_i, upR_eq, upR_a, upR_i]); try assumption) (by (try simp (disch := decide) only [upI_eq, upI_a, upI_i, upR_eq, upR_a, upR_i]); first | assumption | rfl) (by omega) (by omega)
            · skip
              refine s252_61.mpr ?_
              refine (s252_62 kM (by first | assumption | omega)).mpr ?_
              refine s252_65.mpr ?_
              refine (s252_66).mpr ?_
              first | (exfalso; omega) | exact ok (by omega) | (rw [show hi 75 (t - 1) = 6 by omega]; exact st (by omega)) | exact no _ _ _ (by repeat' (first | assumption | exact FW.rf | refine FW.up ?_ (by unfold wS; omega) | (refine FW.tr ?_ (by assumption)))) (by (try simp (disch := decide) only [upI_eq, upI_a, upI_i, upR_eq, upR_a, upR_i]); try assumption) (by (try simp (disch := decide) only [upI_eq, upI_a, upI_i, upR_eq, upR_a, upR_i]); try assumption) (by (try simp (disch := decide) only [upI_eq, upI_a, upI_i, upR_eq, upR_a, upR_i]); first | assumption | rfl) (by omega) (by omega)
      · skip
        refine s252_19.mpr ?_
        refine (s252_20 (by omega)).mpr ?_
        refine m_kind.mpr ?_
        refine s252_23.mpr ?_
        refine s252_24.mpr (wif (fun c24 => ?_) (fun c24 => ?_))
        · skip
          refine s252_35.mpr (s252_36.mpr ?_)
          refine (s252_40 (by omega) kM).mpr ?_
          refine m_wants hA (by omega) (by (try simp (disch := decide) only [upI_eq, upI_a, upI_i, upR_eq, upR_a, upR_i]); first | assumption | rfl) (by omega) (fun y40 => ?_) (fun y40 => ?_)
          · skip
            refine s252_43.mpr (s252_44.mpr ?_)
            refine (s252_45 kM).mpr ?_
            try simp (disch := first | decide | assumption | omega) only [kon, knt_some, knt_none, Option.toList_some, Option.toList_none, List.cons_append, List.nil_append, upI_eq, upI_a, upI_i, upR_eq, upR_a, upR_i, h36]
            refine s252_48.mpr (wif (fun c48 => ?_) (fun c48 => ?_))
            · skip
              refine s252_61.mpr ?_
              refine (s252_62 kM (by first | assumption | omega)).mpr ?_
              refine s252_65.mpr ?_
              refine (s252_66).mpr ?_
              first | (exfalso; omega) | exact ok (by omega) | (rw [show hi 75 (t - 1) = 6 by omega]; exact st (by omega)) | exact no _ _ _ (by repeat' (first | assumption | exact FW.rf | refine FW.up ?_ (by unfold wS; omega) | (refine FW.tr ?_ (by assumption)))) (by (try simp (disch := decide) only [upI_eq, upI_a, upI_i, upR_eq, upR_a, upR_i]); try assumption) (by (try simp (disch := decide) only [upI_eq, upI_a, upI_i, upR_eq, upR_a, upR_i]); try assumption) (by (try simp (disch := decide) only [upI_eq, upI_a, upI_i, upR_eq, upR_a, upR_i]); first | assumption | rfl) (by omega) (by omega)
            · skip
              refine s252_51.mpr (s252_52.mpr ?_)
              refine s252_54.mpr (wif (fun c54 => ?_) (fun c54 => ?_))
              · skip
                refine s252_57.mpr (s252_58.mpr ?_)
                refine (s252_62 kM (by first | assumption | omega)).mpr ?_
                refine s252_65.mpr ?_
                refine (s252_66).mpr ?_
                first | (exfalso; omega) | exact ok (by omega) | (rw [show hi 75 (t - 1) = 6 by omega]; exact st (by omega)) | exact no _ _ _ (by repeat' (first | assumption | exact FW.rf | refine FW.up ?_ (by unfold wS; omega) | (refine FW.tr ?_ (by assumption)))) (by (try simp (disch := decide) only [upI_eq, upI_a, upI_i, upR_eq, upR_a, upR_i]); try assumption) (by (try simp (disch := decide) only [upI_eq, upI_a, upI_i, upR_eq, upR_a, upR_i]); try assumption) (by (try simp (disch := decide) only [upI_eq, upI_a, upI_i, upR_eq, upR_a, upR_i]); first | assumption | rfl) (by omega) (by omega)
              · skip
                refine s252_61.mpr ?_
                refine (s252_62 kM (by first | assumption | omega)).mpr ?_
                refine s252_65.mpr ?_
                refine (s252_66).mpr ?_
                first | (exfalso; omega) | exact ok (by omega) | (rw [show hi 75 (t - 1) = 6 by omega]; exact st (by omega)) | exact no _ _ _ (by repeat' (first | assumption | exact FW.rf | refine FW.up ?_ (by unfold wS; omega) | (refine FW.tr ?_ (by assumption)))) (by (try simp (disch := decide) only [upI_eq, upI_a, upI_i, upR_eq, upR_a, upR_i]); try assumption) (by (try simp (disch := decide) only [upI_eq, upI_a, upI_i, upR_eq, upR_a, upR_i]); try assumption) (by (try simp (disch := decide) only [upI_eq, upI_a, upI_i, upR_eq, upR_a, upR_i]); first | assumption | rfl) (by omega) (by omega)
          · skip
            refine s252_43.mpr (s252_44.mpr ?_)
            refine (s252_45 kM).mpr ?_
            try simp (disch := first | decide | assumption | omega) only [kon, knt_some, knt_none, Option.toList_some, Option.toList_none, List.cons_append, List.nil_append, upI_eq, upI_a, upI_i, upR_eq, upR_a, upR_i, h36]
            refine s252_48.mpr (wif (fun c48 => ?_) (fun c48 => ?_))
            · skip
              refine s252_61.mpr ?_
              refine (s252_62 kM (by first | assumption | omega)).mpr ?_
              refine s252_65.mpr ?_
              refine (s252_66).mpr ?_
              first | (exfalso; omega) | exact ok (by omega) | (rw [show hi 75 (t - 1) = 6 by omega]; exact st (by omega)) | exact no _ _ _ (by repeat' (first | assumption | exact FW.rf | refine FW.up ?_ (by unfold wS; omega) | (refine FW.tr ?_ (by assumption)))) (by (try simp (disch := decide) only [upI_eq, upI_a, upI_i, upR_eq, upR_a, upR_i]); try assumption) (by (try simp (disch := decide) only [upI_eq, upI_a, upI_i, upR_eq, upR_a, upR_i]); try assumption) (by (try simp (disch := decide) only [upI_eq, upI_a, upI_i, upR_eq, upR_a, upR_i]); first | assumption | rfl) (by omega) (by omega)
            · skip
              refine s252_51.mpr (s252_52.mpr ?_)
              refine s252_54.mpr (wif (fun c54 => ?_) (fun c54 => ?_))
              · skip
                refine s252_57.mpr (s252_58.mpr ?_)
                refine (s252_62 kM (by first | assumption | omega)).mpr ?_
                refine s252_65.mpr ?_
                refine (s252_66).mpr ?_
                first | (exfalso; omega) | exact ok (by omega) | (rw [show hi 75 (t - 1) = 6 by omega]; exact st (by omega)) | exact no _ _ _ (by repeat' (first | assumption | exact FW.rf | refine FW.up ?_ (by unfold wS; omega) | (refine FW.tr ?_ (by assumption)))) (by (try simp (disch := decide) only [upI_eq, upI_a, upI_i, upR_eq, upR_a, upR_i]); try assumption) (by (try simp (disch := decide) only [upI_eq, upI_a, upI_i, upR_eq, upR_a, upR_i]); try assumption) (by (try simp (disch := decide) only [upI_eq, upI_a, upI_i, upR_eq, upR_a, upR_i]); first | assumption | rfl) (by omega) (by omega)
              · skip
                refine s252_61.mpr ?_
                refine (s252_62 kM (by first | assumption | omega)).mpr ?_
                refine s252_65.mpr ?_
                refine (s252_66).mpr ?_
                first | (exfalso; omega) | exact ok (by omega) | (rw [show hi 75 (t - 1) = 6 by omega]; exact st (by omega)) | exact no _ _ _ (by repeat' (first | assumption | exact FW.rf | refine FW.up ?_ (by unfold wS; omega) | (refine FW.tr ?_ (by assumption)))) (by (try simp (disch := decide) only [upI_eq, upI_a, upI_i, upR_eq, upR_a, upR_i]); try assumption) (by (try simp (disch := decide) only [upI_eq, upI_a, upI_i, upR_eq, upR_a, upR_i]); try assumption) (by (try simp (disch := decide) only [upI_eq, upI_a, upI_i, upR_eq, upR_a, upR_i]); first | assumption | rfl) (by omega) (by omega)
        · skip
          refine s252_27.mpr ?_
          refine (s252_28 (by omega)).mpr ?_
          refine m_kind.mpr ?_
          refine s252_31.mpr ?_
          refine s252_32.mpr (wif (fun c32 => ?_) (fun c32 => ?_))
          · skip
            refine s252_35.mpr (s252_36.mpr ?_)
            refine (s252_40 (by omega) kM).mpr ?_
            refine m_wants hA (by omega) (by (try simp (disch := decide) only [upI_eq, upI_a, upI_i, upR_eq, upR_a, upR_i]); first | assumption | rfl) (by omega) (fun y40 => ?_) (fun y40 => ?_)
            · skip
              refine s252_43.mpr (s252_44.mpr ?_)
              refine (s252_45 kM).mpr ?_
              try simp (disch := first | decide | assumption | omega) only [kon, knt_some, knt_none, Option.toList_some, Option.toList_none, List.cons_append, List.nil_append, upI_eq, upI_a, upI_i, upR_eq, upR_a, upR_i, h36]
              refine s252_48.mpr (wif (fun c48 => ?_) (fun c48 => ?_))
              · skip
                refine s252_61.mpr ?_
                refine (s252_62 kM (by first | assumption | omega)).mpr ?_
                refine s252_65.mpr ?_
                refine (s252_66).mpr ?_
                first | (exfalso; omega) | exact ok (by omega) | (rw [show hi 75 (t - 1) = 6 by omega]; exact st (by omega)) | exact no _ _ _ (by repeat' (first | assumption | exact FW.rf | refine FW.up ?_ (by unfold wS; omega) | (refine FW.tr ?_ (by assumption)))) (by (try simp (disch := decide) only [upI_eq, upI_a, upI_i, upR_eq, upR_a, upR_i]); try assumption) (by (try simp (disch := decide) only [upI_eq, upI_a, upI_i, upR_eq, upR_a, upR_i]); try assumption) (by (try simp (disch := decide) only [upI_eq, upI_a, upI_i, upR_eq, upR_a, upR_i]); first | assumption | rfl) (by omega) (by omega)
              · skip
                refine s252_51.mpr (s252_52.mpr ?_)
                refine s252_54.mpr (wif (fun c54 => ?_) (fun c54 => ?_))
                · skip
                  refine s252_57.mpr (s252_58.mpr ?_)
                  refine (s252_62 kM (by first | assumption | omega)).mpr ?_
                  refine s252_65.mpr ?_
                  refine (s252_66).mpr ?_
                  first | (exfalso; omega) | exact ok (by omega) | (rw [show hi 75 (t - 1) = 6 by omega]; exact st (by omega)) | exact no _ _ _ (by repeat' (first | assumption | exact FW.rf | refine FW.up ?_ (by unfold wS; omega) | (refine FW.tr ?_ (by assumption)))) (by (try simp (disch := decide) only [upI_eq, upI_a, upI_i, upR_eq, upR_a, upR_i]); try assumption) (by (try simp (disch := decide) only [upI_eq, upI_a, upI_i, upR_eq, upR_a, upR_i]); try assumption) (by (try simp (disch := decide) only [upI_eq, upI_a, upI_i, upR_eq, upR_a, upR_i]); first | assumption | rfl) (by omega) (by omega)
                · skip
                  refine s252_61.mpr ?_
                  refine (s252_62 kM (by first | assumption | omega)).mpr ?_
                  refine s252_65.mpr ?_
                  refine (s252_66).mpr ?_
                  first | (exfalso; omega) | exact ok (by omega) | (rw [show hi 75 (t - 1) = 6 by omega]; exact st (by omega)) | exact no _ _ _ (by repeat' (first | assumption | exact FW.rf | refine FW.up ?_ (by unfold wS; omega) | (refine FW.tr ?_ (by assumption)))) (by (try simp (disch := decide) only [upI_eq, upI_a, upI_i, upR_eq, upR_a, upR_i]); try assumption) (by (try simp (disch := decide) only [upI_eq, upI_a, upI_i, upR_eq, upR_a, upR_i]); try assumption) (by (try simp (disch := decide) only [upI_eq, upI_a, upI_i, upR_eq, upR_a, upR_i]); first | assumption | rfl) (by omega) (by omega)
            · skip
              refine s252_43.mpr (s252_44.mpr ?_)
              refine (s252_45 kM).mpr ?_
              try simp (disch := first | decide | assumption | omega) only [kon, knt_some, knt_none, Option.toList_some, Option.toList_none, List.cons_append, List.nil_append, upI_eq, upI_a, upI_i, upR_eq, upR_a, upR_i, h36]
              refine s252_48.mpr (wif (fun c48 => ?_) (fun c48 => ?_))
              · skip
                refine s252_61.mpr ?_
                refine (s252_62 kM (by first | assumption | omega)).mpr ?_
                refine s252_65.mpr ?_
                refine (s252_66).mpr ?_
                first | (exfalso; omega) | exact ok (by omega) | (rw [show hi 75 (t - 1) = 6 by omega]; exact st (by omega)) | exact no _ _ _ (by repeat' (first | assumption | exact FW.rf | refine FW.up ?_ (by unfold wS; omega) | (refine FW.tr ?_ (by assumption)))) (by (try simp (disch := decide) only [upI_eq, upI_a, upI_i, upR_eq, upR_a, upR_i]); try assumption) (by (try simp (disch := decide) only [upI_eq, upI_a, upI_i, upR_eq, upR_a, upR_i]); try assumption) (by (try simp (disch := decide) only [upI_eq, upI_a, upI_i, upR_eq, upR_a, upR_i]); first | assumption | rfl) (by omega) (by omega)
              · skip
                refine s252_51.mpr (s252_52.mpr ?_)
                refine s252_54.mpr (wif (fun c54 => ?_) (fun c54 => ?_))
                · skip
                  refine s252_57.mpr (s252_58.mpr ?_)
                  refine (s252_62 kM (by first | assumption | omega)).mpr ?_
                  refine s252_65.mpr ?_
                  refine (s252_66).mpr ?_
                  first | (exfalso; omega) | exact ok (by omega) | (rw [show hi 75 (t - 1) = 6 by omega]; exact st (by omega)) | exact no _ _ _ (by repeat' (first | assumption | exact FW.rf | refine FW.up ?_ (by unfold wS; omega) | (refine FW.tr ?_ (by assumption)))) (by (try simp (disch := decide) only [upI_eq, upI_a, upI_i, upR_eq, upR_a, upR_i]); try assumption) (by (try simp (disch := decide) only [upI_eq, upI_a, upI_i, upR_eq, upR_a, upR_i]); try assumption) (by (try simp (disch := decide) only [upI_eq, upI_a, upI_i, upR_eq, upR_a, upR_i]); first | assumption | rfl) (by omega) (by omega)
                · skip
                  refine s252_61.mpr ?_
                  refine (s252_62 kM (by first | assumption | omega)).mpr ?_
                  refine s252_65.mpr ?_
                  refine (s252_66).mpr ?_
                  first | (exfalso; omega) | exact ok (by omega) | (rw [show hi 75 (t - 1) = 6 by omega]; exact st (by omega)) | exact no _ _ _ (by repeat' (first | assumption | exact FW.rf | refine FW.up ?_ (by unfold wS; omega) | (refine FW.tr ?_ (by assumption)))) (by (try simp (disch := decide) only [upI_eq, upI_a, upI_i, upR_eq, upR_a, upR_i]); try assumption) (by (try simp (disch := decide) only [upI_eq, upI_a, upI_i, upR_eq, upR_a, upR_i]); try assumption) (by (try simp (disch := decide) only [upI_eq, upI_a, upI_i, upR_eq, upR_a, upR_i]); first | assumption | rfl) (by omega) (by omega)
          · skip
            refine s252_39.mpr ?_
            refine (s252_40 (by omega) kM).mpr ?_
            refine m_wants hA (by omega) (by (try simp (disch := decide) only [upI_eq, upI_a, upI_i, upR_eq, upR_a, upR_i]); first | assumption | rfl) (by omega) (fun y40 => ?_) (fun y40 => ?_)
            · skip
              refine s252_43.mpr (s252_44.mpr ?_)
              refine (s252_45 kM).mpr ?_
              try simp (disch := first | decide | assumption | omega) only [kon, knt_some, knt_none, Option.toList_some, Option.toList_none, List.cons_append, List.nil_append, upI_eq, upI_a, upI_i, upR_eq, upR_a, upR_i, h36]
              refine s252_48.mpr (wif (fun c48 => ?_) (fun c48 => ?_))
              · skip
                refine s252_61.mpr ?_
                refine (s252_62 kM (by first | assumption | omega)).mpr ?_
                refine s252_65.mpr ?_
                refine (s252_66).mpr ?_
                first | (exfalso; omega) | exact ok (by omega) | (rw [show hi 75 (t - 1) = 6 by omega]; exact st (by omega)) | exact no _ _ _ (by repeat' (first | assumption | exact FW.rf | refine FW.up ?_ (by unfold wS; omega) | (refine FW.tr ?_ (by assumption)))) (by (try simp (disch := decide) only [upI_eq, upI_a, upI_i, upR_eq, upR_a, upR_i]); try assumption) (by (try simp (disch := decide) only [upI_eq, upI_a, upI_i, upR_eq, upR_a, upR_i]); try assumption) (by (try simp (disch := decide) only [upI_eq, upI_a, upI_i, upR_eq, upR_a, upR_i]); first | assumption | rfl) (by omega) (by omega)
              · skip
                refine s252_51.mpr (s252_52.mpr ?_)
                refine s252_54.mpr (wif (fun c54 => ?_) (fun c54 => ?_))
                · skip
                  refine s252_57.mpr (s252_58.mpr ?_)
                  refine (s252_62 kM (by first | assumption | omega)).mpr ?_
                  refine s252_65.mpr ?_
                  refine (s252_66).mpr ?_
                  first | (exfalso; omega) | exact ok (by omega) | (rw [show hi 75 (t - 1) = 6 by omega]; exact st (by omega)) | exact no _ _ _ (by repeat' (first | assumption | exact FW.rf | refine FW.up ?_ (by unfold wS; omega) | (refine FW.tr ?_ (by assumption)))) (by (try simp (disch := decide) only [upI_eq, upI_a, upI_i, upR_eq, upR_a, upR_i]); try assumption) (by (try simp (disch := decide) only [upI_eq, upI_a, upI_i, upR_eq, upR_a, upR_i]); try assumption) (by (try simp (disch := decide) only [upI_eq, upI_a, upI_i, upR_eq, upR_a, upR_i]); first | assumption | rfl) (by omega) (by omega)
                · skip
                  refine s252_61.mpr ?_
                  refine (s252_62 kM (by first | assumption | omega)).mpr ?_
                  refine s252_65.mpr ?_
                  refine (s252_66).mpr ?_
                  first | (exfalso; omega) | exact ok (by omega) | (rw [show hi 75 (t - 1) = 6 by omega]; exact st (by omega)) | exact no _ _ _ (by repeat' (first | assumption | exact FW.rf | refine FW.up ?_ (by unfold wS; omega) | (refine FW.tr ?_ (by assumption)))) (by (try simp (disch := decide) only [upI_eq, upI_a, upI_i, upR_eq, upR_a, upR_i]); try assumption) (by (try simp (disch := decide) only [upI_eq, upI_a, upI_i, upR_eq, upR_a, upR_i]); try assumption) (by (try simp (disch := decide) only [upI_eq, upI_a, upI_i, upR_eq, upR_a, upR_i]); first | assumption | rfl) (by omega) (by omega)
            · skip
              refine s252_43.mpr (s252_44.mpr ?_)
              refine (s252_45 kM).mpr ?_
              try simp (disch := first | decide | assumption | omega) only [kon, knt_some, knt_none, Option.toList_some, Option.toList_none, List.cons_append, List.nil_append, upI_eq, upI_a, upI_i, upR_eq, upR_a, upR_i, h36]
              refine s252_48.mpr (wif (fun c48 => ?_) (fun c48 => ?_))
              · skip
                refine s252_61.mpr ?_
                refine (s252_62 kM (by first | assumption | omega)).mpr ?_
                refine s252_65.mpr ?_
                refine (s252_66).mpr ?_
                first | (exfalso; omega) | exact ok (by omega) | (rw [show hi 75 (t - 1) = 6 by omega]; exact st (by omega)) | exact no _ _ _ (by repeat' (first | assumption | exact FW.rf | refine FW.up ?_ (by unfold wS; omega) | (refine FW.tr ?_ (by assumption)))) (by (try simp (disch := decide) only [upI_eq, upI_a, upI_i, upR_eq, upR_a, upR_i]); try assumption) (by (try simp (disch := decide) only [upI_eq, upI_a, upI_i, upR_eq, upR_a, upR_i]); try assumption) (by (try simp (disch := decide) only [upI_eq, upI_a, upI_i, upR_eq, upR_a, upR_i]); first | assumption | rfl) (by omega) (by omega)
              · skip
                refine s252_51.mpr (s252_52.mpr ?_)
                refine s252_54.mpr (wif (fun c54 => ?_) (fun c54 => ?_))
                · skip
                  refine s252_57.mpr (s252_58.mpr ?_)
                  refine (s252_62 kM (by first | assumption | omega)).mpr ?_
                  refine s252_65.mpr ?_
                  refine (s252_66).mpr ?_
                  first | (exfalso; omega) | exact ok (by omega) | (rw [show hi 75 (t - 1) = 6 by omega]; exact st (by omega)) | exact no _ _ _ (by repeat' (first | assumption | exact FW.rf | refine FW.up ?_ (by unfold wS; omega) | (refine FW.tr ?_ (by assumption)))) (by (try simp (disch := decide) only [upI_eq, upI_a, upI_i, upR_eq, upR_a, upR_i]); try assumption) (by (try simp (disch := decide) only [upI_eq, upI_a, upI_i, upR_eq, upR_a, upR_i]); try assumption) (by (try simp (disch := decide) only [upI_eq, upI_a, upI_i, upR_eq, upR_a, upR_i]); first | assumption | rfl) (by omega) (by omega)
                · skip
                  refine s252_61.mpr ?_
                  refine (s252_62 kM (by first | assumption | omega)).mpr ?_
                  refine s252_65.mpr ?_
                  refine (s252_66).mpr ?_
                  first | (exfalso; omega) | exact ok (by omega) | (rw [show hi 75 (t - 1) = 6 by omega]; exact st (by omega)) | exact no _ _ _ (by repeat' (first | assumption | exact FW.rf | refine FW.up ?_ (by unfold wS; omega) | (refine FW.tr ?_ (by assumption)))) (by (try simp (disch := decide) only [upI_eq, upI_a, upI_i, upR_eq, upR_a, upR_i]); try assumption) (by (try simp (disch := decide) only [upI_eq, upI_a, upI_i, upR_eq, upR_a, upR_i]); try assumption) (by (try simp (disch := decide) only [upI_eq, upI_a, upI_i, upR_eq, upR_a, upR_i]); first | assumption | rfl) (by omega) (by omega)
theorem m_fits {v t r : Int} (hA : SA al) (hR : MR hr) (hd : 2 ≤ d) (h36 : hi 49 36 = r) (hr2 : r = 0 ∨ r = 1) (ok : r = 1 ∧ leT v t → Q (some none) al hi hr) (no : r = 0 ∨ ¬ leT v t → Q (some none) al (upI hi 49 36 0) hr) : Ev d 256 [vR (some 49), vI v, vI t] al hi hr Q := by
  rw [e256]
  have kM : isK al 49 13 := hA.k (by decide) (by decide) rfl
  refine s256_0.mpr (s256_1.mpr (s256_2.mpr ?_))
  refine s256_3.mpr (wif (fun c3 => ?_) (fun c3 => ?_))
  · skip
    refine s256_19.mpr (s256_20.mpr ?_)
    refine (s256_24 (by omega) kM).mpr ?_
    refine m_wants hA (by omega) (by (try simp (disch := decide) only [upI_eq, upI_a, upI_i, upR_eq, upR_a, upR_i]); first | assumption | rfl) (by omega) (fun y24 => ?_) (fun y24 => ?_)
    · skip
      refine (s256_27).mpr ?_
      first | (exfalso; omega) | exact ok (by unfold leT; omega) | exact no (by unfold leT; omega)
    · skip
      refine (s256_27).mpr ?_
      first | (exfalso; omega) | exact ok (by unfold leT; omega) | exact no (by unfold leT; omega)
  · skip
    refine s256_6.mpr (s256_7.mpr ?_)
    refine s256_9.mpr (wif (fun c9 => ?_) (fun c9 => ?_))
    · skip
      refine s256_12.mpr ?_
      refine (s256_13 (by omega)).mpr ?_
      refine m_isHeap (by omega) (fun y13 => ?_) (fun y13 => ?_)
      · skip
        refine s256_16.mpr (wif (fun c16 => ?_) (fun c16 => ?_))
        · skip
          refine s256_23.mpr ?_
          refine (s256_24 (by omega) kM).mpr ?_
          refine m_wants hA (by omega) (by (try simp (disch := decide) only [upI_eq, upI_a, upI_i, upR_eq, upR_a, upR_i]); first | assumption | rfl) (by omega) (fun y24 => ?_) (fun y24 => ?_)
          · skip
            refine (s256_27).mpr ?_
            first | (exfalso; omega) | exact ok (by unfold leT; omega) | exact no (by unfold leT; omega)
          · skip
            refine (s256_27).mpr ?_
            first | (exfalso; omega) | exact ok (by unfold leT; omega) | exact no (by unfold leT; omega)
        · skip
          refine s256_19.mpr (s256_20.mpr ?_)
          refine (s256_24 (by omega) kM).mpr ?_
          refine m_wants hA (by omega) (by (try simp (disch := decide) only [upI_eq, upI_a, upI_i, upR_eq, upR_a, upR_i]); first | assumption | rfl) (by omega) (fun y24 => ?_) (fun y24 => ?_)
          · skip
            refine (s256_27).mpr ?_
            first | (exfalso; omega) | exact ok (by unfold leT; omega) | exact no (by unfold leT; omega)
          · skip
            refine (s256_27).mpr ?_
            first | (exfalso; omega) | exact ok (by unfold leT; omega) | exact no (by unfold leT; omega)
      · skip
        refine s256_16.mpr (wif (fun c16 => ?_) (fun c16 => ?_))
        · skip
          refine s256_23.mpr ?_
          refine (s256_24 (by omega) kM).mpr ?_
          refine m_wants hA (by omega) (by (try simp (disch := decide) only [upI_eq, upI_a, upI_i, upR_eq, upR_a, upR_i]); first | assumption | rfl) (by omega) (fun y24 => ?_) (fun y24 => ?_)
          · skip
            refine (s256_27).mpr ?_
            first | (exfalso; omega) | exact ok (by unfold leT; omega) | exact no (by unfold leT; omega)
          · skip
            refine (s256_27).mpr ?_
            first | (exfalso; omega) | exact ok (by unfold leT; omega) | exact no (by unfold leT; omega)
        · skip
          refine s256_19.mpr (s256_20.mpr ?_)
          refine (s256_24 (by omega) kM).mpr ?_
          refine m_wants hA (by omega) (by (try simp (disch := decide) only [upI_eq, upI_a, upI_i, upR_eq, upR_a, upR_i]); first | assumption | rfl) (by omega) (fun y24 => ?_) (fun y24 => ?_)
          · skip
            refine (s256_27).mpr ?_
            first | (exfalso; omega) | exact ok (by unfold leT; omega) | exact no (by unfold leT; omega)
          · skip
            refine (s256_27).mpr ?_
            first | (exfalso; omega) | exact ok (by unfold leT; omega) | exact no (by unfold leT; omega)
    · skip
      refine s256_23.mpr ?_
      refine (s256_24 (by omega) kM).mpr ?_
      refine m_wants hA (by omega) (by (try simp (disch := decide) only [upI_eq, upI_a, upI_i, upR_eq, upR_a, upR_i]); first | assumption | rfl) (by omega) (fun y24 => ?_) (fun y24 => ?_)
      · skip
        refine (s256_27).mpr ?_
        first | (exfalso; omega) | exact ok (by unfold leT; omega) | exact no (by unfold leT; omega)
      · skip
        refine (s256_27).mpr ?_
        first | (exfalso; omega) | exact ok (by unfold leT; omega) | exact no (by unfold leT; omega)
end MT1
