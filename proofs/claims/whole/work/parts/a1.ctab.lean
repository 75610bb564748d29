/-! THE CLASS: its types, the rows of a module, of a contract, of a routine -/
section CT1
variable {d : Nat} {al : AL} {hi : HI} {hr : HR} {Q : QQ} {B : Int → Int}
def tyO (k w : Int) : Int := fOr k (fShl w 4)
def enO (c s e : Int) : Int := fOr (fOr (fOr 5 (fShl c 4)) (fShl s 12)) (fShl e 20)
theorem sl4 {w : Int} (h0 : 0 ≤ w) (h1 : w < 256) : fShl w 4 = w * 2 ^ 4 := by
  rw [show (4 : Int) = ((4 : Nat) : Int) from rfl, fShl_k 4 (by decide)]
  exact wr_id ⟨by omega, by omega⟩
theorem sl12 {w : Int} (h0 : 0 ≤ w) (h1 : w < 256) : fShl w 12 = w * 2 ^ 12 := by
  rw [show (12 : Int) = ((12 : Nat) : Int) from rfl, fShl_k 12 (by decide)]
  exact wr_id ⟨by omega, by omega⟩
theorem sl20 {w : Int} (h0 : 0 ≤ w) (h1 : w < 2) : fShl w 20 = w * 2 ^ 20 := by
  rw [show (20 : Int) = ((20 : Nat) : Int) from rfl, fShl_k 20 (by decide)]
  exact wr_id ⟨by omega, by omega⟩
theorem tyO_v {k w : Int} (k0 : 0 ≤ k) (k1 : k < 16) (h0 : 0 ≤ w) (h1 : w < 256) : tyO k w = k + 16 * w := by
  unfold tyO
  rw [sl4 h0 h1, fOr_add 4 (by decide) k0 k1 h0 (by omega)]
  omega
theorem enO_v {c s e : Int} (h0 : 0 ≤ c) (h1 : c < 256) (h2 : 0 ≤ s) (h3 : s < 256) (h4 : 0 ≤ e) (h5 : e < 2) : enO c s e = 5 + 16 * c + 4096 * s + 1048576 * e := by
  unfold enO
  rw [sl4 h0 h1, sl12 h2 h3, sl20 h4 h5, fOr_add 4 (by decide) (by decide) (by decide) h0 (by omega), fOr_add 12 (by decide) (by omega) (by omega) h2 (by omega), fOr_add 20 (by decide) (by omega) (by omega) h4 (by omega)]
  omega
theorem c_typeOf {k w : Int} : Ev d 205 [vI k, vI w] al hi hr Q ↔ Q (some (some (vI (tyO k w)))) al hi hr := by
  simp (disch := first | assumption | exact SA.k (by assumption) (by decide) (by decide) rfl | exact SA.q (by assumption) (by decide) (by decide) (by decide) | exact SA.r (by assumption) (by decide) (by decide) (by decide) | decide | omega | rfl) only [e205, s205_0, s205_1, s205_2, s205_3, s205_4, s205_5]
  rfl
theorem c_endType {c s e : Int} : Ev d 206 [vI c, vI s, vI e] al hi hr Q ↔ Q (some (some (vI (enO c s e)))) al hi hr := by
  simp (disch := first | assumption | exact SA.k (by assumption) (by decide) (by decide) rfl | exact SA.q (by assumption) (by decide) (by decide) (by decide) | exact SA.r (by assumption) (by decide) (by decide) (by decide) | decide | omega | rfl) only [e206, s206_0, s206_1, s206_2, s206_3, s206_4, s206_5, s206_6, s206_8, s206_9, s206_10, s206_11, s206_13, s206_14, s206_15]
  rfl
/-- a kind of what a collection follows -/
def ptrC (t : Int) : Prop := 1 ≤ t % 16 ∧ t % 16 ≤ 3
theorem c_isPointer {t : Int} (q1 : ptrC t → Q (some (some (vI 1))) al hi hr) (q2 : ¬ ptrC t → Q (some (some (vI 0))) al hi hr) : Ev d 212 [vI t] al hi hr Q := by
  unfold ptrC at q1 q2
  rw [e212]
  refine s212_0.mpr (s212_1.mpr (s212_3.mpr (s212_4.mpr (s212_5.mpr (s212_6.mpr ?_)))))
  try simp (disch := first | decide | assumption | omega) only [fAnd_15]
  refine s212_7.mpr (wif (fun c7 => ?_) (fun c7 => ?_))
  · skip
    refine s212_19.mpr ?_
    refine (s212_20 (by first | assumption | omega)).mpr ?_
    first | exact q1 (by omega) | exact q2 (by omega)
  · skip
    refine s212_10.mpr (s212_11.mpr ?_)
    refine s212_12.mpr (wif (fun c12 => ?_) (fun c12 => ?_))
    · skip
      refine s212_19.mpr ?_
      refine (s212_20 (by first | assumption | omega)).mpr ?_
      first | exact q1 (by omega) | exact q2 (by omega)
    · skip
      refine s212_15.mpr (s212_16.mpr ?_)
      refine (s212_20 (by first | assumption | omega)).mpr ?_
      first | exact q1 (by omega) | exact q2 (by omega)
/-- a module's rows stand -/
def MS (al : AL) (hr : HR) (N : Nat) : Prop := isK al N 10 ∧ (hr N 3 = some (N + 1) ∧ isK al (N + 1) 15 ∧ aln al (N + 1) = 8) ∧ (hr N 4 = some (N + 2) ∧ isK al (N + 2) 15 ∧ aln al (N + 2) = 48) ∧ (hr N 5 = some (N + 3) ∧ isK al (N + 3) 15 ∧ aln al (N + 3) = 8) ∧ (hr N 7 = some (N + 4) ∧ isK al (N + 4) 17 ∧ aln al (N + 4) = 4) ∧ (hr N 9 = some (N + 5) ∧ isK al (N + 5) 18 ∧ aln al (N + 5) = 10) ∧ (hr N 0 = some (N + 6) ∧ isK al (N + 6) 15)
variable {N : Nat}
def szR (hi : HI) (N : Nat) (r : Int) : Int := if r < 0 ∨ 8 ≤ r then 0 else hi (N + 1) r
theorem szR_y {r : Int} (h0 : 0 ≤ r) (h1 : r < 8) : szR hi N r = hi (N + 1) r := if_neg (by omega)
theorem szR_n {r : Int} (h : r < 0 ∨ 8 ≤ r) : szR hi N r = 0 := if_pos h
def tfR (hi : HI) (N : Nat) (r f : Int) : Int := if f < 0 ∨ szR hi N r ≤ f then -1 else hi (N + 2) (6 * r + f)
theorem t_sizeOfRecord {r : Int} (h : MS al hr N) (q : Q (some (some (vI (szR hi N r)))) al hi hr) : Ev d 152 [vR (some N), vI r] al hi hr Q := by
  obtain ⟨a0, ⟨a1, a2, a3⟩, ⟨b1, b2, b3⟩, ⟨w1, w2, w3⟩, ⟨d1, d2, d3⟩, ⟨e1, e2, e3⟩, f1, f2⟩ := h
  unfold szR at q
  rw [e152]
  refine s152_0.mpr ?_
  refine s152_1.mpr (wif (fun c1 => ?_) (fun c1 => ?_))
  · skip
    refine s152_10.mpr (s152_11.mpr ?_)
    refine (s152_20).mpr ?_
    first | (rw [if_pos (by omega)] at q; exact q) | (rw [if_neg (by omega)] at q; exact q)
  · skip
    refine s152_4.mpr (s152_5.mpr ?_)
    refine s152_7.mpr (wif (fun c7 => ?_) (fun c7 => ?_))
    · skip
      refine s152_14.mpr ?_
      refine (s152_15 (by first | decide | assumption | omega)).mpr ?_
      refine s152_18.mpr ?_
      try simp (disch := first | decide | assumption | omega) only [a1]
      refine (s152_19 (by first | decide | assumption | omega) (by first | decide | assumption | omega) (by first | decide | assumption | omega)).mpr ?_
      try simp (disch := first | decide | assumption | omega) only [a1]
      refine (s152_20).mpr ?_
      first | (rw [if_pos (by omega)] at q; exact q) | (rw [if_neg (by omega)] at q; exact q)
    · skip
      refine s152_10.mpr (s152_11.mpr ?_)
      refine (s152_20).mpr ?_
      first | (rw [if_pos (by omega)] at q; exact q) | (rw [if_neg (by omega)] at q; exact q)
def szOK (hi : HI) (N : Nat) : Prop := ∀ r, 0 ≤ r → r < 8 → 0 ≤ hi (N + 1) r ∧ hi (N + 1) r ≤ 6
theorem t_typeOfField {r f : Int} (h : MS al hr N) (hd : 1 ≤ d) (hz : szOK hi N) (q : Q (some (some (vI (tfR hi N r f)))) al hi hr) : Ev d 153 [vR (some N), vI r, vI f] al hi hr Q := by
  have h' := h
  obtain ⟨a0, ⟨a1, a2, a3⟩, ⟨b1, b2, b3⟩, ⟨w1, w2, w3⟩, ⟨d1, d2, d3⟩, ⟨e1, e2, e3⟩, f1, f2⟩ := h
  unfold tfR at q
  rw [e153]
  have T17 : ¬ f < 0 → f < szR hi N r → Wp d 153 17 [vR (some N), vI r, vI f] [] al hi hr Q := by
    intro c1 c2
    have hr8 : 0 ≤ r ∧ r < 8 := by
      apply Classical.byContradiction
      intro c
      rw [szR_n (by omega)] at c2
      omega
    have := hz r hr8.1 hr8.2
    rw [szR_y hr8.1 hr8.2] at c2
    rw [szR_y hr8.1 hr8.2] at q
    have e9 : fAdd (fMul r 6) f = 6 * r + f := by rw [fMul_id (by omega) (by omega), fAdd_id (by omega) (by omega)]; omega
    refine s153_17.mpr ?_
    refine (s153_18 (by first | decide | assumption | omega)).mpr ?_
    refine s153_21.mpr (s153_22.mpr (s153_24.mpr (s153_25.mpr (s153_26.mpr ?_))))
    try simp (disch := first | decide | assumption | omega) only [b1, e9]
    refine (s153_27 (by first | decide | assumption | omega) (by first | decide | assumption | omega) (by first | decide | assumption | omega)).mpr ?_
    try simp (disch := first | decide | assumption | omega) only [b1, e9]
    refine (s153_28).mpr ?_
    rw [if_neg (by omega)] at q; exact q
  refine s153_0.mpr ?_
  refine s153_1.mpr (wif (fun c1 => ?_) (fun c1 => ?_))
  · skip
    refine s153_13.mpr (s153_14.mpr ?_)
    refine (s153_28).mpr ?_
    (rw [if_pos (by omega)] at q; exact q)
  · skip
    refine s153_4.mpr (s153_5.mpr (s153_6.mpr ?_))
    refine (s153_7 (by first | decide | assumption | omega) (by first | decide | assumption | omega)).mpr ?_
    refine t_sizeOfRecord h' ?_
    refine s153_10.mpr (wif (fun c10 => ?_) (fun c10 => ?_))
    · skip
      exact T17 (by omega) (by omega)
    · skip
      refine s153_13.mpr (s153_14.mpr ?_)
      refine (s153_28).mpr ?_
      (rw [if_pos (by omega)] at q; exact q)
theorem t_hasIntsAlone {r : Int} (h : MS al hr N) (hd : 2 ≤ d) (hz : szOK hi N) (q1 : (∀ f, 0 ≤ f → f < szR hi N r → tfR hi N r f = 0) → Q (some (some (vI 1))) al hi hr) (q2 : ¬ (∀ f, 0 ≤ f → f < szR hi N r → tfR hi N r f = 0) → Q (some (some (vI 0))) al hi hr) : Ev d 157 [vR (some N), vI r] al hi hr Q := by
  have a0 := h.1
  have hs : 0 ≤ szR hi N r ∧ szR hi N r ≤ 6 := by
    by_cases c : 0 ≤ r ∧ r < 8
    · rw [szR_y c.1 c.2]; exact hz r c.1 c.2
    · rw [szR_n (by omega)]; decide
  have T2 : Wp d 157 2 [vR (some N), vI r, vI 0] [] al hi hr Q := by
    refine wp_cnt (N := (szR hi N r).toNat) (fun i ls hi' => ls = [vR (some N), vI r, vI i] ∧ hi' = hi ∧ ∀ f : Int, 0 ≤ f → f < i → tfR hi N r f = 0) ?_ ?_ _ _ ⟨rfl, rfl, fun f a b => absurd b (by omega)⟩
    · rintro i ls _ hi4 ⟨rfl, rfl, hh⟩ nx
      refine s157_2.mpr (s157_3.mpr (s157_4.mpr ?_))
      refine (s157_5 (by first | decide | assumption | omega) (by first | decide | assumption | omega)).mpr ?_
      refine t_sizeOfRecord h ?_
      refine s157_8.mpr (wif (fun c8 => ?_) (fun c8 => ?_))
      · first
        | (exfalso; omega)
        | skip
          refine s157_11.mpr (s157_12.mpr (s157_13.mpr ?_))
          refine (s157_14 (by first | decide | assumption | omega) (by first | decide | assumption | omega)).mpr ?_
          refine t_typeOfField h (by omega) hz ?_
          refine s157_17.mpr (wif (fun c17 => ?_) (fun c17 => ?_))
          · first
            | (exfalso; omega)
            | skip
              refine s157_22.mpr (s157_25.mpr ?_)
              try simp (disch := first | decide | assumption | omega) only [kon, knt_some, knt_none, Option.toList_some, Option.toList_none, List.cons_append, List.nil_append, fAdd_id]
              refine nx _ _ ⟨rfl, rfl, fun f f0 f1 => ?_⟩
              by_cases e : f = i
              · subst e; assumption
              · exact hh f f0 (by omega)
          · first
            | (exfalso; omega)
            | skip
              refine s157_20.mpr ?_
              refine (s157_21 (by first | assumption | omega)).mpr ?_
              exact q2 (fun q => absurd (q i (by omega) (by omega)) (by assumption))
      · first
        | (exfalso; omega)
        | skip
          refine s157_28.mpr ?_
          refine (s157_29 (by first | assumption | omega)).mpr ?_
          exact q2 (fun q => absurd (q i (by omega) (by omega)) (by assumption))
    · rintro ls _ ⟨rfl, rfl, hh⟩
      refine s157_2.mpr (s157_3.mpr (s157_4.mpr ?_))
      refine (s157_5 (by first | decide | assumption | omega) (by first | decide | assumption | omega)).mpr ?_
      refine t_sizeOfRecord h ?_
      refine s157_8.mpr (wif (fun c8 => ?_) (fun c8 => ?_))
      · skip
        exfalso; omega
      · skip
        refine s157_28.mpr ?_
        refine (s157_29 (by first | assumption | omega)).mpr ?_
        exact q1 (fun f f0 f1 => hh f f0 (by omega))
  rw [e157]
  refine s157_0.mpr (s157_1.mpr ?_)
  exact T2
theorem t_setSize {r x : Int} (h : MS al hr N) (h0 : 0 ≤ r) (h1 : r < 8) (q : Q (some none) al (upI hi (N + 1) r x) hr) : Ev d 155 [vR (some N), vI r, vI x] al hi hr Q := by
  obtain ⟨a0, ⟨a1, a2, a3⟩, ⟨b1, b2, b3⟩, ⟨w1, w2, w3⟩, ⟨d1, d2, d3⟩, ⟨e1, e2, e3⟩, f1, f2⟩ := h
  rw [e155]
  refine s155_0.mpr ?_
  refine s155_1.mpr (wif (fun c1 => ?_) (fun c1 => ?_))
  · first
    | (exfalso; omega)
    | skip
      refine (s155_17).mpr ?_
      exact q
  · first
    | (exfalso; omega)
    | skip
      refine s155_4.mpr (s155_5.mpr ?_)
      refine s155_7.mpr (wif (fun c7 => ?_) (fun c7 => ?_))
      · first
        | (exfalso; omega)
        | skip
          refine s155_10.mpr ?_
          refine (s155_11 (by first | decide | assumption | omega)).mpr ?_
          refine s155_14.mpr (s155_15.mpr ?_)
          try simp (disch := first | decide | assumption | omega) only [a1]
          refine (s155_16 (by first | decide | assumption | omega) (by first | decide | assumption | omega) (by first | decide | assumption | omega)).mpr ?_
          try simp (disch := first | decide | assumption | omega) only [a1]
          refine (s155_17).mpr ?_
          exact q
      · first
        | (exfalso; omega)
        | skip
          refine (s155_17).mpr ?_
          exact q
theorem t_setField {r f t : Int} (h : MS al hr N) (hd : 1 ≤ d) (h0 : 0 ≤ r) (h1 : r < 8) (f0 : 0 ≤ f) (f1 : f < 6) (q1 : ptrC t → Q (some none) al (upI (upI hi (N + 2) (6 * r + f) t) (N + 3) r (fOr (hi (N + 3) r) (fShl 1 f))) hr) (q2 : ¬ ptrC t → Q (some none) al (upI (upI hi (N + 2) (6 * r + f) t) (N + 3) r (fOr (hi (N + 3) r) 0)) hr) : Ev d 156 [vR (some N), vI r, vI f, vI t] al hi hr Q := by
  obtain ⟨a0, ⟨a1, a2, a3⟩, ⟨b1, b2, b3⟩, ⟨w1, w2, w3⟩, ⟨d1, d2, d3⟩, ⟨e1, e2, e3⟩, f1, f2⟩ := h
  have e9 : fAdd (fMul r 6) f = 6 * r + f := by rw [fMul_id (by omega) (by omega), fAdd_id (by omega) (by omega)]; omega
  have u9 : (upI hi (N + 2) (6 * r + f) t) (N + 3) r = hi (N + 3) r := upI_a (by omega)
  rw [e156]
  refine s156_0.mpr ?_
  refine s156_1.mpr (wif (fun c1 => ?_) (fun c1 => ?_))
  · first
    | (exfalso; omega)
    | skip
      refine (s156_55).mpr ?_
      first | exact q1 (by assumption) | exact q2 (by assumption) | (exfalso; omega)
  · first
    | (exfalso; omega)
    | skip
      refine s156_4.mpr (s156_5.mpr ?_)
      refine s156_7.mpr (wif (fun c7 => ?_) (fun c7 => ?_))
      · first
        | (exfalso; omega)
        | skip
          refine s156_10.mpr ?_
          refine s156_11.mpr (wif (fun c11 => ?_) (fun c11 => ?_))
          · first
            | (exfalso; omega)
            | skip
              refine (s156_55).mpr ?_
              first | exact q1 (by assumption) | exact q2 (by assumption) | (exfalso; omega)
          · first
            | (exfalso; omega)
            | skip
              refine s156_14.mpr (s156_15.mpr ?_)
              refine s156_17.mpr (wif (fun c17 => ?_) (fun c17 => ?_))
              · first
                | (exfalso; omega)
                | skip
                  refine s156_20.mpr ?_
                  refine (s156_21 (by first | decide | assumption | omega)).mpr ?_
                  refine s156_24.mpr (s156_25.mpr (s156_27.mpr (s156_28.mpr (s156_29.mpr (s156_30.mpr ?_)))))
                  try simp (disch := first | decide | assumption | omega) only [b1, w1, e9, u9, kon, knt_some, knt_none, Option.toList_some, Option.toList_none, List.cons_append, List.nil_append]
                  refine (s156_31 (by first | decide | assumption | omega) (by first | decide | assumption | omega) (by first | decide | assumption | omega)).mpr ?_
                  refine s156_32.mpr ?_
                  try simp (disch := first | decide | assumption | omega) only [b1, w1, e9, u9, kon, knt_some, knt_none, Option.toList_some, Option.toList_none, List.cons_append, List.nil_append]
                  refine (s156_33 (by first | decide | assumption | omega)).mpr ?_
                  refine s156_36.mpr (s156_37.mpr ?_)
                  try simp (disch := first | decide | assumption | omega) only [b1, w1, e9, u9, kon, knt_some, knt_none, Option.toList_some, Option.toList_none, List.cons_append, List.nil_append]
                  refine (s156_38 (by first | decide | assumption | omega) (by first | decide | assumption | omega) (by first | decide | assumption | omega)).mpr ?_
                  refine s156_39.mpr ?_
                  try simp (disch := first | decide | assumption | omega) only [b1, w1, e9, u9, kon, knt_some, knt_none, Option.toList_some, Option.toList_none, List.cons_append, List.nil_append]
                  refine (s156_40 (by omega)).mpr ?_
                  refine c_isPointer (fun p40 => ?_) (fun p40 => ?_)
                  · skip
                    refine s156_43.mpr (wif (fun c43 => ?_) (fun c43 => ?_))
                    · first
                      | (exfalso; omega)
                      | skip
                        refine s156_52.mpr (s156_53.mpr ?_)
                        try simp (disch := first | decide | assumption | omega) only [b1, w1, e9, u9, kon, knt_some, knt_none, Option.toList_some, Option.toList_none, List.cons_append, List.nil_append]
                        refine (s156_54 (by first | decide | assumption | omega) (by first | decide | assumption | omega) (by first | decide | assumption | omega)).mpr ?_
                        try simp (disch := first | decide | assumption | omega) only [b1, w1, e9, u9, kon, knt_some, knt_none, Option.toList_some, Option.toList_none, List.cons_append, List.nil_append]
                        refine (s156_55).mpr ?_
                        first | exact q1 (by assumption) | exact q2 (by assumption) | (exfalso; omega)
                    · first
                      | (exfalso; omega)
                      | skip
                        refine s156_46.mpr (s156_47.mpr (s156_48.mpr (s156_49.mpr (s156_53.mpr ?_))))
                        try simp (disch := first | decide | assumption | omega) only [b1, w1, e9, u9, kon, knt_some, knt_none, Option.toList_some, Option.toList_none, List.cons_append, List.nil_append]
                        refine (s156_54 (by first | decide | assumption | omega) (by first | decide | assumption | omega) (by first | decide | assumption | omega)).mpr ?_
                        try simp (disch := first | decide | assumption | omega) only [b1, w1, e9, u9, kon, knt_some, knt_none, Option.toList_some, Option.toList_none, List.cons_append, List.nil_append]
                        refine (s156_55).mpr ?_
                        first | exact q1 (by assumption) | exact q2 (by assumption) | (exfalso; omega)
                  · skip
                    refine s156_43.mpr (wif (fun c43 => ?_) (fun c43 => ?_))
                    · first
                      | (exfalso; omega)
                      | skip
                        refine s156_52.mpr (s156_53.mpr ?_)
                        try simp (disch := first | decide | assumption | omega) only [b1, w1, e9, u9, kon, knt_some, knt_none, Option.toList_some, Option.toList_none, List.cons_append, List.nil_append]
                        refine (s156_54 (by first | decide | assumption | omega) (by first | decide | assumption | omega) (by first | decide | assumption | omega)).mpr ?_
                        try simp (disch := first | decide | assumption | omega) only [b1, w1, e9, u9, kon, knt_some, knt_none, Option.toList_some, Option.toList_none, List.cons_append, List.nil_append]
                        refine (s156_55).mpr ?_
                        first | exact q1 (by assumption) | exact q2 (by assumption) | (exfalso; omega)
                    · first
                      | (exfalso; omega)
                      | skip
                        refine s156_46.mpr (s156_47.mpr (s156_48.mpr (s156_49.mpr (s156_53.mpr ?_))))
                        try simp (disch := first | decide | assumption | omega) only [b1, w1, e9, u9, kon, knt_some, knt_none, Option.toList_some, Option.toList_none, List.cons_append, List.nil_append]
                        refine (s156_54 (by first | decide | assumption | omega) (by first | decide | assumption | omega) (by first | decide | assumption | omega)).mpr ?_
                        try simp (disch := first | decide | assumption | omega) only [b1, w1, e9, u9, kon, knt_some, knt_none, Option.toList_some, Option.toList_none, List.cons_append, List.nil_append]
                        refine (s156_55).mpr ?_
                        first | exact q1 (by assumption) | exact q2 (by assumption) | (exfalso; omega)
              · first
                | (exfalso; omega)
                | skip
                  refine (s156_55).mpr ?_
                  first | exact q1 (by assumption) | exact q2 (by assumption) | (exfalso; omega)
      · first
        | (exfalso; omega)
        | skip
          refine (s156_55).mpr ?_
          first | exact q1 (by assumption) | exact q2 (by assumption) | (exfalso; omega)
def ctA (hi : HI) (hr : HR) (N : Nat) (c : Int) : Option Nat := if 0 ≤ c ∧ c < hi N 6 ∧ c < 4 then hr (N + 4) c else none
def roA (hi : HI) (hr : HR) (N : Nat) (f : Int) : Option Nat := if 0 ≤ f ∧ f < hi N 8 ∧ f < 10 then hr (N + 5) f else none
theorem t_contractAt {c : Int} (h : MS al hr N) (q : Q (some (some (vR (ctA hi hr N c)))) al hi hr) : Ev d 148 [vR (some N), vI c] al hi hr Q := by
  obtain ⟨a0, ⟨a1, a2, a3⟩, ⟨b1, b2, b3⟩, ⟨w1, w2, w3⟩, ⟨d1, d2, d3⟩, ⟨e1, e2, e3⟩, f1, f2⟩ := h
  have hQ : isQ al (N + 4) = true := isQ_of d2 (by decide) (by decide)
  unfold ctA at q
  rw [e148]
  refine s148_0.mpr ?_
  refine s148_1.mpr (wif (fun c1 => ?_) (fun c1 => ?_))
  · skip
    refine s148_17.mpr (s148_18.mpr ?_)
    refine (s148_27).mpr ?_
    first | (rw [if_pos (by omega)] at q; exact q) | (rw [if_neg (by omega)] at q; exact q)
  · skip
    refine s148_4.mpr (s148_5.mpr ?_)
    refine (s148_6 (by first | decide | assumption | omega)).mpr ?_
    try simp (disch := first | decide | assumption | omega) only [d1]
    refine s148_9.mpr (wif (fun c9 => ?_) (fun c9 => ?_))
    · skip
      refine s148_12.mpr (s148_13.mpr ?_)
      refine s148_14.mpr (wif (fun c14 => ?_) (fun c14 => ?_))
      · skip
        refine s148_21.mpr ?_
        refine (s148_22 (by first | decide | assumption | omega)).mpr ?_
        refine s148_25.mpr ?_
        try simp (disch := first | decide | assumption | omega) only [d1]
        refine (s148_26 (by first | decide | assumption | omega) (by first | decide | assumption | omega) (by first | decide | assumption | omega)).mpr ?_
        refine (s148_27).mpr ?_
        first | (rw [if_pos (by omega)] at q; exact q) | (rw [if_neg (by omega)] at q; exact q)
      · skip
        refine s148_17.mpr (s148_18.mpr ?_)
        refine (s148_27).mpr ?_
        first | (rw [if_pos (by omega)] at q; exact q) | (rw [if_neg (by omega)] at q; exact q)
    · skip
      refine s148_17.mpr (s148_18.mpr ?_)
      refine (s148_27).mpr ?_
      first | (rw [if_pos (by omega)] at q; exact q) | (rw [if_neg (by omega)] at q; exact q)
theorem t_routineAt {f : Int} (h : MS al hr N) (q : Q (some (some (vR (roA hi hr N f)))) al hi hr) : Ev d 149 [vR (some N), vI f] al hi hr Q := by
  obtain ⟨a0, ⟨a1, a2, a3⟩, ⟨b1, b2, b3⟩, ⟨w1, w2, w3⟩, ⟨d1, d2, d3⟩, ⟨e1, e2, e3⟩, f1, f2⟩ := h
  have hQ : isQ al (N + 5) = true := isQ_of e2 (by decide) (by decide)
  unfold roA at q
  rw [e149]
  refine s149_0.mpr ?_
  refine s149_1.mpr (wif (fun c1 => ?_) (fun c1 => ?_))
  · skip
    refine s149_18.mpr (s149_19.mpr ?_)
    refine (s149_28).mpr ?_
    first | (rw [if_pos (by omega)] at q; exact q) | (rw [if_neg (by omega)] at q; exact q)
  · skip
    refine s149_4.mpr (s149_5.mpr ?_)
    refine (s149_6 (by first | decide | assumption | omega)).mpr ?_
    try simp (disch := first | decide | assumption | omega) only [e1]
    refine s149_9.mpr (wif (fun c9 => ?_) (fun c9 => ?_))
    · skip
      refine s149_12.mpr (s149_13.mpr ?_)
      refine s149_15.mpr (wif (fun c15 => ?_) (fun c15 => ?_))
      · skip
        refine s149_22.mpr ?_
        refine (s149_23 (by first | decide | assumption | omega)).mpr ?_
        refine s149_26.mpr ?_
        try simp (disch := first | decide | assumption | omega) only [e1]
        refine (s149_27 (by first | decide | assumption | omega) (by first | decide | assumption | omega) (by first | decide | assumption | omega)).mpr ?_
        refine (s149_28).mpr ?_
        first | (rw [if_pos (by omega)] at q; exact q) | (rw [if_neg (by omega)] at q; exact q)
      · skip
        refine s149_18.mpr (s149_19.mpr ?_)
        refine (s149_28).mpr ?_
        first | (rw [if_pos (by omega)] at q; exact q) | (rw [if_neg (by omega)] at q; exact q)
    · skip
      refine s149_18.mpr (s149_19.mpr ?_)
      refine (s149_28).mpr ?_
      first | (rw [if_pos (by omega)] at q; exact q) | (rw [if_neg (by omega)] at q; exact q)
theorem t_setContract {c : Int} {o : Nat} (h : MS al hr N) (h0 : 0 ≤ c) (h1 : c < 4) (ho : isK al o 3) (q : Q (some none) al hi (upR hr (N + 4) c (some o))) : Ev d 150 [vR (some N), vI c, vR (some o)] al hi hr Q := by
  obtain ⟨a0, ⟨a1, a2, a3⟩, ⟨b1, b2, b3⟩, ⟨w1, w2, w3⟩, ⟨d1, d2, d3⟩, ⟨e1, e2, e3⟩, f1, f2⟩ := h
  rw [e150]
  refine s150_0.mpr ?_
  refine s150_1.mpr (wif (fun c1 => ?_) (fun c1 => ?_))
  · first
    | (exfalso; omega)
    | skip
      refine (s150_16).mpr ?_
      exfalso; omega
  · first
    | (exfalso; omega)
    | skip
      refine s150_4.mpr (s150_5.mpr ?_)
      refine s150_6.mpr (wif (fun c6 => ?_) (fun c6 => ?_))
      · first
        | (exfalso; omega)
        | skip
          refine s150_9.mpr ?_
          refine (s150_10 (by first | decide | assumption | omega)).mpr ?_
          refine s150_13.mpr (s150_14.mpr ?_)
          try simp (disch := first | decide | assumption | omega) only [d1]
          refine (s150_15 d2 (by decide) h0 (by omega) ho).mpr ?_
          refine s150_16.mpr ?_
          exact q
      · first
        | (exfalso; omega)
        | skip
          refine (s150_16).mpr ?_
          exfalso; omega
theorem t_setRoutine {c : Int} {o : Nat} (h : MS al hr N) (h0 : 0 ≤ c) (h1 : c < 10) (ho : isK al o 8) (q : Q (some none) al hi (upR hr (N + 5) c (some o))) : Ev d 151 [vR (some N), vI c, vR (some o)] al hi hr Q := by
  obtain ⟨a0, ⟨a1, a2, a3⟩, ⟨b1, b2, b3⟩, ⟨w1, w2, w3⟩, ⟨d1, d2, d3⟩, ⟨e1, e2, e3⟩, f1, f2⟩ := h
  rw [e151]
  refine s151_0.mpr ?_
  refine s151_1.mpr (wif (fun c1 => ?_) (fun c1 => ?_))
  · first
    | (exfalso; omega)
    | skip
      refine (s151_17).mpr ?_
      exfalso; omega
  · first
    | (exfalso; omega)
    | skip
      refine s151_4.mpr (s151_5.mpr ?_)
      refine s151_7.mpr (wif (fun c7 => ?_) (fun c7 => ?_))
      · first
        | (exfalso; omega)
        | skip
          refine s151_10.mpr ?_
          refine (s151_11 (by first | decide | assumption | omega)).mpr ?_
          refine s151_14.mpr (s151_15.mpr ?_)
          try simp (disch := first | decide | assumption | omega) only [e1]
          refine (s151_16 e2 (by decide) h0 (by omega) ho).mpr ?_
          refine s151_17.mpr ?_
          exact q
      · first
        | (exfalso; omega)
        | skip
          refine (s151_17).mpr ?_
          exfalso; omega
end CT1
