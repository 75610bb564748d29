/-! RUNNING, the class: a new box -/
section CM0
variable {d : Nat} {Q : QQ} {T : TXs} {al al' : AL} {hi hi' : HI} {hr hr' : HR} {s s' : HI} {A A' : Int → Int → Int} {NN : Int → Option Nat} {E : Int → Prop} {p q m f v w x n k : Int} {B : Int → Int} {X Y : Tst} {t t' N c : Nat} {al0 : AL} {hi0 : HI} {hr0 : HR} {fr H : Int}
theorem c_room (k9 : isK al t 9) (h3 : hi t 3 = H) (h16 : hi t 16 = fr) (b : 1 ≤ fr ∧ fr ≤ H + 1 ∧ H ≤ 1024) (q : Q (some (some (vI (H + 1 - fr)))) al hi hr) : Ev d 136 [vR (some t)] al hi hr Q := by
  rw [e136]
  refine s136_0.mpr ?_
  refine (s136_1 (by first | decide | assumption | omega)).mpr ?_
  refine s136_4.mpr (s136_5.mpr (s136_6.mpr ?_))
  try simp (disch := first | decide | assumption | omega) only [h3, h16, fAdd_id, fSub_id]
  refine (s136_7 (by first | decide | assumption | omega)).mpr ?_
  refine s136_10.mpr ?_
  try simp (disch := first | decide | assumption | omega) only [h3, h16, fAdd_id, fSub_id]
  refine (s136_11).mpr ?_
  exact q
theorem c_cellAt (k9 : isK al t 9) (e15 : hr t 15 = some c) (kc : isK al c 15 ∧ aln al c = 1025) (b : 1 ≤ x ∧ x ≤ 1024) (q : Q (some (some (vI (hi c x)))) al hi hr) : Ev d 134 [vR (some t), vI x] al hi hr Q := by
  obtain ⟨kc, lc⟩ := kc
  have rc := isR_of kc (by decide) (by decide)
  rw [e134]
  refine s134_0.mpr (s134_1.mpr ?_)
  refine s134_2.mpr (wif (fun c2 => ?_) (fun c2 => ?_))
  · first
    | (exfalso; omega)
    | skip
      exfalso; omega
  · first
    | (exfalso; omega)
    | skip
      refine s134_5.mpr (s134_6.mpr ?_)
      refine s134_9.mpr (wif (fun c9 => ?_) (fun c9 => ?_))
      · first
        | (exfalso; omega)
        | skip
          exfalso; omega
      · first
        | (exfalso; omega)
        | skip
          refine s134_16.mpr ?_
          refine (s134_17 (by first | decide | assumption | omega)).mpr ?_
          refine s134_20.mpr ?_
          try simp (disch := first | decide | assumption | omega) only [e15]
          refine (s134_21 (by first | decide | assumption | omega) (by first | decide | assumption | omega) (by first | decide | assumption | omega)).mpr ?_
          try simp (disch := first | decide | assumption | omega) only [e15]
          refine (s134_22).mpr ?_
          exact q
theorem c_setCell (k9 : isK al t 9) (e15 : hr t 15 = some c) (kc : isK al c 15 ∧ aln al c = 1025) (b : 1 ≤ x ∧ x ≤ 1024) (q : Q (some none) al (upI hi c x v) hr) : Ev d 135 [vR (some t), vI x, vI v] al hi hr Q := by
  obtain ⟨kc, lc⟩ := kc
  have rc := isR_of kc (by decide) (by decide)
  rw [e135]
  refine s135_0.mpr (s135_1.mpr ?_)
  refine s135_2.mpr (wif (fun c2 => ?_) (fun c2 => ?_))
  · first
    | (exfalso; omega)
    | skip
      first | (refine s135_19.mpr ?_; exact q) | (exfalso; omega)
  · first
    | (exfalso; omega)
    | skip
      refine s135_5.mpr (s135_6.mpr ?_)
      refine s135_9.mpr (wif (fun c9 => ?_) (fun c9 => ?_))
      · first
        | (exfalso; omega)
        | skip
          first | (refine s135_19.mpr ?_; exact q) | (exfalso; omega)
      · first
        | (exfalso; omega)
        | skip
          refine s135_12.mpr ?_
          refine (s135_13 (by first | decide | assumption | omega)).mpr ?_
          refine s135_16.mpr (s135_17.mpr ?_)
          try simp (disch := first | decide | assumption | omega) only [e15]
          refine (s135_18 (by first | decide | assumption | omega) (by first | decide | assumption | omega) (by first | decide | assumption | omega)).mpr ?_
          try simp (disch := first | decide | assumption | omega) only [e15]
          first | (refine s135_19.mpr ?_; exact q) | (exfalso; omega)
/-- the cells of a new box -/
def nbM (hi : HI) (t c : Nat) (fr n x : Int) (hi' : HI) : Prop := hi' c fr = x ∧ (∀ i, 0 ≤ i → i < n → hi' c (fr + 1 + i) = 0) ∧ hi' t 16 = fr + 1 + n ∧ ∀ (b : Nat) i, ¬ (b = c ∧ fr ≤ i ∧ i < fr + 1 + n) → ¬ (b = t ∧ i = 16) → hi' b i = hi b i
theorem c_make (k9 : isK al t 9) (e15 : hr t 15 = some c) (kc : isK al c 15 ∧ aln al c = 1025) (h3 : hi t 3 = H) (h16 : hi t 16 = fr) (b : 1 ≤ fr ∧ fr ≤ H + 1 ∧ H ≤ 1024) (hx0 : 0 ≤ x ∧ x % 65536 = n ∧ n ≤ 1024) (hd : 1 ≤ d) (no : H < fr + n → Q (some (some (vI 0))) al hi hr) (yes : ∀ hi', fr + n ≤ H → nbM hi t c fr n x hi' → Q (some (some (vI fr))) al hi' hr) : Ev d 137 [vR (some t), vI x] al hi hr Q := by
  have nct : c ≠ t := isK_ne kc.1 k9 (by decide)
  have n0 : 0 ≤ n := by omega
  rw [e137]
  by_cases cf : H < fr + n
  · have E := no cf
    refine s137_0.mpr ?_
    refine (s137_1 (by first | decide | assumption | omega)).mpr ?_
    refine s137_4.mpr (s137_5.mpr (s137_6.mpr (s137_7.mpr (s137_9.mpr (s137_10.mpr ?_)))))
    refine s137_11.mpr (s137_12.mpr (s137_13.mpr ?_))
    try simp (disch := first | decide | assumption | omega) only [h16, fAnd_65535, hx0.2.1, fAdd_id]
    refine (s137_14 (by first | decide | assumption | omega) (by first | decide | assumption | omega)).mpr ?_
    refine c_room k9 h3 h16 b ?_
    try simp only [kon, knt_some, knt_none, Option.toList_some, Option.toList_none, List.cons_append, List.nil_append]
    refine s137_17.mpr (wif (fun c17 => ?_) (fun c17 => ?_))
    · skip
      refine s137_20.mpr ?_
      refine (s137_21).mpr ?_
      exact E
    · skip
      exfalso; omega
  · have T31 : ∀ (j : Nat) (i : Int) h, i + j = n + 1 → 1 ≤ i → nbM hi t c fr (i - 1) x (upI h t 16 (fr + i)) → h t 16 = fr → Wp d 137 31 [vR (some t), vI x, vI fr, vI (n + 1), vI i] [] al h hr Q := by
      intro j
      induction j with
      | zero =>
        intro i h hj i1 z z16
        have E := yes _ (by omega) (by rw [show i - 1 = n by omega, show fr + i = fr + (n + 1) by omega] at z; exact z)
        refine s137_31.mpr (s137_33.mpr ?_)
        refine s137_34.mpr (wif (fun c34 => ?_) (fun c34 => ?_))
        · first
          | (exfalso; omega)
          | skip
            exfalso; omega
        · first
          | (exfalso; omega)
          | skip
            refine s137_52.mpr (s137_53.mpr ?_)
            refine (s137_54 (by first | decide | assumption | omega)).mpr ?_
            refine s137_57.mpr (s137_58.mpr ?_)
            try simp (disch := first | decide | assumption | omega) only [z16, fAdd_id]
            refine (s137_59 (by first | decide | assumption | omega)).mpr ?_
            refine s137_62.mpr ?_
            try simp (disch := first | decide | assumption | omega) only [z16, fAdd_id]
            refine (s137_63).mpr ?_
            exact E
      | succ j ih =>
        intro i h hj i1 z z16
        have R := ih (i + 1) (upI h c (fr + i) 0) (by omega) (by omega) (by
          obtain ⟨z1, z2, z3, z4⟩ := z
          refine ⟨?_, fun y y0 y1 => ?_, ?_, fun b y y1 y2 => ?_⟩
          · rw [upI_a nct, upI_i (by omega)]; rw [upI_a nct] at z1; exact z1
          · rw [upI_a nct]
            by_cases u : y = i - 1
            · rw [u, show fr + 1 + (i - 1) = fr + i by omega, upI_eq]
            · have := z2 y y0 (by omega)
              rw [upI_a nct] at this
              rw [upI_i (by omega)]; exact this
          · rw [upI_eq]; omega
          · have := z4 b y (fun u => y1 ⟨u.1, u.2.1, by omega⟩) y2
            unfold upI at this ⊢
            rw [if_neg y2] at this ⊢
            rw [if_neg (fun u => y1 ⟨u.1, by omega, by omega⟩)]; exact this) (by rw [upI_a (Ne.symm nct)]; exact z16)
        refine s137_31.mpr (s137_33.mpr ?_)
        refine s137_34.mpr (wif (fun c34 => ?_) (fun c34 => ?_))
        · first
          | (exfalso; omega)
          | skip
            refine s137_37.mpr (s137_38.mpr (s137_39.mpr (s137_41.mpr (s137_42.mpr ?_))))
            try simp (disch := first | decide | assumption | omega) only [fAdd_id]
            refine (s137_43 (by first | decide | assumption | omega) (by first | decide | assumption | omega)).mpr ?_
            refine c_setCell k9 e15 kc (by omega) ?_
            try simp only [kon, knt_some, knt_none, Option.toList_some, Option.toList_none, List.cons_append, List.nil_append]
            refine s137_46.mpr (s137_49.mpr ?_)
            try simp (disch := first | decide | assumption | omega) only [fAdd_id]
            exact R
        · first
          | (exfalso; omega)
          | skip
            exfalso; omega
    have R := T31 n.toNat 1 (upI hi c fr x) (by omega) (by decide) (by
      refine ⟨by rw [upI_a nct, upI_eq], fun y y0 y1 => absurd y1 (by omega), by rw [upI_eq]; omega, fun b y y1 y2 => ?_⟩
      unfold upI
      rw [if_neg y2, if_neg (fun u => y1 ⟨u.1, by omega, by omega⟩)]) (by rw [upI_a (Ne.symm nct)]; exact h16)
    refine s137_0.mpr ?_
    refine (s137_1 (by first | decide | assumption | omega)).mpr ?_
    refine s137_4.mpr (s137_5.mpr (s137_6.mpr (s137_7.mpr (s137_9.mpr (s137_10.mpr ?_)))))
    refine s137_11.mpr (s137_12.mpr (s137_13.mpr ?_))
    try simp (disch := first | decide | assumption | omega) only [h16, fAnd_65535, hx0.2.1, fAdd_id]
    refine (s137_14 (by first | decide | assumption | omega) (by first | decide | assumption | omega)).mpr ?_
    refine c_room k9 h3 h16 b ?_
    try simp only [kon, knt_some, knt_none, Option.toList_some, Option.toList_none, List.cons_append, List.nil_append]
    refine s137_17.mpr (wif (fun c17 => ?_) (fun c17 => ?_))
    · skip
      exfalso; omega
    · skip
      refine s137_22.mpr (s137_23.mpr (s137_24.mpr ?_))
      refine (s137_25 (by first | decide | assumption | omega) (by first | decide | assumption | omega)).mpr ?_
      refine c_setCell k9 e15 kc (by omega) ?_
      try simp only [kon, knt_some, knt_none, Option.toList_some, Option.toList_none, List.cons_append, List.nil_append]
      refine s137_28.mpr (s137_29.mpr ?_)
      first | (rw [show (1 : Int) + n = n + 1 by omega]; exact R) | exact R
end CM0
