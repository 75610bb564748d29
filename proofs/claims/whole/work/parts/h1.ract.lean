/-! RUNNING, the reference: activations -/
section RH1
variable {d : Nat} {al : AL} {hi : HI} {hr : HR} {Q : QQ}
def actC (s : HI) (X f j : Int) : HI := fun a i => if (a = 95 ∧ i = X) then f else if (a = 96 ∨ a = 97) ∧ i = X then 0 else if a = 98 ∧ 26 * X ≤ i ∧ i < 26 * X + j then 0 else if a = 99 ∧ 26 * X ≤ i ∧ i < 26 * X + j then 4 else s a i
theorem actC_0 {s : HI} {X f : Int} : upI (upI (upI s 95 X f) 96 X 0) 97 X 0 = actC s X f 0 := by
  funext a i
  unfold upI actC
  by_cases c1 : a = 95 ∧ i = X
  · rw [if_neg (by omega), if_neg (by omega), if_pos c1, if_pos c1]
  · rw [if_neg (c := a = 95 ∧ i = X) c1, if_neg (c := a = 95 ∧ i = X) c1]
    by_cases c2 : a = 97 ∧ i = X
    · rw [if_pos c2, if_pos (by omega)]
    · rw [if_neg c2]
      by_cases c3 : a = 96 ∧ i = X
      · rw [if_pos c3, if_pos (by omega)]
      · rw [if_neg c3, if_neg (by omega), if_neg (by omega), if_neg (by omega)]
theorem actC_s {s : HI} {X f j : Int} (j0 : 0 ≤ j) : st2 (actC s X f j) (26 * X + j) 0 4 = actC s X f (j + 1) := by
  funext a i
  unfold st2 upI actC
  by_cases c1 : a = 99 ∧ i = 26 * X + j
  · rw [if_pos c1, if_neg (by omega), if_neg (by omega), if_neg (by omega), if_pos (by omega)]
  · rw [if_neg c1]
    by_cases c2 : a = 98 ∧ i = 26 * X + j
    · rw [if_pos c2, if_neg (by omega), if_neg (by omega), if_pos (by omega)]
    · rw [if_neg c2]
      by_cases z1 : a = 95 ∧ i = X
      · rw [if_pos z1, if_pos z1]
      · rw [if_neg z1, if_neg z1]
        by_cases z2 : (a = 96 ∨ a = 97) ∧ i = X
        · rw [if_pos z2, if_pos z2]
        · rw [if_neg z2, if_neg z2]
          by_cases z3 : a = 98 ∧ 26 * X ≤ i ∧ i < 26 * X + j
          · rw [if_pos z3, if_pos (by omega)]
          · rw [if_neg z3, if_neg (c := a = 98 ∧ 26 * X ≤ i ∧ i < 26 * X + (j + 1)) (by omega)]
            by_cases z4 : a = 99 ∧ 26 * X ≤ i ∧ i < 26 * X + j
            · rw [if_pos z4, if_pos (by omega)]
            · rw [if_neg z4, if_neg (by omega)]
theorem actC_e {s : HI} {p f : Int} : upI (actC s (16 * p + s 94 p) f 26) 94 p (s 94 p + 1) = actS s p f := by
  funext a i
  unfold upI actC actS
  by_cases c : a = 94 ∧ i = p
  · rw [if_pos c, if_neg (by omega), if_neg (by omega), if_neg (by omega), if_neg (by omega), if_pos c]
  · rw [if_neg c, if_neg (c := a = 94 ∧ i = p) c]
theorem actC_94 {s : HI} {X f j : Int} {a : Nat} {i : Int} (h : a < 95 ∨ 99 < a) : actC s X f j a i = s a i := by
  unfold actC; rw [if_neg (by omega), if_neg (by omega), if_neg (by omega), if_neg (by omega)]
theorem r_activate {p f : Int} (hA : SA al) (hR : MR hr) (hd : 1 ≤ d) (p0 : 0 ≤ p ∧ p < 12) (h94 : 0 ≤ hi 94 p ∧ hi 94 p < 16) (q : Q (some none) al (actS hi p f) hr) : Ev d 281 [vR (some 49), vI p, vI f] al hi hr Q := by
  have kM : isK al 49 13 := hA.k (by decide) (by decide) rfl
  have l94 := SA.len (a := 94) (n := 12) hA (by decide) (by decide) rfl
  have l95 := SA.len (a := 95) (n := 192) hA (by decide) (by decide) rfl
  have l96 := SA.len (a := 96) (n := 192) hA (by decide) (by decide) rfl
  have l97 := SA.len (a := 97) (n := 192) hA (by decide) (by decide) rfl
  have k94 : isK al 94 15 := hA.k (by decide) (by decide) rfl
  have l94 : aln al 94 = 12 := hA.len (by decide) (by decide) rfl
  obtain ⟨n, hn⟩ : ∃ n, hi 94 p = n := ⟨_, rfl⟩
  have eq9 := @actC_e hi p f
  rw [hn] at h94 eq9
  have T36 : ∀ (j9 : Nat) (j : Int), j + j9 = 26 → 0 ≤ j → Wp d 281 36 [vR (some 49), vI p, vI f, vI (16 * p + n), vI j] [] al (actC hi (16 * p + n) f j) hr Q := by
    intro j9
    induction j9 with
    | zero =>
      intro j hj j0
      have ej : j = 26 := by omega
      subst ej
      have e94 : actC hi (16 * p + n) f 26 94 p = n := (actC_94 (by omega)).trans hn
      refine s281_36.mpr (s281_38.mpr ?_)
      refine s281_40.mpr (wif (fun c40 => ?_) (fun c40 => ?_))
      · skip
        exfalso; omega
      · skip
        refine s281_62.mpr ((s281_63 kM).mpr ?_)
        rw [mr_64 hR]
        refine s281_66.mpr (s281_67.mpr ?_)
        refine (s281_68 (by first | decide | assumption | omega) (by first | decide | assumption | omega) (by first | decide | assumption | omega)).mpr ?_
        refine s281_69.mpr (s281_70.mpr ?_)
        try simp (disch := first | decide | assumption | omega) only [e94, fAdd_id, eq9]
        refine (s281_71 (by first | decide | assumption | omega) (by first | decide | assumption | omega) (by first | decide | assumption | omega)).mpr ?_
        try simp (disch := first | decide | assumption | omega) only [e94, fAdd_id, eq9]
        refine (s281_72).mpr ?_
        exact q
    | succ j9 ih =>
      intro j hj j0
      have NX := ih (j + 1) (by omega) (by omega)
      rw [← actC_s j0] at NX
      refine s281_36.mpr (s281_38.mpr ?_)
      refine s281_40.mpr (wif (fun c40 => ?_) (fun c40 => ?_))
      · skip
        refine s281_43.mpr (s281_44.mpr (s281_46.mpr (s281_47.mpr (s281_48.mpr (s281_50.mpr ?_)))))
        refine s281_51.mpr (s281_52.mpr ?_)
        try simp (disch := first | decide | assumption | omega) only [kon, knt_some, knt_none, Option.toList_some, Option.toList_none, List.cons_append, List.nil_append, fAdd_id, fMul_id]
        refine (s281_53 (by omega) kM).mpr ?_
        refine r_set hA hR (by omega) ?_
        refine s281_56.mpr (s281_59.mpr ?_)
        try simp (disch := first | decide | assumption | omega) only [kon, knt_some, knt_none, Option.toList_some, Option.toList_none, List.cons_append, List.nil_append, fAdd_id, fMul_id]
        exact NX
      · skip
        exfalso; omega
  have NX := T36 26 0 (by decide) (Int.le_refl _)
  rw [← actC_0] at NX
  rw [e281]
  refine s281_0.mpr (s281_2.mpr (s281_3.mpr (s281_4.mpr ((s281_5 kM).mpr ?_))))
  rw [mr_64 hR]
  refine s281_8.mpr ?_
  try simp (disch := first | decide | assumption | omega) only [hn, fAdd_id, fMul_id]
  refine (s281_9 (hA.k (by decide) (by decide) rfl) (by first | assumption | omega) (by first | assumption | omega)).mpr ?_
  refine s281_10.mpr (s281_11.mpr (s281_12.mpr ((s281_13 kM).mpr ?_)))
  rw [mr_65 hR]
  refine s281_16.mpr (s281_17.mpr ?_)
  try simp (disch := first | decide | assumption | omega) only [hn, fAdd_id, fMul_id]
  refine (s281_18 (hA.k (by decide) (by decide) rfl) (by first | assumption | omega) (by first | assumption | omega)).mpr ?_
  refine s281_19.mpr ((s281_20 kM).mpr ?_)
  rw [mr_66 hR]
  refine s281_23.mpr (s281_24.mpr ?_)
  try simp (disch := first | decide | assumption | omega) only [hn, fAdd_id, fMul_id]
  refine (s281_25 (hA.k (by decide) (by decide) rfl) (by first | assumption | omega) (by first | assumption | omega)).mpr ?_
  refine s281_26.mpr ((s281_27 kM).mpr ?_)
  rw [mr_67 hR]
  refine s281_30.mpr (s281_31.mpr ?_)
  try simp (disch := first | decide | assumption | omega) only [hn, fAdd_id, fMul_id]
  refine (s281_32 (hA.k (by decide) (by decide) rfl) (by first | assumption | omega) (by first | assumption | omega)).mpr ?_
  refine s281_33.mpr (s281_34.mpr ?_)
  try simp (disch := first | decide | assumption | omega) only [hn, fAdd_id, fMul_id]
  exact NX
def staC (s : HI) (p m c j : Int) : HI := fun a i => if a = 89 ∧ i = p then 1 else if (a = 90 ∨ a = 93 ∨ a = 94 ∨ a = 108) ∧ i = p then 0 else if a = 91 ∧ i = p then m else if a = 92 ∧ i = p then c else if a = 100 ∧ 1025 * p < i ∧ i < 1025 * p + j then 0 else s a i
theorem staC_0 {s : HI} {p m c : Int} : upI (upI (upI (upI (upI (upI (upI s 89 p 1) 90 p 0) 91 p m) 92 p c) 93 p 0) 94 p 0) 108 p 0 = staC s p m c 1 := by
  funext a i
  unfold upI staC
  by_cases ei : i = p
  · subst ei
    by_cases a1 : a = 89
    · subst a1; simp
    · by_cases a2 : a = 90
      · subst a2; simp
      · by_cases a3 : a = 91
        · subst a3; simp
        · by_cases a4 : a = 92
          · subst a4; simp
          · by_cases a5 : a = 93
            · subst a5; simp
            · by_cases a6 : a = 94
              · subst a6; simp
              · by_cases a7 : a = 108
                · subst a7; simp
                · simp only [a1, a2, a3, a4, a5, a6, a7, false_and, if_false, or_false, false_or]
                  rw [if_neg (by omega)]
  · simp only [ei, and_false, if_false]
    rw [if_neg (by omega)]
theorem staC_s {s : HI} {p m c j : Int} (j1 : 1 ≤ j) : upI (staC s p m c j) 100 (1025 * p + j) 0 = staC s p m c (j + 1) := by
  funext a i
  unfold upI staC
  by_cases c0 : a = 100 ∧ i = 1025 * p + j
  · rw [if_pos c0, if_neg (by omega), if_neg (by omega), if_neg (by omega), if_neg (by omega), if_pos (by omega)]
  · rw [if_neg c0]
    by_cases z1 : a = 89 ∧ i = p
    · rw [if_pos z1, if_pos z1]
    · rw [if_neg z1, if_neg z1]
      by_cases z2 : (a = 90 ∨ a = 93 ∨ a = 94 ∨ a = 108) ∧ i = p
      · rw [if_pos z2, if_pos z2]
      · rw [if_neg z2, if_neg z2]
        by_cases z3 : a = 91 ∧ i = p
        · rw [if_pos z3, if_pos z3]
        · rw [if_neg z3, if_neg z3]
          by_cases z4 : a = 92 ∧ i = p
          · rw [if_pos z4, if_pos z4]
          · rw [if_neg z4, if_neg z4]
            by_cases z5 : a = 100 ∧ 1025 * p < i ∧ i < 1025 * p + j
            · rw [if_pos z5, if_pos (by omega)]
            · rw [if_neg z5, if_neg (by omega)]
theorem staC_94 {s : HI} {p m c j : Int} : staC s p m c j 94 p = 0 := by
  unfold staC; rw [if_neg (by omega), if_pos ⟨Or.inr (Or.inr (Or.inl rfl)), rfl⟩]
theorem r_start {p m f c : Int} (hA : SA al) (hR : MR hr) (hd : 2 ≤ d) (p0 : 0 ≤ p ∧ p < 12) (q : Q (some none) al (staS hi p m f c) hr) : Ev d 280 [vR (some 49), vI p, vI m, vI f, vI c] al hi hr Q := by
  have kM : isK al 49 13 := hA.k (by decide) (by decide) rfl
  have l89 := SA.len (a := 89) (n := 12) hA (by decide) (by decide) rfl
  have l90 := SA.len (a := 90) (n := 12) hA (by decide) (by decide) rfl
  have l91 := SA.len (a := 91) (n := 12) hA (by decide) (by decide) rfl
  have l92 := SA.len (a := 92) (n := 12) hA (by decide) (by decide) rfl
  have l93 := SA.len (a := 93) (n := 12) hA (by decide) (by decide) rfl
  have l94 := SA.len (a := 94) (n := 12) hA (by decide) (by decide) rfl
  have l108 := SA.len (a := 108) (n := 12) hA (by decide) (by decide) rfl
  have l100 := SA.len (a := 100) (n := 12300) hA (by decide) (by decide) rfl
  have T53 : ∀ (j9 : Nat) (j : Int), j + j9 = 1025 → 1 ≤ j → Wp d 280 53 [vR (some 49), vI p, vI m, vI f, vI c, vI j] [] al (staC hi p m c j) hr Q := by
    intro j9
    induction j9 with
    | zero =>
      intro j hj j0
      have ej : j = 1025 := by omega
      subst ej
      refine s280_53.mpr (s280_55.mpr ?_)
      refine s280_58.mpr (wif (fun c58 => ?_) (fun c58 => ?_))
      · skip
        exfalso; omega
      · skip
        refine s280_81.mpr (s280_82.mpr (s280_83.mpr ?_))
        refine (s280_84 (by omega) kM).mpr ?_
        refine r_activate hA hR (by omega) p0 (by rw [staC_94]; decide) ?_
        refine (s280_87).mpr ?_
        exact q
    | succ j9 ih =>
      intro j hj j0
      have NX := ih (j + 1) (by omega) (by omega)
      rw [← staC_s j0] at NX
      refine s280_53.mpr (s280_55.mpr ?_)
      refine s280_58.mpr (wif (fun c58 => ?_) (fun c58 => ?_))
      · skip
        refine s280_61.mpr ((s280_62 kM).mpr ?_)
        rw [mr_70 hR]
        refine s280_65.mpr (s280_68.mpr (s280_69.mpr (s280_70.mpr (s280_72.mpr (s280_73.mpr ?_)))))
        try simp (disch := first | decide | assumption | omega) only [fAdd_id, fMul_id]
        refine (s280_74 (hA.k (by decide) (by decide) rfl) (by first | assumption | omega) (by first | assumption | omega)).mpr ?_
        refine s280_75.mpr (s280_78.mpr ?_)
        try simp (disch := first | decide | assumption | omega) only [fAdd_id, fMul_id]
        exact NX
      · skip
        exfalso; omega
  have NX := T53 1024 1 (by decide) (Int.le_refl _)
  rw [← staC_0] at NX
  rw [e280]
  refine s280_0.mpr ((s280_1 kM).mpr ?_)
  rw [mr_59 hR]
  refine s280_4.mpr (s280_5.mpr ?_)
  refine (s280_6 (hA.k (by decide) (by decide) rfl) (by first | assumption | omega) (by first | assumption | omega)).mpr ?_
  refine s280_7.mpr ((s280_8 kM).mpr ?_)
  rw [mr_60 hR]
  refine s280_11.mpr (s280_12.mpr ?_)
  refine (s280_13 (hA.k (by decide) (by decide) rfl) (by first | assumption | omega) (by first | assumption | omega)).mpr ?_
  refine s280_14.mpr ((s280_15 kM).mpr ?_)
  rw [mr_61 hR]
  refine s280_18.mpr (s280_19.mpr ?_)
  refine (s280_20 (hA.k (by decide) (by decide) rfl) (by first | assumption | omega) (by first | assumption | omega)).mpr ?_
  refine s280_21.mpr ((s280_22 kM).mpr ?_)
  rw [mr_62 hR]
  refine s280_25.mpr (s280_26.mpr ?_)
  refine (s280_28 (hA.k (by decide) (by decide) rfl) (by first | assumption | omega) (by first | assumption | omega)).mpr ?_
  refine s280_29.mpr ((s280_30 kM).mpr ?_)
  rw [mr_63 hR]
  refine s280_33.mpr (s280_34.mpr ?_)
  refine (s280_35 (hA.k (by decide) (by decide) rfl) (by first | assumption | omega) (by first | assumption | omega)).mpr ?_
  refine s280_36.mpr ((s280_37 kM).mpr ?_)
  rw [mr_64 hR]
  refine s280_40.mpr (s280_41.mpr ?_)
  refine (s280_42 (hA.k (by decide) (by decide) rfl) (by first | assumption | omega) (by first | assumption | omega)).mpr ?_
  refine s280_43.mpr ((s280_44 kM).mpr ?_)
  rw [mr_78 hR]
  refine s280_47.mpr (s280_48.mpr ?_)
  refine (s280_49 (hA.k (by decide) (by decide) rfl) (by first | assumption | omega) (by first | assumption | omega)).mpr ?_
  refine s280_50.mpr (s280_51.mpr ?_)
  exact NX
end RH1
