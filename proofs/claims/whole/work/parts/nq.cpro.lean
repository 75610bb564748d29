/-! FACES: process, value, block, channel; the class -/
section FB1
variable {d : Nat} {Q : QQ} {T : TXs} {al : AL} {hi : HI} {hr : HR} {s : HI} {A : Int → Int → Int} {NN : Int → Option Nat} {p m f w v i b c e n : Int} {t : Nat} {al0 : AL} {hi0 : HI} {hr0 : HR} {E : Int → Prop} {X : Tst}
theorem x5_taskAt (hR : RelC T NN al0 hi0 hr0 E A al hi hr s) (h56 : s 49 56 ≤ 12) (no : ¬ (0 ≤ n ∧ n < s 49 56) → Q (some (some (vR none))) al hi hr) (yes : ∀ t, 0 ≤ n → n < s 49 56 → hr 27 n = some t → TkH hi s n t → Q (some (some (vR (some t)))) al hi hr) : Ev d 67 [vR (some 26), vI n] al hi hr Q := by
  have hA := hR.1.1
  have hC := hR.1.2.1
  have k26 : isK al 26 6 := hA.k (by decide) (by decide) rfl
  have Q27 : isQ al 27 = true := hA.q (by decide) (by decide) (by decide)
  have K28 : isK al 28 16 := hA.k (by decide) (by decide) rfl
  have R28 : isR al 28 = true := hA.r (by decide) (by decide) (by decide)
  have g27 := cr_26_1 hC
  have g28 := cr_26_2 hC
  have l27 := SA.len (a := 27) (n := 12) hA (by decide) (by decide) rfl
  have l28 := SA.len (a := 28) (n := 12) hA (by decide) (by decide) rfl
  rw [e67]
  by_cases n0 : 0 ≤ n ∧ n < 12
  case neg =>
    have E0 := no (fun z => n0 ⟨z.1, by omega⟩)
    refine s67_0.mpr ?_
    refine s67_1.mpr (wif (fun c1 => ?_) (fun c1 => ?_))
    · first
      | (exfalso; omega)
      | skip
        refine s67_19.mpr (s67_20.mpr ?_)
        refine (s67_29).mpr ?_
        exact E0
    · first
      | (exfalso; omega)
      | skip
        refine s67_4.mpr (s67_5.mpr ?_)
        refine s67_7.mpr (wif (fun c7 => ?_) (fun c7 => ?_))
        · first
          | (exfalso; omega)
          | skip
            exfalso; omega
        · first
          | (exfalso; omega)
          | skip
            refine s67_19.mpr (s67_20.mpr ?_)
            refine (s67_29).mpr ?_
            exact E0
  have m28 := hR.2.1.2.2.2.2.2.1 n n0.1 n0.2
  by_cases c : n < s 49 56
  · rw [if_pos c] at m28
    obtain ⟨t, e27, tH⟩ := hR.2.2.2.2.2.1 n n0.1 n0.2 c
    have E0 := yes t n0.1 c e27 tH
    refine s67_0.mpr ?_
    refine s67_1.mpr (wif (fun c1 => ?_) (fun c1 => ?_))
    · skip
      exfalso; omega
    · skip
      refine s67_4.mpr (s67_5.mpr ?_)
      refine s67_7.mpr (wif (fun c7 => ?_) (fun c7 => ?_))
      · skip
        refine s67_10.mpr ?_
        refine (s67_11 (by first | decide | assumption | omega)).mpr ?_
        refine s67_14.mpr ?_
        try simp (disch := first | decide | assumption | omega) only [g27, g28, m28]
        refine (s67_15Z (by first | decide | assumption | omega) (by first | decide | assumption | omega) (by first | decide | assumption | omega)).mpr ?_
        try simp (disch := first | decide | assumption | omega) only [g27, g28, m28]
        refine s67_16.mpr (wif (fun c16 => ?_) (fun c16 => ?_))
        · skip
          exfalso; omega
        · skip
          refine s67_23.mpr ?_
          refine (s67_24 (by first | decide | assumption | omega)).mpr ?_
          refine s67_27.mpr ?_
          try simp (disch := first | decide | assumption | omega) only [g27, g28, m28]
          refine (s67_28 (by first | decide | assumption | omega) (by first | decide | assumption | omega) (by first | decide | assumption | omega)).mpr ?_
          refine (s67_29).mpr ?_
          rw [e27]; exact E0
      · skip
        exfalso; omega
  · rw [if_neg c] at m28
    have E0 := no (fun z => c z.2)
    refine s67_0.mpr ?_
    refine s67_1.mpr (wif (fun c1 => ?_) (fun c1 => ?_))
    · skip
      refine s67_19.mpr (s67_20.mpr ?_)
      refine (s67_29).mpr ?_
      exact E0
    · skip
      refine s67_4.mpr (s67_5.mpr ?_)
      refine s67_7.mpr (wif (fun c7 => ?_) (fun c7 => ?_))
      · skip
        refine s67_10.mpr ?_
        refine (s67_11 (by first | decide | assumption | omega)).mpr ?_
        refine s67_14.mpr ?_
        try simp (disch := first | decide | assumption | omega) only [g27, g28, m28]
        refine (s67_15Z (by first | decide | assumption | omega) (by first | decide | assumption | omega) (by first | decide | assumption | omega)).mpr ?_
        try simp (disch := first | decide | assumption | omega) only [g27, g28, m28]
        refine s67_16.mpr (wif (fun c16 => ?_) (fun c16 => ?_))
        · skip
          refine s67_19.mpr (s67_20.mpr ?_)
          refine (s67_29).mpr ?_
          exact E0
        · skip
          exfalso; omega
      · skip
        refine s67_19.mpr (s67_20.mpr ?_)
        refine (s67_29).mpr ?_
        exact E0
theorem x5_taskAtU (hA : SA al) (hC : CR hr) (h28 : ∀ q, 0 ≤ q → q < 12 → hi 28 q = 0) (q : Q (some (some (vR none))) al hi hr) : Ev d 67 [vR (some 26), vI n] al hi hr Q := by
  have k26 : isK al 26 6 := hA.k (by decide) (by decide) rfl
  have Q27 : isQ al 27 = true := hA.q (by decide) (by decide) (by decide)
  have K28 : isK al 28 16 := hA.k (by decide) (by decide) rfl
  have R28 : isR al 28 = true := hA.r (by decide) (by decide) (by decide)
  have g27 := cr_26_1 hC
  have g28 := cr_26_2 hC
  have l27 := SA.len (a := 27) (n := 12) hA (by decide) (by decide) rfl
  have l28 := SA.len (a := 28) (n := 12) hA (by decide) (by decide) rfl
  rw [e67]
  by_cases n0 : 0 ≤ n ∧ n < 12
  case neg =>
    refine s67_0.mpr ?_
    refine s67_1.mpr (wif (fun c1 => ?_) (fun c1 => ?_))
    · first
      | (exfalso; omega)
      | skip
        refine s67_19.mpr (s67_20.mpr ?_)
        refine (s67_29).mpr ?_
        exact q
    · first
      | (exfalso; omega)
      | skip
        refine s67_4.mpr (s67_5.mpr ?_)
        refine s67_7.mpr (wif (fun c7 => ?_) (fun c7 => ?_))
        · first
          | (exfalso; omega)
          | skip
            exfalso; omega
        · first
          | (exfalso; omega)
          | skip
            refine s67_19.mpr (s67_20.mpr ?_)
            refine (s67_29).mpr ?_
            exact q
  have m28 := h28 n n0.1 n0.2
  refine s67_0.mpr ?_
  refine s67_1.mpr (wif (fun c1 => ?_) (fun c1 => ?_))
  · skip
    refine s67_19.mpr (s67_20.mpr ?_)
    refine (s67_29).mpr ?_
    exact q
  · skip
    refine s67_4.mpr (s67_5.mpr ?_)
    refine s67_7.mpr (wif (fun c7 => ?_) (fun c7 => ?_))
    · skip
      refine s67_10.mpr ?_
      refine (s67_11 (by first | decide | assumption | omega)).mpr ?_
      refine s67_14.mpr ?_
      try simp (disch := first | decide | assumption | omega) only [g27, g28, m28]
      refine (s67_15Z (by first | decide | assumption | omega) (by first | decide | assumption | omega) (by first | decide | assumption | omega)).mpr ?_
      try simp (disch := first | decide | assumption | omega) only [g27, g28, m28]
      refine s67_16.mpr (wif (fun c16 => ?_) (fun c16 => ?_))
      · skip
        refine s67_19.mpr (s67_20.mpr ?_)
        refine (s67_29).mpr ?_
        exact q
      · skip
        exfalso; omega
    · skip
      refine s67_19.mpr (s67_20.mpr ?_)
      refine (s67_29).mpr ?_
      exact q
theorem t_isOver1 (k9 : isK al t 9) (h : 4 ≤ hi t 4) (q : Q (some (some (vI 1))) al hi hr) : Ev d 117 [vR (some t)] al hi hr Q := by
  rw [e117]
  refine s117_0.mpr ?_
  refine (s117_1 (by first | decide | assumption | omega)).mpr ?_
  refine s117_4.mpr ?_
  refine s117_5.mpr (wif (fun c5 => ?_) (fun c5 => ?_))
  · first
    | (exfalso; omega)
    | skip
      refine s117_8.mpr ?_
      refine (s117_9 (by first | decide | assumption | omega)).mpr ?_
      refine s117_12.mpr ?_
      refine s117_13.mpr (wif (fun c13 => ?_) (fun c13 => ?_))
      · first
        | (exfalso; omega)
        | skip
          refine s117_16.mpr (s117_17.mpr ?_)
          refine (s117_21 (by first | assumption | omega)).mpr ?_
          exact q
      · first
        | (exfalso; omega)
        | skip
          refine s117_20.mpr ?_
          refine (s117_21 (by first | assumption | omega)).mpr ?_
          exact q
  · first
    | (exfalso; omega)
    | skip
      refine s117_16.mpr (s117_17.mpr ?_)
      refine (s117_21 (by first | assumption | omega)).mpr ?_
      exact q
theorem x5_reachedBy (hR : RelC T NN al0 hi0 hr0 (fun _ => False) A al hi hr s) (hP : AllP s) (hBs : Bs T NN al0 hi0 hr0) (hI : INV T s) (hO : OnP hr s p t) (L : JJ T s p m f X) (hd : 3 ≤ d) (q : ∀ A' hi' hr', RelC T NN al0 hi0 hr0 (fun _ => False) A' al hi' hr' s → Q (some (some (vI (rsm s p)))) al hi' hr') : Ev d 71 [vR (some 26), vR (some t)] al hi hr Q := by
  have hA := hR.1.1
  have k26 : isK al 26 6 := hA.k (by decide) (by decide) rfl
  obtain ⟨k9, ⟨c, e15, kc, hH⟩, e3⟩ := hR.pk hO
  have t119 := (hR.tf hO).1.1.1
  have hCB := hH.cb L.2.hbd hO.2.2.2.2.1.2
  have r5 := (hH.rsm_ L.2.hbd).2
  have b5 := hH.1
  obtain ⟨N, c0, c1, hN, s1, pc0, pc1⟩ := hR.cln hO hBs L.2
  have h92 := hO.2.2.2.2.1
  rw [e71]
  refine s71_0.mpr (s71_1.mpr (s71_2.mpr ?_))
  refine (s71_3 (by first | decide | assumption | omega)).mpr ?_
  try simp (disch := first | decide | assumption | omega) only [s1]
  refine (s71_6 (by first | decide | assumption | omega) (by first | decide | assumption | omega)).mpr ?_
  refine c_collect hN (by omega) (fun a' fr1 hi' hC hV e16 hw => ?_)
  have hal := hC.all hV hCB
  have R := hR.gc hO hP hBs hN s1 pc0 pc1 hC hV e16 hw (by omega)
  have E0 := q _ _ _ R.1
  have ef : fSub fr1 1 = (rsm s p : Int) := by rw [fSub_id (by omega) (by omega)]; exact hal.2
  try simp only [kon, knt_some, knt_none, Option.toList_some, Option.toList_none, List.cons_append, List.nil_append]
  refine (s71_9 (by first | decide | assumption | omega)).mpr ?_
  refine s71_12.mpr ?_
  refine (s71_13 (by first | decide | assumption | omega)).mpr ?_
  refine s71_16.mpr (s71_17.mpr ?_)
  try simp (disch := first | decide | assumption | omega) only [s1]
  refine (s71_18).mpr ?_
  first | exact E0 | (rw [e16, ef]; exact E0)
set_option maxRecDepth 8000 in
theorem x_process (hR : RelC T NN al0 hi0 hr0 (fun _ => False) A al hi hr s) (hP : AllP s) (hBs : Bs T NN al0 hi0 hr0) (hI : INV T s) (hd : 6 ≤ d) (q : ∀ v A' hi' hr', v = (if 0 ≤ p ∧ p < s 49 56 then prF s p w else -1) → RelC T NN al0 hi0 hr0 (fun _ => False) A' al hi' hr' s → Q (some (some (vI v))) al hi' hr') : Ev d 195 [vR (some 2), vI p, vI w] al hi hr Q := by
  have hA := hR.1.1
  have hC := hR.1.2.1
  have k2 : isK al 2 12 := hA.k (by decide) (by decide) rfl
  have k26 : isK al 26 6 := hA.k (by decide) (by decide) rfl
  have g8 := cr_2_8 hC
  have g56 := hI.2.1.2.2.2.2.1
  rw [e195]
  by_cases k : 0 ≤ p ∧ p < s 49 56
  case neg =>
    have E0 := q (-1) A hi hr (by rw [if_neg k]) hR
    refine s195_0.mpr ?_
    refine (s195_1 (by first | decide | assumption | omega)).mpr ?_
    refine s195_4.mpr ?_
    try simp (disch := first | decide | assumption | omega) only [g8]
    refine (s195_5 (by first | decide | assumption | omega) (by first | decide | assumption | omega)).mpr ?_
    refine x5_taskAt hR g56.2 (fun _ => ?_) (fun t z1 z2 _ _ => absurd ⟨z1, z2⟩ k)
    simp only [kon, knt_some, knt_none, Option.toList_some, Option.toList_none, List.cons_append, List.nil_append]
    refine s195_8.mpr (s195_9.mpr ?_)
    refine s195_10.mpr (wif (fun c10 => ?_) (fun c10 => ?_))
    · skip
      refine s195_13.mpr ?_
      refine (s195_14).mpr ?_
      exact E0
    · skip
      exact absurd rfl (by assumption)
  rw [if_pos k] at q
  have p12 : 0 ≤ p ∧ p < 12 := by omega
  obtain ⟨t, ht, e0, e2, e3, e4, e5, e6⟩ := hR.2.2.2.2.2.1 p p12.1 p12.2 k.2
  have k9 := (hR.2.2.2.2.1.1 p t p12.1 p12.2 ht).1.1.2
  by_cases c : s 89 p < 4
  case neg =>
    refine s195_0.mpr ?_
    refine (s195_1 (by first | decide | assumption | omega)).mpr ?_
    refine s195_4.mpr ?_
    try simp (disch := first | decide | assumption | omega) only [g8, e2, e3, e4, e5, e6]
    refine (s195_5 (by first | decide | assumption | omega) (by first | decide | assumption | omega)).mpr ?_
    refine x5_taskAt hR g56.2 (fun z => absurd k z) (fun t' z1 z2 z3 _ => ?_)
    rw [ht] at z3; cases z3
    simp only [kon, knt_some, knt_none, Option.toList_some, Option.toList_none, List.cons_append, List.nil_append]
    refine s195_8.mpr (s195_9.mpr ?_)
    refine s195_10.mpr (wif (fun c10 => ?_) (fun c10 => ?_))
    · skip
      exfalso; simp at c10
    · skip
      refine s195_15.mpr ?_
      refine g195_16 (fun c16 => ?_) (fun c16 => ?_) (fun c16 => ?_) (fun c16 => ?_) (fun c16 => ?_) (fun c16 => ?_) (fun c16 => ?_)
      · skip
        have c16 := List.mem_singleton.mp c16
        refine s195_72.mpr ?_
        refine (s195_73 (by first | decide | assumption | omega)).mpr ?_
        try simp (disch := first | decide | assumption | omega) only [g8, e2, e3, e4, e5, e6]
        refine (s195_76).mpr ?_
        first | exact q _ A hi hr (prF_0 c16).symm hR | exact q _ A hi hr (prF_1 c16).symm hR | exact q _ A hi hr (prF_2 c16).symm hR | exact q _ A hi hr (prF_8 c16).symm hR | exact q _ A hi hr (prF_9 c16).symm hR | exact q _ A hi hr (prF_n c16).symm hR | exact q _ A hi hr (prF_o (by simp only [List.mem_cons, List.not_mem_nil, or_false] at c16; omega) c).symm hR
      · skip
        have c16 := List.mem_singleton.mp c16
        refine s195_77.mpr ?_
        refine (s195_78 (by first | decide | assumption | omega)).mpr ?_
        try simp (disch := first | decide | assumption | omega) only [g8, e2, e3, e4, e5, e6]
        refine (s195_81).mpr ?_
        first | exact q _ A hi hr (prF_0 c16).symm hR | exact q _ A hi hr (prF_1 c16).symm hR | exact q _ A hi hr (prF_2 c16).symm hR | exact q _ A hi hr (prF_8 c16).symm hR | exact q _ A hi hr (prF_9 c16).symm hR | exact q _ A hi hr (prF_n c16).symm hR | exact q _ A hi hr (prF_o (by simp only [List.mem_cons, List.not_mem_nil, or_false] at c16; omega) c).symm hR
      · skip
        have c16 := List.mem_singleton.mp c16
        refine s195_82.mpr ?_
        refine (s195_83 (by first | decide | assumption | omega)).mpr ?_
        try simp (disch := first | decide | assumption | omega) only [g8, e2, e3, e4, e5, e6]
        refine (s195_86).mpr ?_
        first | exact q _ A hi hr (prF_0 c16).symm hR | exact q _ A hi hr (prF_1 c16).symm hR | exact q _ A hi hr (prF_2 c16).symm hR | exact q _ A hi hr (prF_8 c16).symm hR | exact q _ A hi hr (prF_9 c16).symm hR | exact q _ A hi hr (prF_n c16).symm hR | exact q _ A hi hr (prF_o (by simp only [List.mem_cons, List.not_mem_nil, or_false] at c16; omega) c).symm hR
      · skip
        refine s195_87.mpr ?_
        refine (s195_88 (by first | decide | assumption | omega) (by first | decide | assumption | omega)).mpr ?_
        refine t_isOver1 k9 (by rw [e4]; omega) ?_
        simp only [kon, knt_some, knt_none, Option.toList_some, Option.toList_none, List.cons_append, List.nil_append]
        refine s195_91.mpr (wif (fun c91 => ?_) (fun c91 => ?_))
        · skip
          exact absurd ‹(1 : Int) = 0› (by decide)
        · skip
          refine s195_94.mpr (s195_95.mpr ?_)
          refine (s195_104).mpr ?_
          first | exact q _ A hi hr (prF_0 c16).symm hR | exact q _ A hi hr (prF_1 c16).symm hR | exact q _ A hi hr (prF_2 c16).symm hR | exact q _ A hi hr (prF_8 c16).symm hR | exact q _ A hi hr (prF_9 c16).symm hR | exact q _ A hi hr (prF_n c16).symm hR | exact q _ A hi hr (prF_o (by simp only [List.mem_cons, List.not_mem_nil, or_false] at c16; omega) c).symm hR
      · skip
        have c16 := List.mem_singleton.mp c16
        refine s195_105.mpr ?_
        refine (s195_106 (by first | decide | assumption | omega)).mpr ?_
        try simp (disch := first | decide | assumption | omega) only [g8, e2, e3, e4, e5, e6]
        refine (s195_109).mpr ?_
        first | exact q _ A hi hr (prF_0 c16).symm hR | exact q _ A hi hr (prF_1 c16).symm hR | exact q _ A hi hr (prF_2 c16).symm hR | exact q _ A hi hr (prF_8 c16).symm hR | exact q _ A hi hr (prF_9 c16).symm hR | exact q _ A hi hr (prF_n c16).symm hR | exact q _ A hi hr (prF_o (by simp only [List.mem_cons, List.not_mem_nil, or_false] at c16; omega) c).symm hR
      · skip
        have c16 := List.mem_singleton.mp c16
        refine s195_110.mpr ?_
        refine (s195_111 (by first | decide | assumption | omega)).mpr ?_
        try simp (disch := first | decide | assumption | omega) only [g8, e2, e3, e4, e5, e6]
        refine (s195_114).mpr ?_
        first | exact q _ A hi hr (prF_0 c16).symm hR | exact q _ A hi hr (prF_1 c16).symm hR | exact q _ A hi hr (prF_2 c16).symm hR | exact q _ A hi hr (prF_8 c16).symm hR | exact q _ A hi hr (prF_9 c16).symm hR | exact q _ A hi hr (prF_n c16).symm hR | exact q _ A hi hr (prF_o (by simp only [List.mem_cons, List.not_mem_nil, or_false] at c16; omega) c).symm hR
      · skip
        refine s195_115.mpr ?_
        refine (s195_116).mpr ?_
        first | exact q _ A hi hr (prF_0 c16).symm hR | exact q _ A hi hr (prF_1 c16).symm hR | exact q _ A hi hr (prF_2 c16).symm hR | exact q _ A hi hr (prF_8 c16).symm hR | exact q _ A hi hr (prF_9 c16).symm hR | exact q _ A hi hr (prF_n c16).symm hR | exact q _ A hi hr (prF_o (by simp only [List.mem_cons, List.not_mem_nil, or_false] at c16; omega) c).symm hR
  obtain ⟨y1, y2, y3, y4⟩ := hP p p12.1 p12.2 c
  have hO : OnP hr s p t := ⟨p12, ht, c, y1, y2, y3, y4⟩
  obtain ⟨m, f, X, x, fl, L, -⟩ := lkp_of hI p12 c
  have e7 : hi t 7 = s 94 p := (hR.tf hO).2.1.2.1.1
  have OF : ∀ Q' : QQ, (3 ≤ w ∧ w ≤ 7) → (∀ v A' hi' hr', v = prF s p w → RelC T NN al0 hi0 hr0 (fun _ => False) A' al hi' hr' s → Q' (some (some (vI v))) al hi' hr') → Ev (d - 1) 203 [vR (some 2), vR (some t), vI w] al hi hr Q' := by
    intro Q' hw q'
    rw [e203]
    refine s203_0.mpr ?_
    refine g203_1 (fun c1 => ?_) (fun c1 => ?_) (fun c1 => ?_) (fun c1 => ?_) (fun c1 => ?_)
    · skip
      have c1 := List.mem_singleton.mp c1
      refine s203_32.mpr ?_
      refine (s203_33 (by first | decide | assumption | omega) (by first | decide | assumption | omega)).mpr ?_
      refine t_function hR hO ?_
      simp only [kon, knt_some, knt_none, Option.toList_some, Option.toList_none, List.cons_append, List.nil_append]
      refine (s203_36).mpr ?_
      first | exact q' _ A hi hr (prF_3 c1 c).symm hR | exact q' _ A hi hr (prF_4 c1 c).symm hR | exact q' _ A hi hr (prF_5 c1 c).symm hR | exact q' _ A hi hr (prF_6 c1 c).symm hR | exact q' _ A' hi' hr' (prF_7 (by omega) c).symm hR'
    · skip
      have c1 := List.mem_singleton.mp c1
      refine s203_37.mpr ?_
      refine (s203_38 (by first | decide | assumption | omega) (by first | decide | assumption | omega)).mpr ?_
      refine t_place hR hO ?_
      simp only [kon, knt_some, knt_none, Option.toList_some, Option.toList_none, List.cons_append, List.nil_append]
      refine (s203_41).mpr ?_
      first | exact q' _ A hi hr (prF_3 c1 c).symm hR | exact q' _ A hi hr (prF_4 c1 c).symm hR | exact q' _ A hi hr (prF_5 c1 c).symm hR | exact q' _ A hi hr (prF_6 c1 c).symm hR | exact q' _ A' hi' hr' (prF_7 (by omega) c).symm hR'
    · skip
      have c1 := List.mem_singleton.mp c1
      refine s203_42.mpr ?_
      refine (s203_43 (by first | decide | assumption | omega)).mpr ?_
      try simp (disch := first | decide | assumption | omega) only [g8, e7]
      refine (s203_46).mpr ?_
      first | exact q' _ A hi hr (prF_3 c1 c).symm hR | exact q' _ A hi hr (prF_4 c1 c).symm hR | exact q' _ A hi hr (prF_5 c1 c).symm hR | exact q' _ A hi hr (prF_6 c1 c).symm hR | exact q' _ A' hi' hr' (prF_7 (by omega) c).symm hR'
    · skip
      have c1 := List.mem_singleton.mp c1
      refine s203_47.mpr ?_
      refine (s203_48 (by first | decide | assumption | omega) (by first | decide | assumption | omega)).mpr ?_
      refine t_height hR hO ?_
      simp only [kon, knt_some, knt_none, Option.toList_some, Option.toList_none, List.cons_append, List.nil_append]
      refine (s203_51).mpr ?_
      first | exact q' _ A hi hr (prF_3 c1 c).symm hR | exact q' _ A hi hr (prF_4 c1 c).symm hR | exact q' _ A hi hr (prF_5 c1 c).symm hR | exact q' _ A hi hr (prF_6 c1 c).symm hR | exact q' _ A' hi' hr' (prF_7 (by omega) c).symm hR'
    · skip
      refine s203_52.mpr ?_
      refine (s203_53 (by first | decide | assumption | omega)).mpr ?_
      refine s203_56.mpr ?_
      try simp (disch := first | decide | assumption | omega) only [g8, e7]
      refine (s203_57 (by first | decide | assumption | omega) (by first | decide | assumption | omega)).mpr ?_
      refine x5_reachedBy hR hP hBs hI hO L.1 (by omega) (fun A' hi' hr' hR' => ?_)
      simp only [List.mem_cons, List.not_mem_nil, or_false, not_or] at c1
      simp only [kon, knt_some, knt_none, Option.toList_some, Option.toList_none, List.cons_append, List.nil_append]
      refine (s203_60).mpr ?_
      first | exact q' _ A hi hr (prF_3 c1 c).symm hR | exact q' _ A hi hr (prF_4 c1 c).symm hR | exact q' _ A hi hr (prF_5 c1 c).symm hR | exact q' _ A hi hr (prF_6 c1 c).symm hR | exact q' _ A' hi' hr' (prF_7 (by omega) c).symm hR'
  refine s195_0.mpr ?_
  refine (s195_1 (by first | decide | assumption | omega)).mpr ?_
  refine s195_4.mpr ?_
  try simp (disch := first | decide | assumption | omega) only [g8, e2, e3, e4, e5, e6]
  refine (s195_5 (by first | decide | assumption | omega) (by first | decide | assumption | omega)).mpr ?_
  refine x5_taskAt hR g56.2 (fun z => absurd k z) (fun t' z1 z2 z3 _ => ?_)
  rw [ht] at z3; cases z3
  simp only [kon, knt_some, knt_none, Option.toList_some, Option.toList_none, List.cons_append, List.nil_append]
  refine s195_8.mpr (s195_9.mpr ?_)
  refine s195_10.mpr (wif (fun c10 => ?_) (fun c10 => ?_))
  · skip
    exfalso; simp at c10
  · skip
    refine s195_15.mpr ?_
    refine g195_16 (fun c16 => ?_) (fun c16 => ?_) (fun c16 => ?_) (fun c16 => ?_) (fun c16 => ?_) (fun c16 => ?_) (fun c16 => ?_)
    · skip
      have c16 := List.mem_singleton.mp c16
      refine s195_72.mpr ?_
      refine (s195_73 (by first | decide | assumption | omega)).mpr ?_
      try simp (disch := first | decide | assumption | omega) only [g8, e2, e3, e4, e5, e6]
      refine (s195_76).mpr ?_
      first | exact q _ A hi hr (prF_0 c16).symm hR | exact q _ A hi hr (prF_1 c16).symm hR | exact q _ A hi hr (prF_2 c16).symm hR | exact q _ A hi hr (prF_8 c16).symm hR | exact q _ A hi hr (prF_9 c16).symm hR | exact q _ A hi hr (prF_n c16).symm hR | exact q _ A' hi' hr' ev hR'
    · skip
      have c16 := List.mem_singleton.mp c16
      refine s195_77.mpr ?_
      refine (s195_78 (by first | decide | assumption | omega)).mpr ?_
      try simp (disch := first | decide | assumption | omega) only [g8, e2, e3, e4, e5, e6]
      refine (s195_81).mpr ?_
      first | exact q _ A hi hr (prF_0 c16).symm hR | exact q _ A hi hr (prF_1 c16).symm hR | exact q _ A hi hr (prF_2 c16).symm hR | exact q _ A hi hr (prF_8 c16).symm hR | exact q _ A hi hr (prF_9 c16).symm hR | exact q _ A hi hr (prF_n c16).symm hR | exact q _ A' hi' hr' ev hR'
    · skip
      have c16 := List.mem_singleton.mp c16
      refine s195_82.mpr ?_
      refine (s195_83 (by first | decide | assumption | omega)).mpr ?_
      try simp (disch := first | decide | assumption | omega) only [g8, e2, e3, e4, e5, e6]
      refine (s195_86).mpr ?_
      first | exact q _ A hi hr (prF_0 c16).symm hR | exact q _ A hi hr (prF_1 c16).symm hR | exact q _ A hi hr (prF_2 c16).symm hR | exact q _ A hi hr (prF_8 c16).symm hR | exact q _ A hi hr (prF_9 c16).symm hR | exact q _ A hi hr (prF_n c16).symm hR | exact q _ A' hi' hr' ev hR'
    · skip
      refine s195_87.mpr ?_
      refine (s195_88 (by first | decide | assumption | omega) (by first | decide | assumption | omega)).mpr ?_
      refine t_isOver hR hO ?_
      simp only [kon, knt_some, knt_none, Option.toList_some, Option.toList_none, List.cons_append, List.nil_append]
      refine s195_91.mpr (wif (fun c91 => ?_) (fun c91 => ?_))
      · skip
        refine s195_98.mpr (s195_99.mpr (s195_100.mpr ?_))
        refine (s195_101 (by first | decide | assumption | omega) (by first | decide | assumption | omega)).mpr ?_
        refine OF _ (by simp only [List.mem_cons, List.not_mem_nil, or_false] at c16; omega) (fun v A' hi' hr' ev hR' => ?_)
        simp only [kon, knt_some, knt_none, Option.toList_some, Option.toList_none, List.cons_append, List.nil_append]
        refine (s195_104).mpr ?_
        first | exact q _ A hi hr (prF_0 c16).symm hR | exact q _ A hi hr (prF_1 c16).symm hR | exact q _ A hi hr (prF_2 c16).symm hR | exact q _ A hi hr (prF_8 c16).symm hR | exact q _ A hi hr (prF_9 c16).symm hR | exact q _ A hi hr (prF_n c16).symm hR | exact q _ A' hi' hr' ev hR'
      · skip
        exact absurd rfl (by assumption)
    · skip
      have c16 := List.mem_singleton.mp c16
      refine s195_105.mpr ?_
      refine (s195_106 (by first | decide | assumption | omega)).mpr ?_
      try simp (disch := first | decide | assumption | omega) only [g8, e2, e3, e4, e5, e6]
      refine (s195_109).mpr ?_
      first | exact q _ A hi hr (prF_0 c16).symm hR | exact q _ A hi hr (prF_1 c16).symm hR | exact q _ A hi hr (prF_2 c16).symm hR | exact q _ A hi hr (prF_8 c16).symm hR | exact q _ A hi hr (prF_9 c16).symm hR | exact q _ A hi hr (prF_n c16).symm hR | exact q _ A' hi' hr' ev hR'
    · skip
      have c16 := List.mem_singleton.mp c16
      refine s195_110.mpr ?_
      refine (s195_111 (by first | decide | assumption | omega)).mpr ?_
      try simp (disch := first | decide | assumption | omega) only [g8, e2, e3, e4, e5, e6]
      refine (s195_114).mpr ?_
      first | exact q _ A hi hr (prF_0 c16).symm hR | exact q _ A hi hr (prF_1 c16).symm hR | exact q _ A hi hr (prF_2 c16).symm hR | exact q _ A hi hr (prF_8 c16).symm hR | exact q _ A hi hr (prF_9 c16).symm hR | exact q _ A hi hr (prF_n c16).symm hR | exact q _ A' hi' hr' ev hR'
    · skip
      refine s195_115.mpr ?_
      refine (s195_116).mpr ?_
      first | exact q _ A hi hr (prF_0 c16).symm hR | exact q _ A hi hr (prF_1 c16).symm hR | exact q _ A hi hr (prF_2 c16).symm hR | exact q _ A hi hr (prF_8 c16).symm hR | exact q _ A hi hr (prF_9 c16).symm hR | exact q _ A hi hr (prF_n c16).symm hR | exact q _ A' hi' hr' ev hR'
theorem x_processU (hA : SA al) (hC : CR hr) (h28 : ∀ q, 0 ≤ q → q < 12 → hi 28 q = 0) (hd : 2 ≤ d) (q : Q (some (some (vI (-1)))) al hi hr) : Ev d 195 [vR (some 2), vI p, vI w] al hi hr Q := by
  have k2 : isK al 2 12 := hA.k (by decide) (by decide) rfl
  have k26 : isK al 26 6 := hA.k (by decide) (by decide) rfl
  have g8 := cr_2_8 hC
  rw [e195]
  refine s195_0.mpr ?_
  refine (s195_1 (by first | decide | assumption | omega)).mpr ?_
  refine s195_4.mpr ?_
  try simp (disch := first | decide | assumption | omega) only [g8]
  refine (s195_5 (by first | decide | assumption | omega) (by first | decide | assumption | omega)).mpr ?_
  refine x5_taskAtU hA hC h28 ?_
  simp only [kon, knt_some, knt_none, Option.toList_some, Option.toList_none, List.cons_append, List.nil_append]
  refine s195_8.mpr (s195_9.mpr ?_)
  refine s195_10.mpr (wif (fun c10 => ?_) (fun c10 => ?_))
  · skip
    refine s195_13.mpr ?_
    refine (s195_14).mpr ?_
    exact q
  · skip
    exact absurd rfl (by assumption)
/-- value -/
theorem t_shown {k y : Int} (hR : RelC T NN al0 hi0 hr0 E A al hi hr s) (hO : OnP hr s p t) (hd : 1 ≤ d) (k0 : 0 ≤ k) (k1 : k < 10 + hg s p) (hy : slt k = y) (h0 : s 99 (26 * ai s p + k) = 1 → 0 ≤ s 98 (26 * ai s p + k)) (q : Q (some (some (vI (if s 99 (26 * ai s p + k) = 1 then (if 0 < s 98 (26 * ai s p + k) then 1 else 0) else s 98 (26 * ai s p + k))))) al hi hr) : Ev d 133 [vR (some t), vI y] al hi hr Q := by
  have k9 := (hR.tf hO).1.1.2
  obtain ⟨c, -, hH⟩ := (hR.tf hO).2.1.2.2.2.2
  subst hy
  have hpl : pl s p (26 * ai s p + k) := ⟨ai s p, k, by have := hO.2.2.2.1; unfold ai; omega, Int.le_refl _, k0, k1, rfl⟩
  have hA := hH.2.2.2 _ hpl
  obtain ⟨z, hz⟩ : ∃ z, 26 * ai s p + k = z := ⟨_, rfl⟩
  have NI := fun Q' => t_numberIn (d := d - 1) (Q := Q') hR hO k0 k1
  have KI := fun Q' => t_kindIn (d := d - 1) (Q := Q') hR hO k0 k1
  rw [hz] at q h0 NI KI hA
  obtain ⟨y, hy⟩ : ∃ y, slt k = y := ⟨_, rfl⟩
  rw [hy] at NI KI ⊢
  rw [e133]
  by_cases c1 : s 99 z = 1
  · rw [if_pos c1] at q
    have hA := hA c1
    have h0 := h0 c1
    have ev : vm A p (s 98 z) (s 99 z) = if s 98 z = 0 then 0 else A p (s 98 z) := by unfold vm; rw [if_pos c1]
    have ek : kmp (s 99 z) = 1 := kmp_1.mpr c1
    rw [ev] at NI
    rw [ek] at KI
    by_cases c2 : s 98 z = 0
    · rw [if_neg (by omega)] at q
      rw [if_pos c2] at NI
      refine s133_0.mpr (s133_1.mpr ?_)
      refine (s133_2 (by first | decide | assumption | omega) (by first | decide | assumption | omega)).mpr ?_
      refine NI _ ?_
      simp only [kon, knt_some, knt_none, Option.toList_some, Option.toList_none, List.cons_append, List.nil_append]
      refine s133_5.mpr (s133_6.mpr (s133_7.mpr ?_))
      refine (s133_8 (by first | decide | assumption | omega) (by first | decide | assumption | omega)).mpr ?_
      refine KI _ ?_
      simp only [kon, knt_some, knt_none, Option.toList_some, Option.toList_none, List.cons_append, List.nil_append]
      refine s133_11.mpr ?_
      refine s133_12.mpr (wif (fun c12 => ?_) (fun c12 => ?_))
      · skip
        refine s133_15.mpr ?_
        refine s133_16.mpr (wif (fun c16 => ?_) (fun c16 => ?_))
        · skip
          refine s133_19.mpr (s133_20.mpr ?_)
          refine (s133_28).mpr ?_
          exact q
        · skip
          exact absurd rfl (by assumption)
      · skip
        exact absurd rfl (by assumption)
    · rw [if_pos (by omega)] at q
      rw [if_neg c2] at NI
      have hA := hA c2
      refine s133_0.mpr (s133_1.mpr ?_)
      refine (s133_2 (by first | decide | assumption | omega) (by first | decide | assumption | omega)).mpr ?_
      refine NI _ ?_
      simp only [kon, knt_some, knt_none, Option.toList_some, Option.toList_none, List.cons_append, List.nil_append]
      refine s133_5.mpr (s133_6.mpr (s133_7.mpr ?_))
      refine (s133_8 (by first | decide | assumption | omega) (by first | decide | assumption | omega)).mpr ?_
      refine KI _ ?_
      simp only [kon, knt_some, knt_none, Option.toList_some, Option.toList_none, List.cons_append, List.nil_append]
      refine s133_11.mpr ?_
      refine s133_12.mpr (wif (fun c12 => ?_) (fun c12 => ?_))
      · skip
        refine s133_15.mpr ?_
        refine s133_16.mpr (wif (fun c16 => ?_) (fun c16 => ?_))
        · skip
          exact absurd (by assumption) hA
        · skip
          refine s133_23.mpr (s133_24.mpr ?_)
          refine (s133_28).mpr ?_
          exact q
      · skip
        exact absurd rfl (by assumption)
  · rw [if_neg c1] at q
    have ev : vm A p (s 98 z) (s 99 z) = s 98 z := by unfold vm; rw [if_neg c1]
    have ek : kmp (s 99 z) ≠ 1 := fun y => c1 (kmp_1.mp y)
    rw [ev] at NI
    refine s133_0.mpr (s133_1.mpr ?_)
    refine (s133_2 (by first | decide | assumption | omega) (by first | decide | assumption | omega)).mpr ?_
    refine NI _ ?_
    simp only [kon, knt_some, knt_none, Option.toList_some, Option.toList_none, List.cons_append, List.nil_append]
    refine s133_5.mpr (s133_6.mpr (s133_7.mpr ?_))
    refine (s133_8 (by first | decide | assumption | omega) (by first | decide | assumption | omega)).mpr ?_
    refine KI _ ?_
    simp only [kon, knt_some, knt_none, Option.toList_some, Option.toList_none, List.cons_append, List.nil_append]
    refine s133_11.mpr ?_
    refine s133_12.mpr (wif (fun c12 => ?_) (fun c12 => ?_))
    · skip
      exact absurd (by assumption) ek
    · skip
      refine s133_27.mpr ?_
      refine (s133_28).mpr ?_
      exact q
set_option maxRecDepth 8000 in
theorem x_value (hR : RelC T NN al0 hi0 hr0 (fun _ => False) A al hi hr s) (hP : AllP s) (hBs : Bs T NN al0 hi0 hr0) (hI : INV T s) (hd : 6 ≤ d) (q : ∀ v, (VaO T s p w i → v = vaF s p w i) → (¬ VaO T s p w i → v = -2147483648) → Q (some (some (vI v))) al hi hr) : Ev d 196 [vR (some 2), vI p, vI w, vI i] al hi hr Q := by
  have hA := hR.1.1
  have hC := hR.1.2.1
  have k2 : isK al 2 12 := hA.k (by decide) (by decide) rfl
  have k26 : isK al 26 6 := hA.k (by decide) (by decide) rfl
  have g8 := cr_2_8 hC
  have g56 := hI.2.1.2.2.2.2.1
  rw [e196]
  by_cases k : 0 ≤ p ∧ p < s 49 56
  case neg =>
    have E0 := q (-2147483648) (fun z => absurd z.1 k) (fun _ => rfl)
    refine s196_0.mpr ?_
    refine (s196_1 (by first | decide | assumption | omega)).mpr ?_
    refine s196_4.mpr ?_
    try simp (disch := first | decide | assumption | omega) only [g8]
    refine (s196_5 (by first | decide | assumption | omega) (by first | decide | assumption | omega)).mpr ?_
    refine x5_taskAt hR g56.2 (fun _ => ?_) (fun t z1 z2 _ _ => absurd ⟨z1, z2⟩ k)
    simp only [kon, knt_some, knt_none, Option.toList_some, Option.toList_none, List.cons_append, List.nil_append]
    refine s196_8.mpr (s196_10.mpr ?_)
    refine s196_12.mpr (wif (fun c12 => ?_) (fun c12 => ?_))
    · skip
      refine s196_27.mpr ?_
      refine (s196_29).mpr ?_
      exact E0
    · skip
      exact absurd rfl (by assumption)
  have p12 : 0 ≤ p ∧ p < 12 := by omega
  obtain ⟨t, ht, e0, e2, e3, e4, e5, e6⟩ := hR.2.2.2.2.2.1 p p12.1 p12.2 k.2
  have k9 := (hR.2.2.2.2.1.1 p t p12.1 p12.2 ht).1.1.2
  by_cases c : s 89 p < 4
  case neg =>
    have E0 := q (-2147483648) (fun z => absurd z.2.1 c) (fun _ => rfl)
    refine s196_0.mpr ?_
    refine (s196_1 (by first | decide | assumption | omega)).mpr ?_
    refine s196_4.mpr ?_
    try simp (disch := first | decide | assumption | omega) only [g8]
    refine (s196_5 (by first | decide | assumption | omega) (by first | decide | assumption | omega)).mpr ?_
    refine x5_taskAt hR g56.2 (fun z => absurd k z) (fun t' z1 z2 z3 _ => ?_)
    rw [ht] at z3; cases z3
    simp only [kon, knt_some, knt_none, Option.toList_some, Option.toList_none, List.cons_append, List.nil_append]
    refine s196_8.mpr (s196_10.mpr ?_)
    refine s196_12.mpr (wif (fun c12 => ?_) (fun c12 => ?_))
    · skip
      refine s196_27.mpr (s196_29.mpr ?_); exact E0
    · skip
      refine s196_15.mpr ?_
      refine (s196_17 (by first | decide | assumption | omega) (by first | decide | assumption | omega)).mpr ?_
      refine t_isOver1 k9 (by rw [e4]; omega) ?_
      simp only [kon, knt_some, knt_none, Option.toList_some, Option.toList_none, List.cons_append, List.nil_append]
      refine s196_20.mpr (wif (fun c20 => ?_) (fun c20 => ?_))
      · skip
        exact absurd ‹(1 : Int) = 0› (by decide)
      · skip
        refine s196_27.mpr (s196_29.mpr ?_); exact E0
  obtain ⟨y1, y2, y3, y4⟩ := hP p p12.1 p12.2 c
  have hO : OnP hr s p t := ⟨p12, ht, c, y1, y2, y3, y4⟩
  obtain ⟨m, f, X, x, fl, L, ⟨l1, l2, l3, l4, l5, -⟩, -⟩ := lkp_of hI p12 c
  have hS := L.1.mg.2.1.2.1
  have f0 := L.1.2.2.2.2.1.1
  have n10 : nLoc (T m) f ≤ 10 := (hS.2.2.2.2.2.2.2.2.2.2 f f0.1 f0.2).2.2.2.2.2.2.2.2.1
  have eV : VaO T s p w i ↔ (w = 0 ∨ w = 1) ∧ 0 ≤ i ∧ (w = 0 → i < hg s p) ∧ (w = 1 → i < nLoc (T m) f) := by
    unfold VaO
    rw [l2, l4]
    exact ⟨fun z => z.2.2, fun z => ⟨k, c, z⟩⟩
  have hX := L.1.2.2.2.2.2.1
  have hh9 := L.1.2.hg_
  have aib := l1.b
  -- boxes are not below 0
  have bx : ∀ j, 0 ≤ j → j < 10 + hg s p → s 99 (26 * ai s p + j) = 1 → 0 ≤ s 98 (26 * ai s p + j) := fun j j0 j1 w1 => by
    obtain ⟨ty, hv⟩ := L.1.2.any (i := 26 * ai s p + j) ⟨ai s p, j, by have := hO.2.2.2.1; unfold ai; omega, Int.le_refl _, j0, j1, rfl⟩
    rcases hv.w1 w1 with z | z
    · omega
    · omega
  have ISO : Ev (d - 1) 117 [vR (some t)] al hi hr (kon d 196 17 20 [vR (some 2), vI p, vI w, vI i, vR (some t)] [] Q) := by
    refine t_isOver hR hO ?_
    simp only [kon, knt_some, knt_none, Option.toList_some, Option.toList_none, List.cons_append, List.nil_append]
    by_cases i0 : 0 ≤ i
    case neg =>
      have E0 := q (-2147483648) (fun z => absurd (eV.mp z).2.1 i0) (fun _ => rfl)
      refine s196_20.mpr (wif (fun c20 => ?_) (fun c20 => ?_))
      · first
        | (exfalso; omega)
        | skip
          refine s196_23.mpr ?_
          refine s196_24.mpr (wif (fun c24 => ?_) (fun c24 => ?_))
          · first
            | (exfalso; omega)
            | skip
              refine s196_27.mpr ?_
              refine (s196_29).mpr ?_
              exact E0
          · first
            | (exfalso; omega)
            | skip
              exfalso; omega
      · first
        | (exfalso; omega)
        | skip
          refine s196_27.mpr ?_
          refine (s196_29).mpr ?_
          exact E0
    by_cases w0 : w = 0
    · by_cases ik : i < hg s p
      · have E0 := q _ (fun _ => rfl) (fun z => absurd (eV.mpr ⟨Or.inl w0, i0, fun _ => ik, fun y => by omega⟩) z)
        unfold vaF at E0
        have eP : vaP s p w i = 26 * ai s p + (10 + i) := by unfold vaP sk; rw [if_pos w0]; omega
        rw [eP] at E0
        refine s196_20.mpr (wif (fun c20 => ?_) (fun c20 => ?_))
        · first
          | (exfalso; omega)
          | skip
            refine s196_23.mpr ?_
            refine s196_24.mpr (wif (fun c24 => ?_) (fun c24 => ?_))
            · first
              | (exfalso; omega)
              | skip
                exfalso; omega
            · first
              | (exfalso; omega)
              | skip
                refine s196_30.mpr ?_
                refine s196_31.mpr (wif (fun c31 => ?_) (fun c31 => ?_))
                · first
                  | (exfalso; omega)
                  | skip
                    refine s196_34.mpr (s196_35.mpr ?_)
                    refine (s196_37 (by first | decide | assumption | omega) (by first | decide | assumption | omega)).mpr ?_
                    refine t_height hR hO ?_
                    simp only [kon, knt_some, knt_none, Option.toList_some, Option.toList_none, List.cons_append, List.nil_append]
                    refine s196_40.mpr (wif (fun c40 => ?_) (fun c40 => ?_))
                    · first
                      | (exfalso; omega)
                      | skip
                        refine s196_43.mpr (s196_45.mpr ?_)
                        refine (s196_46 (by first | decide | assumption | omega) (by first | decide | assumption | omega)).mpr ?_
                        refine t_shown (k := 10 + i) hR hO (by omega) (by omega) (by omega) (slt_s i0) (bx _ (by omega) (by omega)) ?_
                        simp only [kon, knt_some, knt_none, Option.toList_some, Option.toList_none, List.cons_append, List.nil_append]
                        refine (s196_49).mpr ?_
                        exact E0
                    · first
                      | (exfalso; omega)
                      | skip
                        exfalso; omega
                · first
                  | (exfalso; omega)
                  | skip
                    exfalso; omega
        · first
          | (exfalso; omega)
          | skip
            exfalso; omega
      · have E0 := q (-2147483648) (fun z => absurd ((eV.mp z).2.2.1 w0) ik) (fun _ => rfl)
        refine s196_20.mpr (wif (fun c20 => ?_) (fun c20 => ?_))
        · first
          | (exfalso; omega)
          | skip
            refine s196_23.mpr ?_
            refine s196_24.mpr (wif (fun c24 => ?_) (fun c24 => ?_))
            · first
              | (exfalso; omega)
              | skip
                exfalso; omega
            · first
              | (exfalso; omega)
              | skip
                refine s196_30.mpr ?_
                refine s196_31.mpr (wif (fun c31 => ?_) (fun c31 => ?_))
                · first
                  | (exfalso; omega)
                  | skip
                    refine s196_34.mpr (s196_35.mpr ?_)
                    refine (s196_37 (by first | decide | assumption | omega) (by first | decide | assumption | omega)).mpr ?_
                    refine t_height hR hO ?_
                    simp only [kon, knt_some, knt_none, Option.toList_some, Option.toList_none, List.cons_append, List.nil_append]
                    refine s196_40.mpr (wif (fun c40 => ?_) (fun c40 => ?_))
                    · first
                      | (exfalso; omega)
                      | skip
                        exfalso; omega
                    · first
                      | (exfalso; omega)
                      | skip
                        refine s196_50.mpr (s196_51.mpr ?_)
                        refine s196_52.mpr (wif (fun c52 => ?_) (fun c52 => ?_))
                        · first
                          | (exfalso; omega)
                          | skip
                            exfalso; omega
                        · first
                          | (exfalso; omega)
                          | skip
                            refine s196_74.mpr ?_
                            refine (s196_76).mpr ?_
                            exact E0
                · first
                  | (exfalso; omega)
                  | skip
                    refine s196_50.mpr (s196_51.mpr ?_)
                    refine s196_52.mpr (wif (fun c52 => ?_) (fun c52 => ?_))
                    · first
                      | (exfalso; omega)
                      | skip
                        exfalso; omega
                    · first
                      | (exfalso; omega)
                      | skip
                        refine s196_74.mpr ?_
                        refine (s196_76).mpr ?_
                        exact E0
        · first
          | (exfalso; omega)
          | skip
            exfalso; omega
    by_cases w1 : w = 1
    case neg =>
      have E0 := q (-2147483648) (fun z => by have := (eV.mp z).1; omega) (fun _ => rfl)
      refine s196_20.mpr (wif (fun c20 => ?_) (fun c20 => ?_))
      · first
        | (exfalso; omega)
        | skip
          refine s196_23.mpr ?_
          refine s196_24.mpr (wif (fun c24 => ?_) (fun c24 => ?_))
          · first
            | (exfalso; omega)
            | skip
              exfalso; omega
          · first
            | (exfalso; omega)
            | skip
              refine s196_30.mpr ?_
              refine s196_31.mpr (wif (fun c31 => ?_) (fun c31 => ?_))
              · first
                | (exfalso; omega)
                | skip
                  exfalso; omega
              · first
                | (exfalso; omega)
                | skip
                  refine s196_50.mpr (s196_51.mpr ?_)
                  refine s196_52.mpr (wif (fun c52 => ?_) (fun c52 => ?_))
                  · first
                    | (exfalso; omega)
                    | skip
                      exfalso; omega
                  · first
                    | (exfalso; omega)
                    | skip
                      refine s196_74.mpr ?_
                      refine (s196_76).mpr ?_
                      exact E0
      · first
        | (exfalso; omega)
        | skip
          exfalso; omega
    have fa : ∀ i : Int, 0 ≤ i → i < 100 → fAdd 16 i = 16 + i := fun i z1 z2 => fAdd_id (by omega) (by omega)
    have LC : ∀ Q' : QQ, Q' (some (some (vI (nLoc (T m) f)))) al hi hr → Ev (d - 1) 122 [vR (some t)] al hi hr Q' := fun Q' q' => by
      have RT := fun Q'' qq => t_routine (d := d - 1 - 1) (Q := Q'') hR hO hP hBs l2 l4 f0 (by omega) qq
      rw [e122]
      refine s122_0.mpr ?_
      refine (s122_1 (by first | decide | assumption | omega) (by first | decide | assumption | omega)).mpr ?_
      refine RT _ (fun N n M u e1 ero hro ku hM hT => ?_)
      simp only [kon, knt_some, knt_none, Option.toList_some, Option.toList_none, List.cons_append, List.nil_append]; have hx2 : hi (u + 1) 3 = nLoc (T m) f := hro.2.2.2.2.2.1
      refine s122_4.mpr (s122_5.mpr ?_)
      refine s122_6.mpr (wif (fun c6 => ?_) (fun c6 => ?_))
      · skip
        exfalso; simp at c6
      · skip
        refine s122_13.mpr ?_
        refine (s122_14 (by first | decide | assumption | omega)).mpr ?_
        refine (s122_17).mpr ?_
        first | exact q' | (rw [hx2]; exact q')
    by_cases ik : i < nLoc (T m) f
    · have E0 := q _ (fun _ => rfl) (fun z => absurd (eV.mpr ⟨Or.inr w1, i0, fun y => by omega, fun _ => ik⟩) z)
      unfold vaF at E0
      have eP : vaP s p w i = 26 * ai s p + i := by unfold vaP; rw [if_neg w0]
      rw [eP] at E0
      have fa := fa i i0 (by omega)
      refine s196_20.mpr (wif (fun c20 => ?_) (fun c20 => ?_))
      · first
        | (exfalso; omega)
        | skip
          refine s196_23.mpr ?_
          refine s196_24.mpr (wif (fun c24 => ?_) (fun c24 => ?_))
          · first
            | (exfalso; omega)
            | skip
              exfalso; omega
          · first
            | (exfalso; omega)
            | skip
              refine s196_30.mpr ?_
              refine s196_31.mpr (wif (fun c31 => ?_) (fun c31 => ?_))
              · first
                | (exfalso; omega)
                | skip
                  exfalso; omega
              · first
                | (exfalso; omega)
                | skip
                  refine s196_50.mpr (s196_51.mpr ?_)
                  refine s196_52.mpr (wif (fun c52 => ?_) (fun c52 => ?_))
                  · first
                    | (exfalso; omega)
                    | skip
                      refine s196_55.mpr (s196_56.mpr ?_)
                      refine (s196_58 (by first | decide | assumption | omega) (by first | decide | assumption | omega)).mpr ?_
                      refine LC _ ?_
                      simp only [kon, knt_some, knt_none, Option.toList_some, Option.toList_none, List.cons_append, List.nil_append]
                      refine s196_61.mpr (wif (fun c61 => ?_) (fun c61 => ?_))
                      · first
                        | (exfalso; omega)
                        | skip
                          refine s196_64.mpr (s196_66.mpr (s196_68.mpr (s196_69.mpr ?_)))
                          try simp (disch := first | decide | assumption | omega) only [fa]
                          refine (s196_70 (by first | decide | assumption | omega) (by first | decide | assumption | omega)).mpr ?_
                          refine t_shown (k := i) hR hO (by omega) (by omega) (by omega) (slt_l (by omega)) (bx _ (by omega) (by omega)) ?_
                          simp only [kon, knt_some, knt_none, Option.toList_some, Option.toList_none, List.cons_append, List.nil_append]
                          refine (s196_73).mpr ?_
                          exact E0
                      · first
                        | (exfalso; omega)
                        | skip
                          exfalso; omega
                  · first
                    | (exfalso; omega)
                    | skip
                      exfalso; omega
      · first
        | (exfalso; omega)
        | skip
          exfalso; omega
    · have E0 := q (-2147483648) (fun z => absurd ((eV.mp z).2.2.2 w1) ik) (fun _ => rfl)
      refine s196_20.mpr (wif (fun c20 => ?_) (fun c20 => ?_))
      · first
        | (exfalso; omega)
        | skip
          refine s196_23.mpr ?_
          refine s196_24.mpr (wif (fun c24 => ?_) (fun c24 => ?_))
          · first
            | (exfalso; omega)
            | skip
              exfalso; omega
          · first
            | (exfalso; omega)
            | skip
              refine s196_30.mpr ?_
              refine s196_31.mpr (wif (fun c31 => ?_) (fun c31 => ?_))
              · first
                | (exfalso; omega)
                | skip
                  exfalso; omega
              · first
                | (exfalso; omega)
                | skip
                  refine s196_50.mpr (s196_51.mpr ?_)
                  refine s196_52.mpr (wif (fun c52 => ?_) (fun c52 => ?_))
                  · first
                    | (exfalso; omega)
                    | skip
                      refine s196_55.mpr (s196_56.mpr ?_)
                      refine (s196_58 (by first | decide | assumption | omega) (by first | decide | assumption | omega)).mpr ?_
                      refine LC _ ?_
                      simp only [kon, knt_some, knt_none, Option.toList_some, Option.toList_none, List.cons_append, List.nil_append]
                      refine s196_61.mpr (wif (fun c61 => ?_) (fun c61 => ?_))
                      · first
                        | (exfalso; omega)
                        | skip
                          exfalso; omega
                      · first
                        | (exfalso; omega)
                        | skip
                          refine s196_74.mpr ?_
                          refine (s196_76).mpr ?_
                          exact E0
                  · first
                    | (exfalso; omega)
                    | skip
                      refine s196_74.mpr ?_
                      refine (s196_76).mpr ?_
                      exact E0
      · first
        | (exfalso; omega)
        | skip
          exfalso; omega
  refine s196_0.mpr ?_
  refine (s196_1 (by first | decide | assumption | omega)).mpr ?_
  refine s196_4.mpr ?_
  try simp (disch := first | decide | assumption | omega) only [g8]
  refine (s196_5 (by first | decide | assumption | omega) (by first | decide | assumption | omega)).mpr ?_
  refine x5_taskAt hR g56.2 (fun z => absurd k z) (fun t' z1 z2 z3 _ => ?_)
  rw [ht] at z3; cases z3
  simp only [kon, knt_some, knt_none, Option.toList_some, Option.toList_none, List.cons_append, List.nil_append]
  refine s196_8.mpr (s196_10.mpr ?_)
  refine s196_12.mpr (wif (fun c12 => ?_) (fun c12 => ?_))
  · skip
    exfalso; simp at c12
  · skip
    refine s196_15.mpr ?_
    refine (s196_17 (by first | decide | assumption | omega) (by first | decide | assumption | omega)).mpr ?_
    exact ISO
theorem x_valueU (hA : SA al) (hC : CR hr) (h28 : ∀ q, 0 ≤ q → q < 12 → hi 28 q = 0) (hd : 2 ≤ d) (q : Q (some (some (vI (-2147483648)))) al hi hr) : Ev d 196 [vR (some 2), vI p, vI w, vI i] al hi hr Q := by
  have k2 : isK al 2 12 := hA.k (by decide) (by decide) rfl
  have k26 : isK al 26 6 := hA.k (by decide) (by decide) rfl
  have g8 := cr_2_8 hC
  rw [e196]
  refine s196_0.mpr ?_
  refine (s196_1 (by first | decide | assumption | omega)).mpr ?_
  refine s196_4.mpr ?_
  try simp (disch := first | decide | assumption | omega) only [g8]
  refine (s196_5 (by first | decide | assumption | omega) (by first | decide | assumption | omega)).mpr ?_
  refine x5_taskAtU hA hC h28 ?_
  simp only [kon, knt_some, knt_none, Option.toList_some, Option.toList_none, List.cons_append, List.nil_append]
  refine s196_8.mpr (s196_10.mpr ?_)
  refine s196_12.mpr (wif (fun c12 => ?_) (fun c12 => ?_))
  · skip
    refine s196_27.mpr ?_
    refine (s196_29).mpr ?_
    exact q
  · skip
    exact absurd rfl (by assumption)
end FB1
