/-! RUNNING, the reference: receive -/
section RK0
variable {d : Nat} {al : AL} {hi : HI} {hr : HR} {Q : QQ}
def shC (s : HI) (e W j : Int) : HI := fun a i => if a = 114 ∧ i = e then W - 1 else if (a = 115 ∨ a = 116 ∨ a = 117) ∧ 4 * e ≤ i ∧ i < 4 * e + j then s a (i + 1) else s a i
theorem shC_0 {s : HI} {e W : Int} : upI s 114 e (W - 1) = shC s e W 0 := by
  funext a i
  unfold upI shC
  by_cases c : a = 114 ∧ i = e
  · rw [if_pos c, if_pos c]
  · rw [if_neg c, if_neg c, if_neg (by omega)]
theorem shC_e {s : HI} {e : Int} : shC s e (s 114 e) (s 114 e - 1) = shfS s e := by
  funext a i
  unfold shC shfS
  rw [show 4 * e + (s 114 e - 1) = 4 * e + s 114 e - 1 by omega]
theorem shC_r {s : HI} {e W j : Int} {a : Nat} (h : a ≠ 114) : shC s e W j a (4 * e + j + 1) = s a (4 * e + j + 1) := by
  unfold shC; rw [if_neg (by omega), if_neg (by omega)]
theorem shC_n {s : HI} {e W j : Int} {a : Nat} {i : Int} (h : a ≠ 114 ∧ a ≠ 115 ∧ a ≠ 116 ∧ a ≠ 117) : shC s e W j a i = s a i := by
  unfold shC; rw [if_neg (by omega), if_neg (by omega)]
theorem shC_114 {s : HI} {e W j : Int} : shC s e W j 114 e = W - 1 := by unfold shC; rw [if_pos ⟨rfl, rfl⟩]
theorem shC_s {s : HI} {e W j : Int} (j0 : 0 ≤ j) : upI (upI (upI (shC s e W j) 115 (4 * e + j) (s 115 (4 * e + j + 1))) 116 (4 * e + j) (s 116 (4 * e + j + 1))) 117 (4 * e + j) (s 117 (4 * e + j + 1)) = shC s e W (j + 1) := by
  funext a i
  unfold upI shC
  by_cases ei : i = 4 * e + j
  · subst ei
    by_cases a1 : a = 117
    · subst a1; rw [if_pos ⟨rfl, rfl⟩, if_neg (by omega), if_pos (by omega)]
    · by_cases a2 : a = 116
      · subst a2; rw [if_neg (by omega), if_pos ⟨rfl, rfl⟩, if_neg (by omega), if_pos (by omega)]
      · by_cases a3 : a = 115
        · subst a3; rw [if_neg (by omega), if_neg (by omega), if_pos ⟨rfl, rfl⟩, if_neg (by omega), if_pos (by omega)]
        · rw [if_neg (by omega), if_neg (by omega), if_neg (by omega)]
          by_cases c : a = 114 ∧ 4 * e + j = e
          · rw [if_pos c, if_pos c]
          · rw [if_neg c, if_neg c, if_neg (by omega), if_neg (by omega)]
  · rw [if_neg (by omega), if_neg (by omega), if_neg (by omega)]
    by_cases c : a = 114 ∧ i = e
    · rw [if_pos c, if_pos c]
    · rw [if_neg c, if_neg c]
      by_cases c2 : (a = 115 ∨ a = 116 ∨ a = 117) ∧ 4 * e ≤ i ∧ i < 4 * e + j
      · rw [if_pos c2, if_pos (by omega)]
      · rw [if_neg c2, if_neg (by omega)]
theorem shfS_n {s : HI} {e : Int} {a : Nat} {i : Int} (h : a ≠ 114 ∧ a ≠ 115 ∧ a ≠ 116 ∧ a ≠ 117) : shfS s e a i = s a i := by rw [← shC_e]; exact shC_n h
theorem ownS_n {s : HI} {v w o : Int} {a : Nat} {i : Int} (h : a ≠ 110 ∧ a ≠ 113) : ownS s v w o a i = s a i := by
  unfold ownS; split
  · exact upI_a h.1
  · split
    · exact upI_a h.2
    · rfl
theorem r_receive {p e t v w W qx m : Int} (hA : SA al) (hR : MR hr) (hd : 5 ≤ d) (hp : AP hi p) (h0 : 1 ≤ hg hi p ∧ hg hi p ≤ 16) (h16 : w ≠ 4 → hg hi p < 16) (he : tv hi p 0 = e) (hE : EnO hi e) (ht : hi 115 (4 * e) = t) (hv : hi 116 (4 * e) = v) (hw : hi 117 (4 * e) = w) (t0 : 0 ≤ t ∧ t < 4) (hW : hi 114 e = W) (W1 : 1 ≤ W ∧ W ≤ 4)
    (hv2 : w = 2 → 0 ≤ v ∧ v < 128) (hv3 : w = 3 → 0 ≤ v ∧ v < 24) (hm : hi 91 p = m) (m0 : 0 ≤ m ∧ m < 12) (h52 : hi 52 m ≤ 2000) (q0 : 0 ≤ qx ∧ qx < 3000)
    (q : Q (some none) al (rcvS hi p (fun t => bAt hi m (qx + 2 + t))) hr) : Ev d 320 [vR (some 49), vI p, vI qx] al hi hr Q := by
  have kM : isK al 49 13 := hA.k (by decide) (by decide) rfl
  have k97 : isK al 97 15 := hA.k (by decide) (by decide) rfl
  have l97 : aln al 97 = 192 := hA.len (by decide) (by decide) rfl
  have hb := hp.b
  have hpb := hp.1
  have hs := sk_b (k := hg hi p - 1) hp (by omega)
  have l98 := SA.len (a := 98) (n := 4992) hA (by decide) (by decide) rfl
  have l97 := SA.len (a := 97) (n := 192) hA (by decide) (by decide) rfl
  have l115 := SA.len (a := 115) (n := 96) hA (by decide) (by decide) rfl
  have l116 := SA.len (a := 116) (n := 96) hA (by decide) (by decide) rfl
  have l117 := SA.len (a := 117) (n := 96) hA (by decide) (by decide) rfl
  have l114 := SA.len (a := 114) (n := 24) hA (by decide) (by decide) rfl
  have l112 := SA.len (a := 112) (n := 24) hA (by decide) (by decide) rfl
  have l63 := SA.len (a := 63) (n := 1664) hA (by decide) (by decide) rfl
  have l118 := SA.len (a := 118) (n := 24) hA (by decide) (by decide) rfl
  have l91 := SA.len (a := 91) (n := 12) hA (by decide) (by decide) rfl
  have k114 : isK al 114 15 := hA.k (by decide) (by decide) rfl
  have l114 : aln al 114 = 24 := hA.len (by decide) (by decide) rfl
  have ehg : hi 97 (ai hi p) = hg hi p := rfl
  have e98 := @tv_e hi p
  obtain ⟨I, hI⟩ : ∃ I, sk hi p (hg hi p - 1) = I := ⟨_, rfl⟩
  rw [hI] at e98 hs
  rw [he] at e98
  obtain ⟨e0, ⟨s0, s1⟩, g0, g1⟩ := id hE
  unfold rcvS at q
  simp only [he, ht, hv, hw] at q
  obtain ⟨C, hC⟩ : ∃ C, hi 118 e = C := ⟨_, rfl⟩
  obtain ⟨S, hS⟩ : ∃ S, hi 112 e = S := ⟨_, rfl⟩
  rw [hC, hS] at q
  rw [hC] at g0 g1
  rw [hS] at s0 s1
  obtain ⟨X, hX⟩ : ∃ X, hi 63 (4 * (8 * C + S) + t) = X := ⟨_, rfl⟩
  rw [hX] at q
  have esh := @shC_e hi e
  rw [hW] at esh
  obtain ⟨g, hg1⟩ : ∃ g, upI (shfS hi e) 112 e X = g := ⟨_, rfl⟩
  rw [hg1] at q
  have gn : ∀ a i, (a ≠ 112 ∧ a ≠ 114 ∧ a ≠ 115 ∧ a ≠ 116 ∧ a ≠ 117) → g a i = hi a i := fun a i z => by rw [← hg1, upI_a z.1, shfS_n z.2]
  have gp : AP g p := hp.n (gn 94 p (by decide))
  have gh : hg g p = hg hi p := hg_n (gn 94 p (by decide)) (fun i => gn 97 i (by decide))
  -- at the end
  have T193 : ∀ (h : HI) , AP h p → (∀ a i, (a = 51 ∨ a = 52 ∨ a = 91) → h a i = hi a i) → Q (some none) al (goS h p (bAt hi m (qx + 2 + t))) hr → Wp d 320 193 [vR (some 49), vI p, vI qx, vI e, vI t, vI v, vI w, vI (4 * e + (W - 1))] [] al h hr Q := by
    intro h hp9 hn q9
    have x91 : h 91 p = m := (hn 91 p (by omega)).trans hm
    have x52 : h 52 m ≤ 2000 := by rw [hn 52 m (by omega)]; exact h52
    have xB : bAt h m = bAt hi m := by funext k; unfold bAt; rw [hn 52 _ (by omega), hn 51 _ (by omega)]
    rw [← xB] at q9
    refine s320_193.mpr (s320_194.mpr (s320_195.mpr (s320_196.mpr ((s320_197 kM).mpr ?_))))
    rw [mr_61 hR]
    refine s320_200.mpr ?_
    refine (s320_201 (hA.k (by decide) (by decide) rfl) (by first | assumption | omega) (by first | assumption | omega)).mpr ?_
    refine s320_202.mpr (s320_203.mpr (s320_204.mpr (s320_205.mpr (s320_207.mpr ?_))))
    try simp (disch := first | decide | assumption | omega) only [kon, knt_some, knt_none, Option.toList_some, Option.toList_none, List.cons_append, List.nil_append, x91, fAdd_id]
    refine (s320_208 (by omega) kM).mpr ?_
    refine (m_byteAt hA hR m0.1 (by omega) x52).mpr ?_
    refine (s320_211 (by omega) kM).mpr ?_
    refine r_goTo hA hR (by omega) hp9 ?_
    refine (s320_214).mpr ?_
    exact q9
  have T68 : ∀ (j9 : Nat) (j : Int), j + j9 = W - 1 → 0 ≤ j → Wp d 320 68 [vR (some 49), vI p, vI qx, vI e, vI t, vI v, vI w, vI (4 * e + j)] [] al (shC hi e W j) hr Q := by
    intro j9
    induction j9 with
    | zero =>
      intro j hj j0
      have ej : j = W - 1 := by omega
      subst ej
      rw [esh]
      have x114 : shfS hi e 114 e = W - 1 := by rw [← esh]; exact shC_114
      have x118 : shfS hi e 118 e = C := (shfS_n (by decide)).trans hC
      have x112 : shfS hi e 112 e = S := (shfS_n (by decide)).trans hS
      have x63 : shfS hi e 63 (4 * (8 * C + S) + t) = X := (shfS_n (by decide)).trans hX
      by_cases cw : w = 4
      · rw [if_neg (by omega)] at q
        have NX := T193 g gp (fun a i z => gn a i (by omega)) q
        refine s320_68.mpr (s320_70.mpr (s320_71.mpr (s320_72.mpr (s320_73.mpr ((s320_74 kM).mpr ?_)))))
        rw [mr_84 hR]
        refine s320_77.mpr ?_
        try simp (disch := first | decide | assumption | omega) only [x114, x118, x112, x63, hg1, fAdd_id, fMul_id]
        refine (s320_78 (hA.k (by decide) (by decide) rfl) (by first | assumption | omega) (by first | assumption | omega)).mpr ?_
        refine s320_79.mpr ?_
        try simp (disch := first | decide | assumption | omega) only [x114, x118, x112, x63, hg1, fAdd_id, fMul_id]
        refine s320_80.mpr (wif (fun c80 => ?_) (fun c80 => ?_))
        · skip
          exfalso; omega
        · skip
          refine s320_137.mpr ((s320_138 kM).mpr ?_)
          rw [mr_82 hR]
          refine s320_141.mpr (s320_142.mpr ((s320_143 kM).mpr ?_))
          rw [mr_15 hR]
          refine s320_146.mpr (s320_147.mpr (s320_149.mpr ((s320_150 kM).mpr ?_)))
          rw [mr_88 hR]
          refine s320_153.mpr ?_
          refine (s320_154 (hA.k (by decide) (by decide) rfl) (by first | assumption | omega) (by first | assumption | omega)).mpr ?_
          refine s320_155.mpr (s320_156.mpr ((s320_157 kM).mpr ?_))
          rw [mr_82 hR]
          refine s320_160.mpr ?_
          try simp (disch := first | decide | assumption | omega) only [x114, x118, x112, x63, hg1, fAdd_id, fMul_id]
          refine (s320_161 (hA.k (by decide) (by decide) rfl) (by first | assumption | omega) (by first | assumption | omega)).mpr ?_
          refine s320_162.mpr (s320_163.mpr (s320_164.mpr (s320_166.mpr ?_)))
          try simp (disch := first | decide | assumption | omega) only [x114, x118, x112, x63, hg1, fAdd_id, fMul_id]
          refine (s320_167 (hA.k (by decide) (by decide) rfl) (by first | assumption | omega) (by first | assumption | omega)).mpr ?_
          try simp (disch := first | decide | assumption | omega) only [x114, x118, x112, x63, hg1, fAdd_id, fMul_id]
          refine (s320_168 (hA.k (by decide) (by decide) rfl) (by first | assumption | omega) (by first | assumption | omega)).mpr ?_
          refine s320_169.mpr (s320_171.mpr ?_)
          try simp (disch := first | decide | assumption | omega) only [x114, x118, x112, x63, hg1, fAdd_id, fMul_id]
          refine s320_172.mpr (wif (fun c172 => ?_) (fun c172 => ?_))
          · skip
            exact NX
          · skip
            exact absurd cw (by assumption)
      · rw [if_pos cw] at q
        have NX := T193 (ownS (psh g p v w) v w p) (gp.n ((ownS_n (by decide)).trans (psh_n (by decide)))) (fun a i z => (ownS_n (by omega)).trans ((psh_n (by omega)).trans (gn a i (by omega)))) q
        refine s320_68.mpr (s320_70.mpr (s320_71.mpr (s320_72.mpr (s320_73.mpr ((s320_74 kM).mpr ?_)))))
        rw [mr_84 hR]
        refine s320_77.mpr ?_
        try simp (disch := first | decide | assumption | omega) only [kon, knt_some, knt_none, Option.toList_some, Option.toList_none, List.cons_append, List.nil_append, x114, x118, x112, x63, hg1, fAdd_id, fMul_id]
        refine (s320_78 (hA.k (by decide) (by decide) rfl) (by first | assumption | omega) (by first | assumption | omega)).mpr ?_
        refine s320_79.mpr ?_
        try simp (disch := first | decide | assumption | omega) only [kon, knt_some, knt_none, Option.toList_some, Option.toList_none, List.cons_append, List.nil_append, x114, x118, x112, x63, hg1, fAdd_id, fMul_id]
        refine s320_80.mpr (wif (fun c80 => ?_) (fun c80 => ?_))
        · skip
          exfalso; omega
        · skip
          refine s320_137.mpr ((s320_138 kM).mpr ?_)
          rw [mr_82 hR]
          refine s320_141.mpr (s320_142.mpr ((s320_143 kM).mpr ?_))
          rw [mr_15 hR]
          refine s320_146.mpr (s320_147.mpr (s320_149.mpr ((s320_150 kM).mpr ?_)))
          rw [mr_88 hR]
          refine s320_153.mpr ?_
          refine (s320_154 (hA.k (by decide) (by decide) rfl) (by first | assumption | omega) (by first | assumption | omega)).mpr ?_
          refine s320_155.mpr (s320_156.mpr ((s320_157 kM).mpr ?_))
          rw [mr_82 hR]
          refine s320_160.mpr ?_
          try simp (disch := first | decide | assumption | omega) only [kon, knt_some, knt_none, Option.toList_some, Option.toList_none, List.cons_append, List.nil_append, x114, x118, x112, x63, hg1, fAdd_id, fMul_id]
          refine (s320_161 (hA.k (by decide) (by decide) rfl) (by first | assumption | omega) (by first | assumption | omega)).mpr ?_
          refine s320_162.mpr (s320_163.mpr (s320_164.mpr (s320_166.mpr ?_)))
          try simp (disch := first | decide | assumption | omega) only [kon, knt_some, knt_none, Option.toList_some, Option.toList_none, List.cons_append, List.nil_append, x114, x118, x112, x63, hg1, fAdd_id, fMul_id]
          refine (s320_167 (hA.k (by decide) (by decide) rfl) (by first | assumption | omega) (by first | assumption | omega)).mpr ?_
          try simp (disch := first | decide | assumption | omega) only [kon, knt_some, knt_none, Option.toList_some, Option.toList_none, List.cons_append, List.nil_append, x114, x118, x112, x63, hg1, fAdd_id, fMul_id]
          refine (s320_168 (hA.k (by decide) (by decide) rfl) (by first | assumption | omega) (by first | assumption | omega)).mpr ?_
          refine s320_169.mpr (s320_171.mpr ?_)
          try simp (disch := first | decide | assumption | omega) only [kon, knt_some, knt_none, Option.toList_some, Option.toList_none, List.cons_append, List.nil_append, x114, x118, x112, x63, hg1, fAdd_id, fMul_id]
          refine s320_172.mpr (wif (fun c172 => ?_) (fun c172 => ?_))
          · skip
            first | exact NX | exact absurd ‹_› cw
          · skip
            refine s320_175.mpr (s320_176.mpr (s320_177.mpr (s320_179.mpr ?_)))
            refine (s320_181 (by omega) kM).mpr ?_
            refine r_push hA hR (by omega) gp (by rw [gh]; omega) ?_
            refine s320_184.mpr (s320_185.mpr (s320_187.mpr (s320_189.mpr ?_)))
            refine (s320_190 (by omega) kM).mpr ?_
            refine r_own hA hR hv2 hv3 ?_
            first | exact NX | exact absurd ‹_› cw
    | succ j9 ih =>
      intro j hj j0
      have NX := ih (j + 1) (by omega) (by omega)
      rw [← shC_s j0, show 4 * e + (j + 1) = 4 * e + j + 1 by omega] at NX
      have x114 : shC hi e W j 114 e = W - 1 := shC_114
      have y5 : shC hi e W j 115 (4 * e + j + 1) = hi 115 (4 * e + j + 1) := shC_r (by decide)
      have y6 : ∀ x, upI (shC hi e W j) 115 (4 * e + j) x 116 (4 * e + j + 1) = hi 116 (4 * e + j + 1) := fun x => by rw [upI_a (by decide)]; exact shC_r (by decide)
      have y7 : ∀ x y, upI (upI (shC hi e W j) 115 (4 * e + j) x) 116 (4 * e + j) y 117 (4 * e + j + 1) = hi 117 (4 * e + j + 1) := fun x y => by rw [upI_a (by decide), upI_a (by decide)]; exact shC_r (by decide)
      refine s320_68.mpr (s320_70.mpr (s320_71.mpr (s320_72.mpr (s320_73.mpr ((s320_74 kM).mpr ?_)))))
      rw [mr_84 hR]
      refine s320_77.mpr ?_
      try simp (disch := first | decide | assumption | omega) only [x114, y5, y6, y7, fAdd_id, fMul_id]
      refine (s320_78 (hA.k (by decide) (by decide) rfl) (by first | assumption | omega) (by first | assumption | omega)).mpr ?_
      refine s320_79.mpr ?_
      try simp (disch := first | decide | assumption | omega) only [x114, y5, y6, y7, fAdd_id, fMul_id]
      refine s320_80.mpr (wif (fun c80 => ?_) (fun c80 => ?_))
      · skip
        refine s320_83.mpr ((s320_84 kM).mpr ?_)
        rw [mr_85 hR]
        refine s320_87.mpr (s320_89.mpr ((s320_90 kM).mpr ?_))
        rw [mr_85 hR]
        refine s320_93.mpr (s320_95.mpr (s320_96.mpr ?_))
        try simp (disch := first | decide | assumption | omega) only [x114, y5, y6, y7, fAdd_id, fMul_id]
        refine (s320_97 (hA.k (by decide) (by decide) rfl) (by first | assumption | omega) (by first | assumption | omega)).mpr ?_
        try simp (disch := first | decide | assumption | omega) only [x114, y5, y6, y7, fAdd_id, fMul_id]
        refine (s320_98 (hA.k (by decide) (by decide) rfl) (by first | assumption | omega) (by first | assumption | omega)).mpr ?_
        refine s320_99.mpr ((s320_100 kM).mpr ?_)
        rw [mr_86 hR]
        refine s320_103.mpr (s320_105.mpr ((s320_106 kM).mpr ?_))
        rw [mr_86 hR]
        refine s320_109.mpr (s320_111.mpr (s320_112.mpr ?_))
        try simp (disch := first | decide | assumption | omega) only [x114, y5, y6, y7, fAdd_id, fMul_id]
        refine (s320_113 (hA.k (by decide) (by decide) rfl) (by first | assumption | omega) (by first | assumption | omega)).mpr ?_
        try simp (disch := first | decide | assumption | omega) only [x114, y5, y6, y7, fAdd_id, fMul_id]
        refine (s320_114 (hA.k (by decide) (by decide) rfl) (by first | assumption | omega) (by first | assumption | omega)).mpr ?_
        refine s320_115.mpr ((s320_116 kM).mpr ?_)
        rw [mr_87 hR]
        refine s320_119.mpr (s320_121.mpr ((s320_122 kM).mpr ?_))
        rw [mr_87 hR]
        refine s320_125.mpr (s320_127.mpr (s320_128.mpr ?_))
        try simp (disch := first | decide | assumption | omega) only [x114, y5, y6, y7, fAdd_id, fMul_id]
        refine (s320_129 (hA.k (by decide) (by decide) rfl) (by first | assumption | omega) (by first | assumption | omega)).mpr ?_
        try simp (disch := first | decide | assumption | omega) only [x114, y5, y6, y7, fAdd_id, fMul_id]
        refine (s320_130 (hA.k (by decide) (by decide) rfl) (by first | assumption | omega) (by first | assumption | omega)).mpr ?_
        refine s320_131.mpr (s320_134.mpr ?_)
        try simp (disch := first | decide | assumption | omega) only [x114, y5, y6, y7, fAdd_id, fMul_id]
        exact NX
      · skip
        exfalso; omega
  have NX := T68 (W - 1).toNat 0 (by omega) (Int.le_refl _)
  rw [← shC_0, Int.add_zero] at NX
  rw [e320]
  refine s320_0.mpr ((s320_1 kM).mpr ?_)
  rw [mr_68 hR]
  refine s320_4.mpr (s320_5.mpr (s320_6.mpr ((s320_7 kM).mpr ?_)))
  rw [mr_67 hR]
  refine s320_10.mpr (s320_11.mpr ?_)
  refine (s320_12 (by omega) kM).mpr ?_
  refine r_act hA hR hp ?_
  refine (s320_15 (hA.k (by decide) (by decide) rfl) (by first | assumption | omega) (by first | assumption | omega)).mpr ?_
  refine s320_16.mpr (s320_17.mpr ?_)
  try simp (disch := first | decide | assumption | omega) only [kon, knt_some, knt_none, Option.toList_some, Option.toList_none, List.cons_append, List.nil_append, ehg, hI, e98, ht, hv, hw, hW, fAdd_id, fMul_id, fSub_id]
  refine (s320_18 (by omega) kM).mpr ?_
  refine r_stack hA hR (by omega) hp (by omega) ?_
  refine (s320_21 (hA.k (by decide) (by decide) rfl) (by first | assumption | omega) (by first | assumption | omega)).mpr ?_
  refine s320_22.mpr (s320_23.mpr ((s320_24 kM).mpr ?_))
  rw [mr_85 hR]
  refine s320_27.mpr (s320_28.mpr (s320_29.mpr ?_))
  try simp (disch := first | decide | assumption | omega) only [kon, knt_some, knt_none, Option.toList_some, Option.toList_none, List.cons_append, List.nil_append, ehg, hI, e98, ht, hv, hw, hW, fAdd_id, fMul_id, fSub_id]
  refine (s320_30 (hA.k (by decide) (by decide) rfl) (by first | assumption | omega) (by first | assumption | omega)).mpr ?_
  refine s320_31.mpr (s320_33.mpr ((s320_34 kM).mpr ?_))
  rw [mr_86 hR]
  refine s320_37.mpr (s320_38.mpr (s320_39.mpr ?_))
  try simp (disch := first | decide | assumption | omega) only [kon, knt_some, knt_none, Option.toList_some, Option.toList_none, List.cons_append, List.nil_append, ehg, hI, e98, ht, hv, hw, hW, fAdd_id, fMul_id, fSub_id]
  refine (s320_40 (hA.k (by decide) (by decide) rfl) (by first | assumption | omega) (by first | assumption | omega)).mpr ?_
  refine s320_41.mpr (s320_43.mpr ((s320_44 kM).mpr ?_))
  rw [mr_87 hR]
  refine s320_47.mpr (s320_48.mpr (s320_49.mpr ?_))
  try simp (disch := first | decide | assumption | omega) only [kon, knt_some, knt_none, Option.toList_some, Option.toList_none, List.cons_append, List.nil_append, ehg, hI, e98, ht, hv, hw, hW, fAdd_id, fMul_id, fSub_id]
  refine (s320_50 (hA.k (by decide) (by decide) rfl) (by first | assumption | omega) (by first | assumption | omega)).mpr ?_
  refine s320_51.mpr (s320_53.mpr ((s320_54 kM).mpr ?_))
  rw [mr_84 hR]
  refine s320_57.mpr (s320_58.mpr ?_)
  try simp (disch := first | decide | assumption | omega) only [kon, knt_some, knt_none, Option.toList_some, Option.toList_none, List.cons_append, List.nil_append, ehg, hI, e98, ht, hv, hw, hW, fAdd_id, fMul_id, fSub_id]
  refine (s320_59 (by first | decide | assumption | omega) (by first | decide | assumption | omega) (by first | decide | assumption | omega)).mpr ?_
  refine s320_60.mpr (s320_61.mpr ?_)
  try simp (disch := first | decide | assumption | omega) only [kon, knt_some, knt_none, Option.toList_some, Option.toList_none, List.cons_append, List.nil_append, ehg, hI, e98, ht, hv, hw, hW, fAdd_id, fMul_id, fSub_id]
  refine (s320_62 (by first | decide | assumption | omega) (by first | decide | assumption | omega) (by first | decide | assumption | omega)).mpr ?_
  refine s320_63.mpr (s320_64.mpr (s320_65.mpr (s320_66.mpr ?_)))
  try simp (disch := first | decide | assumption | omega) only [kon, knt_some, knt_none, Option.toList_some, Option.toList_none, List.cons_append, List.nil_append, ehg, hI, e98, ht, hv, hw, hW, fAdd_id, fMul_id, fSub_id]
  exact NX
end RK0
