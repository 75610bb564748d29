/-! RUNNING, the reference: can a process go on -/
section RQ0
variable {d : Nat} {al : AL} {hi : HI} {hr : HR} {Q : QQ} {p m f c x : Int} {B : Int → Int}
theorem r_op (hA : SA al) (hR : MR hr) (hd : 6 ≤ d) (hp : AP hi p) (hm : hi 91 p = m) (hf : hi 95 (ai hi p) = f) (hx : hi 96 (ai hi p) = x) (m0 : 0 ≤ m ∧ m < 12) (f0 : 0 ≤ f ∧ f < 10) (hc : hi 69 (10 * m + f) = c) (c0 : 0 ≤ c) (x0 : 0 ≤ x) (q0 : c + x < 2000) (h52 : hi 52 m ≤ 2000) (hB : bAt hi m = B) (q : Q (some (some (vI (B (c + x))))) al hi hr) : Ev d 303 [vR (some 49), vI p] al hi hr Q := by
  have kM : isK al 49 13 := hA.k (by decide) (by decide) rfl
  have hpb := hp.1
  have l91 := SA.len (a := 91) (n := 12) hA (by decide) (by decide) rfl
  rw [e303]
  refine s303_0.mpr (s303_1.mpr ((s303_2 kM).mpr ?_))
  rw [mr_61 hR]
  refine s303_5.mpr ?_
  refine (s303_6 (hA.k (by decide) (by decide) rfl) (by first | assumption | omega) (by first | assumption | omega)).mpr ?_
  refine s303_7.mpr (s303_8.mpr ?_)
  try simp (disch := first | decide | assumption | omega) only [kon, knt_some, knt_none, Option.toList_some, Option.toList_none, List.cons_append, List.nil_append, hm, hB]
  refine (s303_9 (by omega) kM).mpr ?_
  refine r_codePlace hA hR (by omega) hp hm hf hx m0 f0 hc (by omega) (by omega) ?_
  try simp only [kon, knt_some, knt_none, Option.toList_some, Option.toList_none, List.cons_append, List.nil_append, hm]
  refine (s303_12 (by omega) kM).mpr ?_
  refine (m_byteAt hA hR m0.1 (by omega) h52).mpr ?_
  try simp only [kon, knt_some, knt_none, Option.toList_some, Option.toList_none, List.cons_append, List.nil_append, hB]
  refine (s303_15).mpr ?_
  exact q
theorem r_part (hA : SA al) (hR : MR hr) (hd : 6 ≤ d) (hp : AP hi p) (hm : hi 91 p = m) (hf : hi 95 (ai hi p) = f) (hx : hi 96 (ai hi p) = x) (m0 : 0 ≤ m ∧ m < 12) (f0 : 0 ≤ f ∧ f < 10) (hc : hi 69 (10 * m + f) = c) (c0 : 0 ≤ c) (x0 : 0 ≤ x) (q0 : c + x < 2000) (h52 : hi 52 m ≤ 2000) (hB : bAt hi m = B) {k : Int} (k0 : 0 ≤ k ∧ k < 10) (q : Q (some (some (vI (B (c + x + k))))) al hi hr) : Ev d 304 [vR (some 49), vI p, vI k] al hi hr Q := by
  have kM : isK al 49 13 := hA.k (by decide) (by decide) rfl
  have hpb := hp.1
  have l91 := SA.len (a := 91) (n := 12) hA (by decide) (by decide) rfl
  rw [e304]
  refine s304_0.mpr (s304_1.mpr ((s304_2 kM).mpr ?_))
  rw [mr_61 hR]
  refine s304_5.mpr ?_
  refine (s304_6 (hA.k (by decide) (by decide) rfl) (by first | assumption | omega) (by first | assumption | omega)).mpr ?_
  refine s304_7.mpr (s304_8.mpr ?_)
  try simp (disch := first | decide | assumption | omega) only [kon, knt_some, knt_none, Option.toList_some, Option.toList_none, List.cons_append, List.nil_append, hm, hB, fAdd_id]
  refine (s304_9 (by omega) kM).mpr ?_
  refine r_codePlace hA hR (by omega) hp hm hf hx m0 f0 hc (by omega) (by omega) ?_
  try simp only [kon, knt_some, knt_none, Option.toList_some, Option.toList_none, List.cons_append, List.nil_append, hm]
  refine s304_12.mpr (s304_13.mpr ?_)
  try simp (disch := first | decide | assumption | omega) only [kon, knt_some, knt_none, Option.toList_some, Option.toList_none, List.cons_append, List.nil_append, hm, hB, fAdd_id]
  refine (s304_14 (by omega) kM).mpr ?_
  refine (m_byteAt hA hR m0.1 (by omega) h52).mpr ?_
  try simp only [kon, knt_some, knt_none, Option.toList_some, Option.toList_none, List.cons_append, List.nil_append, hB]
  refine (s304_17).mpr ?_
  exact q
theorem r_nextTurn (hA : SA al) (hR : MR hr) (h0 : 0 ≤ hi 49 53 ∧ hi 49 53 < 12) (q : Q (some none) al (nxS hi) hr) : Ev d 300 [vR (some 49)] al hi hr Q := by
  have kM : isK al 49 13 := hA.k (by decide) (by decide) rfl
  obtain ⟨n, hn⟩ : ∃ n, hi 49 53 = n := ⟨_, rfl⟩
  unfold nxS at q
  rw [hn] at h0 q
  have e : fRem (n + 1) 12 = (n + 1) % 12 := by unfold fRem; rw [Int.tmod_eq_emod_of_nonneg (by omega)]
  rw [e300]
  refine s300_0.mpr (s300_1.mpr ?_)
  refine (s300_2 kM).mpr ?_
  refine s300_5.mpr (s300_6.mpr (s300_7.mpr ?_))
  try simp (disch := first | decide | assumption | omega) only [hn, e, fAdd_id]
  refine (s300_9 (by first | assumption | omega)).mpr ?_
  try simp (disch := first | decide | assumption | omega) only [hn, e, fAdd_id]
  refine (s300_10 kM).mpr ?_
  refine s300_13.mpr (s300_14.mpr ?_)
  try simp (disch := first | decide | assumption | omega) only [hn, e, fAdd_id]
  refine (s300_15 kM).mpr ?_
  try simp (disch := first | decide | assumption | omega) only [hn, e, fAdd_id]
  refine (s300_18).mpr ?_
  exact q
/-- can it go on, by its instruction o with operand t -/
def cgO (s : HI) (p o t : Int) : Prop := if o = 38 then 0 < s 114 (tv s p 0) else if o = 37 then (fun e => s 112 (oth e) = -1 ∨ s 114 (oth e) < 4) (tv s p (depS s p t)) else True
theorem cgO_S {T : TXs} {s : HI} : cgS T s p = cgO s p (op9 T s p) (ag9 T s p) := rfl
theorem r_canGo (hA : SA al) (hR : MR hr) (hd : 6 ≤ d) (hp : AP hi p) (hm : hi 91 p = m) (hf : hi 95 (ai hi p) = f) (hx : hi 96 (ai hi p) = x) (m0 : 0 ≤ m ∧ m < 12) (f0 : 0 ≤ f ∧ f < 10) (hc : hi 69 (10 * m + f) = c) (c0 : 0 ≤ c) (x0 : 0 ≤ x) (q0 : c + x < 2000) (h52 : hi 52 m ≤ 2000) (hB : bAt hi m = B) (hd8 : 8 ≤ d) (h38 : B (c + x) = 38 → (1 ≤ hg hi p ∧ hg hi p ≤ 16) ∧ 0 ≤ tv hi p 0 ∧ tv hi p 0 < 24) (h37 : B (c + x) = 37 → (1 ≤ hg hi p ∧ hg hi p ≤ 16) ∧ (0 ≤ B (c + x + 1) ∧ B (c + x + 1) < 4) ∧ (ts hi p 0 = 3 → EnO hi (tv hi p 0)) ∧ (0 ≤ tv hi p (depS hi p (B (c + x + 1))) ∧ tv hi p (depS hi p (B (c + x + 1))) < 24))
    (y : cgO hi p (B (c + x)) (B (c + x + 1)) → Q (some (some (vI 1))) al hi hr) (n : ¬ cgO hi p (B (c + x)) (B (c + x + 1)) → Q (some (some (vI 0))) al hi hr) : Ev d 306 [vR (some 49), vI p] al hi hr Q := by
  have kM : isK al 49 13 := hA.k (by decide) (by decide) rfl
  have k97 : isK al 97 15 := hA.k (by decide) (by decide) rfl
  have l97 : aln al 97 = 192 := hA.len (by decide) (by decide) rfl
  have hb := hp.b
  have hpb := hp.1
  have l114 := SA.len (a := 114) (n := 24) hA (by decide) (by decide) rfl
  have l98 := SA.len (a := 98) (n := 4992) hA (by decide) (by decide) rfl
  have l97 := SA.len (a := 97) (n := 192) hA (by decide) (by decide) rfl
  have l112 := SA.len (a := 112) (n := 24) hA (by decide) (by decide) rfl
  have ehg : hi 97 (ai hi p) = hg hi p := rfl
  obtain ⟨o, ho⟩ : ∃ o, B (c + x) = o := ⟨_, rfl⟩
  obtain ⟨t, ht⟩ : ∃ t, B (c + x + 1) = t := ⟨_, rfl⟩
  rw [ho] at h38 h37 y n
  rw [ht] at h37 y n
  unfold cgO at y n
  rw [e306]
  by_cases c1 : o = 38
  · rw [if_pos c1] at y n
    obtain ⟨z1, z2⟩ := h38 c1
    have e98 := @tv_e hi p
    have hs := sk_b (k := hg hi p - 1) hp (by omega)
    obtain ⟨e, he⟩ : ∃ e, tv hi p 0 = e := ⟨_, rfl⟩
    rw [he] at y n z2 e98
    obtain ⟨W, hW⟩ : ∃ W, hi 114 e = W := ⟨_, rfl⟩
    rw [hW] at y n
    subst c1
    by_cases cw : 0 < W
    · have E := y cw
      refine s306_0.mpr (s306_1.mpr ?_)
      refine (s306_2 (by omega) kM).mpr ?_
      refine r_op hA hR (by omega) hp hm hf hx m0 f0 hc c0 x0 q0 h52 hB ?_
      try simp only [kon, knt_some, knt_none, Option.toList_some, Option.toList_none, List.cons_append, List.nil_append, ho]
      refine s306_5.mpr (s306_6.mpr (s306_7.mpr ?_))
      refine s306_9.mpr (wif (fun c9 => ?_) (fun c9 => ?_))
      · first
        | (exfalso; omega)
        | skip
          refine s306_12.mpr ((s306_13 kM).mpr ?_)
          rw [mr_84 hR]
          refine s306_16.mpr ((s306_17 kM).mpr ?_)
          rw [mr_68 hR]
          refine s306_20.mpr (s306_21.mpr (s306_22.mpr ((s306_23 kM).mpr ?_)))
          rw [mr_67 hR]
          refine s306_26.mpr (s306_27.mpr ?_)
          refine (s306_28 (by omega) kM).mpr ?_
          refine r_act hA hR hp ?_
          refine (s306_31 (hA.k (by decide) (by decide) rfl) (by first | assumption | omega) (by first | assumption | omega)).mpr ?_
          refine s306_32.mpr (s306_33.mpr ?_)
          try simp (disch := first | decide | assumption | omega) only [kon, knt_some, knt_none, Option.toList_some, Option.toList_none, List.cons_append, List.nil_append, ehg, e98, hW, fSub_id]
          refine (s306_34 (by omega) kM).mpr ?_
          refine r_stack hA hR (by omega) hp (by omega) ?_
          refine (s306_37 (hA.k (by decide) (by decide) rfl) (by first | assumption | omega) (by first | assumption | omega)).mpr ?_
          try simp (disch := first | decide | assumption | omega) only [kon, knt_some, knt_none, Option.toList_some, Option.toList_none, List.cons_append, List.nil_append, ehg, e98, hW, fSub_id]
          refine (s306_38 (hA.k (by decide) (by decide) rfl) (by first | assumption | omega) (by first | assumption | omega)).mpr ?_
          try simp (disch := first | decide | assumption | omega) only [kon, knt_some, knt_none, Option.toList_some, Option.toList_none, List.cons_append, List.nil_append, ehg, e98, hW, fSub_id]
          refine s306_39.mpr (wif (fun c39 => ?_) (fun c39 => ?_))
          · first
            | (exfalso; omega)
            | skip
              refine s306_42.mpr (s306_43.mpr ?_)
              refine (s306_47 (by first | assumption | omega)).mpr ?_
              exact E
          · first
            | (exfalso; omega)
            | skip
              exfalso; omega
      · first
        | (exfalso; omega)
        | skip
          exact absurd rfl (by assumption)
    · have E := n cw
      refine s306_0.mpr (s306_1.mpr ?_)
      refine (s306_2 (by omega) kM).mpr ?_
      refine r_op hA hR (by omega) hp hm hf hx m0 f0 hc c0 x0 q0 h52 hB ?_
      try simp only [kon, knt_some, knt_none, Option.toList_some, Option.toList_none, List.cons_append, List.nil_append, ho]
      refine s306_5.mpr (s306_6.mpr (s306_7.mpr ?_))
      refine s306_9.mpr (wif (fun c9 => ?_) (fun c9 => ?_))
      · first
        | (exfalso; omega)
        | skip
          refine s306_12.mpr ((s306_13 kM).mpr ?_)
          rw [mr_84 hR]
          refine s306_16.mpr ((s306_17 kM).mpr ?_)
          rw [mr_68 hR]
          refine s306_20.mpr (s306_21.mpr (s306_22.mpr ((s306_23 kM).mpr ?_)))
          rw [mr_67 hR]
          refine s306_26.mpr (s306_27.mpr ?_)
          refine (s306_28 (by omega) kM).mpr ?_
          refine r_act hA hR hp ?_
          refine (s306_31 (hA.k (by decide) (by decide) rfl) (by first | assumption | omega) (by first | assumption | omega)).mpr ?_
          refine s306_32.mpr (s306_33.mpr ?_)
          try simp (disch := first | decide | assumption | omega) only [kon, knt_some, knt_none, Option.toList_some, Option.toList_none, List.cons_append, List.nil_append, ehg, e98, hW, fSub_id]
          refine (s306_34 (by omega) kM).mpr ?_
          refine r_stack hA hR (by omega) hp (by omega) ?_
          refine (s306_37 (hA.k (by decide) (by decide) rfl) (by first | assumption | omega) (by first | assumption | omega)).mpr ?_
          try simp (disch := first | decide | assumption | omega) only [kon, knt_some, knt_none, Option.toList_some, Option.toList_none, List.cons_append, List.nil_append, ehg, e98, hW, fSub_id]
          refine (s306_38 (hA.k (by decide) (by decide) rfl) (by first | assumption | omega) (by first | assumption | omega)).mpr ?_
          try simp (disch := first | decide | assumption | omega) only [kon, knt_some, knt_none, Option.toList_some, Option.toList_none, List.cons_append, List.nil_append, ehg, e98, hW, fSub_id]
          refine s306_39.mpr (wif (fun c39 => ?_) (fun c39 => ?_))
          · first
            | (exfalso; omega)
            | skip
              exfalso; omega
          · first
            | (exfalso; omega)
            | skip
              refine s306_46.mpr ?_
              refine (s306_47 (by first | assumption | omega)).mpr ?_
              exact E
      · first
        | (exfalso; omega)
        | skip
          exact absurd rfl (by assumption)
  · rw [if_neg c1] at y n
    by_cases c2 : o = 37
    · rw [if_pos c2] at y n
      obtain ⟨z1, z2, z3, z4⟩ := h37 c2
      obtain ⟨D, hD⟩ : ∃ D, depS hi p t = D := ⟨_, rfl⟩
      have hD01 : D = 0 ∨ D = 1 := by
        rw [← hD]; unfold depS
        split
        · exact Or.inr rfl
        · show (if _ then (0 : Int) else 1) = 0 ∨ (if _ then (0 : Int) else 1) = 1
          split
          · exact Or.inl rfl
          · exact Or.inr rfl
      rw [hD] at y n z4
      have e98 : hi 98 (sk hi p (hg hi p - 1 - D)) = tv hi p D := rfl
      have hs := sk_b (k := hg hi p - 1 - D) hp (by omega)
      obtain ⟨e, he⟩ : ∃ e, tv hi p D = e := ⟨_, rfl⟩
      rw [he] at y n z4 e98
      simp only [] at y n
      have ex := fXor_1 z4
      obtain ⟨o0, o1⟩ := oth_b z4
      obtain ⟨u, hu⟩ : ∃ u, oth e = u := ⟨_, rfl⟩
      rw [hu] at y n ex o0
      obtain ⟨S, hS⟩ : ∃ S, hi 112 u = S := ⟨_, rfl⟩
      obtain ⟨W, hW⟩ : ∃ W, hi 114 u = W := ⟨_, rfl⟩
      rw [hS, hW] at y n
      by_cases cg : S = -1 ∨ W < 4
      · have E := y cg
        refine s306_0.mpr (s306_1.mpr ?_)
        refine (s306_2 (by omega) kM).mpr ?_
        refine r_op hA hR (by omega) hp hm hf hx m0 f0 hc c0 x0 q0 h52 hB ?_
        try simp only [kon, knt_some, knt_none, Option.toList_some, Option.toList_none, List.cons_append, List.nil_append, ho]
        refine s306_5.mpr (s306_6.mpr (s306_7.mpr ?_))
        refine s306_9.mpr (wif (fun c9 => ?_) (fun c9 => ?_))
        · first
          | (exfalso; omega)
          | skip
            exact absurd (by assumption) c1
        · first
          | (exfalso; omega)
          | skip
            refine s306_48.mpr (s306_49.mpr ?_)
            refine s306_51.mpr (wif (fun c51 => ?_) (fun c51 => ?_))
            · first
              | (exfalso; omega)
              | skip
                refine s306_56.mpr ((s306_57 kM).mpr ?_)
                rw [mr_68 hR]
                refine s306_60.mpr (s306_61.mpr (s306_62.mpr ((s306_63 kM).mpr ?_)))
                rw [mr_67 hR]
                refine s306_66.mpr (s306_67.mpr ?_)
                refine (s306_68 (by omega) kM).mpr ?_
                refine r_act hA hR hp ?_
                refine (s306_71 (hA.k (by decide) (by decide) rfl) (by first | assumption | omega) (by first | assumption | omega)).mpr ?_
                refine s306_72.mpr (s306_73.mpr (s306_74.mpr (s306_75.mpr (s306_76.mpr (s306_77.mpr ?_)))))
                refine s306_78.mpr ?_
                try simp (disch := first | decide | assumption | omega) only [kon, knt_some, knt_none, Option.toList_some, Option.toList_none, List.cons_append, List.nil_append, ehg, e98, ex, hS, hW, fSub_id]
                refine (s306_79 (by omega) kM).mpr ?_
                refine r_part hA hR (by omega) hp hm hf hx m0 f0 hc c0 x0 q0 h52 hB (by decide) ?_
                try simp only [kon, knt_some, knt_none, Option.toList_some, Option.toList_none, List.cons_append, List.nil_append, ht]
                refine (s306_82 (by omega) kM).mpr ?_
                refine r_depth hA hR (by omega) hp z1 (fun z => ⟨z3 z, fun _ => z2.2⟩) z2.1 ?_
                try simp only [kon, knt_some, knt_none, Option.toList_some, Option.toList_none, List.cons_append, List.nil_append, hD]
                refine s306_85.mpr ?_
                try simp (disch := first | decide | assumption | omega) only [kon, knt_some, knt_none, Option.toList_some, Option.toList_none, List.cons_append, List.nil_append, ehg, e98, ex, hS, hW, fSub_id]
                refine (s306_86 (by omega) kM).mpr ?_
                refine r_stack hA hR (by omega) hp (by omega) ?_
                refine (s306_89 (hA.k (by decide) (by decide) rfl) (by first | assumption | omega) (by first | assumption | omega)).mpr ?_
                refine s306_90.mpr (s306_91.mpr ((s306_92 kM).mpr ?_))
                rw [mr_82 hR]
                refine s306_95.mpr (s306_96.mpr (s306_97.mpr ?_))
                try simp (disch := first | decide | assumption | omega) only [kon, knt_some, knt_none, Option.toList_some, Option.toList_none, List.cons_append, List.nil_append, ehg, e98, ex, hS, hW, fSub_id]
                refine (s306_98 (hA.k (by decide) (by decide) rfl) (by first | assumption | omega) (by first | assumption | omega)).mpr ?_
                refine s306_99.mpr ?_
                try simp (disch := first | decide | assumption | omega) only [kon, knt_some, knt_none, Option.toList_some, Option.toList_none, List.cons_append, List.nil_append, ehg, e98, ex, hS, hW, fSub_id]
                refine s306_100.mpr (wif (fun c100 => ?_) (fun c100 => ?_))
                · first
                  | (exfalso; omega)
                  | skip
                    refine s306_115.mpr (s306_116.mpr ?_)
                    refine (s306_120 (by first | assumption | omega)).mpr ?_
                    exact E
                · first
                  | (exfalso; omega)
                  | skip
                    refine s306_103.mpr ((s306_104 kM).mpr ?_)
                    rw [mr_84 hR]
                    refine s306_107.mpr (s306_108.mpr (s306_109.mpr ?_))
                    try simp (disch := first | decide | assumption | omega) only [kon, knt_some, knt_none, Option.toList_some, Option.toList_none, List.cons_append, List.nil_append, ehg, e98, ex, hS, hW, fSub_id]
                    refine (s306_110 (hA.k (by decide) (by decide) rfl) (by first | assumption | omega) (by first | assumption | omega)).mpr ?_
                    refine s306_111.mpr ?_
                    try simp (disch := first | decide | assumption | omega) only [kon, knt_some, knt_none, Option.toList_some, Option.toList_none, List.cons_append, List.nil_append, ehg, e98, ex, hS, hW, fSub_id]
                    refine s306_112.mpr (wif (fun c112 => ?_) (fun c112 => ?_))
                    · first
                      | (exfalso; omega)
                      | skip
                        refine s306_115.mpr (s306_116.mpr ?_)
                        refine (s306_120 (by first | assumption | omega)).mpr ?_
                        exact E
                    · first
                      | (exfalso; omega)
                      | skip
                        exfalso; omega
            · first
              | (exfalso; omega)
              | skip
                exact absurd c2 (by assumption)
      · have E := n cg
        refine s306_0.mpr (s306_1.mpr ?_)
        refine (s306_2 (by omega) kM).mpr ?_
        refine r_op hA hR (by omega) hp hm hf hx m0 f0 hc c0 x0 q0 h52 hB ?_
        try simp only [kon, knt_some, knt_none, Option.toList_some, Option.toList_none, List.cons_append, List.nil_append, ho]
        refine s306_5.mpr (s306_6.mpr (s306_7.mpr ?_))
        refine s306_9.mpr (wif (fun c9 => ?_) (fun c9 => ?_))
        · first
          | (exfalso; omega)
          | skip
            exact absurd (by assumption) c1
        · first
          | (exfalso; omega)
          | skip
            refine s306_48.mpr (s306_49.mpr ?_)
            refine s306_51.mpr (wif (fun c51 => ?_) (fun c51 => ?_))
            · first
              | (exfalso; omega)
              | skip
                refine s306_56.mpr ((s306_57 kM).mpr ?_)
                rw [mr_68 hR]
                refine s306_60.mpr (s306_61.mpr (s306_62.mpr ((s306_63 kM).mpr ?_)))
                rw [mr_67 hR]
                refine s306_66.mpr (s306_67.mpr ?_)
                refine (s306_68 (by omega) kM).mpr ?_
                refine r_act hA hR hp ?_
                refine (s306_71 (hA.k (by decide) (by decide) rfl) (by first | assumption | omega) (by first | assumption | omega)).mpr ?_
                refine s306_72.mpr (s306_73.mpr (s306_74.mpr (s306_75.mpr (s306_76.mpr (s306_77.mpr ?_)))))
                refine s306_78.mpr ?_
                try simp (disch := first | decide | assumption | omega) only [kon, knt_some, knt_none, Option.toList_some, Option.toList_none, List.cons_append, List.nil_append, ehg, e98, ex, hS, hW, fSub_id]
                refine (s306_79 (by omega) kM).mpr ?_
                refine r_part hA hR (by omega) hp hm hf hx m0 f0 hc c0 x0 q0 h52 hB (by decide) ?_
                try simp only [kon, knt_some, knt_none, Option.toList_some, Option.toList_none, List.cons_append, List.nil_append, ht]
                refine (s306_82 (by omega) kM).mpr ?_
                refine r_depth hA hR (by omega) hp z1 (fun z => ⟨z3 z, fun _ => z2.2⟩) z2.1 ?_
                try simp only [kon, knt_some, knt_none, Option.toList_some, Option.toList_none, List.cons_append, List.nil_append, hD]
                refine s306_85.mpr ?_
                try simp (disch := first | decide | assumption | omega) only [kon, knt_some, knt_none, Option.toList_some, Option.toList_none, List.cons_append, List.nil_append, ehg, e98, ex, hS, hW, fSub_id]
                refine (s306_86 (by omega) kM).mpr ?_
                refine r_stack hA hR (by omega) hp (by omega) ?_
                refine (s306_89 (hA.k (by decide) (by decide) rfl) (by first | assumption | omega) (by first | assumption | omega)).mpr ?_
                refine s306_90.mpr (s306_91.mpr ((s306_92 kM).mpr ?_))
                rw [mr_82 hR]
                refine s306_95.mpr (s306_96.mpr (s306_97.mpr ?_))
                try simp (disch := first | decide | assumption | omega) only [kon, knt_some, knt_none, Option.toList_some, Option.toList_none, List.cons_append, List.nil_append, ehg, e98, ex, hS, hW, fSub_id]
                refine (s306_98 (hA.k (by decide) (by decide) rfl) (by first | assumption | omega) (by first | assumption | omega)).mpr ?_
                refine s306_99.mpr ?_
                try simp (disch := first | decide | assumption | omega) only [kon, knt_some, knt_none, Option.toList_some, Option.toList_none, List.cons_append, List.nil_append, ehg, e98, ex, hS, hW, fSub_id]
                refine s306_100.mpr (wif (fun c100 => ?_) (fun c100 => ?_))
                · first
                  | (exfalso; omega)
                  | skip
                    exfalso; omega
                · first
                  | (exfalso; omega)
                  | skip
                    refine s306_103.mpr ((s306_104 kM).mpr ?_)
                    rw [mr_84 hR]
                    refine s306_107.mpr (s306_108.mpr (s306_109.mpr ?_))
                    try simp (disch := first | decide | assumption | omega) only [kon, knt_some, knt_none, Option.toList_some, Option.toList_none, List.cons_append, List.nil_append, ehg, e98, ex, hS, hW, fSub_id]
                    refine (s306_110 (hA.k (by decide) (by decide) rfl) (by first | assumption | omega) (by first | assumption | omega)).mpr ?_
                    refine s306_111.mpr ?_
                    try simp (disch := first | decide | assumption | omega) only [kon, knt_some, knt_none, Option.toList_some, Option.toList_none, List.cons_append, List.nil_append, ehg, e98, ex, hS, hW, fSub_id]
                    refine s306_112.mpr (wif (fun c112 => ?_) (fun c112 => ?_))
                    · first
                      | (exfalso; omega)
                      | skip
                        exfalso; omega
                    · first
                      | (exfalso; omega)
                      | skip
                        refine s306_119.mpr ?_
                        refine (s306_120 (by first | assumption | omega)).mpr ?_
                        exact E
            · first
              | (exfalso; omega)
              | skip
                exact absurd c2 (by assumption)
    · rw [if_neg c2] at y
      have E := y trivial
      refine s306_0.mpr (s306_1.mpr ?_)
      refine (s306_2 (by omega) kM).mpr ?_
      refine r_op hA hR (by omega) hp hm hf hx m0 f0 hc c0 x0 q0 h52 hB ?_
      try simp only [kon, knt_some, knt_none, Option.toList_some, Option.toList_none, List.cons_append, List.nil_append, ho]
      refine s306_5.mpr (s306_6.mpr (s306_7.mpr ?_))
      refine s306_9.mpr (wif (fun c9 => ?_) (fun c9 => ?_))
      · skip
        exact absurd (by assumption) c1
      · skip
        refine s306_48.mpr (s306_49.mpr ?_)
        refine s306_51.mpr (wif (fun c51 => ?_) (fun c51 => ?_))
        · skip
          exact absurd (by assumption) c2
        · skip
          refine s306_54.mpr ?_
          refine (s306_55 (by first | assumption | omega)).mpr ?_
          exact E
end RQ0
