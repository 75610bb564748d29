/-! MANIFESTS: the class reads one -/
section CN3
variable {d : Nat} {al : AL} {hi : HI} {hr : HR} {Q : QQ} {B Bm : Int → Int} {S : Int → Option (Int → Int)} {G : HI} {N : Nat} {n : Int}
theorem MnC.fr {h' : HI} {hr' : HR} {G' : HI} {p p' : Int} (H : MnC S hi hr G p') (hp : p' < p) (hS : CSh al hi hr S) (h1 : ∀ a i, 18 ≤ a → a ≤ 20 → i ≠ p → h' a i = hi a i ∧ G' (a + 59) i = G (a + 59) i) (h2 : ∀ i, i ≠ p → hr' 17 i = hr 17 i) (h3 : ∀ i, i < 4 * p → h' 21 i = hi 21 i ∧ G' 80 i = G 80 i) (h4 : ∀ i, hr' 4 i = hr 4 i) : MnC S h' hr' G' p' := by
  obtain ⟨a1, a2, a3, a4, ⟨b, b1, b2, b3, b4⟩, a6, a7⟩ := H
  have e77 : G' 77 p' = G 77 p' := (h1 18 p' (by decide) (by decide) (by omega)).2
  have e78 : G' 78 p' = G 78 p' := (h1 19 p' (by decide) (by decide) (by omega)).2
  have e79 : G' 79 p' = G 79 p' := (h1 20 p' (by decide) (by decide) (by omega)).2
  refine ⟨by rw [h2 _ (by omega), h4, e77]; exact a1, by rw [e77, (h1 18 p' (by decide) (by decide) (by omega)).1]; exact a2, by rw [e78, (h1 19 p' (by decide) (by decide) (by omega)).1]; exact a3, by rw [e79, (h1 20 p' (by decide) (by decide) (by omega)).1]; exact a4, ⟨b, by rw [e77]; exact b1, by rw [e78]; exact ⟨b2, b3, b4⟩⟩, by rw [e79]; exact a6, fun c k z1 z2 z3 => ?_⟩
  rw [e77, b1] at z1; cases z1
  rw [e78] at z3
  obtain ⟨_, N', n', L, _, hGC⟩ := hS.1 _ b b1
  obtain ⟨M, hM, hT, -⟩ := hGC
  have n4 := (hT.2.1.2.2.2.2.2.2.2.2.2.2 _ b2 b3).2.1
  rw [(h3 _ (by omega)).1, (h3 _ (by omega)).2]
  exact a7 b k b1 z2 z3
set_option maxRecDepth 8000 in
theorem x_read (hA : SA al) (hc : CR hr) (hd : 8 ≤ d) (hx : TX2 B n) (ht : ∀ k, 0 ≤ k → k < n → hi 3 k = B k) (hS : CSh al hi hr S)
    (ok : ∀ q G hi' hr', manP S B n = .ok (q, G) → FW wCm hi hi' → RW rCm hr hr' → hi' 15 4 = 0 → hi' 15 5 = -1 → hi' 14 1 = B 2 → (∀ p, 0 ≤ p → p < B 2 → MnC S hi' hr' G p) → GCr hi' hr' G → GV S G → Q (some (some (vR (some 15)))) al hi' hr')
    (er : ∀ w q hi' hr', manP S B n = .error (w, q) → FW wCm hi hi' → RW rCm hr hr' → hi' 15 4 = w → hi' 15 5 = q → w ≠ 0 → Q (some (some (vR (some 15)))) al hi' hr') : Ev d 98 [vR (some 14), vR (some 3), vI n, vR (some 4)] al hi hr Q := by
  have k14 : isK al 14 7 := hA.k (by decide) (by decide) rfl
  have k15 : isK al 15 2 := hA.k (by decide) (by decide) rfl
  have k3 : isK al 3 15 := hA.k (by decide) (by decide) rfl
  have l3 : aln al 3 = 2000 := hA.len (by decide) (by decide) rfl
  have k22 : isK al 22 15 := hA.k (by decide) (by decide) rfl
  have l22 : aln al 22 = 8 := hA.len (by decide) (by decide) rfl
  obtain ⟨hxb, n0, n2⟩ := id hx
  have h255 : ∀ i, B i ≤ 255 := fun i => by
    by_cases c : 0 ≤ i ∧ i < n
    · exact ((hxb i).1 c).2
    · rw [(hxb i).2 c]; decide
  have hcw : ∀ {hr' : HR}, RW rCm hr hr' → CR hr' := fun z p hp => by
    have key : ∀ p ∈ crl, p.1 ≠ 15 ∧ p.1 ≠ 17 ∧ p.1 ≠ 23 := by decide
    have := key p hp
    exact (z p.1 p.2.1 (by unfold rCm; omega)).trans (hc p hp)
  have hBM : ∀ {h' : HI} {hr' : HR}, FW wCm hi h' → h' 15 1 = n → h' 15 2 = n → 0 ≤ h' 15 3 → hr' 15 0 = some 3 → BM al h' hr' n B := fun w z1 z2 z3 z4 => ⟨⟨k15, z4, k3, z1, by rw [l3]; omega, fun k q0 q1 => (w 3 k (by unfold wCm; omega)).trans (ht k q0 q1), hxb, n0, n2⟩, z2, z3⟩
  -- the end, after a fault
  have F106 : ∀ h hr1 l4, FW wCm hi h → RW rCm hr hr1 → BM al h hr1 n B → h 15 4 ≠ 0 → Q (some (some (vR (some 15)))) al h hr1 → Wp d 98 106 [vR (some 14), vR (some 3), vI n, vR (some 4), l4] [] al h hr1 Q := by
    intro h hr1 l4 w wr hB hn hQ
    have e0 := cr_14_0 (hcw wr)
    have e7 := cr_14_7 (hcw wr)
    have T116 : ∀ (i : Nat) (e : Int), e + i = 8 → 0 ≤ e → Wp d 98 116 [vR (some 14), vR (some 3), vI n, vR (some 4), vI e] [] al h hr1 Q := by
      intro i
      induction i with
      | zero =>
        intro e he e0'
        refine s98_116.mpr (s98_118.mpr ?_)
        refine s98_120.mpr (wif (fun c120 => ?_) (fun c120 => ?_))
        · skip
          exfalso; omega
        · skip
          refine s98_156.mpr ?_
          refine (s98_157 (by first | decide | assumption | omega)).mpr ?_
          try simp (disch := first | decide | assumption | omega) only [e0]
          refine (s98_160).mpr ?_
          first | exact hQ | (rw [e0]; exact hQ)
      | succ i ih =>
        intro e he e0'
        have NX := ih (e + 1) (by omega) (by omega)
        refine s98_116.mpr (s98_118.mpr ?_)
        refine s98_120.mpr (wif (fun c120 => ?_) (fun c120 => ?_))
        · skip
          refine s98_123.mpr ?_
          refine (s98_124 (by first | decide | assumption | omega)).mpr ?_
          refine s98_127.mpr ?_
          try simp (disch := first | decide | assumption | omega) only [kon, knt_some, knt_none, Option.toList_some, Option.toList_none, List.cons_append, List.nil_append, e0, e7, fAdd_id]
          refine (s98_129 (by first | decide | assumption | omega) (by first | decide | assumption | omega) (by first | decide | assumption | omega)).mpr ?_
          refine s98_130.mpr ?_
          try simp (disch := first | decide | assumption | omega) only [kon, knt_some, knt_none, Option.toList_some, Option.toList_none, List.cons_append, List.nil_append, e0, e7, fAdd_id]
          refine s98_131.mpr (wif (fun c131 => ?_) (fun c131 => ?_))
          · skip
            refine s98_134.mpr ?_
            refine (s98_135 (by first | decide | assumption | omega)).mpr ?_
            refine s98_138.mpr (s98_140.mpr ?_)
            try simp (disch := first | decide | assumption | omega) only [kon, knt_some, knt_none, Option.toList_some, Option.toList_none, List.cons_append, List.nil_append, e0, e7, fAdd_id]
            refine (s98_141 (by first | decide | assumption | omega)).mpr ?_
            try simp (disch := first | decide | assumption | omega) only [kon, knt_some, knt_none, Option.toList_some, Option.toList_none, List.cons_append, List.nil_append, e0, e7, fAdd_id]
            refine (s98_144 (by first | decide | assumption | omega)).mpr ?_
            try simp (disch := first | decide | assumption | omega) only [kon, knt_some, knt_none, Option.toList_some, Option.toList_none, List.cons_append, List.nil_append, e0, e7, fAdd_id]
            refine (s98_147 (by first | decide | assumption | omega) (by first | decide | assumption | omega)).mpr ?_
            refine b_fail k15 (fun z => absurd z hn) (fun _ => ?_)
            refine s98_150.mpr (s98_153.mpr ?_)
            try simp (disch := first | decide | assumption | omega) only [kon, knt_some, knt_none, Option.toList_some, Option.toList_none, List.cons_append, List.nil_append, e0, e7, fAdd_id]
            exact NX
          · skip
            refine s98_150.mpr (s98_153.mpr ?_)
            try simp (disch := first | decide | assumption | omega) only [kon, knt_some, knt_none, Option.toList_some, Option.toList_none, List.cons_append, List.nil_append, e0, e7, fAdd_id]
            exact NX
        · skip
          exfalso; omega
    refine s98_106.mpr ?_
    refine (s98_107 (by first | decide | assumption | omega)).mpr ?_
    try simp (disch := first | decide | assumption | omega) only [kon, knt_some, knt_none, Option.toList_some, Option.toList_none, List.cons_append, List.nil_append, e0]
    refine (s98_110 (by first | decide | assumption | omega) (by first | decide | assumption | omega)).mpr ?_
    refine b_expectEnd hB.1 (by omega) (fun _ => ?_) (fun z => absurd z hn) (fun z => absurd z hn)
    refine s98_113.mpr (s98_114.mpr ?_)
    exact T116 8 0 (by omega) (Int.le_refl _)
  have F68 : ∀ h hr1 x, 1 ≤ x → FW wCm hi h → RW rCm hr hr1 → BM al h hr1 n B → h 15 4 ≠ 0 → (∀ h', FW wCm hi h' → h' 15 4 = h 15 4 → h' 15 5 = h 15 5 → Q (some (some (vR (some 15)))) al h' hr1) → Wp d 98 68 [vR (some 14), vR (some 3), vI n, vR (some 4), vI 8] [vI x, vR (some 14)] al h hr1 Q := by
    intro h hr1 x hx1 w wr hB hn hQ
    have e0 := cr_14_0 (hcw wr)
    have w2 : FW wCm hi (upI h 14 1 x) := w.up (by unfold wCm; omega)
    have x1 : (upI h 14 1 x) 14 1 = x := upI_eq
    have x4 : (upI h 14 1 x) 15 4 ≠ 0 := by rw [upI_a (by decide)]; exact hn
    have hB2 : BM al (upI h 14 1 x) hr1 n B := hB.fr (fun i _ => upI_a (by decide)) (fun i => upI_a (by decide)) (by rw [upI_a (by decide)]; exact hB.2.2)
    have R := F106 _ hr1 (vI 0) w2 wr hB2 x4 (hQ _ w2 (upI_a (by decide)) (upI_a (by decide)))
    refine (s98_68 (by first | decide | assumption | omega)).mpr ?_
    refine s98_71.mpr (s98_72.mpr (s98_74.mpr (s98_76.mpr ?_)))
    try simp (disch := first | decide | assumption | omega) only [kon, knt_some, knt_none, Option.toList_some, Option.toList_none, List.cons_append, List.nil_append, e0, x1]
    refine (s98_77 (by first | decide | assumption | omega)).mpr ?_
    try simp (disch := first | decide | assumption | omega) only [kon, knt_some, knt_none, Option.toList_some, Option.toList_none, List.cons_append, List.nil_append, e0, x1]
    refine s98_80.mpr (wif (fun c80 => ?_) (fun c80 => ?_))
    · skip
      refine s98_83.mpr ?_
      refine (s98_84 (by first | decide | assumption | omega)).mpr ?_
      try simp (disch := first | decide | assumption | omega) only [kon, knt_some, knt_none, Option.toList_some, Option.toList_none, List.cons_append, List.nil_append, e0, x1]
      refine (s98_87 (by first | decide | assumption | omega) (by first | decide | assumption | omega)).mpr ?_
      refine b_isRight k15 (fun z => absurd z x4) (fun _ => ?_)
      simp only [kon, knt_some, knt_none, Option.toList_some, Option.toList_none, List.cons_append, List.nil_append]
      refine s98_90.mpr (wif (fun c90 => ?_) (fun c90 => ?_))
      · skip
        first | exact R | (exfalso; omega)
      · skip
        exact absurd rfl ‹¬ (0 : Int) = 0›
    · skip
      first | exact R | (exfalso; omega)
  -- the end
  have T106 : ∀ q G h hr1 l4, manP S B n = finM n (q, G) → FW wCm hi h → RW rCm hr hr1 → BM al h hr1 n B → h 15 4 = 0 → h 15 3 = q → h 15 5 = -1 → h 14 1 = B 2 → (∀ p, 0 ≤ p → p < B 2 → MnC S h hr1 G p) → GCr h hr1 G → GV S G → Wp d 98 106 [vR (some 14), vR (some 3), vI n, vR (some 4), l4] [] al h hr1 Q := by
    intro q G h hr1 l4 hm w wr hB h4 hq h5 hcnt hmn hg hv
    have e0 := cr_14_0 (hcw wr)
    have e7 := cr_14_7 (hcw wr)
    by_cases cn : q < n
    · have hm : manP S B n = .error (1, q) := by rw [hm]; unfold finM; rw [if_pos cn]
      let h9 := upI (upI h 15 4 1) 15 5 q
      have w9 : FW wCm hi h9 := (w.up (by unfold wCm; omega)).up (by unfold wCm; omega)
      have x4 : h9 15 4 = 1 := by show upI _ _ _ _ _ _ = _; rw [upI_i (by decide), upI_eq]
      have E := er 1 q h9 hr1 hm w9 wr x4 upI_eq (by decide)
      have T116 : ∀ (i : Nat) (e : Int), e + i = 8 → 0 ≤ e → Wp d 98 116 [vR (some 14), vR (some 3), vI n, vR (some 4), vI e] [] al h9 hr1 Q := by
        intro i
        induction i with
        | zero =>
          intro e he e0'
          refine s98_116.mpr (s98_118.mpr ?_)
          refine s98_120.mpr (wif (fun c120 => ?_) (fun c120 => ?_))
          · skip
            exfalso; omega
          · skip
            refine s98_156.mpr ?_
            refine (s98_157 (by first | decide | assumption | omega)).mpr ?_
            try simp (disch := first | decide | assumption | omega) only [e0]
            refine (s98_160).mpr ?_
            first | exact E | (rw [e0]; exact E)
        | succ i ih =>
          intro e he e0'
          have NX := ih (e + 1) (by omega) (by omega)
          refine s98_116.mpr (s98_118.mpr ?_)
          refine s98_120.mpr (wif (fun c120 => ?_) (fun c120 => ?_))
          · skip
            refine s98_123.mpr ?_
            refine (s98_124 (by first | decide | assumption | omega)).mpr ?_
            refine s98_127.mpr ?_
            try simp (disch := first | decide | assumption | omega) only [kon, knt_some, knt_none, Option.toList_some, Option.toList_none, List.cons_append, List.nil_append, e0, e7, fAdd_id]
            refine (s98_129 (by first | decide | assumption | omega) (by first | decide | assumption | omega) (by first | decide | assumption | omega)).mpr ?_
            refine s98_130.mpr ?_
            try simp (disch := first | decide | assumption | omega) only [kon, knt_some, knt_none, Option.toList_some, Option.toList_none, List.cons_append, List.nil_append, e0, e7, fAdd_id]
            refine s98_131.mpr (wif (fun c131 => ?_) (fun c131 => ?_))
            · skip
              refine s98_134.mpr ?_
              refine (s98_135 (by first | decide | assumption | omega)).mpr ?_
              refine s98_138.mpr (s98_140.mpr ?_)
              try simp (disch := first | decide | assumption | omega) only [kon, knt_some, knt_none, Option.toList_some, Option.toList_none, List.cons_append, List.nil_append, e0, e7, fAdd_id]
              refine (s98_141 (by first | decide | assumption | omega)).mpr ?_
              try simp (disch := first | decide | assumption | omega) only [kon, knt_some, knt_none, Option.toList_some, Option.toList_none, List.cons_append, List.nil_append, e0, e7, fAdd_id]
              refine (s98_144 (by first | decide | assumption | omega)).mpr ?_
              try simp (disch := first | decide | assumption | omega) only [kon, knt_some, knt_none, Option.toList_some, Option.toList_none, List.cons_append, List.nil_append, e0, e7, fAdd_id]
              refine (s98_147 (by first | decide | assumption | omega) (by first | decide | assumption | omega)).mpr ?_
              refine b_fail k15 (fun z => by rw [x4] at z; cases z) (fun _ => ?_)
              refine s98_150.mpr (s98_153.mpr ?_)
              try simp (disch := first | decide | assumption | omega) only [kon, knt_some, knt_none, Option.toList_some, Option.toList_none, List.cons_append, List.nil_append, e0, e7, fAdd_id]
              exact NX
            · skip
              refine s98_150.mpr (s98_153.mpr ?_)
              try simp (disch := first | decide | assumption | omega) only [kon, knt_some, knt_none, Option.toList_some, Option.toList_none, List.cons_append, List.nil_append, e0, e7, fAdd_id]
              exact NX
          · skip
            exfalso; omega
      refine s98_106.mpr ?_
      refine (s98_107 (by first | decide | assumption | omega)).mpr ?_
      try simp (disch := first | decide | assumption | omega) only [kon, knt_some, knt_none, Option.toList_some, Option.toList_none, List.cons_append, List.nil_append, e0]
      refine (s98_110 (by first | decide | assumption | omega) (by first | decide | assumption | omega)).mpr ?_
      refine b_expectEnd hB.1 (by omega) (fun z => absurd h4 z) (fun _ _ => ?_) (fun _ z => absurd (by rw [hq]; exact cn) z)
      simp only [kon, knt_some, knt_none, Option.toList_some, Option.toList_none, List.cons_append, List.nil_append]
      rw [hq]
      refine s98_113.mpr (s98_114.mpr ?_)
      exact T116 8 0 (by omega) (Int.le_refl _)
    · have hm : manP S B n = cif (∃ e, 0 ≤ e ∧ e < 8 ∧ G 81 e = 1) (.error (6, q)) (.ok (q, G)) := by rw [hm]; unfold finM; rw [if_neg cn]
      have T116 : ∀ (i : Nat) (e : Int), e + i = 8 → 0 ≤ e → (∀ e', 0 ≤ e' → e' < e → G 81 e' ≠ 1) → Wp d 98 116 [vR (some 14), vR (some 3), vI n, vR (some 4), vI e] [] al h hr1 Q := by
        intro i
        induction i with
        | zero =>
          intro e he e0' hall
          have E := ok q G h hr1 (by rw [hm, cif_n]; rintro ⟨e', z1, z2, z3⟩; exact hall e' z1 (by omega) z3) w wr h4 h5 hcnt hmn hg hv
          refine s98_116.mpr (s98_118.mpr ?_)
          refine s98_120.mpr (wif (fun c120 => ?_) (fun c120 => ?_))
          · skip
            exfalso; omega
          · skip
            refine s98_156.mpr ?_
            refine (s98_157 (by first | decide | assumption | omega)).mpr ?_
            try simp (disch := first | decide | assumption | omega) only [e0]
            refine (s98_160).mpr ?_
            first | exact E | (rw [e0]; exact E)
        | succ i ih =>
          intro e he e0' hall
          have e22 : h 22 e = G 81 e := (hg e e0' (by omega)).1
          by_cases c : G 81 e = 1
          · have hm6 : manP S B n = .error (6, q) := by rw [hm, cif_y ⟨e, e0', by omega, c⟩]
            let h9 := upI (upI h 15 4 6) 15 5 q
            have w9 : FW wCm hi h9 := (w.up (by unfold wCm; omega)).up (by unfold wCm; omega)
            have x4 : h9 15 4 = 6 := by show upI _ _ _ _ _ _ = _; rw [upI_i (by decide), upI_eq]
            have E := er 6 q h9 hr1 hm6 w9 wr x4 upI_eq (by decide)
            have U116 : ∀ (i : Nat) (e : Int), e + i = 8 → 0 ≤ e → Wp d 98 116 [vR (some 14), vR (some 3), vI n, vR (some 4), vI e] [] al h9 hr1 Q := by
              intro i
              induction i with
              | zero =>
                intro e he e0'
                refine s98_116.mpr (s98_118.mpr ?_)
                refine s98_120.mpr (wif (fun c120 => ?_) (fun c120 => ?_))
                · skip
                  exfalso; omega
                · skip
                  refine s98_156.mpr ?_
                  refine (s98_157 (by first | decide | assumption | omega)).mpr ?_
                  try simp (disch := first | decide | assumption | omega) only [e0]
                  refine (s98_160).mpr ?_
                  first | exact E | (rw [e0]; exact E)
              | succ i ih =>
                intro e he e0'
                have NX := ih (e + 1) (by omega) (by omega)
                refine s98_116.mpr (s98_118.mpr ?_)
                refine s98_120.mpr (wif (fun c120 => ?_) (fun c120 => ?_))
                · skip
                  refine s98_123.mpr ?_
                  refine (s98_124 (by first | decide | assumption | omega)).mpr ?_
                  refine s98_127.mpr ?_
                  try simp (disch := first | decide | assumption | omega) only [kon, knt_some, knt_none, Option.toList_some, Option.toList_none, List.cons_append, List.nil_append, e0, e7, fAdd_id]
                  refine (s98_129 (by first | decide | assumption | omega) (by first | decide | assumption | omega) (by first | decide | assumption | omega)).mpr ?_
                  refine s98_130.mpr ?_
                  try simp (disch := first | decide | assumption | omega) only [kon, knt_some, knt_none, Option.toList_some, Option.toList_none, List.cons_append, List.nil_append, e0, e7, fAdd_id]
                  refine s98_131.mpr (wif (fun c131 => ?_) (fun c131 => ?_))
                  · skip
                    refine s98_134.mpr ?_
                    refine (s98_135 (by first | decide | assumption | omega)).mpr ?_
                    refine s98_138.mpr (s98_140.mpr ?_)
                    try simp (disch := first | decide | assumption | omega) only [kon, knt_some, knt_none, Option.toList_some, Option.toList_none, List.cons_append, List.nil_append, e0, e7, fAdd_id]
                    refine (s98_141 (by first | decide | assumption | omega)).mpr ?_
                    try simp (disch := first | decide | assumption | omega) only [kon, knt_some, knt_none, Option.toList_some, Option.toList_none, List.cons_append, List.nil_append, e0, e7, fAdd_id]
                    refine (s98_144 (by first | decide | assumption | omega)).mpr ?_
                    try simp (disch := first | decide | assumption | omega) only [kon, knt_some, knt_none, Option.toList_some, Option.toList_none, List.cons_append, List.nil_append, e0, e7, fAdd_id]
                    refine (s98_147 (by first | decide | assumption | omega) (by first | decide | assumption | omega)).mpr ?_
                    refine b_fail k15 (fun z => by rw [x4] at z; cases z) (fun _ => ?_)
                    refine s98_150.mpr (s98_153.mpr ?_)
                    try simp (disch := first | decide | assumption | omega) only [kon, knt_some, knt_none, Option.toList_some, Option.toList_none, List.cons_append, List.nil_append, e0, e7, fAdd_id]
                    exact NX
                  · skip
                    refine s98_150.mpr (s98_153.mpr ?_)
                    try simp (disch := first | decide | assumption | omega) only [kon, knt_some, knt_none, Option.toList_some, Option.toList_none, List.cons_append, List.nil_append, e0, e7, fAdd_id]
                    exact NX
                · skip
                  exfalso; omega
            have NX := U116 i (e + 1) (by omega) (by omega)
            have N150 : Wp d 98 150 [vR (some 14), vR (some 3), vI n, vR (some 4), vI e] [] al h9 hr1 Q := by
              refine s98_150.mpr (s98_153.mpr ?_)
              try simp (disch := first | decide | assumption | omega) only [fAdd_id]
              exact NX
            refine s98_116.mpr (s98_118.mpr ?_)
            refine s98_120.mpr (wif (fun c120 => ?_) (fun c120 => ?_))
            · skip
              refine s98_123.mpr ?_
              refine (s98_124 (by first | decide | assumption | omega)).mpr ?_
              refine s98_127.mpr ?_
              try simp (disch := first | decide | assumption | omega) only [kon, knt_some, knt_none, Option.toList_some, Option.toList_none, List.cons_append, List.nil_append, e0, e7, e22, hq, fAdd_id]
              refine (s98_129 (by first | decide | assumption | omega) (by first | decide | assumption | omega) (by first | decide | assumption | omega)).mpr ?_
              refine s98_130.mpr ?_
              try simp (disch := first | decide | assumption | omega) only [kon, knt_some, knt_none, Option.toList_some, Option.toList_none, List.cons_append, List.nil_append, e0, e7, e22, hq, fAdd_id]
              refine s98_131.mpr (wif (fun c131 => ?_) (fun c131 => ?_))
              · skip
                refine s98_134.mpr ?_
                refine (s98_135 (by first | decide | assumption | omega)).mpr ?_
                refine s98_138.mpr (s98_140.mpr ?_)
                try simp (disch := first | decide | assumption | omega) only [kon, knt_some, knt_none, Option.toList_some, Option.toList_none, List.cons_append, List.nil_append, e0, e7, e22, hq, fAdd_id]
                refine (s98_141 (by first | decide | assumption | omega)).mpr ?_
                try simp (disch := first | decide | assumption | omega) only [kon, knt_some, knt_none, Option.toList_some, Option.toList_none, List.cons_append, List.nil_append, e0, e7, e22, hq, fAdd_id]
                refine (s98_144 (by first | decide | assumption | omega)).mpr ?_
                try simp (disch := first | decide | assumption | omega) only [kon, knt_some, knt_none, Option.toList_some, Option.toList_none, List.cons_append, List.nil_append, e0, e7, e22, hq, fAdd_id]
                refine (s98_147 (by first | decide | assumption | omega) (by first | decide | assumption | omega)).mpr ?_
                refine b_fail k15 (fun _ => ?_) (fun z => absurd h4 z)
                first | exact N150 | (exfalso; omega)
              · skip
                first | exact N150 | (exfalso; omega)
            · skip
              exfalso; omega
          · have NX := ih (e + 1) (by omega) (by omega) (fun e' z1 z2 => by
              by_cases z : e' = e
              · subst z; exact c
              · exact hall e' z1 (by omega))
            refine s98_116.mpr (s98_118.mpr ?_)
            refine s98_120.mpr (wif (fun c120 => ?_) (fun c120 => ?_))
            · skip
              refine s98_123.mpr ?_
              refine (s98_124 (by first | decide | assumption | omega)).mpr ?_
              refine s98_127.mpr ?_
              try simp (disch := first | decide | assumption | omega) only [e7, e22, fAdd_id]
              refine (s98_129 (by first | decide | assumption | omega) (by first | decide | assumption | omega) (by first | decide | assumption | omega)).mpr ?_
              refine s98_130.mpr ?_
              try simp (disch := first | decide | assumption | omega) only [e7, e22, fAdd_id]
              refine s98_131.mpr (wif (fun c131 => ?_) (fun c131 => ?_))
              · skip
                exfalso; omega
              · skip
                refine s98_150.mpr (s98_153.mpr ?_)
                try simp (disch := first | decide | assumption | omega) only [e7, e22, fAdd_id]
                exact NX
            · skip
              exfalso; omega
      refine s98_106.mpr ?_
      refine (s98_107 (by first | decide | assumption | omega)).mpr ?_
      try simp (disch := first | decide | assumption | omega) only [kon, knt_some, knt_none, Option.toList_some, Option.toList_none, List.cons_append, List.nil_append, e0]
      refine (s98_110 (by first | decide | assumption | omega) (by first | decide | assumption | omega)).mpr ?_
      refine b_expectEnd hB.1 (by omega) (fun z => absurd h4 z) (fun _ z => absurd (by rw [← hq]; exact z) cn) (fun _ _ => ?_)
      refine s98_113.mpr (s98_114.mpr ?_)
      exact T116 8 0 (by omega) (Int.le_refl _) (fun e' z1 z2 => absurd z2 (by omega))
  -- the processes
  have T74 : ∀ (i : Nat) (p q : Int) G h hr1, p + i = B 2 → 0 ≤ p → B 2 ≤ 6 → manP S B n = (lpX (prcP S B) i p (q, G)).bind (finM n) → FW wCm hi h → RW rCm hr hr1 → BM al h hr1 n B → h 15 4 = 0 → h 15 3 = q → h 15 5 = -1 → h 14 1 = B 2 → (∀ p', 0 ≤ p' → p' < p → MnC S h hr1 G p') → GCr h hr1 G → GV S G → Wp d 98 74 [vR (some 14), vR (some 3), vI n, vR (some 4), vI p] [] al h hr1 Q := by
    intro i
    induction i with
    | zero =>
      intro p q G h hr1 hp p0 p6 hm w wr hB h4 hq h5 hcnt hmn hg hv
      have ep : p = B 2 := by omega
      have R := T106 q G h hr1 (vI p) hm w wr hB h4 hq h5 hcnt (ep ▸ hmn) hg hv
      refine s98_74.mpr (s98_76.mpr ?_)
      refine (s98_77 (by first | decide | assumption | omega)).mpr ?_
      try simp (disch := first | decide | assumption | omega) only [hcnt]
      refine s98_80.mpr (wif (fun c80 => ?_) (fun c80 => ?_))
      · skip
        exfalso; omega
      · skip
        exact R
    | succ i ih =>
      intro p q G h hr1 hp p0 p6 hm w wr hB h4 hq h5 hcnt hmn hg hv
      have hc1 := hcw wr
      have e0 := cr_14_0 hc1
      have hS1 : CSh al h hr1 S := hS.cm w wr
      have hm : manP S B n = ((prcP S B p (q, G)).bind (lpX (prcP S B) i (p + 1))).bind (finM n) := hm
      have wrc : ∀ {h1 h2 : HI}, FW wRp h1 h2 → FW wCm h1 h2 := fun z => wRp_cm z
      have R97 : Ev (d - 1) 99 [vR (some 14), vI p, vR (some 4)] al h hr1 (kon d 98 97 100 [vR (some 14), vR (some 3), vI n, vR (some 4), vI p] [] Q) := by
        refine h_readProcess (q := q) (G := G) hA hc1 (by omega) hB h4 hq hS1 ⟨p0, by omega⟩ hg hv (fun q' G' h' hr' y1 y2 y3 y4 y5 y6 y7 y8 y9 y10 y11 y12 y13 => ?_) (fun w' q' h' hr' y1 y2 y3 y4 y5 y6 y7 => ?_)
        · simp only [kon, knt_some, knt_none, Option.toList_some, Option.toList_none, List.cons_append, List.nil_append]
          rw [y1] at hm
          have hr4 : ∀ i, hr' 4 i = hr1 4 i := fun i => y3 4 i (by show ¬ ((4 : Nat) = 17 ∨ (4 : Nat) = 23); decide)
          have NX : Wp d 98 74 [vR (some 14), vR (some 3), vI n, vR (some 4), vI (p + 1)] [] al h' hr' Q := by
            refine ih (p + 1) q' G' h' hr' (by omega) (by omega) p6 hm (w.tr (wRp_cm y2)) (wr.tr (rRp_cm y3)) (hB.rp y2 y3 (by rw [y5]; exact y7)) y4 y5 (y6.trans h5) ((y2 14 1 (by unfold wRp; omega)).trans hcnt) (fun p' z1 z2 => ?_) y8 y9
            by_cases z : p' = p
            · subst z; exact y10
            · exact (hmn p' z1 (by omega)).fr (p := p) (by omega) hS1 y11 y12 y13 hr4
          refine s98_100.mpr (s98_103.mpr ?_)
          try simp (disch := first | decide | assumption | omega) only [fAdd_id]
          exact NX
        · simp only [kon, knt_some, knt_none, Option.toList_some, Option.toList_none, List.cons_append, List.nil_append]
          rw [y1] at hm
          have w2 := w.tr (wRp_cm y2)
          have wr2 := wr.tr (rRp_cm y3)
          have hB2 := hB.rp y2 y3 y7
          have e02 := cr_14_0 (hcw wr2)
          have hn : h' 15 4 ≠ 0 := by rw [y4]; exact y6
          have R := F106 h' hr' (vI (p + 1)) w2 wr2 hB2 hn (er w' q' h' hr' hm w2 wr2 y4 y5 y6)
          refine s98_100.mpr (s98_103.mpr (s98_74.mpr (s98_76.mpr ?_)))
          try simp (disch := first | decide | assumption | omega) only [kon, knt_some, knt_none, Option.toList_some, Option.toList_none, List.cons_append, List.nil_append, fAdd_id, e02]
          refine (s98_77 (by first | decide | assumption | omega)).mpr ?_
          try simp (disch := first | decide | assumption | omega) only [kon, knt_some, knt_none, Option.toList_some, Option.toList_none, List.cons_append, List.nil_append, fAdd_id, e02]
          refine s98_80.mpr (wif (fun c80 => ?_) (fun c80 => ?_))
          · skip
            refine s98_83.mpr ?_
            refine (s98_84 (by first | decide | assumption | omega)).mpr ?_
            try simp (disch := first | decide | assumption | omega) only [kon, knt_some, knt_none, Option.toList_some, Option.toList_none, List.cons_append, List.nil_append, fAdd_id, e02]
            refine (s98_87 (by first | decide | assumption | omega) (by first | decide | assumption | omega)).mpr ?_
            refine b_isRight k15 (fun z => absurd z hn) (fun _ => ?_)
            simp only [kon, knt_some, knt_none, Option.toList_some, Option.toList_none, List.cons_append, List.nil_append]
            refine s98_90.mpr (wif (fun c90 => ?_) (fun c90 => ?_))
            · skip
              exact R
            · skip
              exact absurd rfl ‹¬ (0 : Int) = 0›
          · skip
            exact R
      refine s98_74.mpr (s98_76.mpr ?_)
      refine (s98_77 (by first | decide | assumption | omega)).mpr ?_
      try simp (disch := first | decide | assumption | omega) only [kon, knt_some, knt_none, Option.toList_some, Option.toList_none, List.cons_append, List.nil_append, hcnt, e0]
      refine s98_80.mpr (wif (fun c80 => ?_) (fun c80 => ?_))
      · skip
        refine s98_83.mpr ?_
        refine (s98_84 (by first | decide | assumption | omega)).mpr ?_
        try simp (disch := first | decide | assumption | omega) only [kon, knt_some, knt_none, Option.toList_some, Option.toList_none, List.cons_append, List.nil_append, hcnt, e0]
        refine (s98_87 (by first | decide | assumption | omega) (by first | decide | assumption | omega)).mpr ?_
        refine b_isRight k15 (fun _ => ?_) (fun z => absurd h4 z)
        simp only [kon, knt_some, knt_none, Option.toList_some, Option.toList_none, List.cons_append, List.nil_append]
        refine s98_90.mpr (wif (fun c90 => ?_) (fun c90 => ?_))
        · skip
          first | (exfalso; omega) | exact absurd ‹(1 : Int) = 0› (by decide)
        · skip
          refine s98_93.mpr (s98_94.mpr (s98_96.mpr ?_))
          refine (s98_97 (by first | decide | assumption | omega) (by first | decide | assumption | omega)).mpr ?_
          exact R97
      · skip
        first | (exfalso; omega) | exact absurd ‹(1 : Int) = 0› (by decide)
  have F56 : ∀ h hr1, FW wCm hi h → RW rCm hr hr1 → BM al h hr1 n B → h 15 4 ≠ 0 → (∀ h', FW wCm hi h' → h' 15 4 = h 15 4 → h' 15 5 = h 15 5 → Q (some (some (vR (some 15)))) al h' hr1) → Wp d 98 57 [vR (some 14), vR (some 3), vI n, vR (some 4), vI 8] [] al h hr1 Q := by
    intro h hr1 w wr hB hn hQ
    have e0 := cr_14_0 (hcw wr)
    refine s98_57.mpr (s98_58.mpr ?_)
    refine (s98_59 (by first | decide | assumption | omega)).mpr ?_
    refine s98_62.mpr (s98_63.mpr ?_)
    try simp (disch := first | decide | assumption | omega) only [kon, knt_some, knt_none, Option.toList_some, Option.toList_none, List.cons_append, List.nil_append, e0]
    refine (s98_65 (by first | decide | assumption | omega) (by first | decide | assumption | omega)).mpr ?_
    refine h_withinF hB (by omega) hn (by decide) (fun x x0 x1 => ?_)
    exact F68 h hr1 x x0 w wr hB hn hQ
  have F44 : ∀ h hr1, FW wCm hi h → RW rCm hr hr1 → BM al h hr1 n B → h 15 4 ≠ 0 → (∀ h', FW wCm hi h' → h' 15 4 = h 15 4 → h' 15 5 = h 15 5 → Q (some (some (vR (some 15)))) al h' hr1) → Wp d 98 45 [vR (some 14), vR (some 3), vI n, vR (some 4), vI 8] [] al h hr1 Q := by
    intro h hr1 w wr hB hn hQ
    have e0 := cr_14_0 (hcw wr)
    refine s98_45.mpr ?_
    refine (s98_46 (by first | decide | assumption | omega)).mpr ?_
    refine s98_49.mpr (s98_51.mpr ?_)
    try simp (disch := first | decide | assumption | omega) only [kon, knt_some, knt_none, Option.toList_some, Option.toList_none, List.cons_append, List.nil_append, e0]
    refine (s98_53 (by first | decide | assumption | omega) (by first | decide | assumption | omega)).mpr ?_
    refine h_withinF hB (by omega) hn (by decide) (fun x x0 x1 => ?_)
    refine s98_56.mpr ?_
    exact F56 h hr1 w wr hB hn hQ
  have ERF : ∀ w q, manP S B n = .error (w, q) → w ≠ 0 → ∀ h' hr1, RW rCm hr hr1 → FW wCm hi h' → h' 15 4 = w → h' 15 5 = q → Q (some (some (vR (some 15)))) al h' hr1 := fun w q e hw h' hr1 z1 z2 z3 z4 => er w q h' hr1 e z2 z1 z3 z4 hw
  have T33 : ∀ h hr1, FW wCm hi h → RW rCm hr hr1 → BM al h hr1 n B → h 15 4 = 0 → h 15 3 = 0 → h 15 5 = -1 → (∀ e, 0 ≤ e → e < 8 → h 22 e = 0) → Wp d 98 33 [vR (some 14), vR (some 3), vI n, vR (some 4), vI 8] [] al h hr1 Q := by
    intro h hr1 w wr hB h4 h3 h5 h22
    have e0 := cr_14_0 (hcw wr)
    have wY15 : ∀ {x y : HI}, FW (wY 15) x y → FW wCm x y := fun z => z.mn (fun a i q => by unfold wY at q; unfold wCm; omega)
    by_cases c0 : B 0 = 83
    case neg =>
      have hm : manP S B n = .error (1, 0) := by unfold manP; rw [if_pos c0]
      have R : ∀ (x : Int) h', 83 ≤ x → x ≤ 83 → FW (wY 15) h h' → h' 15 4 = 1 → h' 15 5 = h 15 3 → 0 ≤ h' 15 3 → Wp d 98 45 [vR (some 14), vR (some 3), vI n, vR (some 4), vI 8] [] al h' hr1 Q := fun x h' _ _ f1 f4 f5 f3 => F44 h' hr1 (w.tr (wY15 f1)) wr (hB.fr (fun i z => f1 15 i (by unfold wY; omega)) (fun i => f1 3 i (by unfold wY; omega)) f3) (by rw [f4]; decide) (fun h2 z1 z2 z3 => ERF 1 0 hm (by decide) h2 hr1 wr z1 (z2.trans f4) ((z3.trans f5).trans h3))
      refine s98_33.mpr ?_
      refine (s98_34 (by first | decide | assumption | omega)).mpr ?_
      refine s98_37.mpr (s98_39.mpr ?_)
      try simp (disch := first | decide | assumption | omega) only [kon, knt_some, knt_none, Option.toList_some, Option.toList_none, List.cons_append, List.nil_append, e0]
      refine (s98_41 (by first | decide | assumption | omega) (by first | decide | assumption | omega)).mpr ?_
      refine h_within hB (by omega) h4 (by decide) (by decide) (fun _ x h1 x0 x1 f1 f4 f5 f3 => ?_) (fun z => absurd (by rw [h3] at z; omega) c0)
      refine s98_44.mpr ?_
      exact R x h1 x0 x1 f1 f4 f5 f3
    obtain ⟨h1, hh1⟩ : ∃ h1, h1 = upI h 15 3 (0 + 1) := ⟨_, rfl⟩
    have w1 : FW wCm hi h1 := by rw [hh1]; exact w.up (by unfold wCm; omega)
    have x13 : h1 15 3 = 1 := by rw [hh1]; exact upI_eq
    have x1i : ∀ i, i ≠ 3 → h1 15 i = h 15 i := fun i z => by rw [hh1, upI_i z]
    have y1 : ∀ a i, a ≠ 15 → h1 a i = h a i := fun a i z => by rw [hh1, upI_a z]
    have hB1 : BM al h1 hr1 n B := hB.fr (fun i z => x1i i (by omega)) (fun i => y1 3 i (by decide)) (by rw [x13]; decide)
    have T45 : Wp d 98 45 [vR (some 14), vR (some 3), vI n, vR (some 4), vI 8] [] al h1 hr1 Q := by
      by_cases c1 : B 1 = 70
      case neg =>
        have hm : manP S B n = .error (1, 1) := by unfold manP; rw [if_neg (fun z => z c0), if_pos c1]
        have R : ∀ h', FW (wY 15) h1 h' → h' 15 4 = 1 → h' 15 5 = h1 15 3 → 0 ≤ h' 15 3 → Wp d 98 57 [vR (some 14), vR (some 3), vI n, vR (some 4), vI 8] [] al h' hr1 Q := fun h' f1 f4 f5 f3 => F56 h' hr1 (w1.tr (wY15 f1)) wr (hB1.fr (fun i z => f1 15 i (by unfold wY; omega)) (fun i => f1 3 i (by unfold wY; omega)) f3) (by rw [f4]; decide) (fun h2 z1 z2 z3 => ERF 1 1 hm (by decide) h2 hr1 wr z1 (z2.trans f4) ((z3.trans f5).trans x13))
        refine s98_45.mpr ?_
        refine (s98_46 (by first | decide | assumption | omega)).mpr ?_
        refine s98_49.mpr (s98_51.mpr ?_)
        try simp (disch := first | decide | assumption | omega) only [kon, knt_some, knt_none, Option.toList_some, Option.toList_none, List.cons_append, List.nil_append, e0]
        refine (s98_53 (by first | decide | assumption | omega) (by first | decide | assumption | omega)).mpr ?_
        refine h_within hB1 (by omega) ((x1i 4 (by decide)).trans h4) (by decide) (by decide) (fun _ x h2 x0 x1 f1 f4 f5 f3 => ?_) (fun z => absurd (by rw [x13] at z; omega) c1)
        refine s98_56.mpr ?_
        exact R h2 f1 f4 f5 f3
      obtain ⟨h2, hh2⟩ : ∃ h2, h2 = upI h1 15 3 (1 + 1) := ⟨_, rfl⟩
      have w2 : FW wCm hi h2 := by rw [hh2]; exact w1.up (by unfold wCm; omega)
      have x23 : h2 15 3 = 2 := by rw [hh2]; exact upI_eq
      have x2i : ∀ i, i ≠ 3 → h2 15 i = h 15 i := fun i z => by rw [hh2, upI_i z, x1i i z]
      have y2 : ∀ a i, a ≠ 15 → h2 a i = h a i := fun a i z => by rw [hh2, upI_a z, y1 a i z]
      have hB2 : BM al h2 hr1 n B := hB.fr (fun i z => x2i i (by omega)) (fun i => y2 3 i (by decide)) (by rw [x23]; decide)
      have T57 : Wp d 98 57 [vR (some 14), vR (some 3), vI n, vR (some 4), vI 8] [] al h2 hr1 Q := by
        by_cases c2 : 1 ≤ B 2 ∧ B 2 ≤ 6
        case neg =>
          have hm : manP S B n = .error (1, 2) := by unfold manP; rw [if_neg (fun z => z c0), if_neg (fun z => z c1), if_pos c2]
          have R : ∀ (x : Int) h', 1 ≤ x → FW (wY 15) h2 h' → h' 15 4 = 1 → h' 15 5 = h2 15 3 → 0 ≤ h' 15 3 → Wp d 98 68 [vR (some 14), vR (some 3), vI n, vR (some 4), vI 8] [vI x, vR (some 14)] al h' hr1 Q := fun x h' hx1 f1 f4 f5 f3 => F68 h' hr1 x hx1 (w2.tr (wY15 f1)) wr (hB2.fr (fun i z => f1 15 i (by unfold wY; omega)) (fun i => f1 3 i (by unfold wY; omega)) f3) (by rw [f4]; decide) (fun h2 z1 z2 z3 => ERF 1 2 hm (by decide) h2 hr1 wr z1 (z2.trans f4) ((z3.trans f5).trans x23))
          refine s98_57.mpr (s98_58.mpr ?_)
          refine (s98_59 (by first | decide | assumption | omega)).mpr ?_
          refine s98_62.mpr (s98_63.mpr ?_)
          try simp (disch := first | decide | assumption | omega) only [kon, knt_some, knt_none, Option.toList_some, Option.toList_none, List.cons_append, List.nil_append, e0]
          refine (s98_65 (by first | decide | assumption | omega) (by first | decide | assumption | omega)).mpr ?_
          refine h_within hB2 (by omega) ((x2i 4 (by decide)).trans h4) (by decide) (by decide) (fun _ x h2 x0 x1 f1 f4 f5 f3 => ?_) (fun z => absurd (by rw [x23] at z; exact z) c2)
          exact R x h2 x0 f1 f4 f5 f3
        have hm : manP S B n = (lpX (prcP S B) (B 2).toNat 0 (3, fun _ _ => 0)).bind (finM n) := by
          unfold manP; rw [if_neg (fun z => z c0), if_neg (fun z => z c1), if_neg (fun z => z c2)]; rfl
        obtain ⟨h3', hh3⟩ : ∃ h3, h3 = upI (upI h2 15 3 (2 + 1)) 14 1 (B 2) := ⟨_, rfl⟩
        have w3 : FW wCm hi h3' := by rw [hh3]; exact (w2.up (by unfold wCm; omega)).up (by unfold wCm; omega)
        have x33 : h3' 15 3 = 3 := by rw [hh3, upI_a (by decide)]; exact upI_eq
        have x3i : ∀ i, i ≠ 3 → h3' 15 i = h 15 i := fun i z => by rw [hh3, upI_a (by decide), upI_i z, x2i i z]
        have y3 : ∀ a i, a ≠ 15 → a ≠ 14 → h3' a i = h a i := fun a i z z2 => by rw [hh3, upI_a z2, upI_a z, y2 a i z]
        have hB3 : BM al h3' hr1 n B := hB.fr (fun i z => x3i i (by omega)) (fun i => y3 3 i (by decide) (by decide)) (by rw [x33]; decide)
        have g0 : GCr h3' hr1 (fun _ _ => 0) := fun e z1 z2 => ⟨(y3 22 e (by decide) (by decide)).trans (h22 e z1 z2), ⟨Int.le_refl _, (show (0 : Int) ≤ 2 by decide)⟩, fun z => absurd (show (1 : Int) ≤ 0 from z) (by decide)⟩
        have v0 : GV S (fun _ _ => 0) := fun e j _ _ z1 z2 => absurd (show j < 0 from z2) (by omega)
        have R := T74 (B 2).toNat 0 3 (fun _ _ => 0) h3' hr1 (by omega) (Int.le_refl _) c2.2 hm w3 wr hB3 ((x3i 4 (by decide)).trans h4) x33 ((x3i 5 (by decide)).trans h5) (by rw [hh3]; exact upI_eq) (fun p' z1 z2 => absurd z2 (by omega)) g0 v0
        refine s98_57.mpr (s98_58.mpr ?_)
        refine (s98_59 (by first | decide | assumption | omega)).mpr ?_
        refine s98_62.mpr (s98_63.mpr ?_)
        try simp (disch := first | decide | assumption | omega) only [kon, knt_some, knt_none, Option.toList_some, Option.toList_none, List.cons_append, List.nil_append, e0]
        refine (s98_65 (by first | decide | assumption | omega) (by first | decide | assumption | omega)).mpr ?_
        refine h_within hB2 (by omega) ((x2i 4 (by decide)).trans h4) (by decide) (by decide) (fun z => absurd (by rw [x23]; exact c2) z) (fun _ => ?_)
        simp only [kon, knt_some, knt_none, Option.toList_some, Option.toList_none, List.cons_append, List.nil_append]
        rw [x23]
        refine (s98_68 (by first | decide | assumption | omega)).mpr ?_
        refine s98_71.mpr (s98_72.mpr ?_)
        try simp (disch := first | decide | assumption | omega) only [kon, knt_some, knt_none, Option.toList_some, Option.toList_none, List.cons_append, List.nil_append, e0]
        rw [← hh3]
        exact R
      refine s98_45.mpr ?_
      refine (s98_46 (by first | decide | assumption | omega)).mpr ?_
      refine s98_49.mpr (s98_51.mpr ?_)
      try simp (disch := first | decide | assumption | omega) only [kon, knt_some, knt_none, Option.toList_some, Option.toList_none, List.cons_append, List.nil_append, e0]
      refine (s98_53 (by first | decide | assumption | omega) (by first | decide | assumption | omega)).mpr ?_
      refine h_within hB1 (by omega) ((x1i 4 (by decide)).trans h4) (by decide) (by decide) (fun z => absurd (by rw [x13]; omega) z) (fun _ => ?_)
      simp only [kon, knt_some, knt_none, Option.toList_some, Option.toList_none, List.cons_append, List.nil_append]
      rw [x13]
      refine s98_56.mpr ?_
      rw [← hh2]
      exact T57
    refine s98_33.mpr ?_
    refine (s98_34 (by first | decide | assumption | omega)).mpr ?_
    refine s98_37.mpr (s98_39.mpr ?_)
    try simp (disch := first | decide | assumption | omega) only [kon, knt_some, knt_none, Option.toList_some, Option.toList_none, List.cons_append, List.nil_append, e0]
    refine (s98_41 (by first | decide | assumption | omega) (by first | decide | assumption | omega)).mpr ?_
    refine h_within hB (by omega) h4 (by decide) (by decide) (fun z => absurd (by rw [h3]; omega) z) (fun _ => ?_)
    simp only [kon, knt_some, knt_none, Option.toList_some, Option.toList_none, List.cons_append, List.nil_append]
    rw [h3]
    refine s98_44.mpr ?_
    rw [← hh1]
    exact T45
  have e0 := cr_14_0 hc
  obtain ⟨h0, hh0⟩ : ∃ h0, h0 = upI (upI (upI (upI (upI hi 15 1 n) 15 2 n) 15 3 0) 15 4 0) 15 5 (-1) := ⟨_, rfl⟩
  have wr0 : RW rCm hr (upR hr 15 0 (some 3)) := RW.rf.up (by unfold rCm; omega)
  have w0 : FW wCm hi h0 := by rw [hh0]; exact ((((FW.rf.up (by unfold wCm; omega)).up (by unfold wCm; omega)).up (by unfold wCm; omega)).up (by unfold wCm; omega)).up (by unfold wCm; omega)
  have z1 : h0 15 1 = n := by rw [hh0]; simp (disch := decide) only [upI_i, upI_eq]
  have z2 : h0 15 2 = n := by rw [hh0]; simp (disch := decide) only [upI_i, upI_eq]
  have z3 : h0 15 3 = 0 := by rw [hh0]; simp (disch := decide) only [upI_i, upI_eq]
  have z4 : h0 15 4 = 0 := by rw [hh0]; simp (disch := decide) only [upI_i, upI_eq]
  have z5 : h0 15 5 = -1 := by rw [hh0]; exact upI_eq
  have T12 : Wp d 98 12 [vR (some 14), vR (some 3), vI n, vR (some 4), vI 0] [] al h0 (upR hr 15 0 (some 3)) Q := by
    have e7 : (upR hr 15 0 (some 3)) 14 7 = some 22 := by rw [upR_a (by decide)]; exact cr_14_7 hc
    refine wp_cnt (N := 8) (fun i ls h4 => ls = [vR (some 14), vR (some 3), vI n, vR (some 4), vI i] ∧ FW (fun a _ => a = 22) h0 h4 ∧ ∀ j : Int, 0 ≤ j → j < i → h4 22 j = 0) ?_ ?_ _ _ ⟨rfl, FW.rf, fun j a b => absurd b (by omega)⟩
    · rintro i ls h4 hi9 ⟨rfl, w4, a4⟩ nx
      refine s98_12.mpr (s98_14.mpr ?_)
      refine s98_16.mpr (wif (fun c16 => ?_) (fun c16 => ?_))
      · skip
        refine s98_19.mpr ?_
        refine (s98_20 (by first | decide | assumption | omega)).mpr ?_
        refine s98_23.mpr (s98_25.mpr ?_)
        try simp (disch := first | decide | assumption | omega) only [e7, fAdd_id]
        refine (s98_26 (by first | decide | assumption | omega) (by first | decide | assumption | omega) (by first | decide | assumption | omega)).mpr ?_
        refine s98_27.mpr (s98_30.mpr ?_)
        try simp (disch := first | decide | assumption | omega) only [e7, fAdd_id]
        refine nx _ _ ⟨by rw [cast1], w4.up rfl, fun j y1 y2 => ?_⟩
        by_cases y : j = i
        · subst y; rw [upI_eq]
        · rw [upI_i y]; exact a4 j y1 (by omega)
      · skip
        exfalso; omega
    · rintro ls h4 ⟨rfl, w4, a4⟩
      have f4 : ∀ a i, a ≠ 22 → h4 a i = h0 a i := fun a i z => w4 a i z
      have w5 : FW wCm hi h4 := w0.tr (w4.mn (fun a i z => by have z : a = 22 := z; unfold wCm; omega))
      have R := T33 h4 (upR hr 15 0 (some 3)) w5 wr0 (hBM w5 ((f4 15 1 (by decide)).trans z1) ((f4 15 2 (by decide)).trans z2) (by rw [f4 15 3 (by decide), z3]; decide) upR_eq) ((f4 15 4 (by decide)).trans z4) ((f4 15 3 (by decide)).trans z3) ((f4 15 5 (by decide)).trans z5) (fun e q0 q1 => a4 e q0 (by omega))
      refine s98_12.mpr (s98_14.mpr ?_)
      refine s98_16.mpr (wif (fun c16 => ?_) (fun c16 => ?_))
      · skip
        exfalso; omega
      · skip
        exact R
  rw [e98]
  refine s98_0.mpr ?_
  refine (s98_1 (by first | decide | assumption | omega)).mpr ?_
  refine s98_4.mpr (s98_5.mpr ?_)
  try simp (disch := first | decide | assumption | omega) only [kon, knt_some, knt_none, Option.toList_some, Option.toList_none, List.cons_append, List.nil_append, e0]
  refine (s98_6 (by first | decide | assumption | omega) (by first | decide | assumption | omega)).mpr ?_
  refine b_startOver k15 k3 n0 (by omega) ?_
  simp only [kon, knt_some, knt_none, Option.toList_some, Option.toList_none, List.cons_append, List.nil_append]
  rw [← hh0]
  refine s98_9.mpr (s98_10.mpr ?_)
  exact T12
end CN3
