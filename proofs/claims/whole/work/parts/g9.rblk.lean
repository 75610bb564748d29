/-! RUNNING, the reference: blocks and channels -/
section RB0
variable {d : Nat} {al : AL} {hi : HI} {hr : HR} {Q : QQ}
/-- the blocks' sizes are sizes -/
def BkO (s : HI) : Prop := ∀ b, 0 ≤ b → b < 128 → -1 ≤ s 109 b ∧ s 109 b ≤ 256
theorem bcl_b {s : HI} (h : BkO s) : ∀ n : Nat, n ≤ 128 → 0 ≤ bcl s n ∧ bcl s n ≤ 257 * n
  | 0, _ => ⟨Int.le_refl _, Int.le_refl _⟩
  | n + 1, hn => by
    have := bcl_b h n (by omega)
    have := h n (by omega) (by omega)
    unfold bcl
    split <;> omega
theorem r_blockCells {X : Int} (hA : SA al) (hR : MR hr) (hB : BkO hi) (hX0 : ∀ n : Nat, n = 128 → bcl hi n = X) (q : Q (some (some (vI X))) al hi hr) : Ev d 293 [vR (some 49)] al hi hr Q := by
  have kM : isK al 49 13 := hA.k (by decide) (by decide) rfl
  have l109 := SA.len (a := 109) (n := 128) hA (by decide) (by decide) rfl
  have T4 : ∀ (j : Nat) (k : Int) (K : Nat) (Y : Int), k = K → k + j = 128 → bcl hi K = Y → Wp d 293 4 [vR (some 49), vI Y, vI k] [] al hi hr Q := by
    intro j
    induction j with
    | zero =>
      intro k K Y hk hj hY
      have e : Y = X := by rw [← hY]; exact hX0 K (by omega)
      subst e
      refine s293_4.mpr (s293_5.mpr ?_)
      refine s293_8.mpr (wif (fun c8 => ?_) (fun c8 => ?_))
      · skip
        exfalso; omega
      · skip
        refine s293_42.mpr ?_
        refine (s293_43).mpr ?_
        exact q
    | succ j ih =>
      intro k K Y hk hj hY
      have NX := ih (k + 1) (K + 1) _ (by omega) (by omega) rfl
      have hb := bcl_b hB K (by omega)
      have hb1 := hB k (by omega) (by omega)
      have e2 : bcl hi (K + 1) = Y + (if hi 109 k = -1 then 0 else hi 109 k + 1) := by rw [← hY, hk]; rfl
      rw [hY] at hb
      rw [e2] at NX
      clear e2 ih
      have hk0 : 0 ≤ k ∧ k < 128 := by omega
      have hYb : 0 ≤ Y ∧ Y ≤ 257 * 128 := by omega
      clear hb hk hY hj
      by_cases c : hi 109 k = -1
      · rw [if_pos c, Int.add_zero] at NX
        have f0 : fAdd Y 0 = Y := by rw [fAdd_id (by omega) (by omega), Int.add_zero]
        refine s293_4.mpr (s293_5.mpr ?_)
        refine s293_8.mpr (wif (fun c8 => ?_) (fun c8 => ?_))
        · first
          | (exfalso; omega)
          | skip
            refine s293_11.mpr (s293_12.mpr ((s293_13 kM).mpr ?_))
            rw [mr_79 hR]
            refine s293_16.mpr ?_
            refine (s293_17 (hA.k (by decide) (by decide) rfl) (by first | assumption | omega) (by first | assumption | omega)).mpr ?_
            refine s293_18.mpr ?_
            try simp (disch := first | decide | assumption | omega) only [c, f0, fAdd_id]
            refine s293_19.mpr (wif (fun c19 => ?_) (fun c19 => ?_))
            · first
              | (exfalso; omega)
              | skip
                refine s293_22.mpr (s293_23.mpr (s293_34.mpr (s293_35.mpr (s293_36.mpr (s293_39.mpr ?_)))))
                try simp (disch := first | decide | assumption | omega) only [c, f0, fAdd_id]
                exact NX
            · first
              | (exfalso; omega)
              | skip
                exact absurd rfl (by assumption)
        · first
          | (exfalso; omega)
          | skip
            exfalso; omega
      · rw [if_neg c] at NX
        refine s293_4.mpr (s293_5.mpr ?_)
        refine s293_8.mpr (wif (fun c8 => ?_) (fun c8 => ?_))
        · first
          | (exfalso; omega)
          | skip
            refine s293_11.mpr (s293_12.mpr ((s293_13 kM).mpr ?_))
            rw [mr_79 hR]
            refine s293_16.mpr ?_
            refine (s293_17 (hA.k (by decide) (by decide) rfl) (by first | assumption | omega) (by first | assumption | omega)).mpr ?_
            refine s293_18.mpr ?_
            try simp (disch := first | decide | assumption | omega) only [fAdd_id]
            refine s293_19.mpr (wif (fun c19 => ?_) (fun c19 => ?_))
            · first
              | (exfalso; omega)
              | skip
                exfalso; omega
            · first
              | (exfalso; omega)
              | skip
                refine s293_26.mpr ((s293_27 kM).mpr ?_)
                rw [mr_79 hR]
                refine s293_30.mpr ?_
                refine (s293_31 (hA.k (by decide) (by decide) rfl) (by first | assumption | omega) (by first | assumption | omega)).mpr ?_
                refine s293_32.mpr (s293_33.mpr (s293_34.mpr (s293_35.mpr (s293_36.mpr (s293_39.mpr ?_)))))
                try simp (disch := first | decide | assumption | omega) only [fAdd_id]
                exact NX
        · first
          | (exfalso; omega)
          | skip
            exfalso; omega
  have NX := T4 128 0 0 0 rfl (by decide) rfl
  rw [e293]
  refine s293_0.mpr (s293_1.mpr (s293_2.mpr (s293_3.mpr ?_)))
  exact NX
theorem frL_y {f : Int → Bool} {n : Nat} {k : Int} (h : f k = true) : frL f (n + 1) k = frL f n (k + 1) := if_pos h
theorem frL_n {f : Int → Bool} {n : Nat} {k : Int} (h : f k = false) : frL f (n + 1) k = k := by unfold frL; rw [if_neg (by rw [h]; decide)]
/-- a free block, when there is room -/
theorem bcl_ge {s : HI} (h : BkO s) : ∀ n : Nat, n ≤ 128 → (∀ b : Nat, b < n → s 109 b ≠ -1) → (n : Int) ≤ bcl s n
  | 0, _, _ => Int.le_refl _
  | n + 1, hn, hb => by
    have := bcl_ge h n (by omega) (fun b hb' => hb b (by omega))
    have := h n (by omega) (by omega)
    have := hb n (by omega)
    unfold bcl
    rw [if_neg this]; omega
/-- the cells of the blocks are more than the blocks, each of at least 1: so there is a free one; here by count of fields: a block has at least one -/
def mkbC (b n p : Int) (s : HI) (j : Int) : HI := fun a i => if a = 109 ∧ i = b then n else if a = 110 ∧ i = b then p else if a = 111 ∧ 6 * b ≤ i ∧ i < 6 * b + j then 0 else s a i
theorem mkbC_s {b n p : Int} {s : HI} {j : Int} (j0 : 0 ≤ j) : upI (mkbC b n p s j) 111 (6 * b + j) 0 = mkbC b n p s (j + 1) := by
  funext a i
  unfold upI mkbC
  by_cases c : a = 111 ∧ i = 6 * b + j
  · obtain ⟨rfl, rfl⟩ := c
    rw [if_pos ⟨rfl, rfl⟩, if_neg (by omega), if_neg (by omega), if_pos (by omega)]
  · rw [if_neg c]
    by_cases c1 : a = 109 ∧ i = b
    · rw [if_pos c1, if_pos c1]
    · rw [if_neg c1, if_neg c1]
      by_cases c2 : a = 110 ∧ i = b
      · rw [if_pos c2, if_pos c2]
      · rw [if_neg c2, if_neg c2]
        by_cases c3 : a = 111 ∧ 6 * b ≤ i ∧ i < 6 * b + j
        · rw [if_pos c3, if_pos (by omega)]
        · rw [if_neg c3, if_neg (by omega)]
theorem mkbC_0 {b n p : Int} {s : HI} : upI (upI s 109 b n) 110 b p = mkbC b n p s 0 := by
  funext a i
  unfold upI mkbC
  by_cases c1 : a = 109 ∧ i = b
  · rw [if_neg (by omega), if_pos c1, if_pos c1]
  · rw [if_neg c1, if_neg c1]
    by_cases c2 : a = 110 ∧ i = b
    · rw [if_pos c2, if_pos c2]
    · rw [if_neg c2, if_neg c2, if_neg (by omega)]
theorem r_makeBlock {p v n : Int} (hA : SA al) (hR : MR hr) (hd : 54 ≤ d) (hp : AP hi p) (h0 : 0 ≤ hg hi p ∧ hg hi p < 16) (hq : QB hi) (hB : BkO hi) (hh : 0 ≤ hi 91 p ∧ hi 91 p < 12) (v0 : 0 ≤ v ∧ v < 8) (hn : hi 57 (8 * hi 91 p + v) = n) (n0 : 0 ≤ n ∧ n ≤ 6)
    {X : Int} (hX : ∀ n : Nat, n = 128 → bcl hi n = X) (hfr : X + n + 1 ≤ 256 → ∃ b, 0 ≤ b ∧ b < 128 ∧ hi 109 b = -1)
    (q : Q (some none) al (if X + n + 1 > 256 then trpS hi p 6 else mkbS hi p n) hr) : Ev d 317 [vR (some 49), vI p, vI v] al hi hr Q := by
  have kM : isK al 49 13 := hA.k (by decide) (by decide) rfl
  obtain ⟨⟨p0, p1⟩, a0, a1⟩ := id hp
  have l57 := SA.len (a := 57) (n := 104) hA (by decide) (by decide) rfl
  have l91 := SA.len (a := 91) (n := 12) hA (by decide) (by decide) rfl
  have l109 := SA.len (a := 109) (n := 128) hA (by decide) (by decide) rfl
  have l110 := SA.len (a := 110) (n := 128) hA (by decide) (by decide) rfl
  have l111 := SA.len (a := 111) (n := 768) hA (by decide) (by decide) rfl
  have hb : 0 ≤ X ∧ X ≤ 257 * 128 := by
    have e : ∀ n : Nat, n = 128 → 0 ≤ bcl hi n ∧ bcl hi n ≤ 257 * n := fun n hn => bcl_b hB n (by omega)
    have e1 := hX _ rfl
    have e2 := e _ rfl
    rw [e1] at e2
    exact ⟨e2.1, by omega⟩
  obtain ⟨m, hm⟩ : ∃ m, hi 91 p = m := ⟨_, rfl⟩
  rw [hm] at hh hn
  rw [e317]
  by_cases c : X + n + 1 > 256
  · rw [if_pos c] at q
    refine s317_0.mpr ((s317_1 kM).mpr ?_)
    rw [mr_9 hR]
    refine s317_4.mpr (s317_6.mpr ((s317_7 kM).mpr ?_))
    rw [mr_61 hR]
    refine s317_10.mpr ?_
    refine (s317_11 (hA.k (by decide) (by decide) rfl) (by first | assumption | omega) (by first | assumption | omega)).mpr ?_
    refine s317_12.mpr (s317_13.mpr (s317_14.mpr ?_))
    try simp (disch := first | decide | assumption | omega) only [kon, knt_some, knt_none, Option.toList_some, Option.toList_none, List.cons_append, List.nil_append, hm, hn, fAdd_id, fMul_id]
    refine (s317_15 (hA.k (by decide) (by decide) rfl) (by first | assumption | omega) (by first | assumption | omega)).mpr ?_
    refine s317_16.mpr (s317_17.mpr ?_)
    try simp (disch := first | decide | assumption | omega) only [kon, knt_some, knt_none, Option.toList_some, Option.toList_none, List.cons_append, List.nil_append, hm, hn, fAdd_id, fMul_id]
    refine (s317_18 (by omega) kM).mpr ?_
    refine r_blockCells hA hR hB hX ?_
    refine s317_21.mpr (s317_22.mpr (s317_23.mpr (s317_24.mpr (s317_25.mpr ?_))))
    try simp (disch := first | decide | assumption | omega) only [kon, knt_some, knt_none, Option.toList_some, Option.toList_none, List.cons_append, List.nil_append, hm, hn, fAdd_id, fMul_id]
    refine s317_28.mpr (wif (fun c28 => ?_) (fun c28 => ?_))
    · first
      | (exfalso; omega)
      | skip
        refine s317_31.mpr (s317_32.mpr (s317_33.mpr ?_))
        refine (s317_35 (by omega) kM).mpr ?_
        refine r_trap hA hR (by omega) hq hp.1 ?_
        refine (s317_38).mpr ?_
        exact q
    · first
      | (exfalso; omega)
      | skip
        exfalso; omega
  · rw [if_neg c] at q
    unfold mkbS at q
    obtain ⟨b, hbe⟩ : ∃ b, frL (fun k => decide (hi 109 k ≠ -1)) 128 0 = b := ⟨_, rfl⟩
    simp only [hbe] at q
    -- the cells of the block
    have T78 : ∀ (j9 : Nat) (j : Int), j + j9 = 6 → 0 ≤ j → 0 ≤ b → b < 128 → Wp d 317 78 [vR (some 49), vI p, vI v, vI n, vI b, vI j] [] al (mkbC b n p hi j) hr Q := by
      intro j9
      induction j9 with
      | zero =>
        intro j hj j0 b0 b1
        have ej : j = 6 := by omega
        subst ej
        have hp2 : AP (mkbC b n p hi 6) p := by unfold AP mkbC; rw [if_neg (by omega), if_neg (by omega), if_neg (by omega)]; exact ⟨⟨p0, p1⟩, a0, a1⟩
        have h02 : hg (mkbC b n p hi 6) p = hg hi p := by unfold hg ai mkbC; rw [if_neg (by omega), if_neg (by omega), if_neg (by omega), if_neg (by omega), if_neg (by omega), if_neg (by omega)]
        refine s317_78.mpr (s317_80.mpr ?_)
        refine s317_82.mpr (wif (fun c82 => ?_) (fun c82 => ?_))
        · skip
          exfalso; omega
        · skip
          refine s317_105.mpr (s317_106.mpr (s317_107.mpr (s317_109.mpr ?_)))
          refine (s317_110 (by omega) kM).mpr ?_
          refine r_push hA hR (by omega) hp2 (by rw [h02]; exact h0) ?_
          refine (s317_113).mpr ?_
          exact q
      | succ j9 ih =>
        intro j hj j0 b0 b1
        have NX := ih (j + 1) (by omega) (by omega) b0 b1
        rw [← mkbC_s j0] at NX
        refine s317_78.mpr (s317_80.mpr ?_)
        refine s317_82.mpr (wif (fun c82 => ?_) (fun c82 => ?_))
        · skip
          refine s317_85.mpr ((s317_86 kM).mpr ?_)
          rw [mr_81 hR]
          refine s317_89.mpr (s317_91.mpr (s317_93.mpr (s317_94.mpr (s317_96.mpr (s317_97.mpr ?_)))))
          try simp (disch := first | decide | assumption | omega) only [fAdd_id, fMul_id]
          refine (s317_98 (hA.k (by decide) (by decide) rfl) (by first | assumption | omega) (by first | assumption | omega)).mpr ?_
          refine s317_99.mpr (s317_102.mpr ?_)
          try simp (disch := first | decide | assumption | omega) only [fAdd_id, fMul_id]
          exact NX
        · skip
          exfalso; omega
    have T42 : ∀ (j9 : Nat) (k : Int), k + j9 = 128 → 0 ≤ k → (∀ x, 0 ≤ x → x < k → hi 109 x ≠ -1) → frL (fun k => decide (hi 109 k ≠ -1)) j9 k = b → Wp d 317 42 [vR (some 49), vI p, vI v, vI n, vI k, none] [] al hi hr Q := by
      intro j9
      induction j9 with
      | zero =>
        intro k hj k0 hx _
        obtain ⟨x, x0, x1, x2⟩ := hfr (by omega)
        exact absurd x2 (hx x x0 (by omega))
      | succ j9 ih =>
        intro k hj k0 hx hk
        by_cases cz : hi 109 k = -1
        · have eb : k = b := by rw [← hk, frL_n (by rw [cz]; decide)]
          have NX := T78 6 0 (by decide) (Int.le_refl _) (by omega) (by omega)
          rw [← mkbC_0, ← eb] at NX
          refine s317_42.mpr ((s317_43 kM).mpr ?_)
          rw [mr_79 hR]
          refine s317_46.mpr ?_
          refine (s317_48 (hA.k (by decide) (by decide) rfl) (by first | assumption | omega) (by first | assumption | omega)).mpr ?_
          refine s317_49.mpr ?_
          try simp (disch := first | decide | assumption | omega) only [cz]
          refine s317_50.mpr (wif (fun c50 => ?_) (fun c50 => ?_))
          · skip
            refine s317_59.mpr ((s317_60 kM).mpr ?_)
            rw [mr_79 hR]
            refine s317_63.mpr (s317_65.mpr ?_)
            refine (s317_66 (hA.k (by decide) (by decide) rfl) (by first | assumption | omega) (by first | assumption | omega)).mpr ?_
            refine s317_67.mpr ((s317_68 kM).mpr ?_)
            rw [mr_80 hR]
            refine s317_71.mpr (s317_73.mpr ?_)
            try simp (disch := first | decide | assumption | omega) only [cz]
            refine (s317_74 (hA.k (by decide) (by decide) rfl) (by first | assumption | omega) (by first | assumption | omega)).mpr ?_
            refine s317_75.mpr (s317_76.mpr ?_)
            try simp (disch := first | decide | assumption | omega) only [cz]
            exact NX
          · skip
            exact absurd rfl (by assumption)
        · have NX := ih (k + 1) (by omega) (by omega) (fun x x0 x1 => by
            by_cases e : x = k
            · rw [e]; exact cz
            · exact hx x x0 (by omega)) (by rw [← hk, frL_y (decide_eq_true cz)])
          refine s317_42.mpr ((s317_43 kM).mpr ?_)
          rw [mr_79 hR]
          refine s317_46.mpr ?_
          refine (s317_48 (hA.k (by decide) (by decide) rfl) (by first | assumption | omega) (by first | assumption | omega)).mpr ?_
          refine s317_49.mpr ?_
          try simp (disch := first | decide | assumption | omega) only [fAdd_id]
          refine s317_50.mpr (wif (fun c50 => ?_) (fun c50 => ?_))
          · skip
            exact absurd ‹_› cz
          · skip
            refine s317_53.mpr (s317_56.mpr ?_)
            try simp (disch := first | decide | assumption | omega) only [fAdd_id]
            exact NX
    have NX := T42 128 0 (by decide) (Int.le_refl _) (fun x x0 x1 => absurd x1 (by omega)) hbe
    refine s317_0.mpr ((s317_1 kM).mpr ?_)
    rw [mr_9 hR]
    refine s317_4.mpr (s317_6.mpr ((s317_7 kM).mpr ?_))
    rw [mr_61 hR]
    refine s317_10.mpr ?_
    refine (s317_11 (hA.k (by decide) (by decide) rfl) (by first | assumption | omega) (by first | assumption | omega)).mpr ?_
    refine s317_12.mpr (s317_13.mpr (s317_14.mpr ?_))
    try simp (disch := first | decide | assumption | omega) only [kon, knt_some, knt_none, Option.toList_some, Option.toList_none, List.cons_append, List.nil_append, hm, hn, fAdd_id, fMul_id]
    refine (s317_15 (hA.k (by decide) (by decide) rfl) (by first | assumption | omega) (by first | assumption | omega)).mpr ?_
    refine s317_16.mpr (s317_17.mpr ?_)
    try simp (disch := first | decide | assumption | omega) only [kon, knt_some, knt_none, Option.toList_some, Option.toList_none, List.cons_append, List.nil_append, hm, hn, fAdd_id, fMul_id]
    refine (s317_18 (by omega) kM).mpr ?_
    refine r_blockCells hA hR hB hX ?_
    refine s317_21.mpr (s317_22.mpr (s317_23.mpr (s317_24.mpr (s317_25.mpr ?_))))
    try simp (disch := first | decide | assumption | omega) only [kon, knt_some, knt_none, Option.toList_some, Option.toList_none, List.cons_append, List.nil_append, hm, hn, fAdd_id, fMul_id]
    refine s317_28.mpr (wif (fun c28 => ?_) (fun c28 => ?_))
    · first
      | (exfalso; omega)
      | skip
        exfalso; omega
    · first
      | (exfalso; omega)
      | skip
        refine s317_39.mpr (s317_40.mpr ?_)
        exact NX
end RB0
