/-! MANIFESTS: the class reads -/
section CN0
variable {d : Nat} {al : AL} {hi : HI} {hr : HR} {Q : QQ} {B Bm : Int → Int} {S : Int → Option (Int → Int)} {G : HI} {N : Nat} {n : Int}
/-- the reader stands over the tape, all of it to be read -/
def BM (al : AL) (hi : HI) (hr : HR) (n : Int) (B : Int → Int) : Prop := BY al hi hr 15 3 n B ∧ hi 15 2 = n ∧ 0 ≤ hi 15 3
theorem BM.fr {hi' : HI} (h : BM al hi hr n B) (h1 : ∀ i, i ≤ 2 → hi' 15 i = hi 15 i) (h3 : ∀ i, hi' 3 i = hi 3 i) (h0 : 0 ≤ hi' 15 3) : BM al hi' hr n B := by
  obtain ⟨⟨a1, a2, a3, a4, a5, a6, a7⟩, b, c⟩ := h
  exact ⟨⟨a1, a2, a3, (h1 1 (by decide)).trans a4, a5, fun k k0 k1 => (h3 k).trans (a6 k k0 k1), a7⟩, (h1 2 (by decide)).trans b, h0⟩
theorem BM.lt (h : BM al hi hr n B) {k : Int} (hk : 0 ≤ B k) : 0 ≤ k ∧ k < n := h.1.lt (by omega)
theorem BM.r (h : BM al hi hr n B) {hr' : HR} (e : hr' 15 0 = hr 15 0) : BM al hi hr' n B := by
  obtain ⟨⟨a1, a2, a3⟩, b⟩ := h
  exact ⟨⟨a1, e.trans a2, a3⟩, b⟩
theorem h_take (h : BM al hi hr n B) (hd : 1 ≤ d) (h4 : hi 15 4 = 0)
    (no : B (hi 15 3) < 0 → Q (some (some (vI 0))) al (upI (upI hi 15 4 1) 15 5 (hi 15 3)) hr)
    (ok : 0 ≤ B (hi 15 3) → Q (some (some (vI (B (hi 15 3))))) al (upI hi 15 3 (hi 15 3 + 1)) hr) : Ev d 15 [vR (some 15)] al hi hr Q := by
  refine b_take h.1 hd h.2.2 (fun z => absurd h4 z) (fun _ z => no ?_) (fun _ _ z => ok z)
  apply Classical.byContradiction
  intro c
  have := h.lt (k := hi 15 3) (by omega)
  exact z ⟨by rw [h.2.1]; exact this.2, by omega⟩
theorem h_takeF (h : BM al hi hr n B) (hd : 1 ≤ d) (h4 : hi 15 4 ≠ 0) (q : Q (some (some (vI 0))) al hi hr) : Ev d 15 [vR (some 15)] al hi hr Q := b_take h.1 hd h.2.2 (fun _ => q) (fun z => absurd z h4) (fun z => absurd z h4)
theorem h_within {lo hg : Int} (h : BM al hi hr n B) (hd : 2 ≤ d) (h4 : hi 15 4 = 0) (l0 : 0 ≤ lo) (lg : lo ≤ hg)
    (no : ¬ (lo ≤ B (hi 15 3) ∧ B (hi 15 3) ≤ hg) → ∀ x hi', lo ≤ x → x ≤ hg → FW (wY 15) hi hi' → hi' 15 4 = 1 → hi' 15 5 = hi 15 3 → 0 ≤ hi' 15 3 → Q (some (some (vI x))) al hi' hr)
    (ok : lo ≤ B (hi 15 3) ∧ B (hi 15 3) ≤ hg → Q (some (some (vI (B (hi 15 3))))) al (upI hi 15 3 (hi 15 3 + 1)) hr) : Ev d 16 [vR (some 15), vI lo, vI hg] al hi hr Q := by
  refine b_within h.1 hd h.2.2 (fun z => absurd h4 z) (fun _ => ?_)
  unfold prL
  by_cases c : lo ≤ B (hi 15 3) ∧ B (hi 15 3) ≤ hg
  · have := h.lt (k := hi 15 3) (by omega)
    rw [if_pos ⟨by rw [h.2.1]; exact this.2, c.1, c.2, by omega⟩]
    exact ok c
  · rw [if_neg (fun z => c ⟨z.2.1, z.2.2.1⟩)]
    intro x hi' hx f e4 e5 e3
    exact no c x hi' (hx lg).1 (hx lg).2 f e4 e5 e3
theorem h_withinF {lo hg : Int} (h : BM al hi hr n B) (hd : 2 ≤ d) (h4 : hi 15 4 ≠ 0) (lg : lo ≤ hg) (q : ∀ x, lo ≤ x → x ≤ hg → Q (some (some (vI x))) al hi hr) : Ev d 16 [vR (some 15), vI lo, vI hg] al hi hr Q := b_within h.1 hd h.2.2 (fun _ x hx => q x (hx lg).1 (hx lg).2) (fun z => absurd z h4)
/-- where the first of four bytes is wanting -/
def mis4 (B : Int → Int) (q r : Int) : Prop := ∃ j : Int, 0 ≤ j ∧ j < 4 ∧ r = q + j ∧ B (q + j) < 0 ∧ ∀ i, 0 ≤ i → i < j → 0 ≤ B (q + i)
theorem h_takeWord (h : BM al hi hr n B) (hd : 2 ≤ d) (h4 : hi 15 4 = 0)
    (no : ∀ r x hi', mis4 B (hi 15 3) r → FW (wY 15) hi hi' → hi' 15 4 = 1 → hi' 15 5 = r → 0 ≤ hi' 15 3 → Q (some (some (vI x))) al hi' hr)
    (ok : (∀ i, 0 ≤ i → i < 4 → 0 ≤ B (hi 15 3 + i)) → Q (some (some (vI (wdS B (hi 15 3) 4)))) al (upI hi 15 3 (hi 15 3 + 4)) hr) : Ev d 17 [vR (some 15)] al hi hr Q := by
  have k15 := h.1.1
  have n2 : n ≤ 2000 := h.1.2.2.2.2.2.2.2.2
  obtain ⟨q, hq⟩ : ∃ q, hi 15 3 = q := ⟨_, rfl⟩
  rw [hq] at no ok
  rw [e17]
  have F4 : ∀ (j : Nat) (i : Int) (x : Int) h9, i + j = 4 → 0 ≤ i → BM al h9 hr n B → h9 15 4 ≠ 0 → (∀ x, Q (some (some (vI x))) al h9 hr) → Wp d 17 4 [vR (some 15), vI x, vI i] [] al h9 hr Q := by
    intro j
    induction j with
    | zero =>
      intro i x h9 hj i0 hB h94 hQ
      refine s17_4.mpr (s17_5.mpr ?_)
      refine s17_6.mpr (wif (fun c6 => ?_) (fun c6 => ?_))
      · skip
        exfalso; omega
      · skip
        refine s17_25.mpr ?_
        refine (s17_26).mpr ?_
        exact hQ _
    | succ j ih =>
      intro i x h9 hj i0 hB h94 hQ
      refine s17_4.mpr (s17_5.mpr ?_)
      refine s17_6.mpr (wif (fun c6 => ?_) (fun c6 => ?_))
      · skip
        refine s17_9.mpr (s17_10.mpr (s17_12.mpr (s17_13.mpr ?_)))
        try simp (disch := first | decide | assumption | omega) only [kon, knt_some, knt_none, Option.toList_some, Option.toList_none, List.cons_append, List.nil_append, fAdd_id]
        refine (s17_14 (by first | decide | assumption | omega) (by first | decide | assumption | omega)).mpr ?_
        refine h_takeF hB (by omega) h94 ?_
        refine s17_17.mpr (s17_18.mpr (s17_19.mpr (s17_22.mpr ?_)))
        try simp (disch := first | decide | assumption | omega) only [kon, knt_some, knt_none, Option.toList_some, Option.toList_none, List.cons_append, List.nil_append, fAdd_id]
        exact ih (i + 1) _ h9 (by omega) (by omega) hB h94 hQ
      · skip
        refine s17_25.mpr ?_
        refine (s17_26).mpr ?_
        exfalso; omega
  have T4 : ∀ (j : Nat) (i : Nat), i + j = 4 → (∀ i' : Int, 0 ≤ i' → i' < i → 0 ≤ B (q + i')) → Wp d 17 4 [vR (some 15), vI (wdS B q i), vI i] [] al (upI hi 15 3 (q + i)) hr Q := by
    intro j
    induction j with
    | zero =>
      intro i hj hall
      have ei : i = 4 := by omega
      subst ei
      have E := ok (fun i' a b => hall i' a (by omega))
      refine s17_4.mpr (s17_5.mpr ?_)
      refine s17_6.mpr (wif (fun c6 => ?_) (fun c6 => ?_))
      · skip
        exfalso; omega
      · skip
        refine s17_25.mpr ?_
        refine (s17_26).mpr ?_
        exact E
    | succ j ih =>
      intro i hj hall
      have u3 : (upI hi 15 3 (q + i)) 15 3 = q + i := upI_eq
      have hB : BM al (upI hi 15 3 (q + i)) hr n B := h.fr (fun k hk => upI_i (by omega)) (fun k => upI_a (by decide)) (by rw [u3]; have := h.2.2; omega)
      have u4 : (upI hi 15 3 (q + i)) 15 4 = 0 := by rw [upI_i (by decide)]; exact h4
      by_cases c : B (q + i) < 0
      · let h9 := upI (upI (upI hi 15 3 (q + i)) 15 4 1) 15 5 (q + i)
        have hB9 : BM al h9 hr n B := hB.fr (fun k hk => by show upI _ _ _ _ _ _ = _; rw [upI_i (by omega), upI_i (by omega)]) (fun k => by show upI _ _ _ _ _ _ = _; rw [upI_a (by decide), upI_a (by decide)]) (by show 0 ≤ upI _ _ _ _ _ _; rw [upI_i (by decide), upI_i (by decide), u3]; have := h.2.2; omega)
        have e4 : h9 15 4 = 1 := by show upI _ _ _ _ _ _ = _; rw [upI_i (by decide), upI_eq]
        have N : ∀ x, Q (some (some (vI x))) al h9 hr := fun x => no (q + i) x h9 ⟨i, by omega, by omega, rfl, c, hall⟩ (((FW.rf.up ⟨rfl, by omega⟩).up ⟨rfl, by omega⟩).up ⟨rfl, by omega⟩) e4 upI_eq hB9.2.2
        refine s17_4.mpr (s17_5.mpr ?_)
        refine s17_6.mpr (wif (fun c6 => ?_) (fun c6 => ?_))
        · skip
          refine s17_9.mpr (s17_10.mpr (s17_12.mpr (s17_13.mpr ?_)))
          try simp (disch := first | decide | assumption | omega) only [kon, knt_some, knt_none, Option.toList_some, Option.toList_none, List.cons_append, List.nil_append, fAdd_id, u3]
          refine (s17_14 (by first | decide | assumption | omega) (by first | decide | assumption | omega)).mpr ?_
          refine h_take hB (by omega) u4 (fun _ => ?_) (fun z => absurd z (by rw [u3]; omega))
          simp only [kon, knt_some, knt_none, Option.toList_some, Option.toList_none, List.cons_append, List.nil_append, u3]
          refine s17_17.mpr (s17_18.mpr (s17_19.mpr (s17_22.mpr ?_)))
          try simp (disch := first | decide | assumption | omega) only [kon, knt_some, knt_none, Option.toList_some, Option.toList_none, List.cons_append, List.nil_append, fAdd_id, u3]
          exact F4 j (i + 1) _ h9 (by omega) (by omega) hB9 (by rw [e4]; decide) N
        · skip
          refine s17_25.mpr ?_
          refine (s17_26).mpr ?_
          exfalso; omega
      · have NX := ih (i + 1) (by omega) (fun i' a b => by
          by_cases z : i' = i
          · subst z; omega
          · exact hall i' a (by rw [cast1] at b; omega))
        have eu : upI (upI hi 15 3 (q + i)) 15 3 (q + i + 1) = upI hi 15 3 (q + ((i + 1 : Nat) : Int)) := by rw [upI_up, cast1, Int.add_assoc]
        rw [wdS_s, ← eu, cast1] at NX
        refine s17_4.mpr (s17_5.mpr ?_)
        refine s17_6.mpr (wif (fun c6 => ?_) (fun c6 => ?_))
        · skip
          refine s17_9.mpr (s17_10.mpr (s17_12.mpr (s17_13.mpr ?_)))
          try simp (disch := first | decide | assumption | omega) only [kon, knt_some, knt_none, Option.toList_some, Option.toList_none, List.cons_append, List.nil_append, fAdd_id, u3]
          refine (s17_14 (by first | decide | assumption | omega) (by first | decide | assumption | omega)).mpr ?_
          refine h_take hB (by omega) u4 (fun z => absurd z (by rw [u3]; omega)) (fun _ => ?_)
          simp only [kon, knt_some, knt_none, Option.toList_some, Option.toList_none, List.cons_append, List.nil_append, u3]
          refine s17_17.mpr (s17_18.mpr (s17_19.mpr (s17_22.mpr ?_)))
          try simp (disch := first | decide | assumption | omega) only [kon, knt_some, knt_none, Option.toList_some, Option.toList_none, List.cons_append, List.nil_append, fAdd_id, u3]
          exact NX
        · skip
          refine s17_25.mpr ?_
          refine (s17_26).mpr ?_
          exfalso; omega
  have T := T4 4 0 (by omega) (fun i' a b => absurd b (by omega))
  have eu0 : upI hi 15 3 (q + ((0 : Nat) : Int)) = hi := upI_same (by rw [hq]; simp)
  rw [eu0] at T
  refine s17_0.mpr (s17_1.mpr (s17_2.mpr (s17_3.mpr ?_)))
  exact T
theorem h_takeWordF (h : BM al hi hr n B) (hd : 2 ≤ d) (h4 : hi 15 4 ≠ 0) (q : ∀ x, Q (some (some (vI x))) al hi hr) : Ev d 17 [vR (some 15)] al hi hr Q := by
  have k15 := h.1.1
  rw [e17]
  have F4 : ∀ (j : Nat) (i : Int) (x : Int), i + j = 4 → 0 ≤ i → Wp d 17 4 [vR (some 15), vI x, vI i] [] al hi hr Q := by
    intro j
    induction j with
    | zero =>
      intro i x hj i0
      refine s17_4.mpr (s17_5.mpr ?_)
      refine s17_6.mpr (wif (fun c6 => ?_) (fun c6 => ?_))
      · skip
        exfalso; omega
      · skip
        refine s17_25.mpr ?_
        refine (s17_26).mpr ?_
        exact q _
    | succ j ih =>
      intro i x hj i0
      refine s17_4.mpr (s17_5.mpr ?_)
      refine s17_6.mpr (wif (fun c6 => ?_) (fun c6 => ?_))
      · skip
        refine s17_9.mpr (s17_10.mpr (s17_12.mpr (s17_13.mpr ?_)))
        try simp (disch := first | decide | assumption | omega) only [kon, knt_some, knt_none, Option.toList_some, Option.toList_none, List.cons_append, List.nil_append, fAdd_id]
        refine (s17_14 (by first | decide | assumption | omega) (by first | decide | assumption | omega)).mpr ?_
        refine h_takeF h (by omega) h4 ?_
        refine s17_17.mpr (s17_18.mpr (s17_19.mpr (s17_22.mpr ?_)))
        try simp (disch := first | decide | assumption | omega) only [kon, knt_some, knt_none, Option.toList_some, Option.toList_none, List.cons_append, List.nil_append, fAdd_id]
        exact ih (i + 1) _ (by omega) (by omega)
      · skip
        refine s17_25.mpr ?_
        refine (s17_26).mpr ?_
        exfalso; omega
  refine s17_0.mpr (s17_1.mpr (s17_2.mpr (s17_3.mpr ?_)))
  exact F4 4 0 _ (by omega) (Int.le_refl _)
theorem h_isBootable {t : Nat} {f : Int} (hd : 1 ≤ d) (hR : RoutOK al hi hr Bm f t) (hT : TxV Bm n) (f0 : 0 ≤ f) (f1 : f < nFn Bm) (yes : btb Bm f → Q (some (some (vI 1))) al hi hr) (no : ¬ btb Bm f → Q (some (some (vI 0))) al hi hr) : Ev d 100 [vR (some (t + 1))] al hi hr Q := by
  have kR := hR.1.1
  have e0 : hi (t + 1) 0 = nPar Bm f := hR.2.2.2.1
  have n4 : nPar Bm f ≤ 4 := (hT.2.1.2.2.2.2.2.2.2.2.2.2 f f0 f1).2.1
  have n0 : 0 ≤ nPar Bm f := (hT.2.1.2.2.2.2.2.2.2.2.2.2 f f0 f1).1
  have hr9 := hT.2.2.2.2 f f0 f1
  have e2 : hi (t + 1) 2 = cv (rTy Bm f) := hR.res hT f0 f1
  have r2 : cv (rTy Bm f) = -1 ↔ rTy Bm f = -1 := by
    rcases hr9.2.1 with z | ⟨z, -⟩
    · rw [z]; decide
    · have := cv_m z.r; have := z.1; constructor <;> intro _ <;> omega
  rw [e100]
  have T2 : ∀ (i : Nat) (k : Int) l2, k + i = nPar Bm f → 0 ≤ k → (∀ k', 0 ≤ k' → k' < k → pTy Bm f k' = 0 ∨ (kindM (pTy Bm f k') = 5 ∧ stateM (pTy Bm f k') = 0)) → Wp d 100 2 [vR (some (t + 1)), vI k, l2] [] al hi hr Q := by
    intro i
    induction i with
    | zero =>
      intro k l2 hk k0 hall
      refine s100_2.mpr (s100_3.mpr ?_)
      refine (s100_4 (by first | decide | assumption | omega)).mpr ?_
      try simp (disch := first | decide | assumption | omega) only [e0, e2]
      refine s100_7.mpr (wif (fun c7 => ?_) (fun c7 => ?_))
      · skip
        exfalso; omega
      · skip
        refine s100_43.mpr ?_
        refine (s100_44 (by first | decide | assumption | omega)).mpr ?_
        refine s100_47.mpr ?_
        try simp (disch := first | decide | assumption | omega) only [e0, e2]
        refine s100_48.mpr (wif (fun c48 => ?_) (fun c48 => ?_))
        · skip
          refine s100_51.mpr (s100_52.mpr ?_)
          refine (s100_56 (by first | assumption | omega)).mpr ?_
          first | exact yes ⟨r2.mp (by assumption), fun k' a b => hall k' a (by omega)⟩ | exact no (fun z => absurd (r2.mpr z.1) (by assumption))
        · skip
          refine s100_55.mpr ?_
          refine (s100_56 (by first | assumption | omega)).mpr ?_
          first | exact yes ⟨r2.mp (by assumption), fun k' a b => hall k' a (by omega)⟩ | exact no (fun z => absurd (r2.mpr z.1) (by assumption))
    | succ i ih =>
      intro k l2 hk k0 hall
      have vt := (hr9.1 k k0 (by omega)).1
      have ep := hR.par (k := k) hT f0 f1 k0 (by omega)
      obtain ⟨x, hx⟩ : ∃ x, pTy Bm f k = x := ⟨_, rfl⟩
      rw [hx] at vt ep
      have rx := cv_r vt.r
      have kx := cv_k vt.r
      have sx := cv_s vt.r
      have c0 := cv_c vt.r (c := 0) (by decide) (by decide)
      by_cases c : x = 0 ∨ (kindM x = 5 ∧ stateM x = 0)
      · have NX : ∀ l2, Wp d 100 2 [vR (some (t + 1)), vI (k + 1), l2] [] al hi hr Q := fun l2 => ih (k + 1) l2 (by omega) (by omega) (fun k' a b => by
          by_cases z : k' = k
          · subst z; rw [hx]; exact c
          · exact hall k' a (by omega))
        refine s100_2.mpr (s100_3.mpr ?_)
        refine (s100_4 (by first | decide | assumption | omega)).mpr ?_
        try simp (disch := first | decide | assumption | omega) only [kon, knt_some, knt_none, Option.toList_some, Option.toList_none, List.cons_append, List.nil_append, e0, fAdd_id]
        refine s100_7.mpr (wif (fun c7 => ?_) (fun c7 => ?_))
        · first
          | (exfalso; omega)
          | skip
            refine s100_10.mpr (s100_11.mpr ?_)
            refine (s100_12 (by first | decide | assumption | omega) (by first | decide | assumption | omega)).mpr ?_
            refine r_typeOfParameter hR.1 ?_
            simp only [kon, knt_some, knt_none, Option.toList_some, Option.toList_none, List.cons_append, List.nil_append, ep]
            refine s100_15.mpr (s100_16.mpr ?_)
            refine s100_17.mpr (wif (fun c17 => ?_) (fun c17 => ?_))
            · first
              | (exfalso; omega)
              | skip
                refine s100_37.mpr (s100_40.mpr ?_)
                try simp (disch := first | decide | assumption | omega) only [kon, knt_some, knt_none, Option.toList_some, Option.toList_none, List.cons_append, List.nil_append, e0, fAdd_id]
                exact NX _
            · first
              | (exfalso; omega)
              | skip
                refine s100_20.mpr ?_
                refine (s100_21 (by omega)).mpr ?_
                refine c_kindOf.mpr ?_
                refine s100_24.mpr ?_
                refine s100_25.mpr (wif (fun c25 => ?_) (fun c25 => ?_))
                · first
                  | (exfalso; omega)
                  | skip
                    refine s100_28.mpr ?_
                    refine (s100_29 (by omega)).mpr ?_
                    refine (c_stateOfEnd rx).mpr ?_
                    refine s100_32.mpr (wif (fun c32 => ?_) (fun c32 => ?_))
                    · first
                      | (exfalso; omega)
                      | skip
                        refine s100_37.mpr (s100_40.mpr ?_)
                        try simp (disch := first | decide | assumption | omega) only [kon, knt_some, knt_none, Option.toList_some, Option.toList_none, List.cons_append, List.nil_append, e0, fAdd_id]
                        exact NX _
                    · first
                      | (exfalso; omega)
                      | skip
                        exfalso; omega
                · first
                  | (exfalso; omega)
                  | skip
                    exfalso; omega
        · first
          | (exfalso; omega)
          | skip
            exfalso; omega
      · have E := no (fun z => by have := z.2 k k0 (by omega); rw [hx] at this; exact c this)
        refine s100_2.mpr (s100_3.mpr ?_)
        refine (s100_4 (by first | decide | assumption | omega)).mpr ?_
        try simp (disch := first | decide | assumption | omega) only [kon, knt_some, knt_none, Option.toList_some, Option.toList_none, List.cons_append, List.nil_append, e0, fAdd_id]
        refine s100_7.mpr (wif (fun c7 => ?_) (fun c7 => ?_))
        · first
          | (exfalso; omega)
          | skip
            refine s100_10.mpr (s100_11.mpr ?_)
            refine (s100_12 (by first | decide | assumption | omega) (by first | decide | assumption | omega)).mpr ?_
            refine r_typeOfParameter hR.1 ?_
            simp only [kon, knt_some, knt_none, Option.toList_some, Option.toList_none, List.cons_append, List.nil_append, ep]
            refine s100_15.mpr (s100_16.mpr ?_)
            refine s100_17.mpr (wif (fun c17 => ?_) (fun c17 => ?_))
            · first
              | (exfalso; omega)
              | skip
                exfalso; omega
            · first
              | (exfalso; omega)
              | skip
                refine s100_20.mpr ?_
                refine (s100_21 (by omega)).mpr ?_
                refine c_kindOf.mpr ?_
                refine s100_24.mpr ?_
                refine s100_25.mpr (wif (fun c25 => ?_) (fun c25 => ?_))
                · first
                  | (exfalso; omega)
                  | skip
                    refine s100_28.mpr ?_
                    refine (s100_29 (by omega)).mpr ?_
                    refine (c_stateOfEnd rx).mpr ?_
                    refine s100_32.mpr (wif (fun c32 => ?_) (fun c32 => ?_))
                    · first
                      | (exfalso; omega)
                      | skip
                        exfalso; omega
                    · first
                      | (exfalso; omega)
                      | skip
                        refine s100_35.mpr ?_
                        refine (s100_36 (by first | assumption | omega)).mpr ?_
                        exact E
                · first
                  | (exfalso; omega)
                  | skip
                    refine s100_35.mpr ?_
                    refine (s100_36 (by first | assumption | omega)).mpr ?_
                    exact E
        · first
          | (exfalso; omega)
          | skip
            exfalso; omega
  refine s100_0.mpr (s100_1.mpr ?_)
  exact T2 (nPar Bm f).toNat 0 _ (by omega) (Int.le_refl _) (fun k' a b => absurd b (by omega))
end CN0
