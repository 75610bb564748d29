/-! CONTRACTS THAT ARE ALIKE, as the class finds it, 2 -/
section CA1
variable {d : Nat} {al : AL} {hi : HI} {hr : HR} {Q : QQ} {B B' : Int → Int} {N N' : Nat} {n n' : Int} {M M' : Nat}
/-- a contract of the class, as its methods read it -/
theorem CtrOK.rd {c : Int} {o : Nat} (h : CtrOK al hi hr B c o) (hT : TxV B n) (c0 : 0 ≤ c) (c1 : c < nCtr B) : CtS al hr o ∧ hi o 0 = nSt B c ∧ (1 ≤ nSt B c ∧ nSt B c ≤ 8) ∧ ∀ s, 0 ≤ s → s < nSt B c → (if s < 0 ∨ 8 ≤ s then 0 else hi (o + 1) s) = tnS B c s ∧ (if s < 0 ∨ 8 ≤ s then 0 else hi (o + 2) s) = nMs B c s ∧ (0 ≤ nMs B c s ∧ nMs B c s ≤ 4) ∧ ∀ t, 0 ≤ t → t < nMs B c s → (if ixA hi o s t < 0 then -1 else hi (o + 3) (ixA hi o s t)) = cv (ldM B c s t) ∧ (if ixA hi o s t < 0 then 0 else hi (o + 4) (ixA hi o s t)) = thM B c s t ∧ ldO B (ldM B c s t) := by
  obtain ⟨h1, h2, h3⟩ := h
  have hS := hT.2.1.2.2.2.2.2.2.1 c c0 c1
  refine ⟨h1, h2, ⟨hS.1, hS.2.1⟩, fun s s0 s1 => ?_⟩
  have s8 := hS.2.1
  obtain ⟨a1, a2, a3, a4⟩ := h3 s s0 s1
  have q := hS.2.2.2.1 s s0 s1
  refine ⟨by rw [if_neg (by omega)]; exact a1, by rw [if_neg (by omega)]; exact a2, ⟨q.2.2.1, a3⟩, fun t t0 t1 => ?_⟩
  have ix : ixA hi o s t = 4 * s + t := if_pos ⟨s0, by omega, t0, by omega, by omega⟩
  rw [ix, if_neg (by omega), if_neg (by omega)]
  obtain ⟨b1, b2⟩ := a4 t t0 t1
  exact ⟨b1.trans (tyC_cv hT.rg (q.2.2.2.2.2.2.1 t t0 t1).1), b2, (hT.2.2.2.1 c s t c0 c1 s0 s1 t0 t1).1⟩
theorem CtrOK.pm {c : Int} {o : Nat} {h' : HI} (h : CtrOK al hi hr B c o) (ho : 119 ≤ o) (hf : FW wPa hi h') : CtrOK al h' hr B c o := h.fr GA.rf (fun a i z1 z2 => hf a i (by unfold wPa; omega)) (fun _ => rfl)
set_option maxRecDepth 8000 in
theorem f_isPairAlike {c e : Int} {o o' : Nat} (hA : SA al) (hc : CR hr) (hd : 3 ≤ d) (hM : ModV al hi hr N n B M) (hM' : ModV al hi hr N' n' B' M') (hT : TxV B n) (hT' : TxV B' n') (c0 : 0 ≤ c) (c1 : c < nCtr B) (e0 : 0 ≤ e) (e1 : e < nCtr B') (hO : CtrOK al hi hr B c o) (hO' : CtrOK al hi hr B' e o') (ho : 119 ≤ o) (ho' : 119 ≤ o') (hp : PL hi)
    (yes : ∀ hi', PM hi hi' → alC B B' (Rm hi') c e → (∀ v, pmem hi' v → pmem hi v ∨ ∃ x y, v = 4 * x + y ∧ (0 ≤ x ∧ x < nCtr B) ∧ (0 ≤ y ∧ y < nCtr B') ∧ ∀ R, alC B B' R c e → R x y) → Q (some (some (vI 1))) al hi' hr)
    (no : ∀ hi', (∀ R, ¬ alC B B' R c e) → PM hi hi' → Q (some (some (vI 0))) al hi' hr) : Ev d 104 [vR (some 14), vR (some N), vR (some o), vR (some N'), vR (some o')] al hi hr Q := by
  have k14 : isK al 14 7 := hA.k (by decide) (by decide) rfl
  obtain ⟨x1, x2, x3, x4⟩ := hO.rd hT c0 c1
  obtain ⟨y1, y2, y3, y4⟩ := hO'.rd hT' e0 e1
  have ko : isK al o 3 := x1.1
  have ko' : isK al o' 3 := y1.1
  rw [e104]
  by_cases cn : nSt B c = nSt B' e
  case neg =>
    have E := no hi (fun R z => cn z.1) (PM.rf hp)
    refine s104_0.mpr ?_
    refine s104_1.mpr (wif (fun c1 => ?_) (fun c1 => ?_))
    · skip
      first | (cases ‹some o = none›) | (cases ‹some o' = none›) | (refine s104_21.mpr ?_; refine (s104_22 (by decide)).mpr ?_; exact E)
    · skip
      refine s104_4.mpr ?_
      refine s104_6.mpr (wif (fun c6 => ?_) (fun c6 => ?_))
      · skip
        first | (cases ‹some o = none›) | (cases ‹some o' = none›) | (refine s104_21.mpr ?_; refine (s104_22 (by decide)).mpr ?_; exact E)
      · skip
        refine s104_9.mpr ?_
        refine (s104_10 (by first | decide | assumption | omega)).mpr ?_
        refine s104_13.mpr ?_
        try simp (disch := first | decide | assumption | omega) only [x2, y2]
        refine (s104_15 (by first | decide | assumption | omega)).mpr ?_
        try simp (disch := first | decide | assumption | omega) only [x2, y2]
        refine s104_18.mpr (wif (fun c18 => ?_) (fun c18 => ?_))
        · skip
          exfalso; omega
        · skip
          first | (cases ‹some o = none›) | (cases ‹some o' = none›) | (refine s104_21.mpr ?_; refine (s104_22 (by decide)).mpr ?_; exact E)
  have T26 : ∀ (j : Nat) (s : Int) (h : HI) l6, s + j = nSt B c → 0 ≤ s → PM hi h → (∀ s', 0 ≤ s' → s' < s → alS B B' (Rm h) c e s') → (∀ v, pmem h v → pmem hi v ∨ ∃ x y, v = 4 * x + y ∧ (0 ≤ x ∧ x < nCtr B) ∧ (0 ≤ y ∧ y < nCtr B') ∧ ∀ R, alC B B' R c e → R x y) → Wp d 104 26 [vR (some 14), vR (some N), vR (some o), vR (some N'), vR (some o'), vI s, l6] [] al h hr Q := by
    intro j
    induction j with
    | zero =>
      intro s h l6 hj s0 hPM hall hv
      have z2 := ((hO.pm ho hPM.1).rd hT c0 c1).2.1
      have E := yes h hPM ⟨cn, fun s' a b => hall s' a (by omega)⟩ hv
      refine s104_26.mpr (s104_28.mpr ?_)
      refine (s104_29 (by first | decide | assumption | omega)).mpr ?_
      try simp (disch := first | decide | assumption | omega) only [z2]
      refine s104_32.mpr (wif (fun c32 => ?_) (fun c32 => ?_))
      · skip
        exfalso; omega
      · skip
        refine s104_143.mpr ?_
        refine (s104_144 (by first | assumption | omega)).mpr ?_
        exact E
    | succ j ih =>
      intro s h l6 hj s0 hPM hall hv
      have sl : s < nSt B c := by omega
      have sl' : s < nSt B' e := by omega
      obtain ⟨a1, z2, -, a4⟩ := (hO.pm ho hPM.1).rd hT c0 c1
      obtain ⟨b1, w2, -, b4⟩ := (hO'.pm ho' hPM.1).rd hT' e0 e1
      obtain ⟨a5, a6, a7, a8⟩ := a4 s s0 sl
      obtain ⟨b5, b6, b7, b8⟩ := b4 s s0 sl'
      by_cases ctn : tnS B c s = tnS B' e s ∧ nMs B c s = nMs B' e s
      case neg =>
        have E := no h (fun R z => ctn ⟨(z.2 s s0 sl).1, (z.2 s s0 sl).2.1⟩) hPM
        refine s104_26.mpr (s104_28.mpr ?_)
        refine (s104_29 (by first | decide | assumption | omega)).mpr ?_
        try simp (disch := first | decide | assumption | omega) only [kon, knt_some, knt_none, Option.toList_some, Option.toList_none, List.cons_append, List.nil_append, z2]
        refine s104_32.mpr (wif (fun c32 => ?_) (fun c32 => ?_))
        · first
          | (exfalso; omega)
          | skip
            refine s104_35.mpr (s104_36.mpr ?_)
            refine (s104_38 (by first | decide | assumption | omega) (by first | decide | assumption | omega)).mpr ?_
            refine k_turnAt (by first | exact a1 | exact b1) ?_
            simp only [kon, knt_some, knt_none, Option.toList_some, Option.toList_none, List.cons_append, List.nil_append, a5, b5]
            refine s104_41.mpr (s104_43.mpr ?_)
            refine (s104_45 (by first | decide | assumption | omega) (by first | decide | assumption | omega)).mpr ?_
            refine k_turnAt (by first | exact a1 | exact b1) ?_
            simp only [kon, knt_some, knt_none, Option.toList_some, Option.toList_none, List.cons_append, List.nil_append, a5, b5]
            refine s104_48.mpr (wif (fun c48 => ?_) (fun c48 => ?_))
            · first
              | (exfalso; omega)
              | skip
                refine s104_51.mpr (s104_52.mpr ?_)
                refine (s104_54 (by first | decide | assumption | omega) (by first | decide | assumption | omega)).mpr ?_
                refine k_countAt (by first | exact a1 | exact b1) ?_
                simp only [kon, knt_some, knt_none, Option.toList_some, Option.toList_none, List.cons_append, List.nil_append, a6, b6]
                refine s104_57.mpr (s104_59.mpr ?_)
                refine (s104_61 (by first | decide | assumption | omega) (by first | decide | assumption | omega)).mpr ?_
                refine k_countAt (by first | exact a1 | exact b1) ?_
                simp only [kon, knt_some, knt_none, Option.toList_some, Option.toList_none, List.cons_append, List.nil_append, a6, b6]
                refine s104_64.mpr (wif (fun c64 => ?_) (fun c64 => ?_))
                · first
                  | (exfalso; omega)
                  | skip
                    exfalso; omega
                · first
                  | (exfalso; omega)
                  | skip
                    refine s104_67.mpr ?_
                    refine (s104_68 (by first | assumption | omega)).mpr ?_
                    exact E
            · first
              | (exfalso; omega)
              | skip
                refine s104_67.mpr ?_
                refine (s104_68 (by first | assumption | omega)).mpr ?_
                exact E
        · first
          | (exfalso; omega)
          | skip
            exfalso; omega
      have T72 : ∀ (i : Nat) (t : Int) (h : HI), t + i = nMs B c s → 0 ≤ t → PM hi h → (∀ s', 0 ≤ s' → s' < s → alS B B' (Rm h) c e s') → (∀ t', 0 ≤ t' → t' < t → thM B c s t' = thM B' e s t' ∧ alL B B' (Rm h) (ldM B c s t') (ldM B' e s t')) → (∀ v, pmem h v → pmem hi v ∨ ∃ x y, v = 4 * x + y ∧ (0 ≤ x ∧ x < nCtr B) ∧ (0 ≤ y ∧ y < nCtr B') ∧ ∀ R, alC B B' R c e → R x y) → Wp d 104 72 [vR (some 14), vR (some N), vR (some o), vR (some N'), vR (some o'), vI s, vI t] [] al h hr Q := by
        intro i
        induction i with
        | zero =>
          intro t h hi9 t0 hPM hall hall2 hv
          obtain ⟨a1, z2, -, a4⟩ := (hO.pm ho hPM.1).rd hT c0 c1
          obtain ⟨a5, a6, a7, a8⟩ := a4 s s0 sl
          have NX : Wp d 104 26 [vR (some 14), vR (some N), vR (some o), vR (some N'), vR (some o'), vI (s + 1), vI t] [] al h hr Q := by
            refine ih (s + 1) h _ (by omega) (by omega) hPM (fun s' q1 q2 => ?_) hv
            by_cases z : s' = s
            · subst z; exact ⟨ctn.1, ctn.2, fun t' r1 r2 => hall2 t' r1 (by omega)⟩
            · exact hall s' q1 (by omega)
          refine s104_72.mpr (s104_74.mpr (s104_75.mpr ?_))
          refine (s104_77 (by first | decide | assumption | omega) (by first | decide | assumption | omega)).mpr ?_
          refine k_countAt a1 ?_
          simp only [kon, knt_some, knt_none, Option.toList_some, Option.toList_none, List.cons_append, List.nil_append, a6]
          refine s104_80.mpr (wif (fun c80 => ?_) (fun c80 => ?_))
          · skip
            exfalso; omega
          · skip
            refine s104_137.mpr (s104_140.mpr ?_)
            try simp (disch := first | decide | assumption | omega) only [kon, knt_some, knt_none, Option.toList_some, Option.toList_none, List.cons_append, List.nil_append, fAdd_id]
            exact NX
        | succ i iht =>
          intro t h hi9 t0 hPM hall hall2 hv
          have tl : t < nMs B c s := by omega
          have tl' : t < nMs B' e s := by omega
          obtain ⟨a1, z2, -, a4⟩ := (hO.pm ho hPM.1).rd hT c0 c1
          obtain ⟨b1, w2, -, b4⟩ := (hO'.pm ho' hPM.1).rd hT' e0 e1
          obtain ⟨a5, a6, a7, a8⟩ := a4 s s0 sl
          obtain ⟨b5, b6, b7, b8⟩ := b4 s s0 sl'
          obtain ⟨a9, a10, a11⟩ := a8 t t0 tl
          obtain ⟨b9, b10, b11⟩ := b8 t t0 tl'
          by_cases cth : thM B c s t = thM B' e s t
          case neg =>
            have E := no h (fun R z => cth ((z.2 s s0 sl).2.2 t t0 tl).1) hPM
            refine s104_72.mpr (s104_74.mpr (s104_75.mpr ?_))
            refine (s104_77 (by first | decide | assumption | omega) (by first | decide | assumption | omega)).mpr ?_
            refine k_countAt a1 ?_
            simp only [kon, knt_some, knt_none, Option.toList_some, Option.toList_none, List.cons_append, List.nil_append, a6]
            refine s104_80.mpr (wif (fun c80 => ?_) (fun c80 => ?_))
            · first
              | (exfalso; omega)
              | skip
                refine s104_83.mpr (s104_84.mpr (s104_86.mpr ?_))
                refine (s104_88 (by first | decide | assumption | omega) (by first | decide | assumption | omega)).mpr ?_
                refine k_nextOf (by first | exact a1 | exact b1) (by omega) ?_
                simp only [kon, knt_some, knt_none, Option.toList_some, Option.toList_none, List.cons_append, List.nil_append, a10, b10]
                refine s104_91.mpr (s104_93.mpr (s104_95.mpr ?_))
                refine (s104_97 (by first | decide | assumption | omega) (by first | decide | assumption | omega)).mpr ?_
                refine k_nextOf (by first | exact a1 | exact b1) (by omega) ?_
                simp only [kon, knt_some, knt_none, Option.toList_some, Option.toList_none, List.cons_append, List.nil_append, a10, b10]
                refine s104_100.mpr (wif (fun c100 => ?_) (fun c100 => ?_))
                · first
                  | (exfalso; omega)
                  | skip
                    exfalso; omega
                · first
                  | (exfalso; omega)
                  | skip
                    refine s104_129.mpr ?_
                    refine (s104_130 (by first | assumption | omega)).mpr ?_
                    exact E
            · first
              | (exfalso; omega)
              | skip
                exfalso; omega
          have R123 : Ev (d - 1) 105 [vR (some 14), vR (some N), vI (cv (ldM B c s t)), vR (some N'), vI (cv (ldM B' e s t))] al h hr (kon d 104 123 126 [vR (some 14), vR (some N), vR (some o), vR (some N'), vR (some o'), vI s, vI t] [] Q) := by
            refine f_isLoadAlike hA hc (by omega) (hM.pm hPM.1) (hM'.pm hPM.1) hT hT' a11 b11 hPM.2.1 (fun h2 p2 q1 q2 => ?_) (fun h2 q1 p2 => ?_)
            · simp only [kon, knt_some, knt_none, Option.toList_some, Option.toList_none, List.cons_append, List.nil_append]
              have NX : Wp d 104 72 [vR (some 14), vR (some N), vR (some o), vR (some N'), vR (some o'), vI s, vI (t + 1)] [] al h2 hr Q := by
                refine iht (t + 1) h2 (by omega) (by omega) (hPM.tr p2) (fun s' r1 r2 => (hall s' r1 r2).mn p2.Rm) (fun t' r1 r2 => ?_) (fun v r => ?_)
                · by_cases z : t' = t
                  · subst z; exact ⟨cth, q1⟩
                  · exact ⟨(hall2 t' r1 (by omega)).1, (hall2 t' r1 (by omega)).2.mn p2.Rm⟩
                · rcases q2 v r with r | ⟨r1, r2⟩
                  · exact hv v r
                  · exact Or.inr ⟨_, _, r2, a11.w.2 r1, b11.w.2 (q1.1.symm.trans r1), fun R z => (((z.2 s s0 sl).2.2 t t0 tl).2.2.2 r1).2.2⟩
              refine s104_126.mpr (wif (fun c126 => ?_) (fun c126 => ?_))
              · skip
                exact absurd ‹(1 : Int) = 0› (by decide)
              · skip
                refine s104_131.mpr (s104_134.mpr ?_)
                try simp (disch := first | decide | assumption | omega) only [fAdd_id]
                exact NX
            · simp only [kon, knt_some, knt_none, Option.toList_some, Option.toList_none, List.cons_append, List.nil_append]
              have E := no h2 (fun R z => q1 R ((z.2 s s0 sl).2.2 t t0 tl).2) (hPM.tr p2)
              refine s104_126.mpr (wif (fun c126 => ?_) (fun c126 => ?_))
              · skip
                refine s104_129.mpr ?_
                refine (s104_130 (by first | assumption | omega)).mpr ?_
                exact E
              · skip
                exact absurd rfl ‹¬ (0 : Int) = 0›
          refine s104_72.mpr (s104_74.mpr (s104_75.mpr ?_))
          refine (s104_77 (by first | decide | assumption | omega) (by first | decide | assumption | omega)).mpr ?_
          refine k_countAt a1 ?_
          simp only [kon, knt_some, knt_none, Option.toList_some, Option.toList_none, List.cons_append, List.nil_append, a6]
          refine s104_80.mpr (wif (fun c80 => ?_) (fun c80 => ?_))
          · first
            | (exfalso; omega)
            | skip
              refine s104_83.mpr (s104_84.mpr (s104_86.mpr ?_))
              refine (s104_88 (by first | decide | assumption | omega) (by first | decide | assumption | omega)).mpr ?_
              refine k_nextOf (by first | exact a1 | exact b1) (by omega) ?_
              simp only [kon, knt_some, knt_none, Option.toList_some, Option.toList_none, List.cons_append, List.nil_append, a10, b10]
              refine s104_91.mpr (s104_93.mpr (s104_95.mpr ?_))
              refine (s104_97 (by first | decide | assumption | omega) (by first | decide | assumption | omega)).mpr ?_
              refine k_nextOf (by first | exact a1 | exact b1) (by omega) ?_
              simp only [kon, knt_some, knt_none, Option.toList_some, Option.toList_none, List.cons_append, List.nil_append, a10, b10]
              refine s104_100.mpr (wif (fun c100 => ?_) (fun c100 => ?_))
              · first
                | (exfalso; omega)
                | skip
                  refine s104_103.mpr (s104_104.mpr (s104_105.mpr (s104_106.mpr (s104_108.mpr ?_))))
                  refine (s104_110 (by first | decide | assumption | omega) (by first | decide | assumption | omega)).mpr ?_
                  refine k_loadOf (by first | exact a1 | exact b1) (by omega) ?_
                  simp only [kon, knt_some, knt_none, Option.toList_some, Option.toList_none, List.cons_append, List.nil_append, a9, b9]
                  refine s104_113.mpr (s104_114.mpr (s104_116.mpr (s104_118.mpr ?_)))
                  refine (s104_120 (by first | decide | assumption | omega) (by first | decide | assumption | omega)).mpr ?_
                  refine k_loadOf (by first | exact a1 | exact b1) (by omega) ?_
                  simp only [kon, knt_some, knt_none, Option.toList_some, Option.toList_none, List.cons_append, List.nil_append, a9, b9]
                  refine (s104_123 (by first | decide | assumption | omega) (by first | decide | assumption | omega)).mpr ?_
                  exact R123
              · first
                | (exfalso; omega)
                | skip
                  exfalso; omega
          · first
            | (exfalso; omega)
            | skip
              exfalso; omega
      refine s104_26.mpr (s104_28.mpr ?_)
      refine (s104_29 (by first | decide | assumption | omega)).mpr ?_
      try simp (disch := first | decide | assumption | omega) only [kon, knt_some, knt_none, Option.toList_some, Option.toList_none, List.cons_append, List.nil_append, z2]
      refine s104_32.mpr (wif (fun c32 => ?_) (fun c32 => ?_))
      · first
        | (exfalso; omega)
        | skip
          refine s104_35.mpr (s104_36.mpr ?_)
          refine (s104_38 (by first | decide | assumption | omega) (by first | decide | assumption | omega)).mpr ?_
          refine k_turnAt (by first | exact a1 | exact b1) ?_
          simp only [kon, knt_some, knt_none, Option.toList_some, Option.toList_none, List.cons_append, List.nil_append, a5, b5]
          refine s104_41.mpr (s104_43.mpr ?_)
          refine (s104_45 (by first | decide | assumption | omega) (by first | decide | assumption | omega)).mpr ?_
          refine k_turnAt (by first | exact a1 | exact b1) ?_
          simp only [kon, knt_some, knt_none, Option.toList_some, Option.toList_none, List.cons_append, List.nil_append, a5, b5]
          refine s104_48.mpr (wif (fun c48 => ?_) (fun c48 => ?_))
          · first
            | (exfalso; omega)
            | skip
              refine s104_51.mpr (s104_52.mpr ?_)
              refine (s104_54 (by first | decide | assumption | omega) (by first | decide | assumption | omega)).mpr ?_
              refine k_countAt (by first | exact a1 | exact b1) ?_
              simp only [kon, knt_some, knt_none, Option.toList_some, Option.toList_none, List.cons_append, List.nil_append, a6, b6]
              refine s104_57.mpr (s104_59.mpr ?_)
              refine (s104_61 (by first | decide | assumption | omega) (by first | decide | assumption | omega)).mpr ?_
              refine k_countAt (by first | exact a1 | exact b1) ?_
              simp only [kon, knt_some, knt_none, Option.toList_some, Option.toList_none, List.cons_append, List.nil_append, a6, b6]
              refine s104_64.mpr (wif (fun c64 => ?_) (fun c64 => ?_))
              · first
                | (exfalso; omega)
                | skip
                  refine s104_69.mpr (s104_70.mpr ?_)
                  exact T72 (nMs B c s).toNat 0 h (by omega) (Int.le_refl _) hPM hall (fun t' r1 r2 => absurd r2 (by omega)) hv
              · first
                | (exfalso; omega)
                | skip
                  exfalso; omega
          · first
            | (exfalso; omega)
            | skip
              exfalso; omega
      · first
        | (exfalso; omega)
        | skip
          exfalso; omega
  refine s104_0.mpr ?_
  refine s104_1.mpr (wif (fun c1 => ?_) (fun c1 => ?_))
  · skip
    first | (exfalso; omega) | (cases ‹some o = none›) | (cases ‹some o' = none›)
  · skip
    refine s104_4.mpr ?_
    refine s104_6.mpr (wif (fun c6 => ?_) (fun c6 => ?_))
    · skip
      first | (exfalso; omega) | (cases ‹some o = none›) | (cases ‹some o' = none›)
    · skip
      refine s104_9.mpr ?_
      refine (s104_10 (by first | decide | assumption | omega)).mpr ?_
      refine s104_13.mpr ?_
      try simp (disch := first | decide | assumption | omega) only [x2, y2]
      refine (s104_15 (by first | decide | assumption | omega)).mpr ?_
      try simp (disch := first | decide | assumption | omega) only [x2, y2]
      refine s104_18.mpr (wif (fun c18 => ?_) (fun c18 => ?_))
      · skip
        refine s104_23.mpr (s104_24.mpr ?_)
        exact T26 (nSt B c).toNat 0 hi _ (by omega) (Int.le_refl _) (PM.rf hp) (fun s' q1 q2 => absurd q2 (by omega)) (fun v => Or.inl)
      · skip
        first | (exfalso; omega) | (cases ‹some o = none›) | (cases ‹some o' = none›)
theorem ModV.ct4 {c : Int} (h : ModV al hi hr N n B M) (hT : TxV B n) (c0 : 0 ≤ c) (c1 : c < nCtr B) : ∃ o, ctA hi hr N c = some o ∧ N + 6 < o ∧ o + 4 < M ∧ CtrOK al hi hr B c o := by
  obtain ⟨o, q1, q2, q3, q4⟩ := h.2.2.2.2.1 c c0 c1
  have n4 : nCtr B ≤ 4 := hT.2.1.2.2.2.2.2.1
  have e6 := h.2.2.1.2.1
  exact ⟨o, by unfold ctA; rw [if_pos ⟨c0, by omega, by omega⟩]; exact q1, q2, q3, q4⟩
set_option maxRecDepth 8000 in
theorem f_areAlike {c e : Int} (hA : SA al) (hc : CR hr) (hd : 4 ≤ d) (hM : ModV al hi hr N n B M) (hM' : ModV al hi hr N' n' B' M') (hT : TxV B n) (hT' : TxV B' n') (c0 : 0 ≤ c) (c1 : c < nCtr B) (e0 : 0 ≤ e) (e1 : e < nCtr B')
    (yes : ∀ hi', FW wPa hi hi' → Alk B B' c e → Q (some (some (vI 1))) al hi' hr)
    (no : ∀ hi', FW wPa hi hi' → ¬ Alk B B' c e → Q (some (some (vI 0))) al hi' hr) : Ev d 102 [vR (some 14), vR (some N), vI c, vR (some N'), vI e] al hi hr Q := by
  have k14 : isK al 14 7 := hA.k (by decide) (by decide) rfl
  have k25 : isK al 25 15 := hA.k (by decide) (by decide) rfl
  have r25 : isR al 25 = true := hA.r (by decide) (by decide) (by decide)
  have l25 : aln al 25 = 16 := hA.len (by decide) (by decide) rfl
  have e10 := cr_14_10 hc
  have kN := hM.1.1.1
  have kN' := hM'.1.1.1
  have N119 := hM.1.2.1
  have N119' := hM'.1.2.1
  have n4 : nCtr B ≤ 4 := hT.2.1.2.2.2.2.2.1
  have n4' : nCtr B' ≤ 4 := hT'.2.1.2.2.2.2.2.1
  -- the pairs
  have T25 : ∀ (j : Nat) (i : Int) (h : HI) l6 l7, i + j = 16 → 0 ≤ i → FW wPa hi h → PL h → pmem h (4 * c + e) → (∀ v, pmem h v → (v / 4 < nCtr B ∧ v % 4 < nCtr B') ∧ ∀ R, Bis B B' R → R c e → R (v / 4) (v % 4)) → (∀ i', 0 ≤ i' → i' < i → i' < h 14 11 → alC B B' (Rm h) (h 25 i' / 4) (h 25 i' % 4)) → Wp d 102 25 [vR (some 14), vR (some N), vI c, vR (some N'), vI e, vI i, l6, l7] [] al h hr Q := by
    intro j
    have FIN : ∀ (i : Int) (h : HI), h 14 11 ≤ i → FW wPa hi h → PL h → pmem h (4 * c + e) → (∀ v, pmem h v → (v / 4 < nCtr B ∧ v % 4 < nCtr B') ∧ ∀ R, Bis B B' R → R c e → R (v / 4) (v % 4)) → (∀ i', 0 ≤ i' → i' < i → i' < h 14 11 → alC B B' (Rm h) (h 25 i' / 4) (h 25 i' % 4)) → Q (some (some (vI 1))) al h hr := by
      intro i h hi9 w hP hm hv hall
      refine yes h w ⟨Rm h, fun x y ⟨q1, q2, q3⟩ => ?_, ⟨c0, by omega⟩, ⟨e0, by omega⟩, hm⟩
      have r := (hv _ q3).1
      obtain ⟨i', r1, r2, r3⟩ := q3
      have a := hall i' r1 (by omega) r2
      rw [r3] at a
      rw [show (4 * x + y) / 4 = x by omega, show (4 * x + y) % 4 = y by omega] at a r
      exact ⟨⟨q1.1, r.1⟩, ⟨q2.1, r.2⟩, a⟩
    induction j with
    | zero =>
      intro i h l6 l7 hj i0 w hP hm hv hall
      have hle := hP.1.2
      have E := FIN i h (by omega) w hP hm hv hall
      refine s102_25.mpr (s102_27.mpr ?_)
      refine (s102_28 (by first | decide | assumption | omega)).mpr ?_
      try simp (disch := first | decide | assumption | omega) only [e10]
      refine s102_31.mpr (wif (fun c31 => ?_) (fun c31 => ?_))
      · skip
        refine s102_34.mpr (s102_36.mpr ?_)
        refine (s102_37 (by first | decide | assumption | omega)).mpr ?_
        try simp (disch := first | decide | assumption | omega) only [e10]
        refine (s102_40 (by first | decide | assumption | omega)).mpr ?_
        try simp (disch := first | decide | assumption | omega) only [e10]
        refine s102_41.mpr (wif (fun c41 => ?_) (fun c41 => ?_))
        · skip
          exfalso; omega
        · skip
          refine s102_95.mpr ?_
          refine (s102_96 (by first | assumption | omega)).mpr ?_
          exact E
      · skip
        refine s102_95.mpr ?_
        refine (s102_96 (by first | assumption | omega)).mpr ?_
        exact E
    | succ j ih =>
      intro i h l6 l7 hj i0 w hP hm hv hall
      by_cases ci : h 14 11 ≤ i
      · have E := FIN i h ci w hP hm hv hall
        refine s102_25.mpr (s102_27.mpr ?_)
        refine (s102_28 (by first | decide | assumption | omega)).mpr ?_
        try simp (disch := first | decide | assumption | omega) only [e10]
        refine s102_31.mpr (wif (fun c31 => ?_) (fun c31 => ?_))
        · skip
          exfalso; omega
        · skip
          refine s102_95.mpr ?_
          refine (s102_96 (by first | assumption | omega)).mpr ?_
          exact E
      obtain ⟨v, hv9⟩ : ∃ v, h 25 i = v := ⟨_, rfl⟩
      have vm : pmem h v := ⟨i, i0, by omega, hv9⟩
      have vr := (hP.2 i i0 (by omega)).1
      rw [hv9] at vr
      obtain ⟨⟨q1, q2⟩, q3⟩ := hv v vm
      have hMh := hM.pm w
      have hMh' := hM'.pm w
      obtain ⟨o, o1, o2, o3, o4⟩ := hMh.ct4 hT (c := v / 4) (by omega) q1
      obtain ⟨o', o1', o2', o3', o4'⟩ := hMh'.ct4 hT' (c := v % 4) (by omega) q2
      have ed : fDiv v 4 = v / 4 := by unfold fDiv; rw [Int.tdiv_eq_ediv_of_nonneg (by omega), wr_id ⟨by omega, by omega⟩]
      have er : fRem v 4 = v % 4 := by unfold fRem; rw [Int.tmod_eq_emod_of_nonneg (by omega)]
      have R81 : Ev (d - 1) 104 [vR (some 14), vR (some N), vR (some o), vR (some N'), vR (some o')] al h hr (kon d 102 81 84 [vR (some 14), vR (some N), vI c, vR (some N'), vI e, vI i, vI (v / 4), vI (v % 4)] [] Q) := by
        refine f_isPairAlike hA hc (by omega) hMh hMh' hT hT' (by omega) q1 (by omega) q2 o4 o4' (by omega) (by omega) hP (fun h2 p2 r1 r2 => ?_) (fun h2 r1 p2 => ?_)
        · simp only [kon, knt_some, knt_none, Option.toList_some, Option.toList_none, List.cons_append, List.nil_append]
          have NX : Wp d 102 25 [vR (some 14), vR (some N), vI c, vR (some N'), vI e, vI (i + 1), vI (v / 4), vI (v % 4)] [] al h2 hr Q := by
            refine ih (i + 1) h2 _ _ (by omega) (by omega) (w.tr p2.1) p2.2.1 (p2.mem hm) (fun v' z => ?_) (fun i' z1 z2 z3 => ?_)
            · rcases r2 v' z with z | z
              · exact hv v' z
              · obtain ⟨x, y, rfl, u2, u3, u4⟩ := z
                rw [show (4 * x + y) / 4 = x by omega, show (4 * x + y) % 4 = y by omega]
                exact ⟨⟨u2.2, u3.2⟩, fun R hR hce => u4 R (hR _ _ (q3 R hR hce)).2.2⟩
            · have y : i' < h 14 11 := by omega
              rw [p2.2.2.2 i' z1 y]
              by_cases y2 : i' = i
              · subst y2; rw [hv9]; exact r1
              · exact (hall i' z1 (by omega) y).mn p2.Rm
          refine s102_84.mpr (wif (fun c84 => ?_) (fun c84 => ?_))
          · skip
            exact absurd ‹(1 : Int) = 0› (by decide)
          · skip
            refine s102_89.mpr (s102_92.mpr ?_)
            try simp (disch := first | decide | assumption | omega) only [fAdd_id]
            exact NX
        · simp only [kon, knt_some, knt_none, Option.toList_some, Option.toList_none, List.cons_append, List.nil_append]
          have E := no h2 (w.tr p2.1) (by
            rintro ⟨R, hR, hce⟩
            exact r1 R (hR _ _ (q3 R hR hce)).2.2)
          refine s102_84.mpr (wif (fun c84 => ?_) (fun c84 => ?_))
          · skip
            refine s102_87.mpr ?_
            refine (s102_88 (by first | assumption | omega)).mpr ?_
            exact E
          · skip
            exact absurd rfl ‹¬ (0 : Int) = 0›
      refine s102_25.mpr (s102_27.mpr ?_)
      refine (s102_28 (by first | decide | assumption | omega)).mpr ?_
      try simp (disch := first | decide | assumption | omega) only [kon, knt_some, knt_none, Option.toList_some, Option.toList_none, List.cons_append, List.nil_append, e10, hv9, ed, er]
      refine s102_31.mpr (wif (fun c31 => ?_) (fun c31 => ?_))
      · first
        | (exfalso; omega)
        | skip
          refine s102_34.mpr (s102_36.mpr ?_)
          refine (s102_37 (by first | decide | assumption | omega)).mpr ?_
          try simp (disch := first | decide | assumption | omega) only [kon, knt_some, knt_none, Option.toList_some, Option.toList_none, List.cons_append, List.nil_append, e10, hv9, ed, er]
          refine (s102_40 (by first | decide | assumption | omega)).mpr ?_
          try simp (disch := first | decide | assumption | omega) only [kon, knt_some, knt_none, Option.toList_some, Option.toList_none, List.cons_append, List.nil_append, e10, hv9, ed, er]
          refine s102_41.mpr (wif (fun c41 => ?_) (fun c41 => ?_))
          · first
            | (exfalso; omega)
            | skip
              refine s102_44.mpr ?_
              refine (s102_45 (by first | decide | assumption | omega)).mpr ?_
              refine s102_48.mpr ?_
              try simp (disch := first | decide | assumption | omega) only [kon, knt_some, knt_none, Option.toList_some, Option.toList_none, List.cons_append, List.nil_append, e10, hv9, ed, er]
              refine (s102_50 (by first | decide | assumption | omega) (by first | decide | assumption | omega) (by first | decide | assumption | omega)).mpr ?_
              refine s102_51.mpr ?_
              try simp (disch := first | decide | assumption | omega) only [kon, knt_some, knt_none, Option.toList_some, Option.toList_none, List.cons_append, List.nil_append, e10, hv9, ed, er]
              refine (s102_52 (by first | assumption | omega)).mpr ?_
              refine s102_53.mpr (s102_55.mpr ?_)
              try simp (disch := first | decide | assumption | omega) only [kon, knt_some, knt_none, Option.toList_some, Option.toList_none, List.cons_append, List.nil_append, e10, hv9, ed, er]
              refine (s102_56 (by first | decide | assumption | omega)).mpr ?_
              refine s102_59.mpr ?_
              try simp (disch := first | decide | assumption | omega) only [kon, knt_some, knt_none, Option.toList_some, Option.toList_none, List.cons_append, List.nil_append, e10, hv9, ed, er]
              refine (s102_61 (by first | decide | assumption | omega) (by first | decide | assumption | omega) (by first | decide | assumption | omega)).mpr ?_
              refine s102_62.mpr ?_
              try simp (disch := first | decide | assumption | omega) only [kon, knt_some, knt_none, Option.toList_some, Option.toList_none, List.cons_append, List.nil_append, e10, hv9, ed, er]
              refine (s102_63 (by first | assumption | omega)).mpr ?_
              refine s102_64.mpr (s102_66.mpr (s102_67.mpr (s102_68.mpr (s102_69.mpr ?_))))
              try simp (disch := first | decide | assumption | omega) only [kon, knt_some, knt_none, Option.toList_some, Option.toList_none, List.cons_append, List.nil_append, e10, hv9, ed, er]
              refine (s102_71 (by first | decide | assumption | omega) (by first | decide | assumption | omega)).mpr ?_
              refine t_contractAt (by first | exact hMh.1.1 | exact hMh'.1.1) ?_
              simp only [kon, knt_some, knt_none, Option.toList_some, Option.toList_none, List.cons_append, List.nil_append, o1, o1']
              refine s102_74.mpr (s102_75.mpr (s102_76.mpr ?_))
              refine (s102_78 (by first | decide | assumption | omega) (by first | decide | assumption | omega)).mpr ?_
              refine t_contractAt (by first | exact hMh.1.1 | exact hMh'.1.1) ?_
              simp only [kon, knt_some, knt_none, Option.toList_some, Option.toList_none, List.cons_append, List.nil_append, o1, o1']
              refine (s102_81 (by first | decide | assumption | omega) (by first | decide | assumption | omega)).mpr ?_
              exact R81
          · first
            | (exfalso; omega)
            | skip
              exfalso; omega
      · first
        | (exfalso; omega)
        | skip
          exfalso; omega
  rw [e102]
  have P0 : PL (upI hi 14 11 0) := ⟨⟨by rw [upI_eq]; decide, by rw [upI_eq]; decide⟩, fun i z1 z2 => by rw [upI_eq] at z2; omega⟩
  have m0 : ∀ v, ¬ pmem (upI hi 14 11 0) v := fun v ⟨i, z1, z2, _⟩ => by rw [upI_eq] at z2; omega
  have w0 : FW wPa hi (upI hi 14 11 0) := FW.rf.up (Or.inr ⟨rfl, rfl⟩)
  refine s102_0.mpr ?_
  refine s102_1.mpr (wif (fun c1 => ?_) (fun c1 => ?_))
  · skip
    first | (cases ‹some N = none›) | (cases ‹some N' = none›)
  · skip
    refine s102_4.mpr ?_
    refine s102_5.mpr (wif (fun c5 => ?_) (fun c5 => ?_))
    · skip
      first | (cases ‹some N = none›) | (cases ‹some N' = none›)
    · skip
      refine s102_10.mpr (s102_11.mpr ?_)
      refine (s102_12 (by first | decide | assumption | omega)).mpr ?_
      refine s102_15.mpr (s102_16.mpr (s102_17.mpr ?_))
      try simp (disch := first | decide | assumption | omega) only [kon, knt_some, knt_none, Option.toList_some, Option.toList_none, List.cons_append, List.nil_append]
      refine (s102_19 (by first | decide | assumption | omega) (by first | decide | assumption | omega)).mpr ?_
      refine f_addPair hA hc P0 ⟨c0, by omega⟩ ⟨e0, by omega⟩ (fun h1 g1 hm1 => ?_)
      refine s102_22.mpr (s102_23.mpr ?_)
      refine T25 16 0 h1 _ _ (by omega) (Int.le_refl _) (w0.tr g1.1) g1.2.1 ((hm1 _).mpr (Or.inr rfl)) (fun v hv => ?_) (fun i' z1 z2 => absurd z2 (by omega))
      rcases (hm1 v).mp hv with z | rfl
      · exact absurd z (m0 v)
      · rw [show (4 * c + e) / 4 = c by omega, show (4 * c + e) % 4 = e by omega]
        exact ⟨⟨by assumption, by assumption⟩, fun R _ h => h⟩
end CA1
