/-! RUNNING, the reference: run, a step -/
section RS9
variable {d : Nat} {al : AL} {hi : HI} {hr : HR} {Q : QQ} {p : Int}
/-- what a run writes in the reference's memory -/
def wRu (a : Nat) (i : Int) : Prop := (87 ≤ a ∧ a ≤ 118) ∨ (a = 49 ∧ ((51 ≤ i ∧ i ≤ 56) ∨ i = 89))
theorem FW.nx {hi h : HI} (w : FW wRu hi h) : FW wRu hi (nxS h) := by
  unfold nxS
  exact (w.up (by unfold wRu; omega)).up (by unfold wRu; omega)
theorem r_stp {N k j o : Int} {s1 : HI} (hA : SA al) (hR : MR hr) (hd : 62 ≤ d) (p0 : 0 ≤ p ∧ p < 12) (k0 : 0 ≤ k ∧ k < 100000) (h93 : 0 ≤ hi 93 p ∧ hi 93 p < 2147483647) (h52 : 0 ≤ hi 49 52 ∧ hi 49 52 < 2147483647) (h54 : 0 ≤ hi 49 54 ∧ hi 49 54 < 100)
    (hs : (0 ≤ s1 49 53 ∧ s1 49 53 < 12))
    (hact : ∀ (Q' : QQ), (∀ hi', RelR hi' s1 → FW wRn (yS o (upI (upI (upI (upI (upI hi 89 p 1) 49 89 0) 93 p (hi 93 p + 1)) 49 52 (hi 49 52 + 1)) 49 54 (hi 49 54 + 1))) hi' → Q' (some none) al hi' hr) → Ev (d - 1) 309 [vR (some 49), vI p] al (upI (upI (upI (upI (upI hi 89 p 1) 49 89 0) 93 p (hi 93 p + 1)) 49 52 (hi 49 52 + 1)) 49 54 (hi 49 54 + 1)) hr Q')
    (q : ∀ hi', RelR hi' (if s1 49 54 = 8 ∨ o = 41 ∨ 4 ≤ s1 89 p then nxS s1 else s1) → FW wRu hi hi' → Wp d 299 29 [vR (some 49), vI N, vI (k + 1), vI 0, vI p] [] al hi' hr Q) : Wp d 299 66 [vR (some 49), vI N, vI k, vI j, vI p] [] al hi hr Q := by
  have kM : isK al 49 13 := hA.k (by decide) (by decide) rfl
  have l89 := SA.len (a := 89) (n := 12) hA (by decide) (by decide) rfl
  have l93 := SA.len (a := 93) (n := 12) hA (by decide) (by decide) rfl
  have k93 : isK al 93 15 := hA.k (by decide) (by decide) rfl
  have l93 : aln al 93 = 12 := hA.len (by decide) (by decide) rfl
  have k89 : isK al 89 15 := hA.k (by decide) (by decide) rfl
  have l89 : aln al 89 = 12 := hA.len (by decide) (by decide) rfl
  have e93 : upI (upI hi 89 p 1) 49 89 0 93 p = hi 93 p := by rw [upI_a (by decide), upI_a (by decide)]
  have e52 : ∀ y, upI (upI (upI hi 89 p 1) 49 89 0) 93 p y 49 52 = hi 49 52 := fun y => by rw [upI_a (by decide), upI_i (by decide), upI_a (by decide)]
  have e54 : ∀ y z, upI (upI (upI (upI hi 89 p 1) 49 89 0) 93 p y) 49 52 z 49 54 = hi 49 54 := fun y z => by rw [upI_i (by decide), upI_a (by decide), upI_i (by decide), upI_a (by decide)]
  have R : ∀ hi', RelR hi' s1 → FW wRn (yS o (upI (upI (upI (upI (upI hi 89 p 1) 49 89 0) 93 p (hi 93 p + 1)) 49 52 (hi 49 52 + 1)) 49 54 (hi 49 54 + 1))) hi' → Wp d 299 121 [vR (some 49), vI N, vI (k + 1), vI 0, vI p] [] al hi' hr Q := by
    intro h hE w
    have H := Sm.rf hE.1
    have x54 : h 49 54 = s1 49 54 := H.e49 (by omega)
    have x89 : h 89 p = s1 89 p := H.e (by omega)
    have x53 : h 49 53 = s1 49 53 := H.e49 (by omega)
    have xy : h 49 89 = if o = 41 then 1 else 0 := by
      rw [w 49 89 (by unfold wRn; omega)]
      unfold yS
      split
      · rw [upI_eq]
      · rw [upI_i (by decide), upI_i (by decide), upI_a (by decide), upI_eq]
    have wv : FW wRu hi h := fun a i z => by
      rw [w a i (by unfold wRu at z; unfold wRn; omega)]
      have n1 : ¬ (a = 89 ∧ i = p) := fun y => z (by unfold wRu; omega)
      have n2 : ¬ (a = 49 ∧ i = 89) := fun y => z (by unfold wRu; omega)
      have n3 : ¬ (a = 93 ∧ i = p) := fun y => z (by unfold wRu; omega)
      have n4 : ¬ (a = 49 ∧ i = 52) := fun y => z (by unfold wRu; omega)
      have n5 : ¬ (a = 49 ∧ i = 54) := fun y => z (by unfold wRu; omega)
      unfold yS
      split
      · unfold upI; rw [if_neg n2, if_neg n5, if_neg n4, if_neg n3, if_neg n2, if_neg n1]
      · unfold upI; rw [if_neg n5, if_neg n4, if_neg n3, if_neg n2, if_neg n1]
    have NX : RelR (nxS h) (nxS s1) := by
      unfold nxS
      rw [x53]
      exact hE.sm ((H.up (by unfold hpC; omega) rfl).up (by unfold hpC; omega) rfl)
    by_cases cc : s1 49 54 = 8 ∨ o = 41 ∨ 4 ≤ s1 89 p
    · have E := q (nxS h) (by rw [if_pos cc]; exact NX) wv.nx
      by_cases c1 : s1 49 54 = 8
      · rw [c1] at x54
        refine s299_121.mpr ?_
        refine (s299_122 kM).mpr ?_
        refine s299_125.mpr ?_
        try simp (disch := first | decide | assumption | omega) only [kon, knt_some, knt_none, Option.toList_some, Option.toList_none, List.cons_append, List.nil_append, x54]
        refine s299_127.mpr (wif (fun c127 => ?_) (fun c127 => ?_))
        · skip
          refine s299_148.mpr ?_
          refine (s299_149 (by omega) kM).mpr ?_
          refine r_nextTurn hA hR (by rw [x53]; exact hs) ?_
          refine s299_152.mpr ?_
          exact E
        · skip
          exact absurd rfl (by assumption)
      · by_cases c2 : o = 41
        · rw [if_pos c2] at xy
          refine s299_121.mpr ?_
          refine (s299_122 kM).mpr ?_
          refine s299_125.mpr ?_
          try simp (disch := first | decide | assumption | omega) only [kon, knt_some, knt_none, Option.toList_some, Option.toList_none, List.cons_append, List.nil_append, x54, xy]
          refine s299_127.mpr (wif (fun c127 => ?_) (fun c127 => ?_))
          · skip
            refine s299_148.mpr ?_
            refine (s299_149 (by omega) kM).mpr ?_
            refine r_nextTurn hA hR (by rw [x53]; exact hs) ?_
            refine s299_152.mpr ?_
            exact E
          · skip
            refine s299_130.mpr ?_
            refine (s299_131 kM).mpr ?_
            try simp (disch := first | decide | assumption | omega) only [kon, knt_some, knt_none, Option.toList_some, Option.toList_none, List.cons_append, List.nil_append, x54, xy]
            refine s299_134.mpr (wif (fun c134 => ?_) (fun c134 => ?_))
            · skip
              exact absurd ‹(1 : Int) = 0› (by decide)
            · skip
              refine s299_148.mpr ?_
              refine (s299_149 (by omega) kM).mpr ?_
              refine r_nextTurn hA hR (by rw [x53]; exact hs) ?_
              refine s299_152.mpr ?_
              exact E
        · rw [if_neg c2] at xy
          have c3 : 4 ≤ s1 89 p := by omega
          refine s299_121.mpr ?_
          refine (s299_122 kM).mpr ?_
          refine s299_125.mpr ?_
          try simp (disch := first | decide | assumption | omega) only [kon, knt_some, knt_none, Option.toList_some, Option.toList_none, List.cons_append, List.nil_append, x54, xy, x89]
          refine s299_127.mpr (wif (fun c127 => ?_) (fun c127 => ?_))
          · first
            | (exfalso; omega)
            | skip
              refine s299_148.mpr ?_
              refine (s299_149 (by omega) kM).mpr ?_
              refine r_nextTurn hA hR (by rw [x53]; exact hs) ?_
              refine s299_152.mpr ?_
              first | exact E | (exfalso; omega)
          · first
            | (exfalso; omega)
            | skip
              refine s299_130.mpr ?_
              refine (s299_131 kM).mpr ?_
              try simp (disch := first | decide | assumption | omega) only [kon, knt_some, knt_none, Option.toList_some, Option.toList_none, List.cons_append, List.nil_append, x54, xy, x89]
              refine s299_134.mpr (wif (fun c134 => ?_) (fun c134 => ?_))
              · first
                | (exfalso; omega)
                | skip
                  refine s299_137.mpr ((s299_138 kM).mpr ?_)
                  rw [mr_59 hR]
                  refine s299_141.mpr ?_
                  refine (s299_143 (hA.k (by decide) (by decide) rfl) (by first | assumption | omega) (by first | assumption | omega)).mpr ?_
                  refine s299_144.mpr ?_
                  try simp (disch := first | decide | assumption | omega) only [kon, knt_some, knt_none, Option.toList_some, Option.toList_none, List.cons_append, List.nil_append, x54, xy, x89]
                  refine s299_145.mpr (wif (fun c145 => ?_) (fun c145 => ?_))
                  · first
                    | (exfalso; omega)
                    | skip
                      first | exact E | (exfalso; omega)
                  · first
                    | (exfalso; omega)
                    | skip
                      refine s299_148.mpr ?_
                      refine (s299_149 (by omega) kM).mpr ?_
                      refine r_nextTurn hA hR (by rw [x53]; exact hs) ?_
                      refine s299_152.mpr ?_
                      first | exact E | (exfalso; omega)
              · first
                | (exfalso; omega)
                | skip
                  refine s299_148.mpr ?_
                  refine (s299_149 (by omega) kM).mpr ?_
                  refine r_nextTurn hA hR (by rw [x53]; exact hs) ?_
                  refine s299_152.mpr ?_
                  first | exact E | (exfalso; omega)
    · have E := q h (by rw [if_neg cc]; exact hE) wv
      have c1 : ¬ s1 49 54 = 8 := fun z => cc (Or.inl z)
      have c2 : ¬ o = 41 := fun z => cc (Or.inr (Or.inl z))
      have c3 : ¬ 4 ≤ s1 89 p := fun z => cc (Or.inr (Or.inr z))
      rw [if_neg c2] at xy
      refine s299_121.mpr ?_
      refine (s299_122 kM).mpr ?_
      refine s299_125.mpr ?_
      try simp (disch := first | decide | assumption | omega) only [kon, knt_some, knt_none, Option.toList_some, Option.toList_none, List.cons_append, List.nil_append, x54, xy, x89]
      refine s299_127.mpr (wif (fun c127 => ?_) (fun c127 => ?_))
      · first
        | (exfalso; omega)
        | skip
          first | (exfalso; omega) | exact absurd (by assumption) c1 | exact absurd rfl (by assumption)
      · first
        | (exfalso; omega)
        | skip
          refine s299_130.mpr ?_
          refine (s299_131 kM).mpr ?_
          try simp (disch := first | decide | assumption | omega) only [kon, knt_some, knt_none, Option.toList_some, Option.toList_none, List.cons_append, List.nil_append, x54, xy, x89]
          refine s299_134.mpr (wif (fun c134 => ?_) (fun c134 => ?_))
          · first
            | (exfalso; omega)
            | skip
              refine s299_137.mpr ((s299_138 kM).mpr ?_)
              rw [mr_59 hR]
              refine s299_141.mpr ?_
              refine (s299_143 (hA.k (by decide) (by decide) rfl) (by first | assumption | omega) (by first | assumption | omega)).mpr ?_
              refine s299_144.mpr ?_
              try simp (disch := first | decide | assumption | omega) only [kon, knt_some, knt_none, Option.toList_some, Option.toList_none, List.cons_append, List.nil_append, x54, xy, x89]
              refine s299_145.mpr (wif (fun c145 => ?_) (fun c145 => ?_))
              · first
                | (exfalso; omega)
                | skip
                  exact E
              · first
                | (exfalso; omega)
                | skip
                  first | (exfalso; omega) | exact absurd (by assumption) c1 | exact absurd rfl (by assumption)
          · first
            | (exfalso; omega)
            | skip
              first | (exfalso; omega) | exact absurd (by assumption) c1 | exact absurd rfl (by assumption)
  refine s299_66.mpr (s299_67.mpr (s299_68.mpr ((s299_69 kM).mpr ?_)))
  rw [mr_59 hR]
  refine s299_72.mpr (s299_74.mpr ?_)
  refine (s299_75 (hA.k (by decide) (by decide) rfl) (by first | assumption | omega) (by first | assumption | omega)).mpr ?_
  refine s299_76.mpr (s299_77.mpr ?_)
  try simp (disch := first | decide | assumption | omega) only [kon, knt_some, knt_none, Option.toList_some, Option.toList_none, List.cons_append, List.nil_append, e93, e52, e54, fAdd_id]
  refine (s299_78 kM (by first | assumption | omega)).mpr ?_
  refine s299_81.mpr ((s299_82 kM).mpr ?_)
  rw [mr_63 hR]
  refine s299_85.mpr (s299_87.mpr ?_)
  refine (s299_88 (by first | decide | assumption | omega) (by first | decide | assumption | omega) (by first | decide | assumption | omega)).mpr ?_
  refine s299_89.mpr (s299_90.mpr ?_)
  try simp (disch := first | decide | assumption | omega) only [kon, knt_some, knt_none, Option.toList_some, Option.toList_none, List.cons_append, List.nil_append, e93, e52, e54, fAdd_id]
  refine (s299_91 (by first | decide | assumption | omega) (by first | decide | assumption | omega) (by first | decide | assumption | omega)).mpr ?_
  refine s299_92.mpr (s299_93.mpr ?_)
  try simp (disch := first | decide | assumption | omega) only [kon, knt_some, knt_none, Option.toList_some, Option.toList_none, List.cons_append, List.nil_append, e93, e52, e54, fAdd_id]
  refine (s299_94 kM).mpr ?_
  refine s299_97.mpr (s299_98.mpr ?_)
  try simp (disch := first | decide | assumption | omega) only [kon, knt_some, knt_none, Option.toList_some, Option.toList_none, List.cons_append, List.nil_append, e93, e52, e54, fAdd_id]
  refine (s299_99 kM).mpr ?_
  refine s299_102.mpr (s299_105.mpr (s299_106.mpr ?_))
  try simp (disch := first | decide | assumption | omega) only [kon, knt_some, knt_none, Option.toList_some, Option.toList_none, List.cons_append, List.nil_append, e93, e52, e54, fAdd_id]
  refine (s299_107 kM).mpr ?_
  refine s299_110.mpr (s299_111.mpr ?_)
  try simp (disch := first | decide | assumption | omega) only [kon, knt_some, knt_none, Option.toList_some, Option.toList_none, List.cons_append, List.nil_append, e93, e52, e54, fAdd_id]
  refine (s299_112 kM).mpr ?_
  refine s299_115.mpr (s299_116.mpr ?_)
  try simp (disch := first | decide | assumption | omega) only [kon, knt_some, knt_none, Option.toList_some, Option.toList_none, List.cons_append, List.nil_append, e93, e52, e54, fAdd_id]
  refine (s299_118 (by omega) kM).mpr ?_
  refine hact _ (fun hi' z1 z2 => ?_)
  exact R hi' z1 z2
end RS9
