/-! RUNNING, the reference: run, a look that is no step -/
section RR0
variable {d : Nat} {al : AL} {hi : HI} {hr : HR} {Q : QQ} {p m f c x : Int} {B : Int → Int}
theorem r_wait {N k j o : Int} (hA : SA al) (hR : MR hr) (hd : 10 ≤ d) (p0 : 0 ≤ p ∧ p < 12) (h53 : 0 ≤ hi 49 53 ∧ hi 49 53 < 12) (j0 : 0 ≤ j ∧ j < 12)
    (hop : hi 89 p < 4 → ∀ Q' : QQ, Q' (some (some (vI o))) al hi hr → Ev (d - 1) 303 [vR (some 49), vI p] al hi hr Q')
    (q : Wp d 299 29 [vR (some 49), vI N, vI k, vI (j + 1), vI p] [] al (nxS (if hi 89 p < 4 then upI hi 89 p (if o = 38 then 2 else 3) else hi)) hr Q) : Wp d 299 155 [vR (some 49), vI N, vI k, vI j, vI p] [] al hi hr Q := by
  have kM : isK al 49 13 := hA.k (by decide) (by decide) rfl
  have l89 := SA.len (a := 89) (n := 12) hA (by decide) (by decide) rfl
  have l93 := SA.len (a := 93) (n := 12) hA (by decide) (by decide) rfl
  have k89 : isK al 89 15 := hA.k (by decide) (by decide) rfl
  have l89 : aln al 89 = 12 := hA.len (by decide) (by decide) rfl
  by_cases cz : hi 89 p < 4
  · rw [if_pos cz] at q
    have h53' : ∀ y, 0 ≤ upI hi 89 p y 49 53 ∧ upI hi 89 p y 49 53 < 12 := fun y => by rw [upI_a (by decide)]; exact h53
    by_cases co : o = 38
    · rw [if_pos co] at q
      refine s299_155.mpr ((s299_156 kM).mpr ?_)
      rw [mr_59 hR]
      refine s299_159.mpr ?_
      refine (s299_161 (hA.k (by decide) (by decide) rfl) (by first | assumption | omega) (by first | assumption | omega)).mpr ?_
      refine s299_162.mpr ?_
      try simp (disch := first | decide | assumption | omega) only [kon, knt_some, knt_none, Option.toList_some, Option.toList_none, List.cons_append, List.nil_append, fAdd_id]
      refine s299_163.mpr (wif (fun c163 => ?_) (fun c163 => ?_))
      · first
        | (exfalso; omega)
        | skip
          refine s299_166.mpr ((s299_167 kM).mpr ?_)
          rw [mr_59 hR]
          refine s299_170.mpr (s299_172.mpr (s299_173.mpr ?_))
          refine (s299_175 (by omega) kM).mpr ?_
          refine hop cz _ ?_
          refine s299_178.mpr ?_
          refine s299_180.mpr (wif (fun c180 => ?_) (fun c180 => ?_))
          · first
            | (exfalso; omega)
            | skip
              refine s299_183.mpr (s299_184.mpr ?_)
              refine (s299_188 (hA.k (by decide) (by decide) rfl) (by first | assumption | omega) (by first | assumption | omega)).mpr ?_
              refine s299_189.mpr (s299_192.mpr ?_)
              try simp (disch := first | decide | assumption | omega) only [kon, knt_some, knt_none, Option.toList_some, Option.toList_none, List.cons_append, List.nil_append, fAdd_id]
              refine (s299_193 (by omega) kM).mpr ?_
              refine r_nextTurn hA hR (h53' _) ?_
              refine s299_196.mpr ?_
              exact q
          · first
            | (exfalso; omega)
            | skip
              exact absurd co (by assumption)
      · first
        | (exfalso; omega)
        | skip
          refine s299_189.mpr (s299_192.mpr ?_)
          try simp (disch := first | decide | assumption | omega) only [kon, knt_some, knt_none, Option.toList_some, Option.toList_none, List.cons_append, List.nil_append, fAdd_id]
          refine (s299_193 (by omega) kM).mpr ?_
          refine r_nextTurn hA hR (h53' _) ?_
          refine s299_196.mpr ?_
          exact q
    · rw [if_neg co] at q
      refine s299_155.mpr ((s299_156 kM).mpr ?_)
      rw [mr_59 hR]
      refine s299_159.mpr ?_
      refine (s299_161 (hA.k (by decide) (by decide) rfl) (by first | assumption | omega) (by first | assumption | omega)).mpr ?_
      refine s299_162.mpr ?_
      try simp (disch := first | decide | assumption | omega) only [kon, knt_some, knt_none, Option.toList_some, Option.toList_none, List.cons_append, List.nil_append, fAdd_id]
      refine s299_163.mpr (wif (fun c163 => ?_) (fun c163 => ?_))
      · first
        | (exfalso; omega)
        | skip
          refine s299_166.mpr ((s299_167 kM).mpr ?_)
          rw [mr_59 hR]
          refine s299_170.mpr (s299_172.mpr (s299_173.mpr ?_))
          refine (s299_175 (by omega) kM).mpr ?_
          refine hop cz _ ?_
          refine s299_178.mpr ?_
          refine s299_180.mpr (wif (fun c180 => ?_) (fun c180 => ?_))
          · first
            | (exfalso; omega)
            | skip
              exact absurd (by assumption) co
          · first
            | (exfalso; omega)
            | skip
              refine s299_187.mpr ?_
              refine (s299_188 (hA.k (by decide) (by decide) rfl) (by first | assumption | omega) (by first | assumption | omega)).mpr ?_
              refine s299_189.mpr (s299_192.mpr ?_)
              try simp (disch := first | decide | assumption | omega) only [kon, knt_some, knt_none, Option.toList_some, Option.toList_none, List.cons_append, List.nil_append, fAdd_id]
              refine (s299_193 (by omega) kM).mpr ?_
              refine r_nextTurn hA hR (h53' _) ?_
              refine s299_196.mpr ?_
              exact q
      · first
        | (exfalso; omega)
        | skip
          refine s299_189.mpr (s299_192.mpr ?_)
          try simp (disch := first | decide | assumption | omega) only [kon, knt_some, knt_none, Option.toList_some, Option.toList_none, List.cons_append, List.nil_append, fAdd_id]
          refine (s299_193 (by omega) kM).mpr ?_
          refine r_nextTurn hA hR (h53' _) ?_
          refine s299_196.mpr ?_
          exact q
  · rw [if_neg cz] at q
    refine s299_155.mpr ((s299_156 kM).mpr ?_)
    rw [mr_59 hR]
    refine s299_159.mpr ?_
    refine (s299_161 (hA.k (by decide) (by decide) rfl) (by first | assumption | omega) (by first | assumption | omega)).mpr ?_
    refine s299_162.mpr ?_
    try simp (disch := first | decide | assumption | omega) only [kon, knt_some, knt_none, Option.toList_some, Option.toList_none, List.cons_append, List.nil_append, fAdd_id]
    refine s299_163.mpr (wif (fun c163 => ?_) (fun c163 => ?_))
    · first
      | (exfalso; omega)
      | skip
        exfalso; omega
    · first
      | (exfalso; omega)
      | skip
        refine s299_189.mpr (s299_192.mpr ?_)
        try simp (disch := first | decide | assumption | omega) only [kon, knt_some, knt_none, Option.toList_some, Option.toList_none, List.cons_append, List.nil_append, fAdd_id]
        refine (s299_193 (by omega) kM).mpr ?_
        refine r_nextTurn hA hR h53 ?_
        refine s299_196.mpr ?_
        exact q
end RR0
