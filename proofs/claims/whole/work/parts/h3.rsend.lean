/-! RUNNING, the reference: send and receive -/
section RJ0
variable {d : Nat} {al : AL} {hi : HI} {hr : HR} {Q : QQ}
/-- an end that is held is one -/
def EnO (s : HI) (e : Int) : Prop := (0 ≤ e ∧ e < 24) ∧ (0 ≤ s 112 e ∧ s 112 e < 8) ∧ 0 ≤ s 118 e ∧ s 118 e < 48
theorem fXor_1 {e : Int} (h : 0 ≤ e ∧ e < 24) : fXor e 1 = oth e := by
  have : e = 0 ∨ e = 1 ∨ e = 2 ∨ e = 3 ∨ e = 4 ∨ e = 5 ∨ e = 6 ∨ e = 7 ∨ e = 8 ∨ e = 9 ∨ e = 10 ∨ e = 11 ∨ e = 12 ∨ e = 13 ∨ e = 14 ∨ e = 15 ∨ e = 16 ∨ e = 17 ∨ e = 18 ∨ e = 19 ∨ e = 20 ∨ e = 21 ∨ e = 22 ∨ e = 23 := by omega
  rcases this with h | h | h | h | h | h | h | h | h | h | h | h | h | h | h | h | h | h | h | h | h | h | h | h <;> subst h <;> decide
theorem oth_b {e : Int} (h : 0 ≤ e ∧ e < 24) : (0 ≤ oth e ∧ oth e < 24) ∧ oth e ≠ e := by unfold oth; split <;> omega
theorem r_depth {p t : Int} (hA : SA al) (hR : MR hr) (hd : 3 ≤ d) (hp : AP hi p) (h0 : 1 ≤ hg hi p ∧ hg hi p ≤ 16) (hE : ts hi p 0 = 3 → EnO hi (tv hi p 0) ∧ (t < hi 61 (8 * hi 118 (tv hi p 0) + hi 112 (tv hi p 0)) → t < 4)) (t0 : 0 ≤ t) (q : Q (some (some (vI (depS hi p t)))) al hi hr) : Ev d 305 [vR (some 49), vI p, vI t] al hi hr Q := by
  have kM : isK al 49 13 := hA.k (by decide) (by decide) rfl
  have k97 : isK al 97 15 := hA.k (by decide) (by decide) rfl
  have l97 : aln al 97 = 192 := hA.len (by decide) (by decide) rfl
  have hb := hp.b
  have hs := sk_b (k := hg hi p - 1) hp (by omega)
  have l97 := SA.len (a := 97) (n := 192) hA (by decide) (by decide) rfl
  have l99 := SA.len (a := 99) (n := 4992) hA (by decide) (by decide) rfl
  have l98 := SA.len (a := 98) (n := 4992) hA (by decide) (by decide) rfl
  have l118 := SA.len (a := 118) (n := 24) hA (by decide) (by decide) rfl
  have l112 := SA.len (a := 112) (n := 24) hA (by decide) (by decide) rfl
  have l60 := SA.len (a := 60) (n := 416) hA (by decide) (by decide) rfl
  have l61 := SA.len (a := 61) (n := 416) hA (by decide) (by decide) rfl
  have l62 := SA.len (a := 62) (n := 1664) hA (by decide) (by decide) rfl
  have ehg : hi 97 (ai hi p) = hg hi p := rfl
  have e98 := @tv_e hi p
  have e99 := @ts_e hi p
  unfold depS at q
  obtain ⟨I, hI⟩ : ∃ I, sk hi p (hg hi p - 1) = I := ⟨_, rfl⟩
  obtain ⟨w, hw⟩ : ∃ w, ts hi p 0 = w := ⟨_, rfl⟩
  obtain ⟨e, he⟩ : ∃ e, tv hi p 0 = e := ⟨_, rfl⟩
  rw [hI] at e98 e99 hs
  rw [hw] at e99 q hE
  rw [he] at e98 q hE
  rw [e305]
  by_cases c : w = 3
  · subst c
    obtain ⟨⟨e0, ⟨s0, s1⟩, g0, g1⟩, ht⟩ := hE rfl
    rw [if_neg (by decide)] at q
    simp only [] at q
    have efr : fRem e 2 = e % 2 := by unfold fRem; rw [Int.tmod_eq_emod_of_nonneg (by omega)]
    obtain ⟨C, hC⟩ : ∃ C, hi 118 e = C := ⟨_, rfl⟩
    obtain ⟨S, hS⟩ : ∃ S, hi 112 e = S := ⟨_, rfl⟩
    rw [hC] at q ht g0 g1
    rw [hS] at q ht s0 s1
    obtain ⟨T, hT⟩ : ∃ T, hi 60 (8 * C + S) = T := ⟨_, rfl⟩
    obtain ⟨N, hN⟩ : ∃ N, hi 61 (8 * C + S) = N := ⟨_, rfl⟩
    obtain ⟨L, hL⟩ : ∃ L, hi 62 (4 * (8 * C + S) + t) = L := ⟨_, rfl⟩
    rw [hT, hN, hL] at q
    rw [hN] at ht
    by_cases c1 : T = 1 + e % 2
    · by_cases c2 : t < N
      · have t4 := ht c2
        by_cases c3 : L = -1
        · rw [if_pos ⟨c1, c2, c3⟩] at q
          subst c3
          refine s305_0.mpr (s305_1.mpr (s305_2.mpr ((s305_3 kM).mpr ?_)))
          rw [mr_67 hR]
          refine s305_6.mpr (s305_7.mpr ?_)
          refine (s305_8 (by omega) kM).mpr ?_
          refine r_act hA hR hp ?_
          refine (s305_11 (hA.k (by decide) (by decide) rfl) (by first | assumption | omega) (by first | assumption | omega)).mpr ?_
          refine s305_12.mpr (s305_13.mpr ?_)
          try simp (disch := first | decide | assumption | omega) only [kon, knt_some, knt_none, Option.toList_some, Option.toList_none, List.cons_append, List.nil_append, ehg, hI, e98, e99, hC, hS, hT, hN, hL, efr, fAdd_id, fMul_id, fSub_id]
          refine (s305_14 (by omega) kM).mpr ?_
          refine r_stack hA hR (by omega) hp (by omega) ?_
          refine s305_17.mpr (s305_18.mpr ((s305_19 kM).mpr ?_))
          rw [mr_69 hR]
          refine s305_22.mpr ?_
          refine (s305_23 (hA.k (by decide) (by decide) rfl) (by first | assumption | omega) (by first | assumption | omega)).mpr ?_
          refine s305_24.mpr ?_
          try simp (disch := first | decide | assumption | omega) only [kon, knt_some, knt_none, Option.toList_some, Option.toList_none, List.cons_append, List.nil_append, ehg, hI, e98, e99, hC, hS, hT, hN, hL, efr, fAdd_id, fMul_id, fSub_id]
          refine s305_25.mpr (wif (fun c25 => ?_) (fun c25 => ?_))
          · first
            | (exfalso; omega)
            | skip
              refine s305_30.mpr ((s305_31 kM).mpr ?_)
              rw [mr_68 hR]
              refine s305_34.mpr ?_
              refine (s305_35 (hA.k (by decide) (by decide) rfl) (by first | assumption | omega) (by first | assumption | omega)).mpr ?_
              refine s305_36.mpr (s305_38.mpr (s305_40.mpr ((s305_41 kM).mpr ?_)))
              rw [mr_88 hR]
              refine s305_44.mpr ?_
              try simp (disch := first | decide | assumption | omega) only [kon, knt_some, knt_none, Option.toList_some, Option.toList_none, List.cons_append, List.nil_append, ehg, hI, e98, e99, hC, hS, hT, hN, hL, efr, fAdd_id, fMul_id, fSub_id]
              refine (s305_46 (hA.k (by decide) (by decide) rfl) (by first | assumption | omega) (by first | assumption | omega)).mpr ?_
              refine s305_47.mpr (s305_48.mpr ((s305_49 kM).mpr ?_))
              rw [mr_82 hR]
              refine s305_52.mpr ?_
              try simp (disch := first | decide | assumption | omega) only [kon, knt_some, knt_none, Option.toList_some, Option.toList_none, List.cons_append, List.nil_append, ehg, hI, e98, e99, hC, hS, hT, hN, hL, efr, fAdd_id, fMul_id, fSub_id]
              refine (s305_54 (hA.k (by decide) (by decide) rfl) (by first | assumption | omega) (by first | assumption | omega)).mpr ?_
              refine s305_55.mpr (s305_56.mpr (s305_58.mpr ((s305_59 kM).mpr ?_)))
              rw [mr_12 hR]
              refine s305_62.mpr ?_
              try simp (disch := first | decide | assumption | omega) only [kon, knt_some, knt_none, Option.toList_some, Option.toList_none, List.cons_append, List.nil_append, ehg, hI, e98, e99, hC, hS, hT, hN, hL, efr, fAdd_id, fMul_id, fSub_id]
              refine (s305_64 (hA.k (by decide) (by decide) rfl) (by first | assumption | omega) (by first | assumption | omega)).mpr ?_
              refine s305_65.mpr (s305_66.mpr (s305_68.mpr ?_))
              try simp (disch := first | decide | assumption | omega) only [kon, knt_some, knt_none, Option.toList_some, Option.toList_none, List.cons_append, List.nil_append, ehg, hI, e98, e99, hC, hS, hT, hN, hL, efr, fAdd_id, fMul_id, fSub_id]
              refine (s305_69 (by first | assumption | omega)).mpr ?_
              refine s305_70.mpr ?_
              try simp (disch := first | decide | assumption | omega) only [kon, knt_some, knt_none, Option.toList_some, Option.toList_none, List.cons_append, List.nil_append, ehg, hI, e98, e99, hC, hS, hT, hN, hL, efr, fAdd_id, fMul_id, fSub_id]
              refine s305_71.mpr (wif (fun c71 => ?_) (fun c71 => ?_))
              · first
                | (exfalso; omega)
                | skip
                  refine s305_74.mpr (s305_75.mpr ((s305_76 kM).mpr ?_))
                  rw [mr_13 hR]
                  refine s305_79.mpr ?_
                  refine (s305_81 (hA.k (by decide) (by decide) rfl) (by first | assumption | omega) (by first | assumption | omega)).mpr ?_
                  try simp (disch := first | decide | assumption | omega) only [kon, knt_some, knt_none, Option.toList_some, Option.toList_none, List.cons_append, List.nil_append, ehg, hI, e98, e99, hC, hS, hT, hN, hL, efr, fAdd_id, fMul_id, fSub_id]
                  refine s305_82.mpr (wif (fun c82 => ?_) (fun c82 => ?_))
                  · first
                    | (exfalso; omega)
                    | skip
                      refine s305_85.mpr ((s305_86 kM).mpr ?_)
                      rw [mr_14 hR]
                      refine s305_89.mpr (s305_90.mpr (s305_92.mpr (s305_93.mpr (s305_94.mpr ?_))))
                      try simp (disch := first | decide | assumption | omega) only [kon, knt_some, knt_none, Option.toList_some, Option.toList_none, List.cons_append, List.nil_append, ehg, hI, e98, e99, hC, hS, hT, hN, hL, efr, fAdd_id, fMul_id, fSub_id]
                      refine (s305_95 (hA.k (by decide) (by decide) rfl) (by first | assumption | omega) (by first | assumption | omega)).mpr ?_
                      refine s305_96.mpr ?_
                      try simp (disch := first | decide | assumption | omega) only [kon, knt_some, knt_none, Option.toList_some, Option.toList_none, List.cons_append, List.nil_append, ehg, hI, e98, e99, hC, hS, hT, hN, hL, efr, fAdd_id, fMul_id, fSub_id]
                      refine s305_97.mpr (wif (fun c97 => ?_) (fun c97 => ?_))
                      · first
                        | (exfalso; omega)
                        | skip
                          refine s305_100.mpr (s305_101.mpr ?_)
                          refine (s305_105).mpr ?_
                          exact q
                      · first
                        | (exfalso; omega)
                        | skip
                          first | omega | exact absurd rfl (by assumption)
                  · first
                    | (exfalso; omega)
                    | skip
                      first | omega | exact absurd rfl (by assumption)
              · first
                | (exfalso; omega)
                | skip
                  first | omega | exact absurd rfl (by assumption)
          · first
            | (exfalso; omega)
            | skip
              exact absurd rfl (by assumption)
        · rw [if_neg (fun z => c3 z.2.2)] at q
          refine s305_0.mpr (s305_1.mpr (s305_2.mpr ((s305_3 kM).mpr ?_)))
          rw [mr_67 hR]
          refine s305_6.mpr (s305_7.mpr ?_)
          refine (s305_8 (by omega) kM).mpr ?_
          refine r_act hA hR hp ?_
          refine (s305_11 (hA.k (by decide) (by decide) rfl) (by first | assumption | omega) (by first | assumption | omega)).mpr ?_
          refine s305_12.mpr (s305_13.mpr ?_)
          try simp (disch := first | decide | assumption | omega) only [kon, knt_some, knt_none, Option.toList_some, Option.toList_none, List.cons_append, List.nil_append, ehg, hI, e98, e99, hC, hS, hT, hN, hL, efr, fAdd_id, fMul_id, fSub_id]
          refine (s305_14 (by omega) kM).mpr ?_
          refine r_stack hA hR (by omega) hp (by omega) ?_
          refine s305_17.mpr (s305_18.mpr ((s305_19 kM).mpr ?_))
          rw [mr_69 hR]
          refine s305_22.mpr ?_
          refine (s305_23 (hA.k (by decide) (by decide) rfl) (by first | assumption | omega) (by first | assumption | omega)).mpr ?_
          refine s305_24.mpr ?_
          try simp (disch := first | decide | assumption | omega) only [kon, knt_some, knt_none, Option.toList_some, Option.toList_none, List.cons_append, List.nil_append, ehg, hI, e98, e99, hC, hS, hT, hN, hL, efr, fAdd_id, fMul_id, fSub_id]
          refine s305_25.mpr (wif (fun c25 => ?_) (fun c25 => ?_))
          · first
            | (exfalso; omega)
            | skip
              refine s305_30.mpr ((s305_31 kM).mpr ?_)
              rw [mr_68 hR]
              refine s305_34.mpr ?_
              refine (s305_35 (hA.k (by decide) (by decide) rfl) (by first | assumption | omega) (by first | assumption | omega)).mpr ?_
              refine s305_36.mpr (s305_38.mpr (s305_40.mpr ((s305_41 kM).mpr ?_)))
              rw [mr_88 hR]
              refine s305_44.mpr ?_
              try simp (disch := first | decide | assumption | omega) only [kon, knt_some, knt_none, Option.toList_some, Option.toList_none, List.cons_append, List.nil_append, ehg, hI, e98, e99, hC, hS, hT, hN, hL, efr, fAdd_id, fMul_id, fSub_id]
              refine (s305_46 (hA.k (by decide) (by decide) rfl) (by first | assumption | omega) (by first | assumption | omega)).mpr ?_
              refine s305_47.mpr (s305_48.mpr ((s305_49 kM).mpr ?_))
              rw [mr_82 hR]
              refine s305_52.mpr ?_
              try simp (disch := first | decide | assumption | omega) only [kon, knt_some, knt_none, Option.toList_some, Option.toList_none, List.cons_append, List.nil_append, ehg, hI, e98, e99, hC, hS, hT, hN, hL, efr, fAdd_id, fMul_id, fSub_id]
              refine (s305_54 (hA.k (by decide) (by decide) rfl) (by first | assumption | omega) (by first | assumption | omega)).mpr ?_
              refine s305_55.mpr (s305_56.mpr (s305_58.mpr ((s305_59 kM).mpr ?_)))
              rw [mr_12 hR]
              refine s305_62.mpr ?_
              try simp (disch := first | decide | assumption | omega) only [kon, knt_some, knt_none, Option.toList_some, Option.toList_none, List.cons_append, List.nil_append, ehg, hI, e98, e99, hC, hS, hT, hN, hL, efr, fAdd_id, fMul_id, fSub_id]
              refine (s305_64 (hA.k (by decide) (by decide) rfl) (by first | assumption | omega) (by first | assumption | omega)).mpr ?_
              refine s305_65.mpr (s305_66.mpr (s305_68.mpr ?_))
              try simp (disch := first | decide | assumption | omega) only [kon, knt_some, knt_none, Option.toList_some, Option.toList_none, List.cons_append, List.nil_append, ehg, hI, e98, e99, hC, hS, hT, hN, hL, efr, fAdd_id, fMul_id, fSub_id]
              refine (s305_69 (by first | assumption | omega)).mpr ?_
              refine s305_70.mpr ?_
              try simp (disch := first | decide | assumption | omega) only [kon, knt_some, knt_none, Option.toList_some, Option.toList_none, List.cons_append, List.nil_append, ehg, hI, e98, e99, hC, hS, hT, hN, hL, efr, fAdd_id, fMul_id, fSub_id]
              refine s305_71.mpr (wif (fun c71 => ?_) (fun c71 => ?_))
              · first
                | (exfalso; omega)
                | skip
                  refine s305_74.mpr (s305_75.mpr ((s305_76 kM).mpr ?_))
                  rw [mr_13 hR]
                  refine s305_79.mpr ?_
                  refine (s305_81 (hA.k (by decide) (by decide) rfl) (by first | assumption | omega) (by first | assumption | omega)).mpr ?_
                  try simp (disch := first | decide | assumption | omega) only [kon, knt_some, knt_none, Option.toList_some, Option.toList_none, List.cons_append, List.nil_append, ehg, hI, e98, e99, hC, hS, hT, hN, hL, efr, fAdd_id, fMul_id, fSub_id]
                  refine s305_82.mpr (wif (fun c82 => ?_) (fun c82 => ?_))
                  · first
                    | (exfalso; omega)
                    | skip
                      refine s305_85.mpr ((s305_86 kM).mpr ?_)
                      rw [mr_14 hR]
                      refine s305_89.mpr (s305_90.mpr (s305_92.mpr (s305_93.mpr (s305_94.mpr ?_))))
                      try simp (disch := first | decide | assumption | omega) only [kon, knt_some, knt_none, Option.toList_some, Option.toList_none, List.cons_append, List.nil_append, ehg, hI, e98, e99, hC, hS, hT, hN, hL, efr, fAdd_id, fMul_id, fSub_id]
                      refine (s305_95 (hA.k (by decide) (by decide) rfl) (by first | assumption | omega) (by first | assumption | omega)).mpr ?_
                      refine s305_96.mpr ?_
                      try simp (disch := first | decide | assumption | omega) only [kon, knt_some, knt_none, Option.toList_some, Option.toList_none, List.cons_append, List.nil_append, ehg, hI, e98, e99, hC, hS, hT, hN, hL, efr, fAdd_id, fMul_id, fSub_id]
                      refine s305_97.mpr (wif (fun c97 => ?_) (fun c97 => ?_))
                      · first
                        | (exfalso; omega)
                        | skip
                          exact absurd ‹_› c3
                      · first
                        | (exfalso; omega)
                        | skip
                          refine s305_104.mpr ?_
                          refine (s305_105).mpr ?_
                          exact q
                  · first
                    | (exfalso; omega)
                    | skip
                      refine s305_104.mpr ?_
                      refine (s305_105).mpr ?_
                      exact q
              · first
                | (exfalso; omega)
                | skip
                  refine s305_104.mpr ?_
                  refine (s305_105).mpr ?_
                  exact q
          · first
            | (exfalso; omega)
            | skip
              exact absurd rfl (by assumption)
      · rw [if_neg (fun z => c2 z.2.1)] at q
        refine s305_0.mpr (s305_1.mpr (s305_2.mpr ((s305_3 kM).mpr ?_)))
        rw [mr_67 hR]
        refine s305_6.mpr (s305_7.mpr ?_)
        refine (s305_8 (by omega) kM).mpr ?_
        refine r_act hA hR hp ?_
        refine (s305_11 (hA.k (by decide) (by decide) rfl) (by first | assumption | omega) (by first | assumption | omega)).mpr ?_
        refine s305_12.mpr (s305_13.mpr ?_)
        try simp (disch := first | decide | assumption | omega) only [kon, knt_some, knt_none, Option.toList_some, Option.toList_none, List.cons_append, List.nil_append, ehg, hI, e98, e99, hC, hS, hT, hN, efr, fAdd_id, fMul_id, fSub_id]
        refine (s305_14 (by omega) kM).mpr ?_
        refine r_stack hA hR (by omega) hp (by omega) ?_
        refine s305_17.mpr (s305_18.mpr ((s305_19 kM).mpr ?_))
        rw [mr_69 hR]
        refine s305_22.mpr ?_
        refine (s305_23 (hA.k (by decide) (by decide) rfl) (by first | assumption | omega) (by first | assumption | omega)).mpr ?_
        refine s305_24.mpr ?_
        try simp (disch := first | decide | assumption | omega) only [kon, knt_some, knt_none, Option.toList_some, Option.toList_none, List.cons_append, List.nil_append, ehg, hI, e98, e99, hC, hS, hT, hN, efr, fAdd_id, fMul_id, fSub_id]
        refine s305_25.mpr (wif (fun c25 => ?_) (fun c25 => ?_))
        · first
          | (exfalso; omega)
          | skip
            refine s305_30.mpr ((s305_31 kM).mpr ?_)
            rw [mr_68 hR]
            refine s305_34.mpr ?_
            refine (s305_35 (hA.k (by decide) (by decide) rfl) (by first | assumption | omega) (by first | assumption | omega)).mpr ?_
            refine s305_36.mpr (s305_38.mpr (s305_40.mpr ((s305_41 kM).mpr ?_)))
            rw [mr_88 hR]
            refine s305_44.mpr ?_
            try simp (disch := first | decide | assumption | omega) only [kon, knt_some, knt_none, Option.toList_some, Option.toList_none, List.cons_append, List.nil_append, ehg, hI, e98, e99, hC, hS, hT, hN, efr, fAdd_id, fMul_id, fSub_id]
            refine (s305_46 (hA.k (by decide) (by decide) rfl) (by first | assumption | omega) (by first | assumption | omega)).mpr ?_
            refine s305_47.mpr (s305_48.mpr ((s305_49 kM).mpr ?_))
            rw [mr_82 hR]
            refine s305_52.mpr ?_
            try simp (disch := first | decide | assumption | omega) only [kon, knt_some, knt_none, Option.toList_some, Option.toList_none, List.cons_append, List.nil_append, ehg, hI, e98, e99, hC, hS, hT, hN, efr, fAdd_id, fMul_id, fSub_id]
            refine (s305_54 (hA.k (by decide) (by decide) rfl) (by first | assumption | omega) (by first | assumption | omega)).mpr ?_
            refine s305_55.mpr (s305_56.mpr (s305_58.mpr ((s305_59 kM).mpr ?_)))
            rw [mr_12 hR]
            refine s305_62.mpr ?_
            try simp (disch := first | decide | assumption | omega) only [kon, knt_some, knt_none, Option.toList_some, Option.toList_none, List.cons_append, List.nil_append, ehg, hI, e98, e99, hC, hS, hT, hN, efr, fAdd_id, fMul_id, fSub_id]
            refine (s305_64 (hA.k (by decide) (by decide) rfl) (by first | assumption | omega) (by first | assumption | omega)).mpr ?_
            refine s305_65.mpr (s305_66.mpr (s305_68.mpr ?_))
            try simp (disch := first | decide | assumption | omega) only [kon, knt_some, knt_none, Option.toList_some, Option.toList_none, List.cons_append, List.nil_append, ehg, hI, e98, e99, hC, hS, hT, hN, efr, fAdd_id, fMul_id, fSub_id]
            refine (s305_69 (by first | assumption | omega)).mpr ?_
            refine s305_70.mpr ?_
            try simp (disch := first | decide | assumption | omega) only [kon, knt_some, knt_none, Option.toList_some, Option.toList_none, List.cons_append, List.nil_append, ehg, hI, e98, e99, hC, hS, hT, hN, efr, fAdd_id, fMul_id, fSub_id]
            refine s305_71.mpr (wif (fun c71 => ?_) (fun c71 => ?_))
            · first
              | (exfalso; omega)
              | skip
                refine s305_74.mpr (s305_75.mpr ((s305_76 kM).mpr ?_))
                rw [mr_13 hR]
                refine s305_79.mpr ?_
                refine (s305_81 (hA.k (by decide) (by decide) rfl) (by first | assumption | omega) (by first | assumption | omega)).mpr ?_
                try simp (disch := first | decide | assumption | omega) only [kon, knt_some, knt_none, Option.toList_some, Option.toList_none, List.cons_append, List.nil_append, ehg, hI, e98, e99, hC, hS, hT, hN, efr, fAdd_id, fMul_id, fSub_id]
                refine s305_82.mpr (wif (fun c82 => ?_) (fun c82 => ?_))
                · first
                  | (exfalso; omega)
                  | skip
                    exfalso; omega
                · first
                  | (exfalso; omega)
                  | skip
                    refine s305_104.mpr ?_
                    refine (s305_105).mpr ?_
                    exact q
            · first
              | (exfalso; omega)
              | skip
                refine s305_104.mpr ?_
                refine (s305_105).mpr ?_
                exact q
        · first
          | (exfalso; omega)
          | skip
            exact absurd rfl (by assumption)
    · rw [if_neg (fun z => c1 z.1)] at q
      refine s305_0.mpr (s305_1.mpr (s305_2.mpr ((s305_3 kM).mpr ?_)))
      rw [mr_67 hR]
      refine s305_6.mpr (s305_7.mpr ?_)
      refine (s305_8 (by omega) kM).mpr ?_
      refine r_act hA hR hp ?_
      refine (s305_11 (hA.k (by decide) (by decide) rfl) (by first | assumption | omega) (by first | assumption | omega)).mpr ?_
      refine s305_12.mpr (s305_13.mpr ?_)
      try simp (disch := first | decide | assumption | omega) only [kon, knt_some, knt_none, Option.toList_some, Option.toList_none, List.cons_append, List.nil_append, ehg, hI, e98, e99, hC, hS, hT, efr, fAdd_id, fMul_id, fSub_id]
      refine (s305_14 (by omega) kM).mpr ?_
      refine r_stack hA hR (by omega) hp (by omega) ?_
      refine s305_17.mpr (s305_18.mpr ((s305_19 kM).mpr ?_))
      rw [mr_69 hR]
      refine s305_22.mpr ?_
      refine (s305_23 (hA.k (by decide) (by decide) rfl) (by first | assumption | omega) (by first | assumption | omega)).mpr ?_
      refine s305_24.mpr ?_
      try simp (disch := first | decide | assumption | omega) only [kon, knt_some, knt_none, Option.toList_some, Option.toList_none, List.cons_append, List.nil_append, ehg, hI, e98, e99, hC, hS, hT, efr, fAdd_id, fMul_id, fSub_id]
      refine s305_25.mpr (wif (fun c25 => ?_) (fun c25 => ?_))
      · first
        | (exfalso; omega)
        | skip
          refine s305_30.mpr ((s305_31 kM).mpr ?_)
          rw [mr_68 hR]
          refine s305_34.mpr ?_
          refine (s305_35 (hA.k (by decide) (by decide) rfl) (by first | assumption | omega) (by first | assumption | omega)).mpr ?_
          refine s305_36.mpr (s305_38.mpr (s305_40.mpr ((s305_41 kM).mpr ?_)))
          rw [mr_88 hR]
          refine s305_44.mpr ?_
          try simp (disch := first | decide | assumption | omega) only [kon, knt_some, knt_none, Option.toList_some, Option.toList_none, List.cons_append, List.nil_append, ehg, hI, e98, e99, hC, hS, hT, efr, fAdd_id, fMul_id, fSub_id]
          refine (s305_46 (hA.k (by decide) (by decide) rfl) (by first | assumption | omega) (by first | assumption | omega)).mpr ?_
          refine s305_47.mpr (s305_48.mpr ((s305_49 kM).mpr ?_))
          rw [mr_82 hR]
          refine s305_52.mpr ?_
          try simp (disch := first | decide | assumption | omega) only [kon, knt_some, knt_none, Option.toList_some, Option.toList_none, List.cons_append, List.nil_append, ehg, hI, e98, e99, hC, hS, hT, efr, fAdd_id, fMul_id, fSub_id]
          refine (s305_54 (hA.k (by decide) (by decide) rfl) (by first | assumption | omega) (by first | assumption | omega)).mpr ?_
          refine s305_55.mpr (s305_56.mpr (s305_58.mpr ((s305_59 kM).mpr ?_)))
          rw [mr_12 hR]
          refine s305_62.mpr ?_
          try simp (disch := first | decide | assumption | omega) only [kon, knt_some, knt_none, Option.toList_some, Option.toList_none, List.cons_append, List.nil_append, ehg, hI, e98, e99, hC, hS, hT, efr, fAdd_id, fMul_id, fSub_id]
          refine (s305_64 (hA.k (by decide) (by decide) rfl) (by first | assumption | omega) (by first | assumption | omega)).mpr ?_
          refine s305_65.mpr (s305_66.mpr (s305_68.mpr ?_))
          try simp (disch := first | decide | assumption | omega) only [kon, knt_some, knt_none, Option.toList_some, Option.toList_none, List.cons_append, List.nil_append, ehg, hI, e98, e99, hC, hS, hT, efr, fAdd_id, fMul_id, fSub_id]
          refine (s305_69 (by first | assumption | omega)).mpr ?_
          refine s305_70.mpr ?_
          try simp (disch := first | decide | assumption | omega) only [kon, knt_some, knt_none, Option.toList_some, Option.toList_none, List.cons_append, List.nil_append, ehg, hI, e98, e99, hC, hS, hT, efr, fAdd_id, fMul_id, fSub_id]
          refine s305_71.mpr (wif (fun c71 => ?_) (fun c71 => ?_))
          · first
            | (exfalso; omega)
            | skip
              exfalso; omega
          · first
            | (exfalso; omega)
            | skip
              refine s305_104.mpr ?_
              refine (s305_105).mpr ?_
              exact q
      · first
        | (exfalso; omega)
        | skip
          exact absurd rfl (by assumption)
  · rw [if_pos c] at q
    refine s305_0.mpr (s305_1.mpr (s305_2.mpr ((s305_3 kM).mpr ?_)))
    rw [mr_67 hR]
    refine s305_6.mpr (s305_7.mpr ?_)
    refine (s305_8 (by omega) kM).mpr ?_
    refine r_act hA hR hp ?_
    refine (s305_11 (hA.k (by decide) (by decide) rfl) (by first | assumption | omega) (by first | assumption | omega)).mpr ?_
    refine s305_12.mpr (s305_13.mpr ?_)
    try simp (disch := first | decide | assumption | omega) only [kon, knt_some, knt_none, Option.toList_some, Option.toList_none, List.cons_append, List.nil_append, ehg, hI, e98, e99, fAdd_id, fMul_id, fSub_id]
    refine (s305_14 (by omega) kM).mpr ?_
    refine r_stack hA hR (by omega) hp (by omega) ?_
    refine s305_17.mpr (s305_18.mpr ((s305_19 kM).mpr ?_))
    rw [mr_69 hR]
    refine s305_22.mpr ?_
    refine (s305_23 (hA.k (by decide) (by decide) rfl) (by first | assumption | omega) (by first | assumption | omega)).mpr ?_
    refine s305_24.mpr ?_
    try simp (disch := first | decide | assumption | omega) only [kon, knt_some, knt_none, Option.toList_some, Option.toList_none, List.cons_append, List.nil_append, ehg, hI, e98, e99, fAdd_id, fMul_id, fSub_id]
    refine s305_25.mpr (wif (fun c25 => ?_) (fun c25 => ?_))
    · first
      | (exfalso; omega)
      | skip
        exact absurd ‹_› c
    · first
      | (exfalso; omega)
      | skip
        refine s305_28.mpr ?_
        refine (s305_29).mpr ?_
        exact q
theorem r_send {p t : Int} (hA : SA al) (hR : MR hr) (hd : 54 ≤ d) (hp : AP hi p) (h0 : 1 ≤ hg hi p ∧ hg hi p ≤ 16) (t0 : 0 ≤ t ∧ t < 4) (hE : ts hi p 0 = 3 → EnO hi (tv hi p 0)) (h1 : depS hi p t = 1 → 2 ≤ hg hi p ∧ EnO hi (tv hi p 1) ∧ (ts hi p 0 = 2 → 0 ≤ tv hi p 0 ∧ tv hi p 0 < 128) ∧ (ts hi p 0 = 3 → 0 ≤ tv hi p 0 ∧ tv hi p 0 < 24))
    (hQB : QB hi) (hto : ∀ e, e = tv hi p (depS hi p t) → EnO hi e → 0 ≤ hi 63 (4 * (8 * hi 118 e + hi 112 e) + t)) (hw : ∀ e, e = tv hi p (depS hi p t) → EnO hi e → hi 112 (oth e) ≠ -1 → 0 ≤ hi 114 (oth e) ∧ hi 114 (oth e) < 4)
    (q : Q (some none) al (sndS hi p t) hr) : Ev d 319 [vR (some 49), vI p, vI t] al hi hr Q := by
  have kM : isK al 49 13 := hA.k (by decide) (by decide) rfl
  have k97 : isK al 97 15 := hA.k (by decide) (by decide) rfl
  have l97 : aln al 97 = 192 := hA.len (by decide) (by decide) rfl
  have hb := hp.b
  have l98 := SA.len (a := 98) (n := 4992) hA (by decide) (by decide) rfl
  have l99 := SA.len (a := 99) (n := 4992) hA (by decide) (by decide) rfl
  have l97 := SA.len (a := 97) (n := 192) hA (by decide) (by decide) rfl
  have l112 := SA.len (a := 112) (n := 24) hA (by decide) (by decide) rfl
  have l63 := SA.len (a := 63) (n := 1664) hA (by decide) (by decide) rfl
  have l118 := SA.len (a := 118) (n := 24) hA (by decide) (by decide) rfl
  have l114 := SA.len (a := 114) (n := 24) hA (by decide) (by decide) rfl
  have l115 := SA.len (a := 115) (n := 96) hA (by decide) (by decide) rfl
  have l116 := SA.len (a := 116) (n := 96) hA (by decide) (by decide) rfl
  have l117 := SA.len (a := 117) (n := 96) hA (by decide) (by decide) rfl
  have k114 : isK al 114 15 := hA.k (by decide) (by decide) rfl
  have l114 : aln al 114 = 24 := hA.len (by decide) (by decide) rfl
  unfold sndS at q
  simp only [] at q
  -- from the end on
  have REST : ∀ (h : HI) (v w e : Int) l5, e = tv hi p (depS hi p t) → AP h p → (1 ≤ hg h p ∧ hg h p ≤ 16) → tv h p 0 = e → EnO h e → (∀ a i, a ≠ 97 → h a i = hi a i) → (w = 2 → 0 ≤ v ∧ v < 128) → (w = 3 → 0 ≤ v ∧ v < 24) → Q (some none) al
      (if upI h 112 e (h 63 (4 * (8 * h 118 e + h 112 e) + t)) 112 (oth e) = -1 then losS (upI h 112 e (h 63 (4 * (8 * h 118 e + h 112 e) + t))) v w
      else ownS (upI (upI (upI (upI (upI h 112 e (h 63 (4 * (8 * h 118 e + h 112 e) + t))) 115 (4 * oth e + upI h 112 e (h 63 (4 * (8 * h 118 e + h 112 e) + t)) 114 (oth e)) t) 116 (4 * oth e + upI h 112 e (h 63 (4 * (8 * h 118 e + h 112 e) + t)) 114 (oth e)) v) 117 (4 * oth e + upI h 112 e (h 63 (4 * (8 * h 118 e + h 112 e) + t)) 114 (oth e)) w) 114 (oth e) (upI h 112 e (h 63 (4 * (8 * h 118 e + h 112 e) + t)) 114 (oth e) + 1)) v w (100 + oth e)) hr →
      Wp d 319 39 [vR (some 49), vI p, vI t, vI v, vI w, l5, none, none] [] al h hr Q := by
    intro h v w e l5 hed hp9 hg9 htv hE9 ho hv2 hv3 q9
    have hb9 := hp9.b
    have hs := sk_b (k := hg h p - 1) hp9 (by omega)
    have ehg : h 97 (ai h p) = hg h p := rfl
    have e98 := @tv_e h p
    obtain ⟨I, hI⟩ : ∃ I, sk h p (hg h p - 1) = I := ⟨_, rfl⟩
    rw [hI] at e98 hs
    rw [htv] at e98
    obtain ⟨e0, ⟨s0, s1⟩, g0, g1⟩ := id hE9
    obtain ⟨o0, o1⟩ := oth_b e0
    have ex := fXor_1 e0
    have hx0 : 0 ≤ h 63 (4 * (8 * h 118 e + h 112 e) + t) := by
      have : EnO hi e := by unfold EnO at hE9 ⊢; rw [ho 112 e (by decide), ho 118 e (by decide)] at hE9; exact hE9
      have := hto e hed this
      rw [ho 63 _ (by decide), ho 118 e (by decide), ho 112 e (by decide)]
      exact this
    have hw9 : h 112 (oth e) ≠ -1 → 0 ≤ h 114 (oth e) ∧ h 114 (oth e) < 4 := by
      have : EnO hi e := by unfold EnO at hE9 ⊢; rw [ho 112 e (by decide), ho 118 e (by decide)] at hE9; exact hE9
      rw [ho 112 _ (by decide), ho 114 _ (by decide)]
      exact hw e hed this
    have hQ9 : QB h := hQB.eq (fun i => ho 112 i (by decide)) (fun i => ho 114 i (by decide)) (fun i => ho 116 i (by decide)) (fun i => ho 117 i (by decide))
    obtain ⟨C, hC⟩ : ∃ C, h 118 e = C := ⟨_, rfl⟩
    obtain ⟨S, hS⟩ : ∃ S, h 112 e = S := ⟨_, rfl⟩
    rw [hC, hS] at q9 hx0
    rw [hC] at g0 g1
    rw [hS] at s0 s1
    obtain ⟨X, hX⟩ : ∃ X, h 63 (4 * (8 * C + S) + t) = X := ⟨_, rfl⟩
    rw [hX] at q9 hx0
    obtain ⟨g, hg1⟩ : ∃ g, upI h 112 e X = g := ⟨_, rfl⟩
    have go : g 112 (oth e) = h 112 (oth e) := by rw [← hg1, upI_i o1]
    have g114 : g 114 (oth e) = h 114 (oth e) := by rw [← hg1, upI_a (by decide)]
    rw [hg1] at q9
    rw [go] at q9
    obtain ⟨o, hoe⟩ : ∃ o, oth e = o := ⟨_, rfl⟩
    rw [hoe] at q9 ex o0 o1 go g114 hw9
    by_cases c : h 112 o = -1
    · rw [if_pos c] at q9
      have hQ2 : QB g := by
        intro x hx
        have hx' : opn h x := by
          obtain ⟨z1, z2, z3⟩ := hx
          refine ⟨z1, z2, ?_⟩
          by_cases z : x = e
          · rw [z, hS]; omega
          · rw [← hg1, upI_i z] at z3; exact z3
        have := hQ9 x hx'
        have q114 : ∀ i, g 114 i = h 114 i := fun i => by rw [← hg1, upI_a (by decide)]
        have q116 : ∀ i, g 116 i = h 116 i := fun i => by rw [← hg1, upI_a (by decide)]
        have q117 : ∀ i, g 117 i = h 117 i := fun i => by rw [← hg1, upI_a (by decide)]
        simp only [q114, q116, q117]
        exact this
      rw [c] at go
      refine s319_39.mpr ((s319_40 kM).mpr ?_)
      rw [mr_68 hR]
      refine s319_43.mpr (s319_44.mpr (s319_45.mpr ((s319_46 kM).mpr ?_)))
      rw [mr_67 hR]
      refine s319_49.mpr (s319_50.mpr ?_)
      refine (s319_51 (by omega) kM).mpr ?_
      refine r_act hA hR hp9 ?_
      refine (s319_54 (hA.k (by decide) (by decide) rfl) (by first | assumption | omega) (by first | assumption | omega)).mpr ?_
      refine s319_55.mpr (s319_56.mpr ?_)
      try simp (disch := first | decide | assumption | omega) only [kon, knt_some, knt_none, Option.toList_some, Option.toList_none, List.cons_append, List.nil_append, ehg, hI, e98, hC, hS, hX, ex, hg1, go, fAdd_id, fMul_id, fSub_id]
      refine (s319_57 (by omega) kM).mpr ?_
      refine r_stack hA hR (by omega) hp9 (by omega) ?_
      refine (s319_60 (hA.k (by decide) (by decide) rfl) (by first | assumption | omega) (by first | assumption | omega)).mpr ?_
      refine s319_61.mpr (s319_63.mpr ((s319_64 kM).mpr ?_))
      rw [mr_82 hR]
      refine s319_67.mpr (s319_69.mpr ((s319_70 kM).mpr ?_))
      rw [mr_15 hR]
      refine s319_73.mpr (s319_74.mpr (s319_76.mpr ((s319_77 kM).mpr ?_)))
      rw [mr_88 hR]
      refine s319_80.mpr ?_
      try simp (disch := first | decide | assumption | omega) only [kon, knt_some, knt_none, Option.toList_some, Option.toList_none, List.cons_append, List.nil_append, ehg, hI, e98, hC, hS, hX, ex, hg1, go, fAdd_id, fMul_id, fSub_id]
      refine (s319_82 (hA.k (by decide) (by decide) rfl) (by first | assumption | omega) (by first | assumption | omega)).mpr ?_
      refine s319_83.mpr (s319_84.mpr ((s319_85 kM).mpr ?_))
      rw [mr_82 hR]
      refine s319_88.mpr ?_
      try simp (disch := first | decide | assumption | omega) only [kon, knt_some, knt_none, Option.toList_some, Option.toList_none, List.cons_append, List.nil_append, ehg, hI, e98, hC, hS, hX, ex, hg1, go, fAdd_id, fMul_id, fSub_id]
      refine (s319_90 (hA.k (by decide) (by decide) rfl) (by first | assumption | omega) (by first | assumption | omega)).mpr ?_
      refine s319_91.mpr (s319_92.mpr (s319_93.mpr (s319_94.mpr ?_)))
      try simp (disch := first | decide | assumption | omega) only [kon, knt_some, knt_none, Option.toList_some, Option.toList_none, List.cons_append, List.nil_append, ehg, hI, e98, hC, hS, hX, ex, hg1, go, fAdd_id, fMul_id, fSub_id]
      refine (s319_95 (hA.k (by decide) (by decide) rfl) (by first | assumption | omega) (by first | assumption | omega)).mpr ?_
      try simp (disch := first | decide | assumption | omega) only [kon, knt_some, knt_none, Option.toList_some, Option.toList_none, List.cons_append, List.nil_append, ehg, hI, e98, hC, hS, hX, ex, hg1, go, fAdd_id, fMul_id, fSub_id]
      refine (s319_96 (hA.k (by decide) (by decide) rfl) (by first | assumption | omega) (by first | assumption | omega)).mpr ?_
      refine s319_97.mpr (s319_99.mpr (s319_100.mpr (s319_101.mpr (s319_103.mpr ((s319_104 kM).mpr ?_)))))
      rw [mr_82 hR]
      refine s319_107.mpr ?_
      try simp (disch := first | decide | assumption | omega) only [kon, knt_some, knt_none, Option.toList_some, Option.toList_none, List.cons_append, List.nil_append, ehg, hI, e98, hC, hS, hX, ex, hg1, go, fAdd_id, fMul_id, fSub_id]
      refine (s319_109 (hA.k (by decide) (by decide) rfl) (by first | assumption | omega) (by first | assumption | omega)).mpr ?_
      refine s319_110.mpr ?_
      try simp (disch := first | decide | assumption | omega) only [kon, knt_some, knt_none, Option.toList_some, Option.toList_none, List.cons_append, List.nil_append, ehg, hI, e98, hC, hS, hX, ex, hg1, go, fAdd_id, fMul_id, fSub_id]
      refine s319_111.mpr (wif (fun c111 => ?_) (fun c111 => ?_))
      · first
        | (exfalso; omega)
        | skip
          refine s319_114.mpr (s319_115.mpr (s319_116.mpr ?_))
          refine (s319_118 (by omega) kM).mpr ?_
          refine r_lose hA hR (by omega) hQ2 hv2 hv3 ?_
          refine (s319_121).mpr ?_
          exact q9
      · first
        | (exfalso; omega)
        | skip
          exact absurd rfl (by assumption)
    · rw [if_neg c] at q9
      have hw0 := hw9 c
      obtain ⟨W, hW⟩ : ∃ W, h 114 o = W := ⟨_, rfl⟩
      rw [hW] at hw0 g114
      rw [g114] at q9
      have hW2 : ∀ x y z, upI (upI (upI g 115 (4 * o + W) x) 116 (4 * o + W) y) 117 (4 * o + W) z 114 o = W := fun x y z => by rw [upI_a (by decide), upI_a (by decide), upI_a (by decide)]; exact g114
      refine s319_39.mpr ((s319_40 kM).mpr ?_)
      rw [mr_68 hR]
      refine s319_43.mpr (s319_44.mpr (s319_45.mpr ((s319_46 kM).mpr ?_)))
      rw [mr_67 hR]
      refine s319_49.mpr (s319_50.mpr ?_)
      refine (s319_51 (by omega) kM).mpr ?_
      refine r_act hA hR hp9 ?_
      refine (s319_54 (hA.k (by decide) (by decide) rfl) (by first | assumption | omega) (by first | assumption | omega)).mpr ?_
      refine s319_55.mpr (s319_56.mpr ?_)
      try simp (disch := first | decide | assumption | omega) only [kon, knt_some, knt_none, Option.toList_some, Option.toList_none, List.cons_append, List.nil_append, ehg, hI, e98, hC, hS, hX, ex, hg1, go, g114, hW2, fAdd_id, fMul_id, fSub_id]
      refine (s319_57 (by omega) kM).mpr ?_
      refine r_stack hA hR (by omega) hp9 (by omega) ?_
      refine (s319_60 (hA.k (by decide) (by decide) rfl) (by first | assumption | omega) (by first | assumption | omega)).mpr ?_
      refine s319_61.mpr (s319_63.mpr ((s319_64 kM).mpr ?_))
      rw [mr_82 hR]
      refine s319_67.mpr (s319_69.mpr ((s319_70 kM).mpr ?_))
      rw [mr_15 hR]
      refine s319_73.mpr (s319_74.mpr (s319_76.mpr ((s319_77 kM).mpr ?_)))
      rw [mr_88 hR]
      refine s319_80.mpr ?_
      try simp (disch := first | decide | assumption | omega) only [kon, knt_some, knt_none, Option.toList_some, Option.toList_none, List.cons_append, List.nil_append, ehg, hI, e98, hC, hS, hX, ex, hg1, go, g114, hW2, fAdd_id, fMul_id, fSub_id]
      refine (s319_82 (hA.k (by decide) (by decide) rfl) (by first | assumption | omega) (by first | assumption | omega)).mpr ?_
      refine s319_83.mpr (s319_84.mpr ((s319_85 kM).mpr ?_))
      rw [mr_82 hR]
      refine s319_88.mpr ?_
      try simp (disch := first | decide | assumption | omega) only [kon, knt_some, knt_none, Option.toList_some, Option.toList_none, List.cons_append, List.nil_append, ehg, hI, e98, hC, hS, hX, ex, hg1, go, g114, hW2, fAdd_id, fMul_id, fSub_id]
      refine (s319_90 (hA.k (by decide) (by decide) rfl) (by first | assumption | omega) (by first | assumption | omega)).mpr ?_
      refine s319_91.mpr (s319_92.mpr (s319_93.mpr (s319_94.mpr ?_)))
      try simp (disch := first | decide | assumption | omega) only [kon, knt_some, knt_none, Option.toList_some, Option.toList_none, List.cons_append, List.nil_append, ehg, hI, e98, hC, hS, hX, ex, hg1, go, g114, hW2, fAdd_id, fMul_id, fSub_id]
      refine (s319_95 (hA.k (by decide) (by decide) rfl) (by first | assumption | omega) (by first | assumption | omega)).mpr ?_
      try simp (disch := first | decide | assumption | omega) only [kon, knt_some, knt_none, Option.toList_some, Option.toList_none, List.cons_append, List.nil_append, ehg, hI, e98, hC, hS, hX, ex, hg1, go, g114, hW2, fAdd_id, fMul_id, fSub_id]
      refine (s319_96 (hA.k (by decide) (by decide) rfl) (by first | assumption | omega) (by first | assumption | omega)).mpr ?_
      refine s319_97.mpr (s319_99.mpr (s319_100.mpr (s319_101.mpr (s319_103.mpr ((s319_104 kM).mpr ?_)))))
      rw [mr_82 hR]
      refine s319_107.mpr ?_
      try simp (disch := first | decide | assumption | omega) only [kon, knt_some, knt_none, Option.toList_some, Option.toList_none, List.cons_append, List.nil_append, ehg, hI, e98, hC, hS, hX, ex, hg1, go, g114, hW2, fAdd_id, fMul_id, fSub_id]
      refine (s319_109 (hA.k (by decide) (by decide) rfl) (by first | assumption | omega) (by first | assumption | omega)).mpr ?_
      refine s319_110.mpr ?_
      try simp (disch := first | decide | assumption | omega) only [kon, knt_some, knt_none, Option.toList_some, Option.toList_none, List.cons_append, List.nil_append, ehg, hI, e98, hC, hS, hX, ex, hg1, go, g114, hW2, fAdd_id, fMul_id, fSub_id]
      refine s319_111.mpr (wif (fun c111 => ?_) (fun c111 => ?_))
      · first
        | (exfalso; omega)
        | skip
          exact absurd ‹_› c
      · first
        | (exfalso; omega)
        | skip
          refine s319_122.mpr (s319_123.mpr (s319_125.mpr (s319_126.mpr ((s319_127 kM).mpr ?_))))
          rw [mr_84 hR]
          refine s319_130.mpr ?_
          try simp (disch := first | decide | assumption | omega) only [kon, knt_some, knt_none, Option.toList_some, Option.toList_none, List.cons_append, List.nil_append, ehg, hI, e98, hC, hS, hX, ex, hg1, go, g114, hW2, fAdd_id, fMul_id, fSub_id]
          refine (s319_132 (hA.k (by decide) (by decide) rfl) (by first | assumption | omega) (by first | assumption | omega)).mpr ?_
          refine s319_133.mpr (s319_134.mpr (s319_136.mpr ((s319_137 kM).mpr ?_)))
          rw [mr_85 hR]
          refine s319_140.mpr (s319_142.mpr ?_)
          try simp (disch := first | decide | assumption | omega) only [kon, knt_some, knt_none, Option.toList_some, Option.toList_none, List.cons_append, List.nil_append, ehg, hI, e98, hC, hS, hX, ex, hg1, go, g114, hW2, fAdd_id, fMul_id, fSub_id]
          refine (s319_143 (hA.k (by decide) (by decide) rfl) (by first | assumption | omega) (by first | assumption | omega)).mpr ?_
          refine s319_144.mpr ((s319_145 kM).mpr ?_)
          rw [mr_86 hR]
          refine s319_148.mpr (s319_150.mpr ?_)
          try simp (disch := first | decide | assumption | omega) only [kon, knt_some, knt_none, Option.toList_some, Option.toList_none, List.cons_append, List.nil_append, ehg, hI, e98, hC, hS, hX, ex, hg1, go, g114, hW2, fAdd_id, fMul_id, fSub_id]
          refine (s319_151 (hA.k (by decide) (by decide) rfl) (by first | assumption | omega) (by first | assumption | omega)).mpr ?_
          refine s319_152.mpr ((s319_153 kM).mpr ?_)
          rw [mr_87 hR]
          refine s319_156.mpr (s319_158.mpr ?_)
          try simp (disch := first | decide | assumption | omega) only [kon, knt_some, knt_none, Option.toList_some, Option.toList_none, List.cons_append, List.nil_append, ehg, hI, e98, hC, hS, hX, ex, hg1, go, g114, hW2, fAdd_id, fMul_id, fSub_id]
          refine (s319_160 (hA.k (by decide) (by decide) rfl) (by first | assumption | omega) (by first | assumption | omega)).mpr ?_
          refine s319_161.mpr ((s319_162 kM).mpr ?_)
          rw [mr_84 hR]
          refine s319_165.mpr (s319_167.mpr ?_)
          try simp (disch := first | decide | assumption | omega) only [kon, knt_some, knt_none, Option.toList_some, Option.toList_none, List.cons_append, List.nil_append, ehg, hI, e98, hC, hS, hX, ex, hg1, go, g114, hW2, fAdd_id, fMul_id, fSub_id]
          refine (s319_168 (by first | decide | assumption | omega) (by first | decide | assumption | omega) (by first | decide | assumption | omega)).mpr ?_
          refine s319_169.mpr (s319_170.mpr ?_)
          try simp (disch := first | decide | assumption | omega) only [kon, knt_some, knt_none, Option.toList_some, Option.toList_none, List.cons_append, List.nil_append, ehg, hI, e98, hC, hS, hX, ex, hg1, go, g114, hW2, fAdd_id, fMul_id, fSub_id]
          refine (s319_171 (by first | decide | assumption | omega) (by first | decide | assumption | omega) (by first | decide | assumption | omega)).mpr ?_
          refine s319_172.mpr (s319_173.mpr (s319_174.mpr (s319_176.mpr (s319_178.mpr (s319_180.mpr ?_)))))
          try simp (disch := first | decide | assumption | omega) only [kon, knt_some, knt_none, Option.toList_some, Option.toList_none, List.cons_append, List.nil_append, ehg, hI, e98, hC, hS, hX, ex, hg1, go, g114, hW2, fAdd_id, fMul_id, fSub_id]
          refine (s319_181 (by omega) kM).mpr ?_
          refine r_own hA hR hv2 hv3 ?_
          refine (s319_184).mpr ?_
          exact q9
  rw [e319]
  by_cases c : depS hi p t = 1
  · obtain ⟨z1, z2, z3, z4⟩ := h1 c
    simp only [if_pos c] at q
    have hs := sk_b (k := hg hi p - 1) hp (by omega)
    have e98 : pp hi p 1 98 (sk hi p (hg hi p - 1)) = tv hi p 0 := (ppz_n (by decide)).trans tv_e
    have e99 : pp hi p 1 99 (sk hi p (hg hi p - 1)) = ts hi p 0 := (ppz_n (by decide)).trans ts_e
    have e2 : tv (pp hi p 1) p 0 = tv hi p 1 := by
      unfold tv
      rw [ppz_hg, ppz_sk, ppz_n (by decide), show hg hi p - 1 - 1 - 0 = hg hi p - 1 - 1 by omega]
    have hE2 : EnO (pp hi p 1) (tv hi p 1) := by unfold EnO; rw [ppz_n (by decide), ppz_n (by decide)]; exact z2
    rw [e2] at q
    have NX := fun l5 => REST (pp hi p 1) (tv hi p 0) (ts hi p 0) (tv hi p 1) l5 (by rw [c]) hp.po (by rw [ppz_hg]; omega) e2 hE2 (fun a i z => ppz_n z) z3 z4 q
    refine s319_0.mpr (s319_1.mpr (s319_2.mpr (s319_3.mpr (s319_5.mpr (s319_6.mpr ?_)))))
    refine s319_7.mpr ?_
    refine (s319_8 (by omega) kM).mpr ?_
    refine r_depth hA hR (by omega) hp h0 (fun z => ⟨hE z, fun _ => t0.2⟩) t0.1 ?_
    refine s319_11.mpr ?_
    refine s319_12.mpr (wif (fun c12 => ?_) (fun c12 => ?_))
    · skip
      refine s319_15.mpr (s319_16.mpr ?_)
      refine (s319_17 (by omega) kM).mpr ?_
      refine r_pop hA hR (by omega) hp h0 ?_
      refine s319_20.mpr (s319_22.mpr ((s319_23 kM).mpr ?_))
      rw [mr_68 hR]
      refine s319_26.mpr ?_
      refine (s319_28 (hA.k (by decide) (by decide) rfl) (by first | assumption | omega) (by first | assumption | omega)).mpr ?_
      refine s319_29.mpr (s319_30.mpr ((s319_31 kM).mpr ?_))
      rw [mr_69 hR]
      refine s319_34.mpr ?_
      try simp (disch := first | decide | assumption | omega) only [kon, knt_some, knt_none, Option.toList_some, Option.toList_none, List.cons_append, List.nil_append, c, e98, e99]
      refine (s319_36 (hA.k (by decide) (by decide) rfl) (by first | assumption | omega) (by first | assumption | omega)).mpr ?_
      refine s319_37.mpr ?_
      try simp (disch := first | decide | assumption | omega) only [kon, knt_some, knt_none, Option.toList_some, Option.toList_none, List.cons_append, List.nil_append, c, e98, e99]
      first | exact NX _ | exact absurd c (by assumption)
    · skip
      first | exact NX _ | exact absurd c (by assumption)
  · simp only [if_neg c] at q
    have c3 : ts hi p 0 = 3 := Classical.byContradiction fun z => c (by unfold depS; rw [if_pos z])
    have hd0 : depS hi p t = 0 := by
      unfold depS at c ⊢
      rw [if_neg (fun y => y c3)] at c ⊢
      simp only [] at c ⊢
      split
      · rfl
      · rename_i z; rw [if_neg z] at c; exact absurd rfl c
    have NX := REST hi 0 4 (tv hi p 0) none (by rw [hd0]) hp h0 rfl (hE c3) (fun _ _ _ => rfl) (fun z => absurd z (by decide)) (fun z => absurd z (by decide)) q
    refine s319_0.mpr (s319_1.mpr (s319_2.mpr (s319_3.mpr (s319_5.mpr (s319_6.mpr ?_)))))
    refine s319_7.mpr ?_
    refine (s319_8 (by omega) kM).mpr ?_
    refine r_depth hA hR (by omega) hp h0 (fun z => ⟨hE z, fun _ => t0.2⟩) t0.1 ?_
    refine s319_11.mpr ?_
    refine s319_12.mpr (wif (fun c12 => ?_) (fun c12 => ?_))
    · skip
      exact absurd ‹_› c
    · skip
      exact NX
end RJ0
