/-! RUNNING, the reference: calls and returns -/
section RI0
variable {d : Nat} {al : AL} {hi : HI} {hr : HR} {Q : QQ}
theorem r_function {p m f : Int} (hA : SA al) (hR : MR hr) (hd : 1 ≤ d) (hp : AP hi p) (hm : hi 91 p = m) (hf : hi 95 (ai hi p) = f) (m0 : 0 ≤ m ∧ m < 12) (f0 : 0 ≤ f ∧ f < 10) (q : Q (some (some (vI (10 * m + f)))) al hi hr) : Ev d 301 [vR (some 49), vI p] al hi hr Q := by
  have kM : isK al 49 13 := hA.k (by decide) (by decide) rfl
  have k95 : isK al 95 15 := hA.k (by decide) (by decide) rfl
  have l95 : aln al 95 = 192 := hA.len (by decide) (by decide) rfl
  have hb := hp.b
  have hpb := hp.1
  have l91 := SA.len (a := 91) (n := 12) hA (by decide) (by decide) rfl
  have l95 := SA.len (a := 95) (n := 192) hA (by decide) (by decide) rfl
  rw [e301]
  refine s301_0.mpr (s301_2.mpr ((s301_3 kM).mpr ?_))
  rw [mr_61 hR]
  refine s301_6.mpr ?_
  refine (s301_7 (hA.k (by decide) (by decide) rfl) (by first | assumption | omega) (by first | assumption | omega)).mpr ?_
  refine s301_8.mpr (s301_9.mpr ((s301_10 kM).mpr ?_))
  rw [mr_65 hR]
  refine s301_13.mpr (s301_14.mpr ?_)
  try simp (disch := first | decide | assumption | omega) only [kon, knt_some, knt_none, Option.toList_some, Option.toList_none, List.cons_append, List.nil_append, hm, hf, fAdd_id, fMul_id]
  refine (s301_15 (by omega) kM).mpr ?_
  refine r_act hA hR hp ?_
  refine (s301_18 (hA.k (by decide) (by decide) rfl) (by first | assumption | omega) (by first | assumption | omega)).mpr ?_
  refine s301_19.mpr ?_
  try simp (disch := first | decide | assumption | omega) only [kon, knt_some, knt_none, Option.toList_some, Option.toList_none, List.cons_append, List.nil_append, hm, hf, fAdd_id, fMul_id]
  refine (s301_20).mpr ?_
  exact q
theorem r_codePlace {p m f c x : Int} (hA : SA al) (hR : MR hr) (hd : 2 ≤ d) (hp : AP hi p) (hm : hi 91 p = m) (hf : hi 95 (ai hi p) = f) (hx : hi 96 (ai hi p) = x) (m0 : 0 ≤ m ∧ m < 12) (f0 : 0 ≤ f ∧ f < 10) (hc : hi 69 (10 * m + f) = c) (c0 : 0 ≤ c ∧ c < 10000) (x0 : 0 ≤ x ∧ x < 10000) (q : Q (some (some (vI (c + x)))) al hi hr) : Ev d 302 [vR (some 49), vI p] al hi hr Q := by
  have kM : isK al 49 13 := hA.k (by decide) (by decide) rfl
  have k96 : isK al 96 15 := hA.k (by decide) (by decide) rfl
  have l96 : aln al 96 = 192 := hA.len (by decide) (by decide) rfl
  have k69 : isK al 69 15 := hA.k (by decide) (by decide) rfl
  have l69 : aln al 69 = 130 := hA.len (by decide) (by decide) rfl
  have hb := hp.b
  have l69 := SA.len (a := 69) (n := 130) hA (by decide) (by decide) rfl
  have l96 := SA.len (a := 96) (n := 192) hA (by decide) (by decide) rfl
  rw [e302]
  refine s302_0.mpr ((s302_1 kM).mpr ?_)
  rw [mr_21 hR]
  refine s302_4.mpr (s302_5.mpr ?_)
  refine (s302_6 (by omega) kM).mpr ?_
  refine r_function hA hR (by omega) hp hm hf m0 f0 ?_
  refine (s302_9 (hA.k (by decide) (by decide) rfl) (by first | assumption | omega) (by first | assumption | omega)).mpr ?_
  refine s302_10.mpr ((s302_11 kM).mpr ?_)
  rw [mr_66 hR]
  refine s302_14.mpr (s302_15.mpr ?_)
  try simp (disch := first | decide | assumption | omega) only [kon, knt_some, knt_none, Option.toList_some, Option.toList_none, List.cons_append, List.nil_append, hx, hc, fAdd_id, fMul_id]
  refine (s302_16 (by omega) kM).mpr ?_
  refine r_act hA hR hp ?_
  refine (s302_19 (hA.k (by decide) (by decide) rfl) (by first | assumption | omega) (by first | assumption | omega)).mpr ?_
  refine s302_20.mpr ?_
  try simp (disch := first | decide | assumption | omega) only [kon, knt_some, knt_none, Option.toList_some, Option.toList_none, List.cons_append, List.nil_append, hx, hc, fAdd_id, fMul_id]
  refine (s302_21).mpr ?_
  exact q
theorem r_back {p m f : Int} {c : Prop} (hA : SA al) (hR : MR hr) (hd : 54 ≤ d) (hp : AP hi p) (hm : hi 91 p = m) (hf : hi 95 (ai hi p) = f) (m0 : 0 ≤ m ∧ m < 12) (f0 : 0 ≤ f ∧ f < 10) (hc : c ↔ hi 66 (10 * m + f) ≠ -1) (hq : QB hi) (h0 : c → 1 ≤ hg hi p ∧ hg hi p ≤ 16) (h1 : c → 2 ≤ hi 94 p → 0 ≤ hi 97 (ai hi p - 1) ∧ hi 97 (ai hi p - 1) < 16)
    (q : Q (some none) al (bckS hi p c) hr) : Ev d 315 [vR (some 49), vI p] al hi hr Q := by
  have kM : isK al 49 13 := hA.k (by decide) (by decide) rfl
  have k66 : isK al 66 15 := hA.k (by decide) (by decide) rfl
  have l66 : aln al 66 = 130 := hA.len (by decide) (by decide) rfl
  have k94 : isK al 94 15 := hA.k (by decide) (by decide) rfl
  have l94 : aln al 94 = 12 := hA.len (by decide) (by decide) rfl
  have hb := hp.b
  obtain ⟨⟨p0, p1⟩, a0, a1⟩ := id hp
  have l66 := SA.len (a := 66) (n := 130) hA (by decide) (by decide) rfl
  have l98 := SA.len (a := 98) (n := 4992) hA (by decide) (by decide) rfl
  have l99 := SA.len (a := 99) (n := 4992) hA (by decide) (by decide) rfl
  have l94 := SA.len (a := 94) (n := 12) hA (by decide) (by decide) rfl
  obtain ⟨n, hn⟩ : ∃ n, hi 94 p = n := ⟨_, rfl⟩
  obtain ⟨r, hr9⟩ : ∃ r, hi 66 (10 * m + f) = r := ⟨_, rfl⟩
  rw [hr9] at hc
  rw [hn] at a0 a1 h1
  unfold bckS at q
  simp only [hn] at q
  rw [e315]
  by_cases cc : c
  · have hc1 : ¬ r = -1 := hc.mp cc
    have hh := h0 cc
    have hs := sk_b (k := hg hi p - 1) hp (by omega)
    rw [cif_y cc, cif_y cc] at q
    have e98 : pp hi p 1 98 (sk hi p (hg hi p - 1)) = tv hi p 0 := (ppz_n (by decide)).trans tv_e
    have e99 : pp hi p 1 99 (sk hi p (hg hi p - 1)) = ts hi p 0 := (ppz_n (by decide)).trans ts_e
    have e94 : pp hi p 1 94 p = n := (ppz_n (by decide)).trans hn
    have hq2 : QB (pp hi p 1) := hq.eq (fun _ => ppz_n (by decide)) (fun _ => ppz_n (by decide)) (fun _ => ppz_n (by decide)) (fun _ => ppz_n (by decide))
    by_cases c1 : n = 1
    · rw [if_pos c1] at q
      subst c1
      refine s315_0.mpr ((s315_1 kM).mpr ?_)
      rw [mr_18 hR]
      refine s315_4.mpr (s315_5.mpr ?_)
      refine (s315_6 (by omega) kM).mpr ?_
      refine r_function hA hR (by omega) hp hm hf m0 f0 ?_
      refine (s315_9 (hA.k (by decide) (by decide) rfl) (by first | assumption | omega) (by first | assumption | omega)).mpr ?_
      refine s315_10.mpr ?_
      try simp (disch := first | decide | assumption | omega) only [kon, knt_some, knt_none, Option.toList_some, Option.toList_none, List.cons_append, List.nil_append, hr9, e98, e99, e94]
      refine s315_11.mpr (wif (fun c11 => ?_) (fun c11 => ?_))
      · first
        | (exfalso; omega)
        | skip
          exact absurd ‹_› hc1
      · first
        | (exfalso; omega)
        | skip
          refine s315_14.mpr (s315_15.mpr (s315_19.mpr (s315_20.mpr ?_)))
          refine s315_21.mpr (wif (fun c21 => ?_) (fun c21 => ?_))
          · first
            | (exfalso; omega)
            | skip
              exact absurd ‹(1 : Int) = 0› (by decide)
          · first
            | (exfalso; omega)
            | skip
              refine s315_24.mpr (s315_25.mpr ?_)
              refine (s315_26 (by omega) kM).mpr ?_
              refine r_pop hA hR (by omega) hp hh ?_
              refine s315_29.mpr (s315_33.mpr (s315_34.mpr ((s315_35 kM).mpr ?_)))
              rw [mr_68 hR]
              refine s315_38.mpr ?_
              refine (s315_39 (hA.k (by decide) (by decide) rfl) (by first | assumption | omega) (by first | assumption | omega)).mpr ?_
              refine s315_40.mpr (s315_42.mpr ((s315_43 kM).mpr ?_))
              rw [mr_69 hR]
              refine s315_46.mpr ?_
              try simp (disch := first | decide | assumption | omega) only [kon, knt_some, knt_none, Option.toList_some, Option.toList_none, List.cons_append, List.nil_append, hr9, e98, e99, e94]
              refine (s315_47 (hA.k (by decide) (by decide) rfl) (by first | assumption | omega) (by first | assumption | omega)).mpr ?_
              refine s315_48.mpr (s315_50.mpr ((s315_51 kM).mpr ?_))
              rw [mr_64 hR]
              refine s315_54.mpr ?_
              try simp (disch := first | decide | assumption | omega) only [kon, knt_some, knt_none, Option.toList_some, Option.toList_none, List.cons_append, List.nil_append, hr9, e98, e99, e94]
              refine (s315_55 (hA.k (by decide) (by decide) rfl) (by first | assumption | omega) (by first | assumption | omega)).mpr ?_
              refine s315_56.mpr ?_
              try simp (disch := first | decide | assumption | omega) only [kon, knt_some, knt_none, Option.toList_some, Option.toList_none, List.cons_append, List.nil_append, hr9, e98, e99, e94]
              refine s315_57.mpr (wif (fun c57 => ?_) (fun c57 => ?_))
              · first
                | (exfalso; omega)
                | skip
                  refine s315_60.mpr (s315_61.mpr (s315_62.mpr ?_))
                  refine (s315_63 (by omega) kM).mpr ?_
                  refine r_over hA hR (by omega) hq2 hp.1 ?_
                  refine (s315_66).mpr ?_
                  exact q
              · first
                | (exfalso; omega)
                | skip
                  exact absurd rfl (by assumption)
    · rw [if_neg c1] at q
      obtain ⟨g, hg9⟩ : ∃ g, upI (pp hi p 1) 94 p (n - 1) = g := ⟨_, rfl⟩
      rw [hg9] at q
      have g94 : g 94 p = n - 1 := by rw [← hg9, upI_eq]
      have hpg : AP g p := by unfold AP; rw [g94]; omega
      have hai : ai g p = ai hi p - 1 := by unfold ai; rw [g94, hn]; omega
      have hgg : hg g p = hi 97 (ai hi p - 1) := by
        unfold hg
        rw [hai, ← hg9, upI_a (by decide)]
        unfold pp
        rw [upI_i (by omega)]
      have hh1 := h1 cc (by omega)
      have hgb : 0 ≤ hg g p ∧ hg g p < 16 := by rw [hgg]; exact hh1
      have ncast : fSub n 1 = n - 1 := fSub_id (by omega) (by omega)
      refine s315_0.mpr ((s315_1 kM).mpr ?_)
      rw [mr_18 hR]
      refine s315_4.mpr (s315_5.mpr ?_)
      refine (s315_6 (by omega) kM).mpr ?_
      refine r_function hA hR (by omega) hp hm hf m0 f0 ?_
      refine (s315_9 (hA.k (by decide) (by decide) rfl) (by first | assumption | omega) (by first | assumption | omega)).mpr ?_
      refine s315_10.mpr ?_
      try simp (disch := first | decide | assumption | omega) only [kon, knt_some, knt_none, Option.toList_some, Option.toList_none, List.cons_append, List.nil_append, hr9, e98, e99, e94, ncast, hg9]
      refine s315_11.mpr (wif (fun c11 => ?_) (fun c11 => ?_))
      · first
        | (exfalso; omega)
        | skip
          exact absurd ‹_› hc1
      · first
        | (exfalso; omega)
        | skip
          refine s315_14.mpr (s315_15.mpr (s315_19.mpr (s315_20.mpr ?_)))
          refine s315_21.mpr (wif (fun c21 => ?_) (fun c21 => ?_))
          · first
            | (exfalso; omega)
            | skip
              exact absurd ‹(1 : Int) = 0› (by decide)
          · first
            | (exfalso; omega)
            | skip
              refine s315_24.mpr (s315_25.mpr ?_)
              refine (s315_26 (by omega) kM).mpr ?_
              refine r_pop hA hR (by omega) hp hh ?_
              refine s315_29.mpr (s315_33.mpr (s315_34.mpr ((s315_35 kM).mpr ?_)))
              rw [mr_68 hR]
              refine s315_38.mpr ?_
              refine (s315_39 (hA.k (by decide) (by decide) rfl) (by first | assumption | omega) (by first | assumption | omega)).mpr ?_
              refine s315_40.mpr (s315_42.mpr ((s315_43 kM).mpr ?_))
              rw [mr_69 hR]
              refine s315_46.mpr ?_
              try simp (disch := first | decide | assumption | omega) only [kon, knt_some, knt_none, Option.toList_some, Option.toList_none, List.cons_append, List.nil_append, hr9, e98, e99, e94, ncast, hg9]
              refine (s315_47 (hA.k (by decide) (by decide) rfl) (by first | assumption | omega) (by first | assumption | omega)).mpr ?_
              refine s315_48.mpr (s315_50.mpr ((s315_51 kM).mpr ?_))
              rw [mr_64 hR]
              refine s315_54.mpr ?_
              try simp (disch := first | decide | assumption | omega) only [kon, knt_some, knt_none, Option.toList_some, Option.toList_none, List.cons_append, List.nil_append, hr9, e98, e99, e94, ncast, hg9]
              refine (s315_55 (hA.k (by decide) (by decide) rfl) (by first | assumption | omega) (by first | assumption | omega)).mpr ?_
              refine s315_56.mpr ?_
              try simp (disch := first | decide | assumption | omega) only [kon, knt_some, knt_none, Option.toList_some, Option.toList_none, List.cons_append, List.nil_append, hr9, e98, e99, e94, ncast, hg9]
              refine s315_57.mpr (wif (fun c57 => ?_) (fun c57 => ?_))
              · first
                | (exfalso; omega)
                | skip
                  exact absurd ‹_› c1
              · first
                | (exfalso; omega)
                | skip
                  refine s315_67.mpr ((s315_68 kM).mpr ?_)
                  rw [mr_64 hR]
                  refine s315_71.mpr (s315_72.mpr ?_)
                  refine (s315_73 (by first | decide | assumption | omega) (by first | decide | assumption | omega) (by first | decide | assumption | omega)).mpr ?_
                  refine s315_74.mpr (s315_75.mpr ?_)
                  try simp (disch := first | decide | assumption | omega) only [kon, knt_some, knt_none, Option.toList_some, Option.toList_none, List.cons_append, List.nil_append, hr9, e98, e99, e94, ncast, hg9]
                  refine (s315_76 (by first | decide | assumption | omega) (by first | decide | assumption | omega) (by first | decide | assumption | omega)).mpr ?_
                  refine s315_77.mpr ?_
                  try simp (disch := first | decide | assumption | omega) only [kon, knt_some, knt_none, Option.toList_some, Option.toList_none, List.cons_append, List.nil_append, hr9, e98, e99, e94, ncast, hg9]
                  refine s315_78.mpr (wif (fun c78 => ?_) (fun c78 => ?_))
                  · first
                    | (exfalso; omega)
                    | skip
                      refine (s315_90).mpr ?_
                      first | exact q | exact absurd ‹(1 : Int) = 0› (by decide)
                  · first
                    | (exfalso; omega)
                    | skip
                      refine s315_81.mpr (s315_82.mpr (s315_83.mpr (s315_85.mpr ?_)))
                      refine (s315_87 (by omega) kM).mpr ?_
                      refine r_push hA hR (by omega) hpg hgb ?_
                      refine (s315_90).mpr ?_
                      first | exact q | exact absurd ‹(1 : Int) = 0› (by decide)
  · have hc1 : r = -1 := Classical.byContradiction fun z => cc (hc.mpr z)
    subst hc1
    rw [cif_n cc, cif_n cc] at q
    by_cases c1 : n = 1
    · rw [if_pos c1] at q
      subst c1
      refine s315_0.mpr ((s315_1 kM).mpr ?_)
      rw [mr_18 hR]
      refine s315_4.mpr (s315_5.mpr ?_)
      refine (s315_6 (by omega) kM).mpr ?_
      refine r_function hA hR (by omega) hp hm hf m0 f0 ?_
      refine (s315_9 (hA.k (by decide) (by decide) rfl) (by first | assumption | omega) (by first | assumption | omega)).mpr ?_
      refine s315_10.mpr ?_
      try simp (disch := first | decide | assumption | omega) only [kon, knt_some, knt_none, Option.toList_some, Option.toList_none, List.cons_append, List.nil_append, hr9, hn]
      refine s315_11.mpr (wif (fun c11 => ?_) (fun c11 => ?_))
      · first
        | (exfalso; omega)
        | skip
          refine s315_18.mpr (s315_19.mpr (s315_20.mpr ?_))
          refine s315_21.mpr (wif (fun c21 => ?_) (fun c21 => ?_))
          · first
            | (exfalso; omega)
            | skip
              refine s315_32.mpr (s315_33.mpr (s315_34.mpr ((s315_35 kM).mpr ?_)))
              rw [mr_68 hR]
              refine s315_38.mpr ?_
              refine (s315_39 (hA.k (by decide) (by decide) rfl) (by first | assumption | omega) (by first | assumption | omega)).mpr ?_
              refine s315_40.mpr (s315_42.mpr ((s315_43 kM).mpr ?_))
              rw [mr_69 hR]
              refine s315_46.mpr ?_
              try simp (disch := first | decide | assumption | omega) only [kon, knt_some, knt_none, Option.toList_some, Option.toList_none, List.cons_append, List.nil_append, hr9, hn]
              refine (s315_47 (hA.k (by decide) (by decide) rfl) (by first | assumption | omega) (by first | assumption | omega)).mpr ?_
              refine s315_48.mpr (s315_50.mpr ((s315_51 kM).mpr ?_))
              rw [mr_64 hR]
              refine s315_54.mpr ?_
              try simp (disch := first | decide | assumption | omega) only [kon, knt_some, knt_none, Option.toList_some, Option.toList_none, List.cons_append, List.nil_append, hr9, hn]
              refine (s315_55 (hA.k (by decide) (by decide) rfl) (by first | assumption | omega) (by first | assumption | omega)).mpr ?_
              refine s315_56.mpr ?_
              try simp (disch := first | decide | assumption | omega) only [kon, knt_some, knt_none, Option.toList_some, Option.toList_none, List.cons_append, List.nil_append, hr9, hn]
              refine s315_57.mpr (wif (fun c57 => ?_) (fun c57 => ?_))
              · first
                | (exfalso; omega)
                | skip
                  refine s315_60.mpr (s315_61.mpr (s315_62.mpr ?_))
                  refine (s315_63 (by omega) kM).mpr ?_
                  refine r_over hA hR (by omega) hq hp.1 ?_
                  refine (s315_66).mpr ?_
                  exact q
              · first
                | (exfalso; omega)
                | skip
                  exact absurd rfl (by assumption)
          · first
            | (exfalso; omega)
            | skip
              exact absurd rfl (by assumption)
      · first
        | (exfalso; omega)
        | skip
          exact absurd rfl (by assumption)
    · rw [if_neg c1] at q
      have ncast : fSub n 1 = n - 1 := fSub_id (by omega) (by omega)
      refine s315_0.mpr ((s315_1 kM).mpr ?_)
      rw [mr_18 hR]
      refine s315_4.mpr (s315_5.mpr ?_)
      refine (s315_6 (by omega) kM).mpr ?_
      refine r_function hA hR (by omega) hp hm hf m0 f0 ?_
      refine (s315_9 (hA.k (by decide) (by decide) rfl) (by first | assumption | omega) (by first | assumption | omega)).mpr ?_
      refine s315_10.mpr ?_
      try simp (disch := first | decide | assumption | omega) only [kon, knt_some, knt_none, Option.toList_some, Option.toList_none, List.cons_append, List.nil_append, hr9, hn, ncast]
      refine s315_11.mpr (wif (fun c11 => ?_) (fun c11 => ?_))
      · first
        | (exfalso; omega)
        | skip
          refine s315_18.mpr (s315_19.mpr (s315_20.mpr ?_))
          refine s315_21.mpr (wif (fun c21 => ?_) (fun c21 => ?_))
          · first
            | (exfalso; omega)
            | skip
              refine s315_32.mpr (s315_33.mpr (s315_34.mpr ((s315_35 kM).mpr ?_)))
              rw [mr_68 hR]
              refine s315_38.mpr ?_
              refine (s315_39 (hA.k (by decide) (by decide) rfl) (by first | assumption | omega) (by first | assumption | omega)).mpr ?_
              refine s315_40.mpr (s315_42.mpr ((s315_43 kM).mpr ?_))
              rw [mr_69 hR]
              refine s315_46.mpr ?_
              try simp (disch := first | decide | assumption | omega) only [kon, knt_some, knt_none, Option.toList_some, Option.toList_none, List.cons_append, List.nil_append, hr9, hn, ncast]
              refine (s315_47 (hA.k (by decide) (by decide) rfl) (by first | assumption | omega) (by first | assumption | omega)).mpr ?_
              refine s315_48.mpr (s315_50.mpr ((s315_51 kM).mpr ?_))
              rw [mr_64 hR]
              refine s315_54.mpr ?_
              try simp (disch := first | decide | assumption | omega) only [kon, knt_some, knt_none, Option.toList_some, Option.toList_none, List.cons_append, List.nil_append, hr9, hn, ncast]
              refine (s315_55 (hA.k (by decide) (by decide) rfl) (by first | assumption | omega) (by first | assumption | omega)).mpr ?_
              refine s315_56.mpr ?_
              try simp (disch := first | decide | assumption | omega) only [kon, knt_some, knt_none, Option.toList_some, Option.toList_none, List.cons_append, List.nil_append, hr9, hn, ncast]
              refine s315_57.mpr (wif (fun c57 => ?_) (fun c57 => ?_))
              · first
                | (exfalso; omega)
                | skip
                  exact absurd ‹_› c1
              · first
                | (exfalso; omega)
                | skip
                  refine s315_67.mpr ((s315_68 kM).mpr ?_)
                  rw [mr_64 hR]
                  refine s315_71.mpr (s315_72.mpr ?_)
                  refine (s315_73 (by first | decide | assumption | omega) (by first | decide | assumption | omega) (by first | decide | assumption | omega)).mpr ?_
                  refine s315_74.mpr (s315_75.mpr ?_)
                  try simp (disch := first | decide | assumption | omega) only [kon, knt_some, knt_none, Option.toList_some, Option.toList_none, List.cons_append, List.nil_append, hr9, hn, ncast]
                  refine (s315_76 (by first | decide | assumption | omega) (by first | decide | assumption | omega) (by first | decide | assumption | omega)).mpr ?_
                  refine s315_77.mpr ?_
                  try simp (disch := first | decide | assumption | omega) only [kon, knt_some, knt_none, Option.toList_some, Option.toList_none, List.cons_append, List.nil_append, hr9, hn, ncast]
                  refine s315_78.mpr (wif (fun c78 => ?_) (fun c78 => ?_))
                  · first
                    | (exfalso; omega)
                    | skip
                      refine (s315_90).mpr ?_
                      exact q
                  · first
                    | (exfalso; omega)
                    | skip
                      exact absurd rfl (by assumption)
          · first
            | (exfalso; omega)
            | skip
              exact absurd rfl (by assumption)
      · first
        | (exfalso; omega)
        | skip
          exact absurd rfl (by assumption)
theorem mvS_n {s : HI} {f i : Int} {a : Nat} {j : Int} (h : a ≠ 98 ∧ a ≠ 99) : ∀ n, mvS s f i n a j = s a j
  | 0 => rfl
  | n + 1 => by unfold mvS; rw [st2_n h.1 h.2]; exact mvS_n h n
theorem actS_n {s : HI} {p f : Int} {a : Nat} {j : Int} (h : a < 94 ∨ 99 < a) : actS s p f a j = s a j := by
  unfold actS; rw [if_neg (by omega), if_neg (by omega), if_neg (by omega), if_neg (by omega), if_neg (by omega)]
theorem actS_94 {s : HI} {p f : Int} : actS s p f 94 p = s 94 p + 1 := by
  unfold actS; rw [if_neg (by omega), if_neg (by omega), if_neg (by omega), if_neg (by omega), if_pos ⟨rfl, rfl⟩]
theorem r_call {p m f np : Int} (hA : SA al) (hR : MR hr) (hd : 54 ≤ d) (hp : AP hi p) (hm : hi 91 p = m) (m0 : 0 ≤ m ∧ m < 12) (f0 : 0 ≤ f ∧ f < 10) (hc : hi 64 (10 * m + f) = np) (n0 : 0 ≤ np ∧ np ≤ hg hi p ∧ hg hi p ≤ 16) (hq : QB hi)
    (q : Q (some none) al (calS hi p f np) hr) : Ev d 314 [vR (some 49), vI p, vI f] al hi hr Q := by
  have kM : isK al 49 13 := hA.k (by decide) (by decide) rfl
  have k64 : isK al 64 15 := hA.k (by decide) (by decide) rfl
  have l64 : aln al 64 = 130 := hA.len (by decide) (by decide) rfl
  have k97 : isK al 97 15 := hA.k (by decide) (by decide) rfl
  have l97 : aln al 97 = 192 := hA.len (by decide) (by decide) rfl
  have hb := hp.b
  obtain ⟨⟨p0, p1⟩, a0, a1⟩ := id hp
  have l94 := SA.len (a := 94) (n := 12) hA (by decide) (by decide) rfl
  have l64 := SA.len (a := 64) (n := 130) hA (by decide) (by decide) rfl
  have l91 := SA.len (a := 91) (n := 12) hA (by decide) (by decide) rfl
  have l97 := SA.len (a := 97) (n := 192) hA (by decide) (by decide) rfl
  have l98 := SA.len (a := 98) (n := 4992) hA (by decide) (by decide) rfl
  have l99 := SA.len (a := 99) (n := 4992) hA (by decide) (by decide) rfl
  obtain ⟨n, hn⟩ : ∃ n, hi 94 p = n := ⟨_, rfl⟩
  unfold calS at q
  rw [hn] at a0 a1 q
  rw [e314]
  by_cases c : n = 16
  · rw [if_pos c] at q
    subst c
    refine s314_0.mpr ((s314_1 kM).mpr ?_)
    rw [mr_64 hR]
    refine s314_4.mpr ?_
    refine (s314_5 (hA.k (by decide) (by decide) rfl) (by first | assumption | omega) (by first | assumption | omega)).mpr ?_
    refine s314_6.mpr ?_
    try simp (disch := first | decide | assumption | omega) only [hn]
    refine s314_8.mpr (wif (fun c8 => ?_) (fun c8 => ?_))
    · skip
      refine s314_11.mpr (s314_12.mpr (s314_13.mpr ?_))
      refine (s314_15 (by omega) kM).mpr ?_
      refine r_trap hA hR (by omega) hq hp.1 ?_
      refine (s314_18).mpr ?_
      exact q
    · skip
      exact absurd rfl (by assumption)
  · rw [if_neg c] at q
    have hpp : AP (pp hi p np) p := hp.po
    have eai : ai (pp hi p np) p = ai hi p := ppz_ai
    have ehg : hi 97 (ai hi p) = hg hi p := rfl
    have ehg2 : pp hi p np 97 (ai hi p) = hg hi p - np := upI_eq
    obtain ⟨P, hP⟩ : ∃ P, pp hi p np = P := ⟨_, rfl⟩
    have ePP : upI hi 97 (ai hi p) (hg hi p - np) = P := hP
    have eai' := eai
    rw [hP] at q hpp eai ehg2
    have eskP : ∀ k, sk P p k = sk hi p k := fun k => by rw [← hP, ppz_sk]
    obtain ⟨A, hAe⟩ : ∃ A, actS P p f = A := ⟨_, rfl⟩
    have P94 : P 94 p = n := by rw [← hP, ppz_n (by decide)]; exact hn
    have A94 : A 94 p = n + 1 := by rw [← hAe, actS_94, P94]
    have Aai : ∀ K I J, ai (mvS A I J K) p = 16 * p + n := fun K I J => by unfold ai; rw [mvS_n (by decide), A94]; omega
    have Aap : ∀ K I J, AP (mvS A I J K) p := fun K I J => by unfold AP; rw [mvS_n (by decide), A94]; omega
    rw [hAe] at q
    have hskv : sk hi p (hg hi p - np) = 26 * ai hi p + 10 + (hg hi p - np) := rfl
    obtain ⟨F, hF⟩ : ∃ F, sk hi p (hg hi p - np) = F := ⟨_, rfl⟩
    rw [hF] at q hskv
    have T76 : ∀ (j9 : Nat) (j : Int) (K : Nat), j + j9 = np → j = K → Wp d 314 76 [vR (some 49), vI p, vI f, vI np, vI F, vI j] [] al (mvS A F (26 * (16 * p + n)) K) hr Q := by
      intro j9
      induction j9 with
      | zero =>
        intro j K hj hK
        have eK : np.toNat = K := by omega
        rw [eK] at q
        refine s314_76.mpr (s314_78.mpr ?_)
        refine s314_79.mpr (wif (fun c79 => ?_) (fun c79 => ?_))
        · skip
          exfalso; omega
        · skip
          refine (s314_123).mpr ?_
          exact q
      | succ j9 ih =>
        intro j K hj hK
        have NX := ih (j + 1) (K + 1) (by omega) (by omega)
        have eM : mvS A F (26 * (16 * p + n)) (K + 1) = st2 (mvS A F (26 * (16 * p + n)) K) (26 * (16 * p + n) + j) (mvS A F (26 * (16 * p + n)) K 98 (F + j)) (mvS A F (26 * (16 * p + n)) K 99 (F + j)) := by rw [hK]; rfl
        rw [eM] at NX
        have hap := Aap K F (26 * (16 * p + n))
        have hai := Aai K F (26 * (16 * p + n))
        have jb : 0 ≤ j ∧ j < 16 := by omega
        clear eM ih Aap Aai
        obtain ⟨M, hM⟩ : ∃ M, mvS A F (26 * (16 * p + n)) K = M := ⟨_, rfl⟩
        rw [hM] at NX hap hai ⊢
        clear hK
        refine s314_76.mpr (s314_78.mpr ?_)
        refine s314_79.mpr (wif (fun c79 => ?_) (fun c79 => ?_))
        · skip
          refine s314_82.mpr (s314_83.mpr (s314_85.mpr (s314_86.mpr ?_)))
          refine (s314_87 (by omega) kM).mpr ?_
          refine r_act hA hR hap ?_
          refine s314_90.mpr (s314_91.mpr (s314_93.mpr (s314_94.mpr ((s314_95 kM).mpr ?_))))
          rw [mr_68 hR]
          refine s314_98.mpr (s314_100.mpr (s314_102.mpr ?_))
          try simp (disch := first | decide | assumption | omega) only [kon, knt_some, knt_none, Option.toList_some, Option.toList_none, List.cons_append, List.nil_append, hai, fAdd_id, fMul_id]
          refine (s314_103 (hA.k (by decide) (by decide) rfl) (by first | assumption | omega) (by first | assumption | omega)).mpr ?_
          refine s314_104.mpr ((s314_105 kM).mpr ?_)
          rw [mr_69 hR]
          refine s314_108.mpr (s314_110.mpr (s314_112.mpr ?_))
          try simp (disch := first | decide | assumption | omega) only [kon, knt_some, knt_none, Option.toList_some, Option.toList_none, List.cons_append, List.nil_append, hai, fAdd_id, fMul_id]
          refine (s314_113 (hA.k (by decide) (by decide) rfl) (by first | assumption | omega) (by first | assumption | omega)).mpr ?_
          try simp (disch := first | decide | assumption | omega) only [kon, knt_some, knt_none, Option.toList_some, Option.toList_none, List.cons_append, List.nil_append, hai, fAdd_id, fMul_id]
          refine (s314_114 (by omega) kM).mpr ?_
          refine r_set hA hR (by omega) ?_
          refine s314_117.mpr (s314_120.mpr ?_)
          try simp (disch := first | decide | assumption | omega) only [kon, knt_some, knt_none, Option.toList_some, Option.toList_none, List.cons_append, List.nil_append, hai, fAdd_id, fMul_id]
          exact NX
        · skip
          exfalso; omega
    have NX := T76 np.toNat 0 0 (by omega) rfl
    rw [show mvS A F (26 * (16 * p + n)) 0 = A from rfl] at NX
    rw [← hF, ← eskP, ← hAe] at NX
    have P91 : P 91 p = m := by rw [← hP, ppz_n (by decide)]; exact hm
    clear T76 Aap Aai
    refine s314_0.mpr ((s314_1 kM).mpr ?_)
    rw [mr_64 hR]
    refine s314_4.mpr ?_
    refine (s314_5 (hA.k (by decide) (by decide) rfl) (by first | assumption | omega) (by first | assumption | omega)).mpr ?_
    refine s314_6.mpr ?_
    try simp (disch := first | decide | assumption | omega) only [kon, knt_some, knt_none, Option.toList_some, Option.toList_none, List.cons_append, List.nil_append, hn, hm, hc, eai, ehg, ePP, ehg2, eskP, hF, hAe, fAdd_id, fMul_id, fSub_id]
    refine s314_8.mpr (wif (fun c8 => ?_) (fun c8 => ?_))
    · skip
      exact absurd ‹_› c
    · skip
      refine s314_19.mpr ((s314_20 kM).mpr ?_)
      rw [mr_16 hR]
      refine s314_23.mpr (s314_25.mpr ((s314_26 kM).mpr ?_))
      rw [mr_61 hR]
      refine s314_29.mpr ?_
      refine (s314_30 (hA.k (by decide) (by decide) rfl) (by first | assumption | omega) (by first | assumption | omega)).mpr ?_
      refine s314_31.mpr (s314_32.mpr (s314_33.mpr ?_))
      try simp (disch := first | decide | assumption | omega) only [kon, knt_some, knt_none, Option.toList_some, Option.toList_none, List.cons_append, List.nil_append, hn, hm, hc, eai, ehg, ePP, ehg2, eskP, hF, hAe, fAdd_id, fMul_id, fSub_id]
      refine (s314_34 (hA.k (by decide) (by decide) rfl) (by first | assumption | omega) (by first | assumption | omega)).mpr ?_
      refine s314_35.mpr (s314_36.mpr ((s314_37 kM).mpr ?_))
      rw [mr_67 hR]
      refine s314_40.mpr (s314_41.mpr ?_)
      try simp (disch := first | decide | assumption | omega) only [kon, knt_some, knt_none, Option.toList_some, Option.toList_none, List.cons_append, List.nil_append, hn, hm, hc, eai, ehg, ePP, ehg2, eskP, hF, hAe, fAdd_id, fMul_id, fSub_id]
      refine (s314_42 (by omega) kM).mpr ?_
      first | refine r_act hA hR hp ?_ | refine r_act hA hR hpp ?_
      refine s314_45.mpr ?_
      refine (s314_46 (by first | decide | assumption | omega) (by first | decide | assumption | omega) (by first | decide | assumption | omega)).mpr ?_
      refine s314_47.mpr (s314_48.mpr ?_)
      try simp (disch := first | decide | assumption | omega) only [kon, knt_some, knt_none, Option.toList_some, Option.toList_none, List.cons_append, List.nil_append, hn, hm, hc, eai, ehg, ePP, ehg2, eskP, hF, hAe, fAdd_id, fMul_id, fSub_id]
      refine (s314_49 (by first | decide | assumption | omega) (by first | decide | assumption | omega) (by first | decide | assumption | omega)).mpr ?_
      refine s314_50.mpr (s314_51.mpr (s314_52.mpr ((s314_53 kM).mpr ?_)))
      rw [mr_67 hR]
      refine s314_56.mpr (s314_57.mpr ?_)
      try simp (disch := first | decide | assumption | omega) only [kon, knt_some, knt_none, Option.toList_some, Option.toList_none, List.cons_append, List.nil_append, hn, hm, hc, eai, ehg, ePP, ehg2, eskP, hF, hAe, fAdd_id, fMul_id, fSub_id]
      refine (s314_58 (by omega) kM).mpr ?_
      first | refine r_act hA hR hp ?_ | refine r_act hA hR hpp ?_
      refine (s314_61 (hA.k (by decide) (by decide) rfl) (by first | assumption | omega) (by first | assumption | omega)).mpr ?_
      try simp (disch := first | decide | assumption | omega) only [kon, knt_some, knt_none, Option.toList_some, Option.toList_none, List.cons_append, List.nil_append, hn, hm, hc, eai, ehg, ePP, ehg2, eskP, hF, hAe, fAdd_id, fMul_id, fSub_id]
      refine (s314_62 (by omega) kM).mpr ?_
      refine r_stack hA hR (by omega) hpp (by omega) ?_
      refine s314_65.mpr (s314_67.mpr (s314_68.mpr (s314_69.mpr ?_)))
      refine (s314_70 (by omega) kM).mpr ?_
      refine r_activate hA hR (by omega) hp.1 (by rw [P94]; omega) ?_
      refine s314_73.mpr (s314_74.mpr ?_)
      exact NX
end RI0
