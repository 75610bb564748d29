/-! RUNNING, the reference: spawn -/
section RL0
variable {d : Nat} {al : AL} {hi : HI} {hr : HR} {Q : QQ}
theorem staS_eq {s : HI} {p m f c : Int} : staS s p m f c = actS (staC s p m c 1025) p f := rfl
theorem staC_n {s : HI} {p m c j : Int} {a : Nat} {i : Int} (h : (a < 89 ∨ 94 < a) ∧ a ≠ 100 ∧ a ≠ 108) : staC s p m c j a i = s a i := by
  unfold staC; rw [if_neg (by omega), if_neg (by omega), if_neg (by omega), if_neg (by omega), if_neg (by omega)]
theorem staC_o {s : HI} {p m c j : Int} {a : Nat} {i : Int} (h : a ≠ 100) (h2 : i ≠ p) : staC s p m c j a i = s a i := by
  unfold staC; rw [if_neg (by omega), if_neg (by omega), if_neg (by omega), if_neg (by omega), if_neg (by omega)]
theorem staS_n {s : HI} {p m f c : Int} {a : Nat} {i : Int} (h : (a < 89 ∨ 100 < a) ∧ a ≠ 108) : staS s p m f c a i = s a i := by
  rw [staS_eq, actS_n (by omega), staC_n (by omega)]
theorem staS_o {s : HI} {p m f c : Int} {a : Nat} {i : Int} (h : a < 95) (h2 : i ≠ p) : staS s p m f c a i = s a i := by
  rw [staS_eq]
  unfold actS
  rw [if_neg (by omega), if_neg (by omega), if_neg (by omega), if_neg (by omega), if_neg (by omega), staC_o (by omega) h2]
theorem staS_v {s : HI} {p m f c : Int} {a : Nat} {i : Int} (h : a = 98 ∨ a = 99) (h2 : i < 26 * (16 * p) ∨ 26 * (16 * p) + 26 ≤ i) : staS s p m f c a i = s a i := by
  rw [staS_eq]
  unfold actS
  rw [staC_94]
  rw [if_neg (by omega), if_neg (by omega), if_neg (by omega), if_neg (by omega), if_neg (by omega), staC_n (by omega)]
theorem hndS_n {s : HI} {f i n9 : Int} {a : Nat} {j : Int} (h : (a ≠ 98 ∧ a ≠ 99) ∨ j < i) (h2 : a ≠ 110 ∧ a ≠ 113) : ∀ n, hndS s f i n9 n a j = s a j
  | 0 => rfl
  | n + 1 => by
    unfold hndS
    rw [ownS_n h2]
    have e : st2 (hndS s f i n9 n) (i + n) (hndS s f i n9 n 98 (f + n)) (hndS s f i n9 n 99 (f + n)) a j = hndS s f i n9 n a j := by
      unfold st2
      rcases h with h | h
      · rw [upI_a h.2, upI_a h.1]
      · rw [upI_i (by omega), upI_i (by omega)]
    rw [e]; exact hndS_n h h2 n
theorem hndS_v {s : HI} {f i n9 : Int} {a : Nat} {j : Int} (h2 : a ≠ 110 ∧ a ≠ 113) : ∀ n : Nat, (j < i ∨ i + n ≤ j) → hndS s f i n9 n a j = s a j
  | 0, _ => rfl
  | n + 1, h => by
    unfold hndS
    rw [ownS_n h2]
    have e : st2 (hndS s f i n9 n) (i + n) (hndS s f i n9 n 98 (f + n)) (hndS s f i n9 n 99 (f + n)) a j = hndS s f i n9 n a j := by
      unfold st2
      rw [upI_i (by omega), upI_i (by omega)]
    rw [e]; exact hndS_v h2 n (by omega)
theorem fMax_e {x y : Int} : fMax x y = if x < y then y else x := rfl
theorem r_spawn {p m f np : Int} (hA : SA al) (hR : MR hr) (hd : 54 ≤ d) (hp : AP hi p) (hlive : hi 89 p < 4) (hm : hi 91 p = m) (m0 : 0 ≤ m ∧ m < 12) (f0 : 0 ≤ f ∧ f < 10) (hc : hi 64 (10 * m + f) = np) (n0 : 0 ≤ np ∧ np ≤ 10 ∧ np ≤ hg hi p ∧ hg hi p ≤ 16) (hq : QB hi)
    (hpv : ∀ k, 0 ≤ k → k < np → (hi 99 (sk hi p (hg hi p - np) + k) = 2 → 0 ≤ hi 98 (sk hi p (hg hi p - np) + k) ∧ hi 98 (sk hi p (hg hi p - np) + k) < 128) ∧ (hi 99 (sk hi p (hg hi p - np) + k) = 3 → 0 ≤ hi 98 (sk hi p (hg hi p - np) + k) ∧ hi 98 (sk hi p (hg hi p - np) + k) < 24))
    (q : Q (some none) al (spnS hi p f np) hr) : Ev d 321 [vR (some 49), vI p, vI f] al hi hr Q := by
  have kM : isK al 49 13 := hA.k (by decide) (by decide) rfl
  have k64 : isK al 64 15 := hA.k (by decide) (by decide) rfl
  have l64 : aln al 64 = 130 := hA.len (by decide) (by decide) rfl
  have k97 : isK al 97 15 := hA.k (by decide) (by decide) rfl
  have l97 : aln al 97 = 192 := hA.len (by decide) (by decide) rfl
  have hb := hp.b
  obtain ⟨⟨p0, p1⟩, a0, a1⟩ := id hp
  have l89 := SA.len (a := 89) (n := 12) hA (by decide) (by decide) rfl
  have l64 := SA.len (a := 64) (n := 130) hA (by decide) (by decide) rfl
  have l91 := SA.len (a := 91) (n := 12) hA (by decide) (by decide) rfl
  have l97 := SA.len (a := 97) (n := 192) hA (by decide) (by decide) rfl
  have l92 := SA.len (a := 92) (n := 12) hA (by decide) (by decide) rfl
  have l98 := SA.len (a := 98) (n := 4992) hA (by decide) (by decide) rfl
  have l99 := SA.len (a := 99) (n := 4992) hA (by decide) (by decide) rfl
  unfold spnS at q
  obtain ⟨n, hn⟩ : ∃ n, frP hi = n := ⟨_, rfl⟩
  simp only [hn, hm] at q
  have T2 : ∀ (j9 : Nat) (i : Int), i + j9 = 12 → 0 ≤ i → frL (fun k => decide (hi 89 k < 4)) j9 i = n → (0 ≤ n ∧ n ≤ 12 → (n < 12 → 4 ≤ hi 89 n) → Wp d 321 24 [vR (some 49), vI p, vI f, vI n, none, none, none] [] al hi hr Q) → Wp d 321 2 [vR (some 49), vI p, vI f, vI i, none, none, none] [] al hi hr Q := by
    intro j9
    induction j9 with
    | zero =>
      intro i hj i0 hi9 NX
      have e : i = n := hi9
      subst e
      refine s321_2.mpr (s321_3.mpr ?_)
      refine s321_5.mpr (wif (fun c5 => ?_) (fun c5 => ?_))
      · skip
        exfalso; omega
      · skip
        exact NX ⟨by omega, by omega⟩ (fun z => absurd z (by omega))
    | succ j9 ih =>
      intro i hj i0 hi9 NX
      by_cases c : hi 89 i < 4
      · have NX2 := ih (i + 1) (by omega) (by omega) (by rw [← hi9, frL_y (decide_eq_true c)]) NX
        refine s321_2.mpr (s321_3.mpr ?_)
        refine s321_5.mpr (wif (fun c5 => ?_) (fun c5 => ?_))
        · first
          | (exfalso; omega)
          | skip
            refine s321_8.mpr ((s321_9 kM).mpr ?_)
            rw [mr_59 hR]
            refine s321_12.mpr ?_
            refine (s321_13 (hA.k (by decide) (by decide) rfl) (by first | assumption | omega) (by first | assumption | omega)).mpr ?_
            refine s321_14.mpr ?_
            try simp (disch := first | decide | assumption | omega) only [fAdd_id]
            refine s321_15.mpr (wif (fun c15 => ?_) (fun c15 => ?_))
            · first
              | (exfalso; omega)
              | skip
                refine s321_18.mpr (s321_21.mpr ?_)
                try simp (disch := first | decide | assumption | omega) only [fAdd_id]
                exact NX2
            · first
              | (exfalso; omega)
              | skip
                exfalso; omega
        · first
          | (exfalso; omega)
          | skip
            exfalso; omega
      · have e : i = n := by rw [← hi9, frL_n (decide_eq_false c)]
        subst e
        have NX2 := NX ⟨by omega, by omega⟩ (fun _ => by omega)
        refine s321_2.mpr (s321_3.mpr ?_)
        refine s321_5.mpr (wif (fun c5 => ?_) (fun c5 => ?_))
        · first
          | (exfalso; omega)
          | skip
            refine s321_8.mpr ((s321_9 kM).mpr ?_)
            rw [mr_59 hR]
            refine s321_12.mpr ?_
            refine (s321_13 (hA.k (by decide) (by decide) rfl) (by first | assumption | omega) (by first | assumption | omega)).mpr ?_
            refine s321_14.mpr ?_
            refine s321_15.mpr (wif (fun c15 => ?_) (fun c15 => ?_))
            · first
              | (exfalso; omega)
              | skip
                exfalso; omega
            · first
              | (exfalso; omega)
              | skip
                exact NX2
        · first
          | (exfalso; omega)
          | skip
            exact NX2
  have T24 : 0 ≤ n ∧ n ≤ 12 → (n < 12 → 4 ≤ hi 89 n) → Wp d 321 24 [vR (some 49), vI p, vI f, vI n, none, none, none] [] al hi hr Q := by
    intro hn0 hnd
    by_cases c : n = 12
    · rw [if_pos c] at q
      refine s321_24.mpr (s321_25.mpr ?_)
      refine s321_27.mpr (wif (fun c27 => ?_) (fun c27 => ?_))
      · skip
        refine s321_30.mpr (s321_31.mpr (s321_32.mpr ?_))
        refine (s321_34 (by omega) kM).mpr ?_
        refine r_trap hA hR (by omega) hq hp.1 ?_
        refine (s321_37).mpr ?_
        exact q
      · skip
        exact absurd c (by assumption)
    · rw [if_neg c] at q
      have hnp : n ≠ p := fun z => by have := hnd (by omega); rw [z] at this; omega
      have hpp : AP (pp hi p np) p := hp.po
      have eai : ai (pp hi p np) p = ai hi p := ppz_ai
      have ehg : hi 97 (ai hi p) = hg hi p := rfl
      have ehg2 : pp hi p np 97 (ai hi p) = hg hi p - np := upI_eq
      have hskv : sk hi p (hg hi p - np) = 26 * ai hi p + 10 + (hg hi p - np) := rfl
      have P98 : ∀ a i, a ≠ 97 → pp hi p np a i = hi a i := fun a i z => ppz_n z
      obtain ⟨P, hP⟩ : ∃ P, pp hi p np = P := ⟨_, rfl⟩
      have ePP : upI hi 97 (ai hi p) (hg hi p - np) = P := hP
      have eskP : ∀ k, sk P p k = sk hi p k := fun k => by rw [← hP, ppz_sk]
      rw [hP] at q hpp eai ehg2 P98
      have P92 : P 92 p = hi 92 p := P98 92 p (by decide)
      have P91 : P 91 p = m := (P98 91 p (by decide)).trans hm
      obtain ⟨A, hAe⟩ : ∃ A, staS P n m f (hi 92 p) = A := ⟨_, rfl⟩
      rw [hAe] at q
      obtain ⟨F, hF⟩ : ∃ F, sk hi p (hg hi p - np) = F := ⟨_, rfl⟩
      rw [hF] at q hskv hpv
      have haib : ai hi p = 16 * p + hi 94 p - 1 := rfl
      have A98 : ∀ a i, (a = 98 ∨ a = 99) → (i < 26 * (16 * n) ∨ 26 * (16 * n) + 26 ≤ i) → A a i = hi a i := fun a i z z2 => by rw [← hAe, staS_v z z2]; exact P98 a i (by omega)
      have A49 : A 49 56 = hi 49 56 := by rw [← hAe, staS_n (by decide)]; exact P98 49 56 (by decide)
      have ndj : ∀ k, 0 ≤ k → k < np → (F + k < 26 * (16 * n) ∨ 26 * (16 * n) + 26 ≤ F + k) := fun k k0 k1 => by omega
      have T109 : ∀ (j9 : Nat) (j : Int) (K : Nat), j + j9 = np → j = K → Wp d 321 109 [vR (some 49), vI p, vI f, vI n, vI np, vI F, vI j] [] al (hndS A F (26 * (16 * n)) n K) hr Q := by
        intro j9
        induction j9 with
        | zero =>
          intro j K hj hK
          have eK : np.toNat = K := by omega
          rw [eK] at q
          have x56 : hndS A F (26 * (16 * n)) n K 49 56 = hi 49 56 := (hndS_n (Or.inl (by decide)) (by decide) K).trans A49
          refine s321_109.mpr (s321_111.mpr ?_)
          refine s321_113.mpr (wif (fun c113 => ?_) (fun c113 => ?_))
          · skip
            exfalso; omega
          · skip
            refine s321_178.mpr (s321_179.mpr ?_)
            refine (s321_180 kM).mpr ?_
            refine s321_183.mpr (s321_184.mpr (s321_185.mpr (s321_186.mpr ?_)))
            try simp (disch := first | decide | assumption | omega) only [x56, fMax_e, fAdd_id]
            refine (s321_189 kM).mpr ?_
            try simp (disch := first | decide | assumption | omega) only [x56, fMax_e, fAdd_id]
            refine (s321_192).mpr ?_
            exact q
        | succ j9 ih =>
          intro j K hj hK
          have NX := ih (j + 1) (K + 1) (by omega) (by omega)
          have jb : 0 ≤ j ∧ j < np := by omega
          have nd := ndj j jb.1 jb.2
          have e98 : hndS A F (26 * (16 * n)) n K 98 (F + j) = hi 98 (F + j) := (hndS_v (by decide) K (by omega)).trans (A98 98 _ (Or.inl rfl) nd)
          have e99 : hndS A F (26 * (16 * n)) n K 99 (F + j) = hi 99 (F + j) := (hndS_v (by decide) K (by omega)).trans (A98 99 _ (Or.inr rfl) nd)
          have hpj := hpv j jb.1 jb.2
          obtain ⟨v, hv⟩ : ∃ v, hi 98 (F + j) = v := ⟨_, rfl⟩
          obtain ⟨w, hw⟩ : ∃ w, hi 99 (F + j) = w := ⟨_, rfl⟩
          rw [hv] at e98 hpj
          rw [hw] at e99 hpj
          have eM : hndS A F (26 * (16 * n)) n (K + 1) = ownS (st2 (hndS A F (26 * (16 * n)) n K) (26 * (16 * n) + j) v w) v w n := by rw [← e98, ← e99, hK]; rfl
          rw [eM] at NX
          clear eM ih ndj
          obtain ⟨M, hM⟩ : ∃ M, hndS A F (26 * (16 * n)) n K = M := ⟨_, rfl⟩
          rw [hM] at NX e98 e99 ⊢
          clear hK
          have f98 : st2 M (26 * (16 * n) + j) v w 98 (F + j) = v := by unfold st2; rw [upI_a (by decide), upI_i (by omega)]; exact e98
          have f99 : st2 M (26 * (16 * n) + j) v w 99 (F + j) = w := by unfold st2; rw [upI_i (by omega), upI_a (by decide)]; exact e99
          have eloc : 26 * (16 * n + 0) + j = 26 * (16 * n) + j := by omega
          refine s321_109.mpr (s321_111.mpr ?_)
          refine s321_113.mpr (wif (fun c113 => ?_) (fun c113 => ?_))
          · skip
            refine s321_116.mpr (s321_117.mpr (s321_118.mpr (s321_119.mpr ?_)))
            refine (s321_121 (by omega)).mpr ?_
            refine r_local (by omega) (by decide) (by omega) ?_
            refine s321_124.mpr ((s321_125 kM).mpr ?_)
            rw [mr_68 hR]
            refine s321_128.mpr (s321_130.mpr (s321_132.mpr ?_))
            try simp (disch := first | decide | assumption | omega) only [kon, knt_some, knt_none, Option.toList_some, Option.toList_none, List.cons_append, List.nil_append, e98, e99, f98, f99, eloc, fAdd_id]
            refine (s321_133 (hA.k (by decide) (by decide) rfl) (by first | assumption | omega) (by first | assumption | omega)).mpr ?_
            refine s321_134.mpr ((s321_135 kM).mpr ?_)
            rw [mr_69 hR]
            refine s321_138.mpr (s321_140.mpr (s321_142.mpr ?_))
            try simp (disch := first | decide | assumption | omega) only [kon, knt_some, knt_none, Option.toList_some, Option.toList_none, List.cons_append, List.nil_append, e98, e99, f98, f99, eloc, fAdd_id]
            refine (s321_143 (hA.k (by decide) (by decide) rfl) (by first | assumption | omega) (by first | assumption | omega)).mpr ?_
            try simp (disch := first | decide | assumption | omega) only [kon, knt_some, knt_none, Option.toList_some, Option.toList_none, List.cons_append, List.nil_append, e98, e99, f98, f99, eloc, fAdd_id]
            refine (s321_144 (by omega) kM).mpr ?_
            refine r_set hA hR (by omega) ?_
            refine s321_147.mpr (s321_148.mpr ((s321_149 kM).mpr ?_))
            rw [mr_68 hR]
            refine s321_152.mpr (s321_154.mpr (s321_156.mpr ?_))
            try simp (disch := first | decide | assumption | omega) only [kon, knt_some, knt_none, Option.toList_some, Option.toList_none, List.cons_append, List.nil_append, e98, e99, f98, f99, eloc, fAdd_id]
            refine (s321_157 (hA.k (by decide) (by decide) rfl) (by first | assumption | omega) (by first | assumption | omega)).mpr ?_
            refine s321_158.mpr ((s321_159 kM).mpr ?_)
            rw [mr_69 hR]
            refine s321_162.mpr (s321_164.mpr (s321_166.mpr ?_))
            try simp (disch := first | decide | assumption | omega) only [kon, knt_some, knt_none, Option.toList_some, Option.toList_none, List.cons_append, List.nil_append, e98, e99, f98, f99, eloc, fAdd_id]
            refine (s321_167 (hA.k (by decide) (by decide) rfl) (by first | assumption | omega) (by first | assumption | omega)).mpr ?_
            refine s321_168.mpr ?_
            try simp (disch := first | decide | assumption | omega) only [kon, knt_some, knt_none, Option.toList_some, Option.toList_none, List.cons_append, List.nil_append, e98, e99, f98, f99, eloc, fAdd_id]
            refine (s321_169 (by omega) kM).mpr ?_
            refine r_own hA hR hpj.1 hpj.2 ?_
            refine s321_172.mpr (s321_175.mpr ?_)
            try simp (disch := first | decide | assumption | omega) only [kon, knt_some, knt_none, Option.toList_some, Option.toList_none, List.cons_append, List.nil_append, e98, e99, f98, f99, eloc, fAdd_id]
            exact NX
          · skip
            exfalso; omega
      have NX := T109 np.toNat 0 0 (by omega) rfl
      rw [show hndS A F (26 * (16 * n)) n 0 = A from rfl] at NX
      rw [← hF, ← eskP, ← hAe] at NX
      clear T109
      refine s321_24.mpr (s321_25.mpr ?_)
      refine s321_27.mpr (wif (fun c27 => ?_) (fun c27 => ?_))
      · skip
        refine s321_30.mpr (s321_31.mpr (s321_32.mpr ?_))
        refine (s321_34 (by omega) kM).mpr ?_
        exfalso; omega
      · skip
        refine s321_38.mpr ((s321_39 kM).mpr ?_)
        rw [mr_16 hR]
        refine s321_42.mpr (s321_44.mpr ((s321_45 kM).mpr ?_))
        rw [mr_61 hR]
        refine s321_48.mpr ?_
        refine (s321_49 (hA.k (by decide) (by decide) rfl) (by first | assumption | omega) (by first | assumption | omega)).mpr ?_
        refine s321_50.mpr (s321_51.mpr (s321_52.mpr ?_))
        try simp (disch := first | decide | assumption | omega) only [kon, knt_some, knt_none, Option.toList_some, Option.toList_none, List.cons_append, List.nil_append, hm, hc, eai, ehg, ePP, ehg2, P91, P92, fAdd_id, fMul_id, fSub_id]
        refine (s321_53 (hA.k (by decide) (by decide) rfl) (by first | assumption | omega) (by first | assumption | omega)).mpr ?_
        refine s321_54.mpr (s321_56.mpr ((s321_57 kM).mpr ?_))
        rw [mr_67 hR]
        refine s321_60.mpr (s321_61.mpr ?_)
        try simp (disch := first | decide | assumption | omega) only [kon, knt_some, knt_none, Option.toList_some, Option.toList_none, List.cons_append, List.nil_append, hm, hc, eai, ehg, ePP, ehg2, P91, P92, fAdd_id, fMul_id, fSub_id]
        refine (s321_62 (by omega) kM).mpr ?_
        first | refine r_act hA hR hp ?_ | refine r_act hA hR hpp ?_
        refine s321_65.mpr ?_
        refine (s321_66 (by first | decide | assumption | omega) (by first | decide | assumption | omega) (by first | decide | assumption | omega)).mpr ?_
        refine s321_67.mpr (s321_69.mpr ?_)
        try simp (disch := first | decide | assumption | omega) only [kon, knt_some, knt_none, Option.toList_some, Option.toList_none, List.cons_append, List.nil_append, hm, hc, eai, ehg, ePP, ehg2, P91, P92, fAdd_id, fMul_id, fSub_id]
        refine (s321_70 (by first | decide | assumption | omega) (by first | decide | assumption | omega) (by first | decide | assumption | omega)).mpr ?_
        refine s321_71.mpr (s321_72.mpr (s321_73.mpr ((s321_74 kM).mpr ?_)))
        rw [mr_67 hR]
        refine s321_77.mpr (s321_78.mpr ?_)
        try simp (disch := first | decide | assumption | omega) only [kon, knt_some, knt_none, Option.toList_some, Option.toList_none, List.cons_append, List.nil_append, hm, hc, eai, ehg, ePP, ehg2, P91, P92, fAdd_id, fMul_id, fSub_id]
        refine (s321_79 (by omega) kM).mpr ?_
        first | refine r_act hA hR hp ?_ | refine r_act hA hR hpp ?_
        refine (s321_82 (hA.k (by decide) (by decide) rfl) (by first | assumption | omega) (by first | assumption | omega)).mpr ?_
        try simp (disch := first | decide | assumption | omega) only [kon, knt_some, knt_none, Option.toList_some, Option.toList_none, List.cons_append, List.nil_append, hm, hc, eai, ehg, ePP, ehg2, P91, P92, fAdd_id, fMul_id, fSub_id]
        refine (s321_83 (by omega) kM).mpr ?_
        refine r_stack hA hR (by omega) hpp (by omega) ?_
        refine s321_86.mpr (s321_88.mpr (s321_89.mpr (s321_90.mpr ((s321_91 kM).mpr ?_))))
        rw [mr_61 hR]
        refine s321_94.mpr ?_
        refine (s321_95 (hA.k (by decide) (by decide) rfl) (by first | assumption | omega) (by first | assumption | omega)).mpr ?_
        refine s321_96.mpr (s321_97.mpr ((s321_98 kM).mpr ?_))
        rw [mr_62 hR]
        refine s321_101.mpr ?_
        try simp (disch := first | decide | assumption | omega) only [kon, knt_some, knt_none, Option.toList_some, Option.toList_none, List.cons_append, List.nil_append, hm, hc, eai, ehg, ePP, ehg2, P91, P92, fAdd_id, fMul_id, fSub_id]
        refine (s321_102 (hA.k (by decide) (by decide) rfl) (by first | assumption | omega) (by first | assumption | omega)).mpr ?_
        try simp (disch := first | decide | assumption | omega) only [kon, knt_some, knt_none, Option.toList_some, Option.toList_none, List.cons_append, List.nil_append, hm, hc, eai, ehg, ePP, ehg2, P91, P92, fAdd_id, fMul_id, fSub_id]
        refine (s321_103 (by omega) kM).mpr ?_
        refine r_start hA hR (by omega) ⟨hn0.1, by omega⟩ ?_
        refine s321_106.mpr (s321_107.mpr ?_)
        exact NX
  have NX := T2 12 0 (by decide) (Int.le_refl _) hn T24
  rw [e321]
  refine s321_0.mpr (s321_1.mpr ?_)
  exact NX
end RL0
