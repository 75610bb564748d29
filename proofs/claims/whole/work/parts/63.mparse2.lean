/-! THE REFERENCE reads code -/
section MP2
variable {d : Nat} {al : AL} {hi : HI} {hr : HR} {Q : QQ}
/-- a loop that counts up -/
theorem wp_up {k h : Nat} {N : Int} (I : Int → List AV → HI → Prop)
    (body : ∀ i ls hi, 0 ≤ i → i < N → I i ls hi → (∀ ls' hi', I (i + 1) ls' hi' → Wp d k h ls' [] al hi' hr Q) → Wp d k h ls [] al hi hr Q)
    (fin : ∀ ls hi, I N ls hi → Wp d k h ls [] al hi hr Q) : ∀ i ls hi, 0 ≤ i → i ≤ N → I i ls hi → Wp d k h ls [] al hi hr Q := by
  have key : ∀ (n : Nat) i ls hi, 0 ≤ i → i + n = N → I i ls hi → Wp d k h ls [] al hi hr Q := by
    intro n
    induction n with
    | zero => intro i ls hi h0 h1 hI; rw [show i = N by omega] at hI; exact fin ls hi hI
    | succ n ih => intro i ls hi h0 h1 hI; exact body i ls hi h0 (by omega) hI (fun ls' hi' h' => ih (i + 1) ls' hi' (by omega) (by omega) h')
  intro i ls hi h0 h1 hI
  exact key (N - i).toNat i ls hi h0 (by omega) hI
theorem m_part {lo hg e : Int} (hA : SA al) (hR : MR hr) (h : PT hi) (hd : 2 ≤ d) (hq : if hi 49 26 = e then Q none al (fl1 hi 1 (hi 49 26)) hr else if lo ≤ bAt hi 12 (hi 49 26) ∧ bAt hi 12 (hi 49 26) ≤ hg then Q (some (some (vI (bAt hi 12 (hi 49 26))))) al (at1 hi (hi 49 26 + 1)) hr else Q none al (fl1 hi 1 (hi 49 26)) hr) : Ev d 233 [vR (some 49), vI lo, vI hg, vI e] al hi hr Q := by
  rw [e233]
  have kM : isK al 49 13 := hA.k (by decide) (by decide) rfl
  refine s233_0.mpr ?_
  refine (s233_1 kM).mpr ?_
  refine s233_4.mpr ?_
  try simp (disch := first | assumption | exact SA.k (by assumption) (by decide) (by decide) rfl | exact SA.q (by assumption) (by decide) (by decide) (by decide) | exact SA.r (by assumption) (by decide) (by decide) (by decide) | exact PTa (by assumption) (by assumption) (by omega) (by omega) | decide | omega | rfl) only [kon, knt_some, knt_none, Option.toList_some, Option.toList_none, List.cons_append, List.nil_append, upI_eq, upI_a, upI_i, upR_eq, upR_a, upR_i]
  refine s233_5.mpr (wif (fun c5 => ?_) (fun c5 => ?_))
  · skip
    refine s233_8.mpr (s233_9.mpr (s233_10.mpr ?_))
    refine (s233_11 kM).mpr ?_
    try simp (disch := first | assumption | exact SA.k (by assumption) (by decide) (by decide) rfl | exact SA.q (by assumption) (by decide) (by decide) (by decide) | exact SA.r (by assumption) (by decide) (by decide) (by decide) | exact PTa (by assumption) (by assumption) (by omega) (by omega) | decide | omega | rfl) only [kon, knt_some, knt_none, Option.toList_some, Option.toList_none, List.cons_append, List.nil_append, upI_eq, upI_a, upI_i, upR_eq, upR_a, upR_i]
    refine (s233_14 (by omega) kM).mpr ?_
    refine (m_fails hA hR).mpr ?_
    show tho 233 = true ∧ Q none _ _ _
    refine ⟨rfl, ?_⟩
    first | (exfalso; omega) | (simp (disch := first | assumption | exact SA.k (by assumption) (by decide) (by decide) rfl | exact SA.q (by assumption) (by decide) (by decide) (by decide) | exact SA.r (by assumption) (by decide) (by decide) (by decide) | exact PTa (by assumption) (by assumption) (by omega) (by omega) | decide | omega | rfl) only [if_pos, if_neg] at hq; exact hq)
  · skip
    refine s233_17.mpr (s233_18.mpr (s233_19.mpr ?_))
    refine (s233_20 (by omega) kM).mpr ?_
    refine (m_number hA hR (by first | assumption | exact SA.k (by assumption) (by decide) (by decide) rfl | exact SA.q (by assumption) (by decide) (by decide) (by decide) | exact SA.r (by assumption) (by decide) (by decide) (by decide) | exact PTa (by assumption) (by assumption) (by omega) (by omega) | decide | omega | rfl) (by omega)).mpr ?_
    try simp (disch := first | assumption | exact SA.k (by assumption) (by decide) (by decide) rfl | exact SA.q (by assumption) (by decide) (by decide) (by decide) | exact SA.r (by assumption) (by decide) (by decide) (by decide) | exact PTa (by assumption) (by assumption) (by omega) (by omega) | decide | omega | rfl) only [kon, knt_some, knt_none, Option.toList_some, Option.toList_none, List.cons_append, List.nil_append, upI_eq, upI_a, upI_i, upR_eq, upR_a, upR_i]
    refine wif (fun c20 => ?_) (fun c20 => ?_)
    · skip
      refine (s233_23).mpr ?_
      first | (exfalso; omega) | (simp (disch := first | assumption | exact SA.k (by assumption) (by decide) (by decide) rfl | exact SA.q (by assumption) (by decide) (by decide) (by decide) | exact SA.r (by assumption) (by decide) (by decide) (by decide) | exact PTa (by assumption) (by assumption) (by omega) (by omega) | decide | omega | rfl) only [if_pos, if_neg] at hq; exact hq)
    · skip
      show tho 233 = true ∧ Q none _ _ _
      refine ⟨rfl, ?_⟩
      first | (exfalso; omega) | (simp (disch := first | assumption | exact SA.k (by assumption) (by decide) (by decide) rfl | exact SA.q (by assumption) (by decide) (by decide) (by decide) | exact SA.r (by assumption) (by decide) (by decide) (by decide) | exact PTa (by assumption) (by assumption) (by omega) (by omega) | decide | omega | rfl) only [if_pos, if_neg] at hq; exact hq)
theorem m_noLocal {e : Int} (hA : SA al) (hR : MR hr) (hd : 1 ≤ d) (hq : Q none al (fl1 hi 1 (hi 49 26)) hr) : Ev d 235 [vR (some 49), vI e] al hi hr Q := by
  rw [e235]
  have kM : isK al 49 13 := hA.k (by decide) (by decide) rfl
  refine s235_0.mpr (s235_1.mpr (s235_2.mpr ?_))
  refine (s235_3 kM).mpr ?_
  refine (s235_6 (by omega) kM).mpr ?_
  refine (m_fails hA hR).mpr ?_
  show tho 235 = true ∧ Q none _ _ _
  refine ⟨rfl, ?_⟩
  exact hq
/-- parts, one behind another: loops of 'instruction' -/
def PI (hi0 : HI) (e : Int) (n : Int) (i : Int) (hi : HI) : Prop := ∃ p, hi = at1 hi0 p ∧ 0 ≤ p ∧ p ≤ 2000 ∧ ∀ r, lpE (prt (bAt hi0 12) e 0 255) (n - i).toNat p = r → lpE (prt (bAt hi0 12) e 0 255) n.toNat (hi0 49 26) = r
theorem PT_b {p : Int} (h : PT hi) (h0 : 0 ≤ p) (hb : ¬ bAt hi 12 p < 0) : p + 1 ≤ 2000 := by
  have := bAt_lt (hi := hi) (m := 12) (k := p) (by omega)
  have := h.2.1
  omega
theorem m_instruction {f e L : Int} (hA : SA al) (hR : MR hr) (h : PT hi) (hd : 3 ≤ d) (hf : 0 ≤ f ∧ f < 130) (hL : hi 67 f = L) (hL2 : 0 ≤ L ∧ L ≤ 10)
    (hq : kEx (insP (bAt hi 12) e L (hi 49 26)) (fun p' => Q (some none) al (at1 hi p') hr) (fun q => Q none al (fl1 (at1 hi q) 1 q) hr)) : Ev d 234 [vR (some 49), vI f, vI e] al hi hr Q := by
  have h' := h
  obtain ⟨h1, h2, h3, h4⟩ := h
  obtain ⟨p, hp⟩ : ∃ p, hi 49 26 = p := ⟨_, rfl⟩
  have hs : at1 hi p = hi := upI_same hp
  rw [hp] at h3 h4 hq
  have b0 := bAt_rng (hi := hi) 12 p
  have b1 := bAt_rng (hi := hi) 12 (p + 1)
  have l67 := SA.len (a := 67) (n := 130) hA (by decide) (by decide) rfl
  rw [e234]
  have t191 : ¬ p = e → bAt hi 12 p = 0 → ∀ l3 l5, Wp d 234 191 [vR (some 49), vI f, vI e, l3, vI 0, l5] [] al (at1 hi (p + 1)) hr Q := sorry
  have t298 : ¬ p = e → bAt hi 12 p = 38 → ¬ (p + 1) = e → (1 ≤ bAt hi 12 (p + 1) ∧ bAt hi 12 (p + 1) ≤ 4) → ∀ l3, Wp d 234 298 [vR (some 49), vI f, vI e, l3, vI (bAt hi 12 (p + 1)), vI 0] [] al (at1 hi (p + 2)) hr Q := sorry
  unfold insP prt nmb at hq
  have kM : isK al 49 13 := hA.k (by decide) (by decide) rfl
  refine s234_0.mpr (s234_1.mpr (s234_2.mpr (s234_4.mpr ?_)))
  refine (s234_5 (by omega) kM).mpr ?_
  refine m_part hA hR (by first | assumption | exact SA.k (by assumption) (by decide) (by decide) rfl | exact SA.q (by assumption) (by decide) (by decide) (by decide) | exact SA.r (by assumption) (by decide) (by decide) (by decide) | exact PTa (by assumption) (by assumption) (by omega) (by omega) | decide | omega | rfl) (by omega) ?_
  try simp (disch := first | assumption | exact SA.k (by assumption) (by decide) (by decide) rfl | exact SA.q (by assumption) (by decide) (by decide) (by decide) | exact SA.r (by assumption) (by decide) (by decide) (by decide) | exact PTa (by assumption) (by assumption) (by omega) (by omega) | decide | omega | rfl) only [kon, knt_some, knt_none, Option.toList_some, Option.toList_none, List.cons_append, List.nil_append, h1, hp, hL, upI_eq, upI_a, upI_i, upR_eq, upR_a, upR_i, upI_up, at1, fl1, bAt_up, fAdd_id, fSub_id, fMul_id]
  refine wif (fun c5 => ?_) (fun n5 => wif (fun c5 => ?_) (fun c5 => ?_))
  · skip
    show tho 234 = true ∧ Q none _ _ _
    refine ⟨rfl, ?_⟩
    first | (exfalso; omega) | (simp (disch := first | assumption | exact SA.k (by assumption) (by decide) (by decide) rfl | exact SA.q (by assumption) (by decide) (by decide) (by decide) | exact SA.r (by assumption) (by decide) (by decide) (by decide) | exact PTa (by assumption) (by assumption) (by omega) (by omega) | decide | omega | rfl) only [if_pos, if_neg, kEx_ok, kEx_er, bnd_ok, bnd_er] at hq; first | exact hq | (rw [hs] at hq; exact hq))
  · skip
    refine s234_8.mpr (s234_9.mpr ?_)
    refine s234_10.mpr ?_
    refine wif (fun c10 => ?_) (fun n10_0 => ?_)
    · skip
      refine s234_188.mpr (s234_189.mpr ?_)
      exact t191 (by assumption) (by omega) _ _
    refine wif (fun c10 => ?_) (fun n10_1 => ?_)
    · skip
      refine (s234_324).mpr ?_
      first | (exfalso; omega) | (simp (disch := first | assumption | exact SA.k (by assumption) (by decide) (by decide) rfl | exact SA.q (by assumption) (by decide) (by decide) (by decide) | exact SA.r (by assumption) (by decide) (by decide) (by decide) | exact PTa (by assumption) (by assumption) (by omega) (by omega) | decide | omega | rfl) only [if_pos, if_neg, kEx_ok, kEx_er, bnd_ok, bnd_er] at hq; first | exact hq | (rw [hs] at hq; exact hq))
    refine wif (fun c10 => ?_) (fun n10_2 => ?_)
    · skip
      refine s234_216.mpr ((s234_217 kM).mpr ?_)
      rw [mr_19 hR]
      refine s234_220.mpr ?_
      refine (s234_221 (hA.k (by decide) (by decide) rfl) (by first | assumption | omega) (by first | assumption | omega)).mpr ?_
      try simp (disch := first | assumption | exact SA.k (by assumption) (by decide) (by decide) rfl | exact SA.q (by assumption) (by decide) (by decide) (by decide) | exact SA.r (by assumption) (by decide) (by decide) (by decide) | exact PTa (by assumption) (by assumption) (by omega) (by omega) | decide | omega | rfl) only [kon, knt_some, knt_none, Option.toList_some, Option.toList_none, List.cons_append, List.nil_append, h1, hp, hL, upI_eq, upI_a, upI_i, upR_eq, upR_a, upR_i, upI_up, at1, fl1, bAt_up, fAdd_id, fSub_id, fMul_id]
      refine s234_222.mpr (wif (fun c222 => ?_) (fun c222 => ?_))
      · skip
        refine s234_225.mpr (s234_226.mpr ?_)
        refine (s234_227 (by omega) kM).mpr ?_
        refine m_noLocal hA hR (by omega) ?_
        try simp (disch := first | assumption | exact SA.k (by assumption) (by decide) (by decide) rfl | exact SA.q (by assumption) (by decide) (by decide) (by decide) | exact SA.r (by assumption) (by decide) (by decide) (by decide) | exact PTa (by assumption) (by assumption) (by omega) (by omega) | decide | omega | rfl) only [kon, knt_some, knt_none, Option.toList_some, Option.toList_none, List.cons_append, List.nil_append, h1, hp, hL, upI_eq, upI_a, upI_i, upR_eq, upR_a, upR_i, upI_up, at1, fl1, bAt_up, fAdd_id, fSub_id, fMul_id]
        show tho 234 = true ∧ Q none _ _ _
        refine ⟨rfl, ?_⟩
        first | (exfalso; omega) | (simp (disch := first | assumption | exact SA.k (by assumption) (by decide) (by decide) rfl | exact SA.q (by assumption) (by decide) (by decide) (by decide) | exact SA.r (by assumption) (by decide) (by decide) (by decide) | exact PTa (by assumption) (by assumption) (by omega) (by omega) | decide | omega | rfl) only [if_pos, if_neg, kEx_ok, kEx_er, bnd_ok, bnd_er] at hq; first | exact hq | (rw [hs] at hq; exact hq))
      · skip
        refine s234_233.mpr (s234_234.mpr (s234_235.mpr ((s234_236 kM).mpr ?_)))
        rw [mr_19 hR]
        refine s234_239.mpr ?_
        refine (s234_240 (hA.k (by decide) (by decide) rfl) (by first | assumption | omega) (by first | assumption | omega)).mpr ?_
        refine s234_241.mpr (s234_242.mpr (s234_243.mpr ?_))
        try simp (disch := first | assumption | exact SA.k (by assumption) (by decide) (by decide) rfl | exact SA.q (by assumption) (by decide) (by decide) (by decide) | exact SA.r (by assumption) (by decide) (by decide) (by decide) | exact PTa (by assumption) (by assumption) (by omega) (by omega) | decide | omega | rfl) only [kon, knt_some, knt_none, Option.toList_some, Option.toList_none, List.cons_append, List.nil_append, h1, hp, hL, upI_eq, upI_a, upI_i, upR_eq, upR_a, upR_i, upI_up, at1, fl1, bAt_up, fAdd_id, fSub_id, fMul_id]
        refine (s234_244 (by omega) kM).mpr ?_
        refine m_part hA hR (by first | assumption | exact SA.k (by assumption) (by decide) (by decide) rfl | exact SA.q (by assumption) (by decide) (by decide) (by decide) | exact SA.r (by assumption) (by decide) (by decide) (by decide) | exact PTa (by assumption) (by assumption) (by omega) (by omega) | decide | omega | rfl) (by omega) ?_
        try simp (disch := first | assumption | exact SA.k (by assumption) (by decide) (by decide) rfl | exact SA.q (by assumption) (by decide) (by decide) (by decide) | exact SA.r (by assumption) (by decide) (by decide) (by decide) | exact PTa (by assumption) (by assumption) (by omega) (by omega) | decide | omega | rfl) only [kon, knt_some, knt_none, Option.toList_some, Option.toList_none, List.cons_append, List.nil_append, h1, hp, hL, upI_eq, upI_a, upI_i, upR_eq, upR_a, upR_i, upI_up, at1, fl1, bAt_up, fAdd_id, fSub_id, fMul_id]
        refine wif (fun c244 => ?_) (fun n244 => wif (fun c244 => ?_) (fun c244 => ?_))
        · skip
          show tho 234 = true ∧ Q none _ _ _
          refine ⟨rfl, ?_⟩
          first | (exfalso; omega) | (simp (disch := first | assumption | exact SA.k (by assumption) (by decide) (by decide) rfl | exact SA.q (by assumption) (by decide) (by decide) (by decide) | exact SA.r (by assumption) (by decide) (by decide) (by decide) | exact PTa (by assumption) (by assumption) (by omega) (by omega) | decide | omega | rfl) only [if_pos, if_neg, kEx_ok, kEx_er, bnd_ok, bnd_er] at hq; first | exact hq | (rw [hs] at hq; exact hq))
        · skip
          refine s234_247.mpr (s234_248.mpr ?_)
          refine (s234_324).mpr ?_
          first | (exfalso; omega) | (simp (disch := first | assumption | exact SA.k (by assumption) (by decide) (by decide) rfl | exact SA.q (by assumption) (by decide) (by decide) (by decide) | exact SA.r (by assumption) (by decide) (by decide) (by decide) | exact PTa (by assumption) (by assumption) (by omega) (by omega) | decide | omega | rfl) only [if_pos, if_neg, kEx_ok, kEx_er, bnd_ok, bnd_er] at hq; first | exact hq | (rw [hs] at hq; exact hq))
        · skip
          show tho 234 = true ∧ Q none _ _ _
          refine ⟨rfl, ?_⟩
          first | (exfalso; omega) | (simp (disch := first | assumption | exact SA.k (by assumption) (by decide) (by decide) rfl | exact SA.q (by assumption) (by decide) (by decide) (by decide) | exact SA.r (by assumption) (by decide) (by decide) (by decide) | exact PTa (by assumption) (by assumption) (by omega) (by omega) | decide | omega | rfl) only [if_pos, if_neg, kEx_ok, kEx_er, bnd_ok, bnd_er] at hq; first | exact hq | (rw [hs] at hq; exact hq))
    refine wif (fun c10 => ?_) (fun n10_3 => ?_)
    · skip
      refine s234_216.mpr ((s234_217 kM).mpr ?_)
      rw [mr_19 hR]
      refine s234_220.mpr ?_
      refine (s234_221 (hA.k (by decide) (by decide) rfl) (by first | assumption | omega) (by first | assumption | omega)).mpr ?_
      try simp (disch := first | assumption | exact SA.k (by assumption) (by decide) (by decide) rfl | exact SA.q (by assumption) (by decide) (by decide) (by decide) | exact SA.r (by assumption) (by decide) (by decide) (by decide) | exact PTa (by assumption) (by assumption) (by omega) (by omega) | decide | omega | rfl) only [kon, knt_some, knt_none, Option.toList_some, Option.toList_none, List.cons_append, List.nil_append, h1, hp, hL, upI_eq, upI_a, upI_i, upR_eq, upR_a, upR_i, upI_up, at1, fl1, bAt_up, fAdd_id, fSub_id, fMul_id]
      refine s234_222.mpr (wif (fun c222 => ?_) (fun c222 => ?_))
      · skip
        refine s234_225.mpr (s234_226.mpr ?_)
        refine (s234_227 (by omega) kM).mpr ?_
        refine m_noLocal hA hR (by omega) ?_
        try simp (disch := first | assumption | exact SA.k (by assumption) (by decide) (by decide) rfl | exact SA.q (by assumption) (by decide) (by decide) (by decide) | exact SA.r (by assumption) (by decide) (by decide) (by decide) | exact PTa (by assumption) (by assumption) (by omega) (by omega) | decide | omega | rfl) only [kon, knt_some, knt_none, Option.toList_some, Option.toList_none, List.cons_append, List.nil_append, h1, hp, hL, upI_eq, upI_a, upI_i, upR_eq, upR_a, upR_i, upI_up, at1, fl1, bAt_up, fAdd_id, fSub_id, fMul_id]
        show tho 234 = true ∧ Q none _ _ _
        refine ⟨rfl, ?_⟩
        first | (exfalso; omega) | (simp (disch := first | assumption | exact SA.k (by assumption) (by decide) (by decide) rfl | exact SA.q (by assumption) (by decide) (by decide) (by decide) | exact SA.r (by assumption) (by decide) (by decide) (by decide) | exact PTa (by assumption) (by assumption) (by omega) (by omega) | decide | omega | rfl) only [if_pos, if_neg, kEx_ok, kEx_er, bnd_ok, bnd_er] at hq; first | exact hq | (rw [hs] at hq; exact hq))
      · skip
        refine s234_233.mpr (s234_234.mpr (s234_235.mpr ((s234_236 kM).mpr ?_)))
        rw [mr_19 hR]
        refine s234_239.mpr ?_
        refine (s234_240 (hA.k (by decide) (by decide) rfl) (by first | assumption | omega) (by first | assumption | omega)).mpr ?_
        refine s234_241.mpr (s234_242.mpr (s234_243.mpr ?_))
        try simp (disch := first | assumption | exact SA.k (by assumption) (by decide) (by decide) rfl | exact SA.q (by assumption) (by decide) (by decide) (by decide) | exact SA.r (by assumption) (by decide) (by decide) (by decide) | exact PTa (by assumption) (by assumption) (by omega) (by omega) | decide | omega | rfl) only [kon, knt_some, knt_none, Option.toList_some, Option.toList_none, List.cons_append, List.nil_append, h1, hp, hL, upI_eq, upI_a, upI_i, upR_eq, upR_a, upR_i, upI_up, at1, fl1, bAt_up, fAdd_id, fSub_id, fMul_id]
        refine (s234_244 (by omega) kM).mpr ?_
        refine m_part hA hR (by first | assumption | exact SA.k (by assumption) (by decide) (by decide) rfl | exact SA.q (by assumption) (by decide) (by decide) (by decide) | exact SA.r (by assumption) (by decide) (by decide) (by decide) | exact PTa (by assumption) (by assumption) (by omega) (by omega) | decide | omega | rfl) (by omega) ?_
        try simp (disch := first | assumption | exact SA.k (by assumption) (by decide) (by decide) rfl | exact SA.q (by assumption) (by decide) (by decide) (by decide) | exact SA.r (by assumption) (by decide) (by decide) (by decide) | exact PTa (by assumption) (by assumption) (by omega) (by omega) | decide | omega | rfl) only [kon, knt_some, knt_none, Option.toList_some, Option.toList_none, List.cons_append, List.nil_append, h1, hp, hL, upI_eq, upI_a, upI_i, upR_eq, upR_a, upR_i, upI_up, at1, fl1, bAt_up, fAdd_id, fSub_id, fMul_id]
        refine wif (fun c244 => ?_) (fun n244 => wif (fun c244 => ?_) (fun c244 => ?_))
        · skip
          show tho 234 = true ∧ Q none _ _ _
          refine ⟨rfl, ?_⟩
          first | (exfalso; omega) | (simp (disch := first | assumption | exact SA.k (by assumption) (by decide) (by decide) rfl | exact SA.q (by assumption) (by decide) (by decide) (by decide) | exact SA.r (by assumption) (by decide) (by decide) (by decide) | exact PTa (by assumption) (by assumption) (by omega) (by omega) | decide | omega | rfl) only [if_pos, if_neg, kEx_ok, kEx_er, bnd_ok, bnd_er] at hq; first | exact hq | (rw [hs] at hq; exact hq))
        · skip
          refine s234_247.mpr (s234_248.mpr ?_)
          refine (s234_324).mpr ?_
          first | (exfalso; omega) | (simp (disch := first | assumption | exact SA.k (by assumption) (by decide) (by decide) rfl | exact SA.q (by assumption) (by decide) (by decide) (by decide) | exact SA.r (by assumption) (by decide) (by decide) (by decide) | exact PTa (by assumption) (by assumption) (by omega) (by omega) | decide | omega | rfl) only [if_pos, if_neg, kEx_ok, kEx_er, bnd_ok, bnd_er] at hq; first | exact hq | (rw [hs] at hq; exact hq))
        · skip
          show tho 234 = true ∧ Q none _ _ _
          refine ⟨rfl, ?_⟩
          first | (exfalso; omega) | (simp (disch := first | assumption | exact SA.k (by assumption) (by decide) (by decide) rfl | exact SA.q (by assumption) (by decide) (by decide) (by decide) | exact SA.r (by assumption) (by decide) (by decide) (by decide) | exact PTa (by assumption) (by assumption) (by omega) (by omega) | decide | omega | rfl) only [if_pos, if_neg, kEx_ok, kEx_er, bnd_ok, bnd_er] at hq; first | exact hq | (rw [hs] at hq; exact hq))
    refine wif (fun c10 => ?_) (fun n10_4 => ?_)
    · skip
      refine (s234_324).mpr ?_
      first | (exfalso; omega) | (simp (disch := first | assumption | exact SA.k (by assumption) (by decide) (by decide) rfl | exact SA.q (by assumption) (by decide) (by decide) (by decide) | exact SA.r (by assumption) (by decide) (by decide) (by decide) | exact PTa (by assumption) (by assumption) (by omega) (by omega) | decide | omega | rfl) only [if_pos, if_neg, kEx_ok, kEx_er, bnd_ok, bnd_er] at hq; first | exact hq | (rw [hs] at hq; exact hq))
    refine wif (fun c10 => ?_) (fun n10_5 => ?_)
    · skip
      refine (s234_324).mpr ?_
      first | (exfalso; omega) | (simp (disch := first | assumption | exact SA.k (by assumption) (by decide) (by decide) rfl | exact SA.q (by assumption) (by decide) (by decide) (by decide) | exact SA.r (by assumption) (by decide) (by decide) (by decide) | exact PTa (by assumption) (by assumption) (by omega) (by omega) | decide | omega | rfl) only [if_pos, if_neg, kEx_ok, kEx_er, bnd_ok, bnd_er] at hq; first | exact hq | (rw [hs] at hq; exact hq))
    refine wif (fun c10 => ?_) (fun n10_6 => ?_)
    · skip
      refine (s234_324).mpr ?_
      first | (exfalso; omega) | (simp (disch := first | assumption | exact SA.k (by assumption) (by decide) (by decide) rfl | exact SA.q (by assumption) (by decide) (by decide) (by decide) | exact SA.r (by assumption) (by decide) (by decide) (by decide) | exact PTa (by assumption) (by assumption) (by omega) (by omega) | decide | omega | rfl) only [if_pos, if_neg, kEx_ok, kEx_er, bnd_ok, bnd_er] at hq; first | exact hq | (rw [hs] at hq; exact hq))
    refine wif (fun c10 => ?_) (fun n10_7 => ?_)
    · skip
      refine (s234_324).mpr ?_
      first | (exfalso; omega) | (simp (disch := first | assumption | exact SA.k (by assumption) (by decide) (by decide) rfl | exact SA.q (by assumption) (by decide) (by decide) (by decide) | exact SA.r (by assumption) (by decide) (by decide) (by decide) | exact PTa (by assumption) (by assumption) (by omega) (by omega) | decide | omega | rfl) only [if_pos, if_neg, kEx_ok, kEx_er, bnd_ok, bnd_er] at hq; first | exact hq | (rw [hs] at hq; exact hq))
    refine wif (fun c10 => ?_) (fun n10_8 => ?_)
    · skip
      refine (s234_324).mpr ?_
      first | (exfalso; omega) | (simp (disch := first | assumption | exact SA.k (by assumption) (by decide) (by decide) rfl | exact SA.q (by assumption) (by decide) (by decide) (by decide) | exact SA.r (by assumption) (by decide) (by decide) (by decide) | exact PTa (by assumption) (by assumption) (by omega) (by omega) | decide | omega | rfl) only [if_pos, if_neg, kEx_ok, kEx_er, bnd_ok, bnd_er] at hq; first | exact hq | (rw [hs] at hq; exact hq))
    refine wif (fun c10 => ?_) (fun n10_9 => ?_)
    · skip
      refine (s234_324).mpr ?_
      first | (exfalso; omega) | (simp (disch := first | assumption | exact SA.k (by assumption) (by decide) (by decide) rfl | exact SA.q (by assumption) (by decide) (by decide) (by decide) | exact SA.r (by assumption) (by decide) (by decide) (by decide) | exact PTa (by assumption) (by assumption) (by omega) (by omega) | decide | omega | rfl) only [if_pos, if_neg, kEx_ok, kEx_er, bnd_ok, bnd_er] at hq; first | exact hq | (rw [hs] at hq; exact hq))
    refine wif (fun c10 => ?_) (fun n10_10 => ?_)
    · skip
      refine (s234_324).mpr ?_
      first | (exfalso; omega) | (simp (disch := first | assumption | exact SA.k (by assumption) (by decide) (by decide) rfl | exact SA.q (by assumption) (by decide) (by decide) (by decide) | exact SA.r (by assumption) (by decide) (by decide) (by decide) | exact PTa (by assumption) (by assumption) (by omega) (by omega) | decide | omega | rfl) only [if_pos, if_neg, kEx_ok, kEx_er, bnd_ok, bnd_er] at hq; first | exact hq | (rw [hs] at hq; exact hq))
    refine wif (fun c10 => ?_) (fun n10_11 => ?_)
    · skip
      refine (s234_324).mpr ?_
      first | (exfalso; omega) | (simp (disch := first | assumption | exact SA.k (by assumption) (by decide) (by decide) rfl | exact SA.q (by assumption) (by decide) (by decide) (by decide) | exact SA.r (by assumption) (by decide) (by decide) (by decide) | exact PTa (by assumption) (by assumption) (by omega) (by omega) | decide | omega | rfl) only [if_pos, if_neg, kEx_ok, kEx_er, bnd_ok, bnd_er] at hq; first | exact hq | (rw [hs] at hq; exact hq))
    refine wif (fun c10 => ?_) (fun n10_12 => ?_)
    · skip
      refine (s234_324).mpr ?_
      first | (exfalso; omega) | (simp (disch := first | assumption | exact SA.k (by assumption) (by decide) (by decide) rfl | exact SA.q (by assumption) (by decide) (by decide) (by decide) | exact SA.r (by assumption) (by decide) (by decide) (by decide) | exact PTa (by assumption) (by assumption) (by omega) (by omega) | decide | omega | rfl) only [if_pos, if_neg, kEx_ok, kEx_er, bnd_ok, bnd_er] at hq; first | exact hq | (rw [hs] at hq; exact hq))
    refine wif (fun c10 => ?_) (fun n10_13 => ?_)
    · skip
      refine (s234_324).mpr ?_
      first | (exfalso; omega) | (simp (disch := first | assumption | exact SA.k (by assumption) (by decide) (by decide) rfl | exact SA.q (by assumption) (by decide) (by decide) (by decide) | exact SA.r (by assumption) (by decide) (by decide) (by decide) | exact PTa (by assumption) (by assumption) (by omega) (by omega) | decide | omega | rfl) only [if_pos, if_neg, kEx_ok, kEx_er, bnd_ok, bnd_er] at hq; first | exact hq | (rw [hs] at hq; exact hq))
    refine wif (fun c10 => ?_) (fun n10_14 => ?_)
    · skip
      refine (s234_324).mpr ?_
      first | (exfalso; omega) | (simp (disch := first | assumption | exact SA.k (by assumption) (by decide) (by decide) rfl | exact SA.q (by assumption) (by decide) (by decide) (by decide) | exact SA.r (by assumption) (by decide) (by decide) (by decide) | exact PTa (by assumption) (by assumption) (by omega) (by omega) | decide | omega | rfl) only [if_pos, if_neg, kEx_ok, kEx_er, bnd_ok, bnd_er] at hq; first | exact hq | (rw [hs] at hq; exact hq))
    refine wif (fun c10 => ?_) (fun n10_15 => ?_)
    · skip
      refine (s234_324).mpr ?_
      first | (exfalso; omega) | (simp (disch := first | assumption | exact SA.k (by assumption) (by decide) (by decide) rfl | exact SA.q (by assumption) (by decide) (by decide) (by decide) | exact SA.r (by assumption) (by decide) (by decide) (by decide) | exact PTa (by assumption) (by assumption) (by omega) (by omega) | decide | omega | rfl) only [if_pos, if_neg, kEx_ok, kEx_er, bnd_ok, bnd_er] at hq; first | exact hq | (rw [hs] at hq; exact hq))
    refine wif (fun c10 => ?_) (fun n10_16 => ?_)
    · skip
      refine (s234_324).mpr ?_
      first | (exfalso; omega) | (simp (disch := first | assumption | exact SA.k (by assumption) (by decide) (by decide) rfl | exact SA.q (by assumption) (by decide) (by decide) (by decide) | exact SA.r (by assumption) (by decide) (by decide) (by decide) | exact PTa (by assumption) (by assumption) (by omega) (by omega) | decide | omega | rfl) only [if_pos, if_neg, kEx_ok, kEx_er, bnd_ok, bnd_er] at hq; first | exact hq | (rw [hs] at hq; exact hq))
    refine wif (fun c10 => ?_) (fun n10_17 => ?_)
    · skip
      refine (s234_324).mpr ?_
      first | (exfalso; omega) | (simp (disch := first | assumption | exact SA.k (by assumption) (by decide) (by decide) rfl | exact SA.q (by assumption) (by decide) (by decide) (by decide) | exact SA.r (by assumption) (by decide) (by decide) (by decide) | exact PTa (by assumption) (by assumption) (by omega) (by omega) | decide | omega | rfl) only [if_pos, if_neg, kEx_ok, kEx_er, bnd_ok, bnd_er] at hq; first | exact hq | (rw [hs] at hq; exact hq))
    refine wif (fun c10 => ?_) (fun n10_18 => ?_)
    · skip
      refine (s234_324).mpr ?_
      first | (exfalso; omega) | (simp (disch := first | assumption | exact SA.k (by assumption) (by decide) (by decide) rfl | exact SA.q (by assumption) (by decide) (by decide) (by decide) | exact SA.r (by assumption) (by decide) (by decide) (by decide) | exact PTa (by assumption) (by assumption) (by omega) (by omega) | decide | omega | rfl) only [if_pos, if_neg, kEx_ok, kEx_er, bnd_ok, bnd_er] at hq; first | exact hq | (rw [hs] at hq; exact hq))
    refine wif (fun c10 => ?_) (fun n10_19 => ?_)
    · skip
      refine (s234_324).mpr ?_
      first | (exfalso; omega) | (simp (disch := first | assumption | exact SA.k (by assumption) (by decide) (by decide) rfl | exact SA.q (by assumption) (by decide) (by decide) (by decide) | exact SA.r (by assumption) (by decide) (by decide) (by decide) | exact PTa (by assumption) (by assumption) (by omega) (by omega) | decide | omega | rfl) only [if_pos, if_neg, kEx_ok, kEx_er, bnd_ok, bnd_er] at hq; first | exact hq | (rw [hs] at hq; exact hq))
    refine wif (fun c10 => ?_) (fun n10_20 => ?_)
    · skip
      refine s234_251.mpr (s234_252.mpr (s234_253.mpr (s234_256.mpr ?_)))
      refine (s234_257 (by omega) kM).mpr ?_
      refine m_part hA hR (by first | assumption | exact SA.k (by assumption) (by decide) (by decide) rfl | exact SA.q (by assumption) (by decide) (by decide) (by decide) | exact SA.r (by assumption) (by decide) (by decide) (by decide) | exact PTa (by assumption) (by assumption) (by omega) (by omega) | decide | omega | rfl) (by omega) ?_
      try simp (disch := first | assumption | exact SA.k (by assumption) (by decide) (by decide) rfl | exact SA.q (by assumption) (by decide) (by decide) (by decide) | exact SA.r (by assumption) (by decide) (by decide) (by decide) | exact PTa (by assumption) (by assumption) (by omega) (by omega) | decide | omega | rfl) only [kon, knt_some, knt_none, Option.toList_some, Option.toList_none, List.cons_append, List.nil_append, h1, hp, hL, upI_eq, upI_a, upI_i, upR_eq, upR_a, upR_i, upI_up, at1, fl1, bAt_up, fAdd_id, fSub_id, fMul_id]
      refine wif (fun c257 => ?_) (fun n257 => wif (fun c257 => ?_) (fun c257 => ?_))
      · skip
        show tho 234 = true ∧ Q none _ _ _
        refine ⟨rfl, ?_⟩
        first | (exfalso; omega) | (simp (disch := first | assumption | exact SA.k (by assumption) (by decide) (by decide) rfl | exact SA.q (by assumption) (by decide) (by decide) (by decide) | exact SA.r (by assumption) (by decide) (by decide) (by decide) | exact PTa (by assumption) (by assumption) (by omega) (by omega) | decide | omega | rfl) only [if_pos, if_neg, kEx_ok, kEx_er, bnd_ok, bnd_er] at hq; first | exact hq | (rw [hs] at hq; exact hq))
      · skip
        refine s234_260.mpr (s234_261.mpr ?_)
        refine (s234_324).mpr ?_
        first | (exfalso; omega) | (simp (disch := first | assumption | exact SA.k (by assumption) (by decide) (by decide) rfl | exact SA.q (by assumption) (by decide) (by decide) (by decide) | exact SA.r (by assumption) (by decide) (by decide) (by decide) | exact PTa (by assumption) (by assumption) (by omega) (by omega) | decide | omega | rfl) only [if_pos, if_neg, kEx_ok, kEx_er, bnd_ok, bnd_er] at hq; first | exact hq | (rw [hs] at hq; exact hq))
      · skip
        show tho 234 = true ∧ Q none _ _ _
        refine ⟨rfl, ?_⟩
        first | (exfalso; omega) | (simp (disch := first | assumption | exact SA.k (by assumption) (by decide) (by decide) rfl | exact SA.q (by assumption) (by decide) (by decide) (by decide) | exact SA.r (by assumption) (by decide) (by decide) (by decide) | exact PTa (by assumption) (by assumption) (by omega) (by omega) | decide | omega | rfl) only [if_pos, if_neg, kEx_ok, kEx_er, bnd_ok, bnd_er] at hq; first | exact hq | (rw [hs] at hq; exact hq))
    refine wif (fun c10 => ?_) (fun n10_21 => ?_)
    · skip
      refine s234_251.mpr (s234_252.mpr (s234_253.mpr (s234_256.mpr ?_)))
      refine (s234_257 (by omega) kM).mpr ?_
      refine m_part hA hR (by first | assumption | exact SA.k (by assumption) (by decide) (by decide) rfl | exact SA.q (by assumption) (by decide) (by decide) (by decide) | exact SA.r (by assumption) (by decide) (by decide) (by decide) | exact PTa (by assumption) (by assumption) (by omega) (by omega) | decide | omega | rfl) (by omega) ?_
      try simp (disch := first | assumption | exact SA.k (by assumption) (by decide) (by decide) rfl | exact SA.q (by assumption) (by decide) (by decide) (by decide) | exact SA.r (by assumption) (by decide) (by decide) (by decide) | exact PTa (by assumption) (by assumption) (by omega) (by omega) | decide | omega | rfl) only [kon, knt_some, knt_none, Option.toList_some, Option.toList_none, List.cons_append, List.nil_append, h1, hp, hL, upI_eq, upI_a, upI_i, upR_eq, upR_a, upR_i, upI_up, at1, fl1, bAt_up, fAdd_id, fSub_id, fMul_id]
      refine wif (fun c257 => ?_) (fun n257 => wif (fun c257 => ?_) (fun c257 => ?_))
      · skip
        show tho 234 = true ∧ Q none _ _ _
        refine ⟨rfl, ?_⟩
        first | (exfalso; omega) | (simp (disch := first | assumption | exact SA.k (by assumption) (by decide) (by decide) rfl | exact SA.q (by assumption) (by decide) (by decide) (by decide) | exact SA.r (by assumption) (by decide) (by decide) (by decide) | exact PTa (by assumption) (by assumption) (by omega) (by omega) | decide | omega | rfl) only [if_pos, if_neg, kEx_ok, kEx_er, bnd_ok, bnd_er] at hq; first | exact hq | (rw [hs] at hq; exact hq))
      · skip
        refine s234_260.mpr (s234_261.mpr ?_)
        refine (s234_324).mpr ?_
        first | (exfalso; omega) | (simp (disch := first | assumption | exact SA.k (by assumption) (by decide) (by decide) rfl | exact SA.q (by assumption) (by decide) (by decide) (by decide) | exact SA.r (by assumption) (by decide) (by decide) (by decide) | exact PTa (by assumption) (by assumption) (by omega) (by omega) | decide | omega | rfl) only [if_pos, if_neg, kEx_ok, kEx_er, bnd_ok, bnd_er] at hq; first | exact hq | (rw [hs] at hq; exact hq))
      · skip
        show tho 234 = true ∧ Q none _ _ _
        refine ⟨rfl, ?_⟩
        first | (exfalso; omega) | (simp (disch := first | assumption | exact SA.k (by assumption) (by decide) (by decide) rfl | exact SA.q (by assumption) (by decide) (by decide) (by decide) | exact SA.r (by assumption) (by decide) (by decide) (by decide) | exact PTa (by assumption) (by assumption) (by omega) (by omega) | decide | omega | rfl) only [if_pos, if_neg, kEx_ok, kEx_er, bnd_ok, bnd_er] at hq; first | exact hq | (rw [hs] at hq; exact hq))
    refine wif (fun c10 => ?_) (fun n10_22 => ?_)
    · skip
      refine s234_251.mpr (s234_252.mpr (s234_253.mpr (s234_256.mpr ?_)))
      refine (s234_257 (by omega) kM).mpr ?_
      refine m_part hA hR (by first | assumption | exact SA.k (by assumption) (by decide) (by decide) rfl | exact SA.q (by assumption) (by decide) (by decide) (by decide) | exact SA.r (by assumption) (by decide) (by decide) (by decide) | exact PTa (by assumption) (by assumption) (by omega) (by omega) | decide | omega | rfl) (by omega) ?_
      try simp (disch := first | assumption | exact SA.k (by assumption) (by decide) (by decide) rfl | exact SA.q (by assumption) (by decide) (by decide) (by decide) | exact SA.r (by assumption) (by decide) (by decide) (by decide) | exact PTa (by assumption) (by assumption) (by omega) (by omega) | decide | omega | rfl) only [kon, knt_some, knt_none, Option.toList_some, Option.toList_none, List.cons_append, List.nil_append, h1, hp, hL, upI_eq, upI_a, upI_i, upR_eq, upR_a, upR_i, upI_up, at1, fl1, bAt_up, fAdd_id, fSub_id, fMul_id]
      refine wif (fun c257 => ?_) (fun n257 => wif (fun c257 => ?_) (fun c257 => ?_))
      · skip
        show tho 234 = true ∧ Q none _ _ _
        refine ⟨rfl, ?_⟩
        first | (exfalso; omega) | (simp (disch := first | assumption | exact SA.k (by assumption) (by decide) (by decide) rfl | exact SA.q (by assumption) (by decide) (by decide) (by decide) | exact SA.r (by assumption) (by decide) (by decide) (by decide) | exact PTa (by assumption) (by assumption) (by omega) (by omega) | decide | omega | rfl) only [if_pos, if_neg, kEx_ok, kEx_er, bnd_ok, bnd_er] at hq; first | exact hq | (rw [hs] at hq; exact hq))
      · skip
        refine s234_260.mpr (s234_261.mpr ?_)
        refine (s234_324).mpr ?_
        first | (exfalso; omega) | (simp (disch := first | assumption | exact SA.k (by assumption) (by decide) (by decide) rfl | exact SA.q (by assumption) (by decide) (by decide) (by decide) | exact SA.r (by assumption) (by decide) (by decide) (by decide) | exact PTa (by assumption) (by assumption) (by omega) (by omega) | decide | omega | rfl) only [if_pos, if_neg, kEx_ok, kEx_er, bnd_ok, bnd_er] at hq; first | exact hq | (rw [hs] at hq; exact hq))
      · skip
        show tho 234 = true ∧ Q none _ _ _
        refine ⟨rfl, ?_⟩
        first | (exfalso; omega) | (simp (disch := first | assumption | exact SA.k (by assumption) (by decide) (by decide) rfl | exact SA.q (by assumption) (by decide) (by decide) (by decide) | exact SA.r (by assumption) (by decide) (by decide) (by decide) | exact PTa (by assumption) (by assumption) (by omega) (by omega) | decide | omega | rfl) only [if_pos, if_neg, kEx_ok, kEx_er, bnd_ok, bnd_er] at hq; first | exact hq | (rw [hs] at hq; exact hq))
    refine wif (fun c10 => ?_) (fun n10_23 => ?_)
    · skip
      refine s234_264.mpr (s234_265.mpr (s234_266.mpr (s234_267.mpr ?_)))
      refine (s234_268 (by omega) kM).mpr ?_
      refine m_part hA hR (by first | assumption | exact SA.k (by assumption) (by decide) (by decide) rfl | exact SA.q (by assumption) (by decide) (by decide) (by decide) | exact SA.r (by assumption) (by decide) (by decide) (by decide) | exact PTa (by assumption) (by assumption) (by omega) (by omega) | decide | omega | rfl) (by omega) ?_
      try simp (disch := first | assumption | exact SA.k (by assumption) (by decide) (by decide) rfl | exact SA.q (by assumption) (by decide) (by decide) (by decide) | exact SA.r (by assumption) (by decide) (by decide) (by decide) | exact PTa (by assumption) (by assumption) (by omega) (by omega) | decide | omega | rfl) only [kon, knt_some, knt_none, Option.toList_some, Option.toList_none, List.cons_append, List.nil_append, h1, hp, hL, upI_eq, upI_a, upI_i, upR_eq, upR_a, upR_i, upI_up, at1, fl1, bAt_up, fAdd_id, fSub_id, fMul_id]
      refine wif (fun c268 => ?_) (fun n268 => wif (fun c268 => ?_) (fun c268 => ?_))
      · skip
        show tho 234 = true ∧ Q none _ _ _
        refine ⟨rfl, ?_⟩
        first | (exfalso; omega) | (simp (disch := first | assumption | exact SA.k (by assumption) (by decide) (by decide) rfl | exact SA.q (by assumption) (by decide) (by decide) (by decide) | exact SA.r (by assumption) (by decide) (by decide) (by decide) | exact PTa (by assumption) (by assumption) (by omega) (by omega) | decide | omega | rfl) only [if_pos, if_neg, kEx_ok, kEx_er, bnd_ok, bnd_er] at hq; first | exact hq | (rw [hs] at hq; exact hq))
      · skip
        refine s234_271.mpr (s234_272.mpr ?_)
        refine (s234_324).mpr ?_
        first | (exfalso; omega) | (simp (disch := first | assumption | exact SA.k (by assumption) (by decide) (by decide) rfl | exact SA.q (by assumption) (by decide) (by decide) (by decide) | exact SA.r (by assumption) (by decide) (by decide) (by decide) | exact PTa (by assumption) (by assumption) (by omega) (by omega) | decide | omega | rfl) only [if_pos, if_neg, kEx_ok, kEx_er, bnd_ok, bnd_er] at hq; first | exact hq | (rw [hs] at hq; exact hq))
      · skip
        show tho 234 = true ∧ Q none _ _ _
        refine ⟨rfl, ?_⟩
        first | (exfalso; omega) | (simp (disch := first | assumption | exact SA.k (by assumption) (by decide) (by decide) rfl | exact SA.q (by assumption) (by decide) (by decide) (by decide) | exact SA.r (by assumption) (by decide) (by decide) (by decide) | exact PTa (by assumption) (by assumption) (by omega) (by omega) | decide | omega | rfl) only [if_pos, if_neg, kEx_ok, kEx_er, bnd_ok, bnd_er] at hq; first | exact hq | (rw [hs] at hq; exact hq))
    refine wif (fun c10 => ?_) (fun n10_24 => ?_)
    · skip
      refine s234_264.mpr (s234_265.mpr (s234_266.mpr (s234_267.mpr ?_)))
      refine (s234_268 (by omega) kM).mpr ?_
      refine m_part hA hR (by first | assumption | exact SA.k (by assumption) (by decide) (by decide) rfl | exact SA.q (by assumption) (by decide) (by decide) (by decide) | exact SA.r (by assumption) (by decide) (by decide) (by decide) | exact PTa (by assumption) (by assumption) (by omega) (by omega) | decide | omega | rfl) (by omega) ?_
      try simp (disch := first | assumption | exact SA.k (by assumption) (by decide) (by decide) rfl | exact SA.q (by assumption) (by decide) (by decide) (by decide) | exact SA.r (by assumption) (by decide) (by decide) (by decide) | exact PTa (by assumption) (by assumption) (by omega) (by omega) | decide | omega | rfl) only [kon, knt_some, knt_none, Option.toList_some, Option.toList_none, List.cons_append, List.nil_append, h1, hp, hL, upI_eq, upI_a, upI_i, upR_eq, upR_a, upR_i, upI_up, at1, fl1, bAt_up, fAdd_id, fSub_id, fMul_id]
      refine wif (fun c268 => ?_) (fun n268 => wif (fun c268 => ?_) (fun c268 => ?_))
      · skip
        show tho 234 = true ∧ Q none _ _ _
        refine ⟨rfl, ?_⟩
        first | (exfalso; omega) | (simp (disch := first | assumption | exact SA.k (by assumption) (by decide) (by decide) rfl | exact SA.q (by assumption) (by decide) (by decide) (by decide) | exact SA.r (by assumption) (by decide) (by decide) (by decide) | exact PTa (by assumption) (by assumption) (by omega) (by omega) | decide | omega | rfl) only [if_pos, if_neg, kEx_ok, kEx_er, bnd_ok, bnd_er] at hq; first | exact hq | (rw [hs] at hq; exact hq))
      · skip
        refine s234_271.mpr (s234_272.mpr ?_)
        refine (s234_324).mpr ?_
        first | (exfalso; omega) | (simp (disch := first | assumption | exact SA.k (by assumption) (by decide) (by decide) rfl | exact SA.q (by assumption) (by decide) (by decide) (by decide) | exact SA.r (by assumption) (by decide) (by decide) (by decide) | exact PTa (by assumption) (by assumption) (by omega) (by omega) | decide | omega | rfl) only [if_pos, if_neg, kEx_ok, kEx_er, bnd_ok, bnd_er] at hq; first | exact hq | (rw [hs] at hq; exact hq))
      · skip
        show tho 234 = true ∧ Q none _ _ _
        refine ⟨rfl, ?_⟩
        first | (exfalso; omega) | (simp (disch := first | assumption | exact SA.k (by assumption) (by decide) (by decide) rfl | exact SA.q (by assumption) (by decide) (by decide) (by decide) | exact SA.r (by assumption) (by decide) (by decide) (by decide) | exact PTa (by assumption) (by assumption) (by omega) (by omega) | decide | omega | rfl) only [if_pos, if_neg, kEx_ok, kEx_er, bnd_ok, bnd_er] at hq; first | exact hq | (rw [hs] at hq; exact hq))
    refine wif (fun c10 => ?_) (fun n10_25 => ?_)
    · skip
      refine (s234_324).mpr ?_
      first | (exfalso; omega) | (simp (disch := first | assumption | exact SA.k (by assumption) (by decide) (by decide) rfl | exact SA.q (by assumption) (by decide) (by decide) (by decide) | exact SA.r (by assumption) (by decide) (by decide) (by decide) | exact PTa (by assumption) (by assumption) (by omega) (by omega) | decide | omega | rfl) only [if_pos, if_neg, kEx_ok, kEx_er, bnd_ok, bnd_er] at hq; first | exact hq | (rw [hs] at hq; exact hq))
    refine wif (fun c10 => ?_) (fun n10_26 => ?_)
    · skip
      refine s234_251.mpr (s234_252.mpr (s234_253.mpr (s234_256.mpr ?_)))
      refine (s234_257 (by omega) kM).mpr ?_
      refine m_part hA hR (by first | assumption | exact SA.k (by assumption) (by decide) (by decide) rfl | exact SA.q (by assumption) (by decide) (by decide) (by decide) | exact SA.r (by assumption) (by decide) (by decide) (by decide) | exact PTa (by assumption) (by assumption) (by omega) (by omega) | decide | omega | rfl) (by omega) ?_
      try simp (disch := first | assumption | exact SA.k (by assumption) (by decide) (by decide) rfl | exact SA.q (by assumption) (by decide) (by decide) (by decide) | exact SA.r (by assumption) (by decide) (by decide) (by decide) | exact PTa (by assumption) (by assumption) (by omega) (by omega) | decide | omega | rfl) only [kon, knt_some, knt_none, Option.toList_some, Option.toList_none, List.cons_append, List.nil_append, h1, hp, hL, upI_eq, upI_a, upI_i, upR_eq, upR_a, upR_i, upI_up, at1, fl1, bAt_up, fAdd_id, fSub_id, fMul_id]
      refine wif (fun c257 => ?_) (fun n257 => wif (fun c257 => ?_) (fun c257 => ?_))
      · skip
        show tho 234 = true ∧ Q none _ _ _
        refine ⟨rfl, ?_⟩
        first | (exfalso; omega) | (simp (disch := first | assumption | exact SA.k (by assumption) (by decide) (by decide) rfl | exact SA.q (by assumption) (by decide) (by decide) (by decide) | exact SA.r (by assumption) (by decide) (by decide) (by decide) | exact PTa (by assumption) (by assumption) (by omega) (by omega) | decide | omega | rfl) only [if_pos, if_neg, kEx_ok, kEx_er, bnd_ok, bnd_er] at hq; first | exact hq | (rw [hs] at hq; exact hq))
      · skip
        refine s234_260.mpr (s234_261.mpr ?_)
        refine (s234_324).mpr ?_
        first | (exfalso; omega) | (simp (disch := first | assumption | exact SA.k (by assumption) (by decide) (by decide) rfl | exact SA.q (by assumption) (by decide) (by decide) (by decide) | exact SA.r (by assumption) (by decide) (by decide) (by decide) | exact PTa (by assumption) (by assumption) (by omega) (by omega) | decide | omega | rfl) only [if_pos, if_neg, kEx_ok, kEx_er, bnd_ok, bnd_er] at hq; first | exact hq | (rw [hs] at hq; exact hq))
      · skip
        show tho 234 = true ∧ Q none _ _ _
        refine ⟨rfl, ?_⟩
        first | (exfalso; omega) | (simp (disch := first | assumption | exact SA.k (by assumption) (by decide) (by decide) rfl | exact SA.q (by assumption) (by decide) (by decide) (by decide) | exact SA.r (by assumption) (by decide) (by decide) (by decide) | exact PTa (by assumption) (by assumption) (by omega) (by omega) | decide | omega | rfl) only [if_pos, if_neg, kEx_ok, kEx_er, bnd_ok, bnd_er] at hq; first | exact hq | (rw [hs] at hq; exact hq))
    refine wif (fun c10 => ?_) (fun n10_27 => ?_)
    · skip
      refine (s234_324).mpr ?_
      first | (exfalso; omega) | (simp (disch := first | assumption | exact SA.k (by assumption) (by decide) (by decide) rfl | exact SA.q (by assumption) (by decide) (by decide) (by decide) | exact SA.r (by assumption) (by decide) (by decide) (by decide) | exact PTa (by assumption) (by assumption) (by omega) (by omega) | decide | omega | rfl) only [if_pos, if_neg, kEx_ok, kEx_er, bnd_ok, bnd_er] at hq; first | exact hq | (rw [hs] at hq; exact hq))
    refine wif (fun c10 => ?_) (fun n10_28 => ?_)
    · skip
      refine (s234_324).mpr ?_
      first | (exfalso; omega) | (simp (disch := first | assumption | exact SA.k (by assumption) (by decide) (by decide) rfl | exact SA.q (by assumption) (by decide) (by decide) (by decide) | exact SA.r (by assumption) (by decide) (by decide) (by decide) | exact PTa (by assumption) (by assumption) (by omega) (by omega) | decide | omega | rfl) only [if_pos, if_neg, kEx_ok, kEx_er, bnd_ok, bnd_er] at hq; first | exact hq | (rw [hs] at hq; exact hq))
    refine wif (fun c10 => ?_) (fun n10_29 => ?_)
    · skip
      refine (s234_324).mpr ?_
      first | (exfalso; omega) | (simp (disch := first | assumption | exact SA.k (by assumption) (by decide) (by decide) rfl | exact SA.q (by assumption) (by decide) (by decide) (by decide) | exact SA.r (by assumption) (by decide) (by decide) (by decide) | exact PTa (by assumption) (by assumption) (by omega) (by omega) | decide | omega | rfl) only [if_pos, if_neg, kEx_ok, kEx_er, bnd_ok, bnd_er] at hq; first | exact hq | (rw [hs] at hq; exact hq))
    refine wif (fun c10 => ?_) (fun n10_30 => ?_)
    · skip
      refine s234_251.mpr (s234_252.mpr (s234_253.mpr (s234_256.mpr ?_)))
      refine (s234_257 (by omega) kM).mpr ?_
      refine m_part hA hR (by first | assumption | exact SA.k (by assumption) (by decide) (by decide) rfl | exact SA.q (by assumption) (by decide) (by decide) (by decide) | exact SA.r (by assumption) (by decide) (by decide) (by decide) | exact PTa (by assumption) (by assumption) (by omega) (by omega) | decide | omega | rfl) (by omega) ?_
      try simp (disch := first | assumption | exact SA.k (by assumption) (by decide) (by decide) rfl | exact SA.q (by assumption) (by decide) (by decide) (by decide) | exact SA.r (by assumption) (by decide) (by decide) (by decide) | exact PTa (by assumption) (by assumption) (by omega) (by omega) | decide | omega | rfl) only [kon, knt_some, knt_none, Option.toList_some, Option.toList_none, List.cons_append, List.nil_append, h1, hp, hL, upI_eq, upI_a, upI_i, upR_eq, upR_a, upR_i, upI_up, at1, fl1, bAt_up, fAdd_id, fSub_id, fMul_id]
      refine wif (fun c257 => ?_) (fun n257 => wif (fun c257 => ?_) (fun c257 => ?_))
      · skip
        show tho 234 = true ∧ Q none _ _ _
        refine ⟨rfl, ?_⟩
        first | (exfalso; omega) | (simp (disch := first | assumption | exact SA.k (by assumption) (by decide) (by decide) rfl | exact SA.q (by assumption) (by decide) (by decide) (by decide) | exact SA.r (by assumption) (by decide) (by decide) (by decide) | exact PTa (by assumption) (by assumption) (by omega) (by omega) | decide | omega | rfl) only [if_pos, if_neg, kEx_ok, kEx_er, bnd_ok, bnd_er] at hq; first | exact hq | (rw [hs] at hq; exact hq))
      · skip
        refine s234_260.mpr (s234_261.mpr ?_)
        refine (s234_324).mpr ?_
        first | (exfalso; omega) | (simp (disch := first | assumption | exact SA.k (by assumption) (by decide) (by decide) rfl | exact SA.q (by assumption) (by decide) (by decide) (by decide) | exact SA.r (by assumption) (by decide) (by decide) (by decide) | exact PTa (by assumption) (by assumption) (by omega) (by omega) | decide | omega | rfl) only [if_pos, if_neg, kEx_ok, kEx_er, bnd_ok, bnd_er] at hq; first | exact hq | (rw [hs] at hq; exact hq))
      · skip
        show tho 234 = true ∧ Q none _ _ _
        refine ⟨rfl, ?_⟩
        first | (exfalso; omega) | (simp (disch := first | assumption | exact SA.k (by assumption) (by decide) (by decide) rfl | exact SA.q (by assumption) (by decide) (by decide) (by decide) | exact SA.r (by assumption) (by decide) (by decide) (by decide) | exact PTa (by assumption) (by assumption) (by omega) (by omega) | decide | omega | rfl) only [if_pos, if_neg, kEx_ok, kEx_er, bnd_ok, bnd_er] at hq; first | exact hq | (rw [hs] at hq; exact hq))
    refine wif (fun c10 => ?_) (fun n10_31 => ?_)
    · skip
      refine (s234_324).mpr ?_
      first | (exfalso; omega) | (simp (disch := first | assumption | exact SA.k (by assumption) (by decide) (by decide) rfl | exact SA.q (by assumption) (by decide) (by decide) (by decide) | exact SA.r (by assumption) (by decide) (by decide) (by decide) | exact PTa (by assumption) (by assumption) (by omega) (by omega) | decide | omega | rfl) only [if_pos, if_neg, kEx_ok, kEx_er, bnd_ok, bnd_er] at hq; first | exact hq | (rw [hs] at hq; exact hq))
    refine wif (fun c10 => ?_) (fun n10_32 => ?_)
    · skip
      refine s234_251.mpr (s234_252.mpr (s234_253.mpr (s234_256.mpr ?_)))
      refine (s234_257 (by omega) kM).mpr ?_
      refine m_part hA hR (by first | assumption | exact SA.k (by assumption) (by decide) (by decide) rfl | exact SA.q (by assumption) (by decide) (by decide) (by decide) | exact SA.r (by assumption) (by decide) (by decide) (by decide) | exact PTa (by assumption) (by assumption) (by omega) (by omega) | decide | omega | rfl) (by omega) ?_
      try simp (disch := first | assumption | exact SA.k (by assumption) (by decide) (by decide) rfl | exact SA.q (by assumption) (by decide) (by decide) (by decide) | exact SA.r (by assumption) (by decide) (by decide) (by decide) | exact PTa (by assumption) (by assumption) (by omega) (by omega) | decide | omega | rfl) only [kon, knt_some, knt_none, Option.toList_some, Option.toList_none, List.cons_append, List.nil_append, h1, hp, hL, upI_eq, upI_a, upI_i, upR_eq, upR_a, upR_i, upI_up, at1, fl1, bAt_up, fAdd_id, fSub_id, fMul_id]
      refine wif (fun c257 => ?_) (fun n257 => wif (fun c257 => ?_) (fun c257 => ?_))
      · skip
        show tho 234 = true ∧ Q none _ _ _
        refine ⟨rfl, ?_⟩
        first | (exfalso; omega) | (simp (disch := first | assumption | exact SA.k (by assumption) (by decide) (by decide) rfl | exact SA.q (by assumption) (by decide) (by decide) (by decide) | exact SA.r (by assumption) (by decide) (by decide) (by decide) | exact PTa (by assumption) (by assumption) (by omega) (by omega) | decide | omega | rfl) only [if_pos, if_neg, kEx_ok, kEx_er, bnd_ok, bnd_er] at hq; first | exact hq | (rw [hs] at hq; exact hq))
      · skip
        refine s234_260.mpr (s234_261.mpr ?_)
        refine (s234_324).mpr ?_
        first | (exfalso; omega) | (simp (disch := first | assumption | exact SA.k (by assumption) (by decide) (by decide) rfl | exact SA.q (by assumption) (by decide) (by decide) (by decide) | exact SA.r (by assumption) (by decide) (by decide) (by decide) | exact PTa (by assumption) (by assumption) (by omega) (by omega) | decide | omega | rfl) only [if_pos, if_neg, kEx_ok, kEx_er, bnd_ok, bnd_er] at hq; first | exact hq | (rw [hs] at hq; exact hq))
      · skip
        show tho 234 = true ∧ Q none _ _ _
        refine ⟨rfl, ?_⟩
        first | (exfalso; omega) | (simp (disch := first | assumption | exact SA.k (by assumption) (by decide) (by decide) rfl | exact SA.q (by assumption) (by decide) (by decide) (by decide) | exact SA.r (by assumption) (by decide) (by decide) (by decide) | exact PTa (by assumption) (by assumption) (by omega) (by omega) | decide | omega | rfl) only [if_pos, if_neg, kEx_ok, kEx_er, bnd_ok, bnd_er] at hq; first | exact hq | (rw [hs] at hq; exact hq))
    refine wif (fun c10 => ?_) (fun n10_33 => ?_)
    · skip
      refine s234_264.mpr (s234_265.mpr (s234_266.mpr (s234_267.mpr ?_)))
      refine (s234_268 (by omega) kM).mpr ?_
      refine m_part hA hR (by first | assumption | exact SA.k (by assumption) (by decide) (by decide) rfl | exact SA.q (by assumption) (by decide) (by decide) (by decide) | exact SA.r (by assumption) (by decide) (by decide) (by decide) | exact PTa (by assumption) (by assumption) (by omega) (by omega) | decide | omega | rfl) (by omega) ?_
      try simp (disch := first | assumption | exact SA.k (by assumption) (by decide) (by decide) rfl | exact SA.q (by assumption) (by decide) (by decide) (by decide) | exact SA.r (by assumption) (by decide) (by decide) (by decide) | exact PTa (by assumption) (by assumption) (by omega) (by omega) | decide | omega | rfl) only [kon, knt_some, knt_none, Option.toList_some, Option.toList_none, List.cons_append, List.nil_append, h1, hp, hL, upI_eq, upI_a, upI_i, upR_eq, upR_a, upR_i, upI_up, at1, fl1, bAt_up, fAdd_id, fSub_id, fMul_id]
      refine wif (fun c268 => ?_) (fun n268 => wif (fun c268 => ?_) (fun c268 => ?_))
      · skip
        show tho 234 = true ∧ Q none _ _ _
        refine ⟨rfl, ?_⟩
        first | (exfalso; omega) | (simp (disch := first | assumption | exact SA.k (by assumption) (by decide) (by decide) rfl | exact SA.q (by assumption) (by decide) (by decide) (by decide) | exact SA.r (by assumption) (by decide) (by decide) (by decide) | exact PTa (by assumption) (by assumption) (by omega) (by omega) | decide | omega | rfl) only [if_pos, if_neg, kEx_ok, kEx_er, bnd_ok, bnd_er] at hq; first | exact hq | (rw [hs] at hq; exact hq))
      · skip
        refine s234_271.mpr (s234_272.mpr ?_)
        refine (s234_324).mpr ?_
        first | (exfalso; omega) | (simp (disch := first | assumption | exact SA.k (by assumption) (by decide) (by decide) rfl | exact SA.q (by assumption) (by decide) (by decide) (by decide) | exact SA.r (by assumption) (by decide) (by decide) (by decide) | exact PTa (by assumption) (by assumption) (by omega) (by omega) | decide | omega | rfl) only [if_pos, if_neg, kEx_ok, kEx_er, bnd_ok, bnd_er] at hq; first | exact hq | (rw [hs] at hq; exact hq))
      · skip
        show tho 234 = true ∧ Q none _ _ _
        refine ⟨rfl, ?_⟩
        first | (exfalso; omega) | (simp (disch := first | assumption | exact SA.k (by assumption) (by decide) (by decide) rfl | exact SA.q (by assumption) (by decide) (by decide) (by decide) | exact SA.r (by assumption) (by decide) (by decide) (by decide) | exact PTa (by assumption) (by assumption) (by omega) (by omega) | decide | omega | rfl) only [if_pos, if_neg, kEx_ok, kEx_er, bnd_ok, bnd_er] at hq; first | exact hq | (rw [hs] at hq; exact hq))
    refine wif (fun c10 => ?_) (fun n10_34 => ?_)
    · skip
      refine s234_264.mpr (s234_265.mpr (s234_266.mpr (s234_267.mpr ?_)))
      refine (s234_268 (by omega) kM).mpr ?_
      refine m_part hA hR (by first | assumption | exact SA.k (by assumption) (by decide) (by decide) rfl | exact SA.q (by assumption) (by decide) (by decide) (by decide) | exact SA.r (by assumption) (by decide) (by decide) (by decide) | exact PTa (by assumption) (by assumption) (by omega) (by omega) | decide | omega | rfl) (by omega) ?_
      try simp (disch := first | assumption | exact SA.k (by assumption) (by decide) (by decide) rfl | exact SA.q (by assumption) (by decide) (by decide) (by decide) | exact SA.r (by assumption) (by decide) (by decide) (by decide) | exact PTa (by assumption) (by assumption) (by omega) (by omega) | decide | omega | rfl) only [kon, knt_some, knt_none, Option.toList_some, Option.toList_none, List.cons_append, List.nil_append, h1, hp, hL, upI_eq, upI_a, upI_i, upR_eq, upR_a, upR_i, upI_up, at1, fl1, bAt_up, fAdd_id, fSub_id, fMul_id]
      refine wif (fun c268 => ?_) (fun n268 => wif (fun c268 => ?_) (fun c268 => ?_))
      · skip
        show tho 234 = true ∧ Q none _ _ _
        refine ⟨rfl, ?_⟩
        first | (exfalso; omega) | (simp (disch := first | assumption | exact SA.k (by assumption) (by decide) (by decide) rfl | exact SA.q (by assumption) (by decide) (by decide) (by decide) | exact SA.r (by assumption) (by decide) (by decide) (by decide) | exact PTa (by assumption) (by assumption) (by omega) (by omega) | decide | omega | rfl) only [if_pos, if_neg, kEx_ok, kEx_er, bnd_ok, bnd_er] at hq; first | exact hq | (rw [hs] at hq; exact hq))
      · skip
        refine s234_271.mpr (s234_272.mpr ?_)
        refine (s234_324).mpr ?_
        first | (exfalso; omega) | (simp (disch := first | assumption | exact SA.k (by assumption) (by decide) (by decide) rfl | exact SA.q (by assumption) (by decide) (by decide) (by decide) | exact SA.r (by assumption) (by decide) (by decide) (by decide) | exact PTa (by assumption) (by assumption) (by omega) (by omega) | decide | omega | rfl) only [if_pos, if_neg, kEx_ok, kEx_er, bnd_ok, bnd_er] at hq; first | exact hq | (rw [hs] at hq; exact hq))
      · skip
        show tho 234 = true ∧ Q none _ _ _
        refine ⟨rfl, ?_⟩
        first | (exfalso; omega) | (simp (disch := first | assumption | exact SA.k (by assumption) (by decide) (by decide) rfl | exact SA.q (by assumption) (by decide) (by decide) (by decide) | exact SA.r (by assumption) (by decide) (by decide) (by decide) | exact PTa (by assumption) (by assumption) (by omega) (by omega) | decide | omega | rfl) only [if_pos, if_neg, kEx_ok, kEx_er, bnd_ok, bnd_er] at hq; first | exact hq | (rw [hs] at hq; exact hq))
    refine wif (fun c10 => ?_) (fun n10_35 => ?_)
    · skip
      refine (s234_324).mpr ?_
      first | (exfalso; omega) | (simp (disch := first | assumption | exact SA.k (by assumption) (by decide) (by decide) rfl | exact SA.q (by assumption) (by decide) (by decide) (by decide) | exact SA.r (by assumption) (by decide) (by decide) (by decide) | exact PTa (by assumption) (by assumption) (by omega) (by omega) | decide | omega | rfl) only [if_pos, if_neg, kEx_ok, kEx_er, bnd_ok, bnd_er] at hq; first | exact hq | (rw [hs] at hq; exact hq))
    refine wif (fun c10 => ?_) (fun n10_36 => ?_)
    · skip
      refine s234_251.mpr (s234_252.mpr (s234_253.mpr (s234_256.mpr ?_)))
      refine (s234_257 (by omega) kM).mpr ?_
      refine m_part hA hR (by first | assumption | exact SA.k (by assumption) (by decide) (by decide) rfl | exact SA.q (by assumption) (by decide) (by decide) (by decide) | exact SA.r (by assumption) (by decide) (by decide) (by decide) | exact PTa (by assumption) (by assumption) (by omega) (by omega) | decide | omega | rfl) (by omega) ?_
      try simp (disch := first | assumption | exact SA.k (by assumption) (by decide) (by decide) rfl | exact SA.q (by assumption) (by decide) (by decide) (by decide) | exact SA.r (by assumption) (by decide) (by decide) (by decide) | exact PTa (by assumption) (by assumption) (by omega) (by omega) | decide | omega | rfl) only [kon, knt_some, knt_none, Option.toList_some, Option.toList_none, List.cons_append, List.nil_append, h1, hp, hL, upI_eq, upI_a, upI_i, upR_eq, upR_a, upR_i, upI_up, at1, fl1, bAt_up, fAdd_id, fSub_id, fMul_id]
      refine wif (fun c257 => ?_) (fun n257 => wif (fun c257 => ?_) (fun c257 => ?_))
      · skip
        show tho 234 = true ∧ Q none _ _ _
        refine ⟨rfl, ?_⟩
        first | (exfalso; omega) | (simp (disch := first | assumption | exact SA.k (by assumption) (by decide) (by decide) rfl | exact SA.q (by assumption) (by decide) (by decide) (by decide) | exact SA.r (by assumption) (by decide) (by decide) (by decide) | exact PTa (by assumption) (by assumption) (by omega) (by omega) | decide | omega | rfl) only [if_pos, if_neg, kEx_ok, kEx_er, bnd_ok, bnd_er] at hq; first | exact hq | (rw [hs] at hq; exact hq))
      · skip
        refine s234_260.mpr (s234_261.mpr ?_)
        refine (s234_324).mpr ?_
        first | (exfalso; omega) | (simp (disch := first | assumption | exact SA.k (by assumption) (by decide) (by decide) rfl | exact SA.q (by assumption) (by decide) (by decide) (by decide) | exact SA.r (by assumption) (by decide) (by decide) (by decide) | exact PTa (by assumption) (by assumption) (by omega) (by omega) | decide | omega | rfl) only [if_pos, if_neg, kEx_ok, kEx_er, bnd_ok, bnd_er] at hq; first | exact hq | (rw [hs] at hq; exact hq))
      · skip
        show tho 234 = true ∧ Q none _ _ _
        refine ⟨rfl, ?_⟩
        first | (exfalso; omega) | (simp (disch := first | assumption | exact SA.k (by assumption) (by decide) (by decide) rfl | exact SA.q (by assumption) (by decide) (by decide) (by decide) | exact SA.r (by assumption) (by decide) (by decide) (by decide) | exact PTa (by assumption) (by assumption) (by omega) (by omega) | decide | omega | rfl) only [if_pos, if_neg, kEx_ok, kEx_er, bnd_ok, bnd_er] at hq; first | exact hq | (rw [hs] at hq; exact hq))
    refine wif (fun c10 => ?_) (fun n10_37 => ?_)
    · skip
      refine s234_275.mpr (s234_276.mpr (s234_277.mpr (s234_278.mpr ?_)))
      refine (s234_279 (by omega) kM).mpr ?_
      refine m_part hA hR (by first | assumption | exact SA.k (by assumption) (by decide) (by decide) rfl | exact SA.q (by assumption) (by decide) (by decide) (by decide) | exact SA.r (by assumption) (by decide) (by decide) (by decide) | exact PTa (by assumption) (by assumption) (by omega) (by omega) | decide | omega | rfl) (by omega) ?_
      try simp (disch := first | assumption | exact SA.k (by assumption) (by decide) (by decide) rfl | exact SA.q (by assumption) (by decide) (by decide) (by decide) | exact SA.r (by assumption) (by decide) (by decide) (by decide) | exact PTa (by assumption) (by assumption) (by omega) (by omega) | decide | omega | rfl) only [kon, knt_some, knt_none, Option.toList_some, Option.toList_none, List.cons_append, List.nil_append, h1, hp, hL, upI_eq, upI_a, upI_i, upR_eq, upR_a, upR_i, upI_up, at1, fl1, bAt_up, fAdd_id, fSub_id, fMul_id]
      refine wif (fun c279 => ?_) (fun n279 => wif (fun c279 => ?_) (fun c279 => ?_))
      · skip
        show tho 234 = true ∧ Q none _ _ _
        refine ⟨rfl, ?_⟩
        first | (exfalso; omega) | (simp (disch := first | assumption | exact SA.k (by assumption) (by decide) (by decide) rfl | exact SA.q (by assumption) (by decide) (by decide) (by decide) | exact SA.r (by assumption) (by decide) (by decide) (by decide) | exact PTa (by assumption) (by assumption) (by omega) (by omega) | decide | omega | rfl) only [if_pos, if_neg, kEx_ok, kEx_er, bnd_ok, bnd_er] at hq; first | exact hq | (rw [hs] at hq; exact hq))
      · skip
        refine s234_282.mpr (s234_283.mpr ?_)
        refine (s234_324).mpr ?_
        first | (exfalso; omega) | (simp (disch := first | assumption | exact SA.k (by assumption) (by decide) (by decide) rfl | exact SA.q (by assumption) (by decide) (by decide) (by decide) | exact SA.r (by assumption) (by decide) (by decide) (by decide) | exact PTa (by assumption) (by assumption) (by omega) (by omega) | decide | omega | rfl) only [if_pos, if_neg, kEx_ok, kEx_er, bnd_ok, bnd_er] at hq; first | exact hq | (rw [hs] at hq; exact hq))
      · skip
        show tho 234 = true ∧ Q none _ _ _
        refine ⟨rfl, ?_⟩
        first | (exfalso; omega) | (simp (disch := first | assumption | exact SA.k (by assumption) (by decide) (by decide) rfl | exact SA.q (by assumption) (by decide) (by decide) (by decide) | exact SA.r (by assumption) (by decide) (by decide) (by decide) | exact PTa (by assumption) (by assumption) (by omega) (by omega) | decide | omega | rfl) only [if_pos, if_neg, kEx_ok, kEx_er, bnd_ok, bnd_er] at hq; first | exact hq | (rw [hs] at hq; exact hq))
    refine wif (fun c10 => ?_) (fun n10_38 => ?_)
    · skip
      refine s234_286.mpr (s234_287.mpr (s234_288.mpr (s234_289.mpr ?_)))
      refine (s234_290 (by omega) kM).mpr ?_
      refine m_part hA hR (by first | assumption | exact SA.k (by assumption) (by decide) (by decide) rfl | exact SA.q (by assumption) (by decide) (by decide) (by decide) | exact SA.r (by assumption) (by decide) (by decide) (by decide) | exact PTa (by assumption) (by assumption) (by omega) (by omega) | decide | omega | rfl) (by omega) ?_
      try simp (disch := first | assumption | exact SA.k (by assumption) (by decide) (by decide) rfl | exact SA.q (by assumption) (by decide) (by decide) (by decide) | exact SA.r (by assumption) (by decide) (by decide) (by decide) | exact PTa (by assumption) (by assumption) (by omega) (by omega) | decide | omega | rfl) only [kon, knt_some, knt_none, Option.toList_some, Option.toList_none, List.cons_append, List.nil_append, h1, hp, hL, upI_eq, upI_a, upI_i, upR_eq, upR_a, upR_i, upI_up, at1, fl1, bAt_up, fAdd_id, fSub_id, fMul_id]
      refine wif (fun c290 => ?_) (fun n290 => wif (fun c290 => ?_) (fun c290 => ?_))
      · skip
        show tho 234 = true ∧ Q none _ _ _
        refine ⟨rfl, ?_⟩
        first | (exfalso; omega) | (simp (disch := first | assumption | exact SA.k (by assumption) (by decide) (by decide) rfl | exact SA.q (by assumption) (by decide) (by decide) (by decide) | exact SA.r (by assumption) (by decide) (by decide) (by decide) | exact PTa (by assumption) (by assumption) (by omega) (by omega) | decide | omega | rfl) only [if_pos, if_neg, kEx_ok, kEx_er, bnd_ok, bnd_er] at hq; first | exact hq | (rw [hs] at hq; exact hq))
      · skip
        refine s234_293.mpr (s234_295.mpr (s234_296.mpr ?_))
        sorry
      · skip
        show tho 234 = true ∧ Q none _ _ _
        refine ⟨rfl, ?_⟩
        first | (exfalso; omega) | (simp (disch := first | assumption | exact SA.k (by assumption) (by decide) (by decide) rfl | exact SA.q (by assumption) (by decide) (by decide) (by decide) | exact SA.r (by assumption) (by decide) (by decide) (by decide) | exact PTa (by assumption) (by assumption) (by omega) (by omega) | decide | omega | rfl) only [if_pos, if_neg, kEx_ok, kEx_er, bnd_ok, bnd_er] at hq; first | exact hq | (rw [hs] at hq; exact hq))
    refine wif (fun c10 => ?_) (fun n10_39 => ?_)
    · skip
      refine (s234_324).mpr ?_
      first | (exfalso; omega) | (simp (disch := first | assumption | exact SA.k (by assumption) (by decide) (by decide) rfl | exact SA.q (by assumption) (by decide) (by decide) (by decide) | exact SA.r (by assumption) (by decide) (by decide) (by decide) | exact PTa (by assumption) (by assumption) (by omega) (by omega) | decide | omega | rfl) only [if_pos, if_neg, kEx_ok, kEx_er, bnd_ok, bnd_er] at hq; first | exact hq | (rw [hs] at hq; exact hq))
    refine wif (fun c10 => ?_) (fun n10_40 => ?_)
    · skip
      refine s234_251.mpr (s234_252.mpr (s234_253.mpr (s234_256.mpr ?_)))
      refine (s234_257 (by omega) kM).mpr ?_
      refine m_part hA hR (by first | assumption | exact SA.k (by assumption) (by decide) (by decide) rfl | exact SA.q (by assumption) (by decide) (by decide) (by decide) | exact SA.r (by assumption) (by decide) (by decide) (by decide) | exact PTa (by assumption) (by assumption) (by omega) (by omega) | decide | omega | rfl) (by omega) ?_
      try simp (disch := first | assumption | exact SA.k (by assumption) (by decide) (by decide) rfl | exact SA.q (by assumption) (by decide) (by decide) (by decide) | exact SA.r (by assumption) (by decide) (by decide) (by decide) | exact PTa (by assumption) (by assumption) (by omega) (by omega) | decide | omega | rfl) only [kon, knt_some, knt_none, Option.toList_some, Option.toList_none, List.cons_append, List.nil_append, h1, hp, hL, upI_eq, upI_a, upI_i, upR_eq, upR_a, upR_i, upI_up, at1, fl1, bAt_up, fAdd_id, fSub_id, fMul_id]
      refine wif (fun c257 => ?_) (fun n257 => wif (fun c257 => ?_) (fun c257 => ?_))
      · skip
        show tho 234 = true ∧ Q none _ _ _
        refine ⟨rfl, ?_⟩
        first | (exfalso; omega) | (simp (disch := first | assumption | exact SA.k (by assumption) (by decide) (by decide) rfl | exact SA.q (by assumption) (by decide) (by decide) (by decide) | exact SA.r (by assumption) (by decide) (by decide) (by decide) | exact PTa (by assumption) (by assumption) (by omega) (by omega) | decide | omega | rfl) only [if_pos, if_neg, kEx_ok, kEx_er, bnd_ok, bnd_er] at hq; first | exact hq | (rw [hs] at hq; exact hq))
      · skip
        refine s234_260.mpr (s234_261.mpr ?_)
        refine (s234_324).mpr ?_
        first | (exfalso; omega) | (simp (disch := first | assumption | exact SA.k (by assumption) (by decide) (by decide) rfl | exact SA.q (by assumption) (by decide) (by decide) (by decide) | exact SA.r (by assumption) (by decide) (by decide) (by decide) | exact PTa (by assumption) (by assumption) (by omega) (by omega) | decide | omega | rfl) only [if_pos, if_neg, kEx_ok, kEx_er, bnd_ok, bnd_er] at hq; first | exact hq | (rw [hs] at hq; exact hq))
      · skip
        show tho 234 = true ∧ Q none _ _ _
        refine ⟨rfl, ?_⟩
        first | (exfalso; omega) | (simp (disch := first | assumption | exact SA.k (by assumption) (by decide) (by decide) rfl | exact SA.q (by assumption) (by decide) (by decide) (by decide) | exact SA.r (by assumption) (by decide) (by decide) (by decide) | exact PTa (by assumption) (by assumption) (by omega) (by omega) | decide | omega | rfl) only [if_pos, if_neg, kEx_ok, kEx_er, bnd_ok, bnd_er] at hq; first | exact hq | (rw [hs] at hq; exact hq))
    refine (s234_324).mpr ?_
    first | (exfalso; omega) | (simp (disch := first | assumption | exact SA.k (by assumption) (by decide) (by decide) rfl | exact SA.q (by assumption) (by decide) (by decide) (by decide) | exact SA.r (by assumption) (by decide) (by decide) (by decide) | exact PTa (by assumption) (by assumption) (by omega) (by omega) | decide | omega | rfl) only [if_pos, if_neg, kEx_ok, kEx_er, bnd_ok, bnd_er] at hq; first | exact hq | (rw [hs] at hq; exact hq))
  · skip
    show tho 234 = true ∧ Q none _ _ _
    refine ⟨rfl, ?_⟩
    first | (exfalso; omega) | (simp (disch := first | assumption | exact SA.k (by assumption) (by decide) (by decide) rfl | exact SA.q (by assumption) (by decide) (by decide) (by decide) | exact SA.r (by assumption) (by decide) (by decide) (by decide) | exact PTa (by assumption) (by assumption) (by omega) (by omega) | decide | omega | rfl) only [if_pos, if_neg, kEx_ok, kEx_er, bnd_ok, bnd_er] at hq; first | exact hq | (rw [hs] at hq; exact hq))
end MP2
