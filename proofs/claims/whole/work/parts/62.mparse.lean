/-! THE REFERENCE reads a text: number, type, .. -/
section MP1
variable {d : Nat} {al : AL} {hi : HI} {hr : HR} {Q : QQ}
theorem thn_no {k pc : Nat} {ls : List AV} (h : hdl k pc = none) (ht : tho k = true) : thn d k pc ls al hi hr Q ↔ Q none al hi hr := by
  unfold thn; rw [h]; simp [ht]
/-- a place noted; a fault noted -/
abbrev at1 (hi : HI) (p : Int) : HI := upI hi 49 26 p
abbrev fl1 (hi : HI) (w q : Int) : HI := upI (upI hi 49 22 w) 49 23 q
/-- what the parser writes -/
def tmpR (a : Nat) (i : Int) : Prop := (a = 49 ∧ (i = 22 ∨ i = 23 ∨ i = 26 ∨ i = 28)) ∨ ((a = 53 ∨ a = 54 ∨ a = 55) ∧ i = 12) ∨ (a = 57 ∧ 96 ≤ i) ∨ (a = 58 ∧ 576 ≤ i) ∨ (a = 59 ∧ 48 ≤ i) ∨ ((a = 60 ∨ a = 61) ∧ 384 ≤ i) ∨ ((a = 62 ∨ a = 63) ∧ 1536 ≤ i) ∨ ((a = 64 ∨ a = 66 ∨ a = 67 ∨ a = 68 ∨ a = 69) ∧ 120 ≤ i) ∨ (a = 65 ∧ 480 ≤ i)
def Fr (hi hi' : HI) : Prop := ∀ a i, ¬ tmpR a i → hi' a i = hi a i
theorem Fr.rf : Fr hi hi := fun _ _ _ => rfl
theorem Fr.tr {h1 h2 h3 : HI} (a : Fr h1 h2) (b : Fr h2 h3) : Fr h1 h3 := fun x i h => (b x i h).trans (a x i h)
theorem Fr.up {hi' : HI} {a : Nat} {i x : Int} (h : Fr hi hi') (ht : tmpR a i) : Fr hi (upI hi' a i x) := fun b j hb => by
  unfold upI
  rw [if_neg]
  · exact h b j hb
  · rintro ⟨rfl, rfl⟩; exact hb ht
theorem Fr.B {hi' : HI} (h : Fr hi hi') : bAt hi' 12 = bAt hi 12 := by
  funext k
  unfold bAt
  rw [h 52 12 (by unfold tmpR; omega), h 51 _ (by unfold tmpR; omega)]
theorem bAt_up {a : Nat} {i x : Int} (h : a ≠ 51) (h' : a ≠ 52) : bAt (upI hi a i x) = bAt hi := by
  funext m k
  unfold bAt
  rw [upI_a (Ne.symm h), upI_a (Ne.symm h')]
theorem bAt_lt {m k : Int} (h : bAt hi m k ≠ -1) : 0 ≤ k ∧ k < hi 52 m := by
  unfold bAt at h
  split at h
  · assumption
  · exact absurd rfl h
theorem bAt_rng (m k : Int) : -1 ≤ bAt hi m k ∧ bAt hi m k ≤ 255 := by
  unfold bAt
  split <;> omega
theorem m_fails {w q : Int} (hA : SA al) (hR : MR hr) : Ev d 218 [vR (some 49), vI w, vI q] al hi hr Q ↔ Q none al (fl1 hi w q) hr := by
  simp (disch := first | assumption | exact SA.k (by assumption) (by decide) (by decide) rfl | exact SA.q (by assumption) (by decide) (by decide) (by decide) | exact SA.r (by assumption) (by decide) (by decide) (by decide) | decide | omega | rfl) only [e218, s218_0, s218_1, s218_2, s218_5, s218_6, s218_7, s218_10, s218_11, s218_14, mr_1 hR, mr_3 hR, mr_4 hR, mr_5 hR, mr_6 hR, mr_7 hR, mr_8 hR, mr_9 hR, mr_10 hR, mr_11 hR, mr_12 hR, mr_13 hR, mr_14 hR, mr_15 hR, mr_16 hR, mr_17 hR, mr_18 hR, mr_19 hR, mr_20 hR, mr_21 hR, mr_25 hR, mr_29 hR, mr_30 hR, mr_31 hR, mr_32 hR, mr_33 hR, mr_34 hR, mr_39 hR, mr_40 hR, mr_41 hR, mr_42 hR, mr_43 hR, mr_44 hR, mr_45 hR, mr_46 hR, mr_47 hR, mr_50 hR, mr_57 hR, mr_58 hR, mr_59 hR, mr_60 hR, mr_61 hR, mr_62 hR, mr_63 hR, mr_64 hR, mr_65 hR, mr_66 hR, mr_67 hR, mr_68 hR, mr_69 hR, mr_70 hR, mr_71 hR, mr_72 hR, mr_73 hR, mr_74 hR, mr_75 hR, mr_76 hR, mr_77 hR, mr_78 hR, mr_79 hR, mr_80 hR, mr_81 hR, mr_82 hR, mr_83 hR, mr_84 hR, mr_85 hR, mr_86 hR, mr_87 hR, mr_88 hR]
/-- the text that is being read is right in the memory -/
def PT (hi : HI) : Prop := hi 49 27 = 12 ∧ hi 52 12 ≤ 2000 ∧ 0 ≤ hi 49 26 ∧ hi 49 26 ≤ 2000
theorem PT.at {p' : Int} (h : PT hi) (h0 : 0 ≤ p') (h1 : p' ≤ 2000) : PT (at1 hi p') := by
  obtain ⟨a, b, c, -⟩ := h
  unfold PT
  simp (disch := first | assumption | exact SA.k (by assumption) (by decide) (by decide) rfl | exact SA.q (by assumption) (by decide) (by decide) (by decide) | exact SA.r (by assumption) (by decide) (by decide) (by decide) | decide | omega | rfl) only [upI_eq, upI_a, upI_i, upR_eq, upR_a, upR_i, a, b, h0, h1, and_self]
theorem PT.fr {hi' : HI} (h : PT hi) (hf : Fr hi hi') (h0 : 0 ≤ hi' 49 26) (h1 : hi' 49 26 ≤ 2000) : PT hi' := by
  obtain ⟨a, b, c, -⟩ := h
  exact ⟨(hf 49 27 (by unfold tmpR; omega)).trans a, by rw [hf 52 12 (by unfold tmpR; omega)]; exact b, h0, h1⟩
theorem nmb_y {B : Int → Int} {lo hg p : Int} (h1 : lo ≤ B p) (h2 : B p ≤ hg) : nmb B lo hg p = .ok (p + 1) := if_pos ⟨h1, h2⟩
theorem nmb_n {B : Int → Int} {lo hg p : Int} (h : ¬ (lo ≤ B p ∧ B p ≤ hg)) : nmb B lo hg p = .error p := if_neg h
theorem bAt_le {m p : Int} (h : hi 52 m ≤ 2000) : 0 ≤ bAt hi m p → p + 1 ≤ 2000 := fun h' => by
  have := bAt_lt (hi := hi) (m := m) (k := p) (by omega)
  omega
theorem m_number {lo hg : Int} (hA : SA al) (hR : MR hr) (h : PT hi) (hd : 1 ≤ d) : Ev d 221 [vR (some 49), vI lo, vI hg] al hi hr Q ↔ (if lo ≤ bAt hi 12 (hi 49 26) ∧ bAt hi 12 (hi 49 26) ≤ hg then Q (some (some (vI (bAt hi 12 (hi 49 26))))) al (at1 hi (hi 49 26 + 1)) hr else Q none al (fl1 hi 1 (hi 49 26)) hr) := by
  obtain ⟨h1, h2, h3, h4⟩ := h
  by_cases c1 : bAt hi 12 (hi 49 26) < lo
  · simp (disch := first | assumption | exact SA.k (by assumption) (by decide) (by decide) rfl | exact SA.q (by assumption) (by decide) (by decide) (by decide) | exact SA.r (by assumption) (by decide) (by decide) (by decide) | decide | omega | rfl) only [e221, s221_0, s221_1, s221_2, s221_5, s221_6, s221_9, s221_12, s221_13, s221_14, s221_15, s221_18, s221_19, s221_20, s221_23, s221_24, s221_25, s221_26, s221_29, s221_32, s221_33, s221_34, s221_37, s221_38, s221_39, s221_42, s221_43, h1, m_byteAt, kon, knt_some, knt_none, Option.toList_some, Option.toList_none, List.cons_append, List.nil_append, thn_no, ite_self, if_pos, if_neg, kEx_ok, kEx_er, upI_eq, upI_a, upI_i, upR_eq, upR_a, upR_i, bAt_up, fAdd_id, fMul_id, fSub_id, m_fails]
  · by_cases c2 : hg < bAt hi 12 (hi 49 26)
    · simp (disch := first | assumption | exact SA.k (by assumption) (by decide) (by decide) rfl | exact SA.q (by assumption) (by decide) (by decide) (by decide) | exact SA.r (by assumption) (by decide) (by decide) (by decide) | decide | omega | rfl) only [e221, s221_0, s221_1, s221_2, s221_5, s221_6, s221_9, s221_12, s221_13, s221_14, s221_15, s221_18, s221_19, s221_20, s221_23, s221_24, s221_25, s221_26, s221_29, s221_32, s221_33, s221_34, s221_37, s221_38, s221_39, s221_42, s221_43, h1, m_byteAt, kon, knt_some, knt_none, Option.toList_some, Option.toList_none, List.cons_append, List.nil_append, thn_no, ite_self, if_pos, if_neg, kEx_ok, kEx_er, upI_eq, upI_a, upI_i, upR_eq, upR_a, upR_i, bAt_up, fAdd_id, fMul_id, fSub_id, m_fails]
    · simp (disch := first | assumption | exact SA.k (by assumption) (by decide) (by decide) rfl | exact SA.q (by assumption) (by decide) (by decide) (by decide) | exact SA.r (by assumption) (by decide) (by decide) (by decide) | decide | omega | rfl) only [e221, s221_0, s221_1, s221_2, s221_5, s221_6, s221_9, s221_12, s221_13, s221_14, s221_15, s221_18, s221_19, s221_20, s221_23, s221_24, s221_25, s221_26, s221_29, s221_32, s221_33, s221_34, s221_37, s221_38, s221_39, s221_42, s221_43, h1, m_byteAt, kon, knt_some, knt_none, Option.toList_some, Option.toList_none, List.cons_append, List.nil_append, thn_no, ite_self, if_pos, if_neg, kEx_ok, kEx_er, upI_eq, upI_a, upI_i, upR_eq, upR_a, upR_i, bAt_up, fAdd_id, fMul_id, fSub_id]
theorem m_must {v : Int} (hA : SA al) (hR : MR hr) (h : PT hi) (hd : 2 ≤ d) : Ev d 222 [vR (some 49), vI v] al hi hr Q ↔ (if bAt hi 12 (hi 49 26) = v then Q (some none) al (at1 hi (hi 49 26 + 1)) hr else Q none al (fl1 hi 1 (hi 49 26)) hr) := by
  by_cases c1 : bAt hi 12 (hi 49 26) = v
  · simp (disch := first | assumption | exact SA.k (by assumption) (by decide) (by decide) rfl | exact SA.q (by assumption) (by decide) (by decide) (by decide) | exact SA.r (by assumption) (by decide) (by decide) (by decide) | decide | omega | rfl) only [e222, s222_0, s222_1, s222_2, s222_3, s222_6, s222_7, m_number, kon, knt_some, knt_none, Option.toList_some, Option.toList_none, List.cons_append, List.nil_append, thn_no, ite_self, if_pos, if_neg, kEx_ok, kEx_er, upI_eq, upI_a, upI_i, upR_eq, upR_a, upR_i, bAt_up, fAdd_id, fMul_id, fSub_id]
  · simp (disch := first | assumption | exact SA.k (by assumption) (by decide) (by decide) rfl | exact SA.q (by assumption) (by decide) (by decide) (by decide) | exact SA.r (by assumption) (by decide) (by decide) (by decide) | decide | omega | rfl) only [e222, s222_0, s222_1, s222_2, s222_3, s222_6, s222_7, m_number, kon, knt_some, knt_none, Option.toList_some, Option.toList_none, List.cons_append, List.nil_append, thn_no, ite_self, if_pos, if_neg, kEx_ok, kEx_er, upI_eq, upI_a, upI_i, upR_eq, upR_a, upR_i, bAt_up, fAdd_id, fMul_id, fSub_id]
theorem pw5 : ∀ v : Nat, v < 6 → ∀ ks ∈ ([15, 49, 63] : List Int), fAnd (fShr ks (v : Int)) 1 = ks / 2 ^ v % 2 := by decide +kernel
theorem pw6 {ks v : Int} (hk : ks ∈ ([15, 49, 63] : List Int)) (h0 : ¬ v < 0) (h5 : ¬ 5 < v) : fAnd (fShr ks v) 1 = ks / 2 ^ v.toNat % 2 := by
  have := pw5 v.toNat (by omega) ks hk
  rwa [Int.toNat_of_nonneg (by omega)] at this
theorem PTa {p : Int} (h1 : hi 49 27 = 12) (h2 : hi 52 12 ≤ 2000) (h3 : 0 ≤ p) (h4 : ¬ bAt hi 12 p < 0) : PT (at1 hi (p + 1)) := by
  have := bAt_lt (hi := hi) (m := 12) (k := p) (by omega)
  unfold PT
  simp (disch := first | assumption | exact SA.k (by assumption) (by decide) (by decide) rfl | exact SA.q (by assumption) (by decide) (by decide) (by decide) | exact SA.r (by assumption) (by decide) (by decide) (by decide) | decide | omega | rfl) only [upI_eq, upI_a, upI_i, upR_eq, upR_a, upR_i, h1, true_and]
  omega
theorem m_type {ks no : Int} (hA : SA al) (hR : MR hr) (h : PT hi) (hd : 2 ≤ d) (hk : ks ∈ ([15, 49, 63] : List Int)) (hno : no = 0 ∨ no = 1)
    (hq : kEx (tyP (bAt hi 12) ks no (hi 49 26)) (fun p' => Q (some (some (vI (tyV (bAt hi 12) (hi 49 26))))) al (at1 hi p') hr) (fun q => Q none al (fl1 (at1 hi q) 1 q) hr)) : Ev d 223 [vR (some 49), vI ks, vI no] al hi hr Q := by
  obtain ⟨h1, h2, h3, h4⟩ := h
  obtain ⟨p, hp⟩ : ∃ p, hi 49 26 = p := ⟨_, rfl⟩
  have hs : at1 hi p = hi := upI_same hp
  rw [hp] at h3 h4 hq
  have b0 := bAt_rng (hi := hi) 12 p
  have b1 := bAt_rng (hi := hi) 12 (p + 1)
  have b2 := bAt_rng (hi := hi) 12 (p + 1 + 1)
  have b3 := bAt_rng (hi := hi) 12 (p + 1 + 1 + 1)
  unfold tyP tyV nmb at hq
  rw [show p + 2 = p + 1 + 1 by omega, show p + 3 = p + 1 + 1 + 1 by omega] at hq
  rw [e223]
  have kM : isK al 49 13 := hA.k (by decide) (by decide) rfl
  refine s223_0.mpr (s223_1.mpr ?_)
  refine (s223_2 kM).mpr ?_
  refine s223_5.mpr ?_
  try simp (disch := first | assumption | exact SA.k (by assumption) (by decide) (by decide) rfl | exact SA.q (by assumption) (by decide) (by decide) (by decide) | exact SA.r (by assumption) (by decide) (by decide) (by decide) | exact PTa (by assumption) (by assumption) (by omega) (by omega) | decide | omega | rfl) only [kon, knt_some, knt_none, Option.toList_some, Option.toList_none, List.cons_append, List.nil_append, h1, hp, upI_eq, upI_a, upI_i, upR_eq, upR_a, upR_i, upI_up, at1, fl1, bAt_up, fAdd_id, fMul_id, pw6]
  refine (s223_6 kM).mpr ?_
  try simp (disch := first | assumption | exact SA.k (by assumption) (by decide) (by decide) rfl | exact SA.q (by assumption) (by decide) (by decide) (by decide) | exact SA.r (by assumption) (by decide) (by decide) (by decide) | exact PTa (by assumption) (by assumption) (by omega) (by omega) | decide | omega | rfl) only [kon, knt_some, knt_none, Option.toList_some, Option.toList_none, List.cons_append, List.nil_append, h1, hp, upI_eq, upI_a, upI_i, upR_eq, upR_a, upR_i, upI_up, at1, fl1, bAt_up, fAdd_id, fMul_id, pw6]
  refine (s223_9 (by omega) kM).mpr ?_
  refine (m_byteAt hA hR (by omega) (by omega) (by omega)).mpr ?_
  refine s223_12.mpr (s223_13.mpr ?_)
  refine s223_14.mpr (wif (fun c14 => ?_) (fun c14 => ?_))
  · skip
    refine s223_36.mpr ?_
    refine s223_37.mpr (wif (fun c37 => ?_) (fun c37 => ?_))
    · skip
      refine s223_53.mpr (s223_54.mpr (s223_55.mpr ?_))
      refine (s223_56 kM).mpr ?_
      try simp (disch := first | assumption | exact SA.k (by assumption) (by decide) (by decide) rfl | exact SA.q (by assumption) (by decide) (by decide) (by decide) | exact SA.r (by assumption) (by decide) (by decide) (by decide) | exact PTa (by assumption) (by assumption) (by omega) (by omega) | decide | omega | rfl) only [kon, knt_some, knt_none, Option.toList_some, Option.toList_none, List.cons_append, List.nil_append, h1, hp, upI_eq, upI_a, upI_i, upR_eq, upR_a, upR_i, upI_up, at1, fl1, bAt_up, fAdd_id, fMul_id, pw6]
      refine (s223_59 (by omega) kM).mpr ?_
      refine (m_fails hA hR).mpr ?_
      show tho 223 = true ∧ Q none _ _ _
      refine ⟨rfl, ?_⟩
      first | (exfalso; omega) | (simp (disch := first | assumption | exact SA.k (by assumption) (by decide) (by decide) rfl | exact SA.q (by assumption) (by decide) (by decide) (by decide) | exact SA.r (by assumption) (by decide) (by decide) (by decide) | exact PTa (by assumption) (by assumption) (by omega) (by omega) | decide | omega | rfl) only [if_pos, if_neg, kEx_ok, kEx_er] at hq; first | exact hq | (rw [hs] at hq; exact hq))
    · skip
      refine s223_40.mpr (s223_41.mpr ?_)
      refine s223_42.mpr (wif (fun c42 => ?_) (fun c42 => ?_))
      · skip
        refine s223_53.mpr (s223_54.mpr (s223_55.mpr ?_))
        refine (s223_56 kM).mpr ?_
        try simp (disch := first | assumption | exact SA.k (by assumption) (by decide) (by decide) rfl | exact SA.q (by assumption) (by decide) (by decide) (by decide) | exact SA.r (by assumption) (by decide) (by decide) (by decide) | exact PTa (by assumption) (by assumption) (by omega) (by omega) | decide | omega | rfl) only [kon, knt_some, knt_none, Option.toList_some, Option.toList_none, List.cons_append, List.nil_append, h1, hp, upI_eq, upI_a, upI_i, upR_eq, upR_a, upR_i, upI_up, at1, fl1, bAt_up, fAdd_id, fMul_id, pw6]
        refine (s223_59 (by omega) kM).mpr ?_
        refine (m_fails hA hR).mpr ?_
        show tho 223 = true ∧ Q none _ _ _
        refine ⟨rfl, ?_⟩
        first | (exfalso; omega) | (simp (disch := first | assumption | exact SA.k (by assumption) (by decide) (by decide) rfl | exact SA.q (by assumption) (by decide) (by decide) (by decide) | exact SA.r (by assumption) (by decide) (by decide) (by decide) | exact PTa (by assumption) (by assumption) (by omega) (by omega) | decide | omega | rfl) only [if_pos, if_neg, kEx_ok, kEx_er] at hq; first | exact hq | (rw [hs] at hq; exact hq))
      · skip
        refine s223_45.mpr (s223_46.mpr (s223_47.mpr (s223_48.mpr (s223_49.mpr ?_))))
        try simp (disch := first | assumption | exact SA.k (by assumption) (by decide) (by decide) rfl | exact SA.q (by assumption) (by decide) (by decide) (by decide) | exact SA.r (by assumption) (by decide) (by decide) (by decide) | exact PTa (by assumption) (by assumption) (by omega) (by omega) | decide | omega | rfl) only [kon, knt_some, knt_none, Option.toList_some, Option.toList_none, List.cons_append, List.nil_append, h1, hp, upI_eq, upI_a, upI_i, upR_eq, upR_a, upR_i, upI_up, at1, fl1, bAt_up, fAdd_id, fMul_id, pw6]
        refine s223_50.mpr (wif (fun c50 => ?_) (fun c50 => ?_))
        · skip
          refine s223_53.mpr (s223_54.mpr (s223_55.mpr ?_))
          refine (s223_56 kM).mpr ?_
          try simp (disch := first | assumption | exact SA.k (by assumption) (by decide) (by decide) rfl | exact SA.q (by assumption) (by decide) (by decide) (by decide) | exact SA.r (by assumption) (by decide) (by decide) (by decide) | exact PTa (by assumption) (by assumption) (by omega) (by omega) | decide | omega | rfl) only [kon, knt_some, knt_none, Option.toList_some, Option.toList_none, List.cons_append, List.nil_append, h1, hp, upI_eq, upI_a, upI_i, upR_eq, upR_a, upR_i, upI_up, at1, fl1, bAt_up, fAdd_id, fMul_id, pw6]
          refine (s223_59 (by omega) kM).mpr ?_
          refine (m_fails hA hR).mpr ?_
          show tho 223 = true ∧ Q none _ _ _
          refine ⟨rfl, ?_⟩
          first | (exfalso; omega) | (simp (disch := first | assumption | exact SA.k (by assumption) (by decide) (by decide) rfl | exact SA.q (by assumption) (by decide) (by decide) (by decide) | exact SA.r (by assumption) (by decide) (by decide) (by decide) | exact PTa (by assumption) (by assumption) (by omega) (by omega) | decide | omega | rfl) only [if_pos, if_neg, kEx_ok, kEx_er] at hq; first | exact hq | (rw [hs] at hq; exact hq))
        · skip
          refine s223_62.mpr (s223_63.mpr ?_)
          refine (s223_64 kM).mpr ?_
          refine s223_67.mpr (s223_68.mpr ?_)
          try simp (disch := first | assumption | exact SA.k (by assumption) (by decide) (by decide) rfl | exact SA.q (by assumption) (by decide) (by decide) (by decide) | exact SA.r (by assumption) (by decide) (by decide) (by decide) | exact PTa (by assumption) (by assumption) (by omega) (by omega) | decide | omega | rfl) only [kon, knt_some, knt_none, Option.toList_some, Option.toList_none, List.cons_append, List.nil_append, h1, hp, upI_eq, upI_a, upI_i, upR_eq, upR_a, upR_i, upI_up, at1, fl1, bAt_up, fAdd_id, fMul_id, pw6]
          refine (s223_69 kM).mpr ?_
          refine s223_72.mpr ?_
          try simp (disch := first | assumption | exact SA.k (by assumption) (by decide) (by decide) rfl | exact SA.q (by assumption) (by decide) (by decide) (by decide) | exact SA.r (by assumption) (by decide) (by decide) (by decide) | exact PTa (by assumption) (by assumption) (by omega) (by omega) | decide | omega | rfl) only [kon, knt_some, knt_none, Option.toList_some, Option.toList_none, List.cons_append, List.nil_append, h1, hp, upI_eq, upI_a, upI_i, upR_eq, upR_a, upR_i, upI_up, at1, fl1, bAt_up, fAdd_id, fMul_id, pw6]
          refine s223_73.mpr (wif (fun c73 => ?_) (fun c73 => ?_))
          · skip
            refine s223_81.mpr ?_
            refine (s223_82).mpr ?_
            first | (exfalso; omega) | (simp (disch := first | assumption | exact SA.k (by assumption) (by decide) (by decide) rfl | exact SA.q (by assumption) (by decide) (by decide) (by decide) | exact SA.r (by assumption) (by decide) (by decide) (by decide) | exact PTa (by assumption) (by assumption) (by omega) (by omega) | decide | omega | rfl) only [if_pos, if_neg, kEx_ok, kEx_er] at hq; first | exact hq | (rw [hs] at hq; exact hq))
          · skip
            refine s223_76.mpr (s223_77.mpr ?_)
            refine s223_78.mpr (wif (fun c78 => ?_) (fun c78 => ?_))
            · skip
              refine s223_81.mpr ?_
              refine (s223_82).mpr ?_
              first | (exfalso; omega) | (simp (disch := first | assumption | exact SA.k (by assumption) (by decide) (by decide) rfl | exact SA.q (by assumption) (by decide) (by decide) (by decide) | exact SA.r (by assumption) (by decide) (by decide) (by decide) | exact PTa (by assumption) (by assumption) (by omega) (by omega) | decide | omega | rfl) only [if_pos, if_neg, kEx_ok, kEx_er] at hq; first | exact hq | (rw [hs] at hq; exact hq))
            · skip
              refine s223_83.mpr (s223_84.mpr (s223_85.mpr ?_))
              refine (s223_88 (by omega) kM).mpr ?_
              refine (m_number hA hR (by first | assumption | exact SA.k (by assumption) (by decide) (by decide) rfl | exact SA.q (by assumption) (by decide) (by decide) (by decide) | exact SA.r (by assumption) (by decide) (by decide) (by decide) | exact PTa (by assumption) (by assumption) (by omega) (by omega) | decide | omega | rfl) (by omega)).mpr ?_
              try simp (disch := first | assumption | exact SA.k (by assumption) (by decide) (by decide) rfl | exact SA.q (by assumption) (by decide) (by decide) (by decide) | exact SA.r (by assumption) (by decide) (by decide) (by decide) | exact PTa (by assumption) (by assumption) (by omega) (by omega) | decide | omega | rfl) only [kon, knt_some, knt_none, Option.toList_some, Option.toList_none, List.cons_append, List.nil_append, h1, hp, upI_eq, upI_a, upI_i, upR_eq, upR_a, upR_i, upI_up, at1, fl1, bAt_up, fAdd_id, fMul_id, pw6]
              refine wif (fun c88 => ?_) (fun c88 => ?_)
              · skip
                refine s223_91.mpr (s223_93.mpr (s223_94.mpr ?_))
                refine s223_95.mpr (wif (fun c95 => ?_) (fun c95 => ?_))
                · skip
                  refine s223_106.mpr (s223_107.mpr (s223_108.mpr ?_))
                  refine (s223_111 (by omega) kM).mpr ?_
                  refine (m_number hA hR (by first | assumption | exact SA.k (by assumption) (by decide) (by decide) rfl | exact SA.q (by assumption) (by decide) (by decide) (by decide) | exact SA.r (by assumption) (by decide) (by decide) (by decide) | exact PTa (by assumption) (by assumption) (by omega) (by omega) | decide | omega | rfl) (by omega)).mpr ?_
                  try simp (disch := first | assumption | exact SA.k (by assumption) (by decide) (by decide) rfl | exact SA.q (by assumption) (by decide) (by decide) (by decide) | exact SA.r (by assumption) (by decide) (by decide) (by decide) | exact PTa (by assumption) (by assumption) (by omega) (by omega) | decide | omega | rfl) only [kon, knt_some, knt_none, Option.toList_some, Option.toList_none, List.cons_append, List.nil_append, h1, hp, upI_eq, upI_a, upI_i, upR_eq, upR_a, upR_i, upI_up, at1, fl1, bAt_up, fAdd_id, fMul_id, pw6]
                  refine wif (fun c111 => ?_) (fun c111 => ?_)
                  · skip
                    refine s223_114.mpr (s223_116.mpr (s223_117.mpr (s223_119.mpr (s223_121.mpr (s223_122.mpr ?_)))))
                    refine s223_123.mpr (s223_126.mpr (s223_128.mpr (s223_129.mpr (s223_130.mpr (s223_133.mpr ?_)))))
                    refine s223_134.mpr (s223_135.mpr ?_)
                    try simp (disch := first | assumption | exact SA.k (by assumption) (by decide) (by decide) rfl | exact SA.q (by assumption) (by decide) (by decide) (by decide) | exact SA.r (by assumption) (by decide) (by decide) (by decide) | exact PTa (by assumption) (by assumption) (by omega) (by omega) | decide | omega | rfl) only [kon, knt_some, knt_none, Option.toList_some, Option.toList_none, List.cons_append, List.nil_append, h1, hp, upI_eq, upI_a, upI_i, upR_eq, upR_a, upR_i, upI_up, at1, fl1, bAt_up, fAdd_id, fMul_id, pw6]
                    refine (s223_136 (by omega) kM).mpr ?_
                    refine (m_number hA hR (by first | assumption | exact SA.k (by assumption) (by decide) (by decide) rfl | exact SA.q (by assumption) (by decide) (by decide) (by decide) | exact SA.r (by assumption) (by decide) (by decide) (by decide) | exact PTa (by assumption) (by assumption) (by omega) (by omega) | decide | omega | rfl) (by omega)).mpr ?_
                    try simp (disch := first | assumption | exact SA.k (by assumption) (by decide) (by decide) rfl | exact SA.q (by assumption) (by decide) (by decide) (by decide) | exact SA.r (by assumption) (by decide) (by decide) (by decide) | exact PTa (by assumption) (by assumption) (by omega) (by omega) | decide | omega | rfl) only [kon, knt_some, knt_none, Option.toList_some, Option.toList_none, List.cons_append, List.nil_append, h1, hp, upI_eq, upI_a, upI_i, upR_eq, upR_a, upR_i, upI_up, at1, fl1, bAt_up, fAdd_id, fMul_id, pw6]
                    refine wif (fun c136 => ?_) (fun c136 => ?_)
                    · skip
                      refine s223_139.mpr (s223_140.mpr ?_)
                      try simp (disch := first | assumption | exact SA.k (by assumption) (by decide) (by decide) rfl | exact SA.q (by assumption) (by decide) (by decide) (by decide) | exact SA.r (by assumption) (by decide) (by decide) (by decide) | exact PTa (by assumption) (by assumption) (by omega) (by omega) | decide | omega | rfl) only [kon, knt_some, knt_none, Option.toList_some, Option.toList_none, List.cons_append, List.nil_append, h1, hp, upI_eq, upI_a, upI_i, upR_eq, upR_a, upR_i, upI_up, at1, fl1, bAt_up, fAdd_id, fMul_id, pw6]
                      refine (s223_141).mpr ?_
                      first | (exfalso; omega) | (simp (disch := first | assumption | exact SA.k (by assumption) (by decide) (by decide) rfl | exact SA.q (by assumption) (by decide) (by decide) (by decide) | exact SA.r (by assumption) (by decide) (by decide) (by decide) | exact PTa (by assumption) (by assumption) (by omega) (by omega) | decide | omega | rfl) only [if_pos, if_neg, kEx_ok, kEx_er] at hq; first | exact hq | (rw [hs] at hq; exact hq))
                    · skip
                      show tho 223 = true ∧ Q none _ _ _
                      refine ⟨rfl, ?_⟩
                      first | (exfalso; omega) | (simp (disch := first | assumption | exact SA.k (by assumption) (by decide) (by decide) rfl | exact SA.q (by assumption) (by decide) (by decide) (by decide) | exact SA.r (by assumption) (by decide) (by decide) (by decide) | exact PTa (by assumption) (by assumption) (by omega) (by omega) | decide | omega | rfl) only [if_pos, if_neg, kEx_ok, kEx_er] at hq; first | exact hq | (rw [hs] at hq; exact hq))
                  · skip
                    show tho 223 = true ∧ Q none _ _ _
                    refine ⟨rfl, ?_⟩
                    first | (exfalso; omega) | (simp (disch := first | assumption | exact SA.k (by assumption) (by decide) (by decide) rfl | exact SA.q (by assumption) (by decide) (by decide) (by decide) | exact SA.r (by assumption) (by decide) (by decide) (by decide) | exact PTa (by assumption) (by assumption) (by omega) (by omega) | decide | omega | rfl) only [if_pos, if_neg, kEx_ok, kEx_er] at hq; first | exact hq | (rw [hs] at hq; exact hq))
                · skip
                  refine s223_98.mpr (s223_99.mpr (s223_101.mpr (s223_103.mpr (s223_104.mpr ?_))))
                  try simp (disch := first | assumption | exact SA.k (by assumption) (by decide) (by decide) rfl | exact SA.q (by assumption) (by decide) (by decide) (by decide) | exact SA.r (by assumption) (by decide) (by decide) (by decide) | exact PTa (by assumption) (by assumption) (by omega) (by omega) | decide | omega | rfl) only [kon, knt_some, knt_none, Option.toList_some, Option.toList_none, List.cons_append, List.nil_append, h1, hp, upI_eq, upI_a, upI_i, upR_eq, upR_a, upR_i, upI_up, at1, fl1, bAt_up, fAdd_id, fMul_id, pw6]
                  refine (s223_105).mpr ?_
                  first | (exfalso; omega) | (simp (disch := first | assumption | exact SA.k (by assumption) (by decide) (by decide) rfl | exact SA.q (by assumption) (by decide) (by decide) (by decide) | exact SA.r (by assumption) (by decide) (by decide) (by decide) | exact PTa (by assumption) (by assumption) (by omega) (by omega) | decide | omega | rfl) only [if_pos, if_neg, kEx_ok, kEx_er] at hq; first | exact hq | (rw [hs] at hq; exact hq))
              · skip
                show tho 223 = true ∧ Q none _ _ _
                refine ⟨rfl, ?_⟩
                first | (exfalso; omega) | (simp (disch := first | assumption | exact SA.k (by assumption) (by decide) (by decide) rfl | exact SA.q (by assumption) (by decide) (by decide) (by decide) | exact SA.r (by assumption) (by decide) (by decide) (by decide) | exact PTa (by assumption) (by assumption) (by omega) (by omega) | decide | omega | rfl) only [if_pos, if_neg, kEx_ok, kEx_er] at hq; first | exact hq | (rw [hs] at hq; exact hq))
  · skip
    refine s223_17.mpr (s223_18.mpr ?_)
    refine s223_21.mpr (wif (fun c21 => ?_) (fun c21 => ?_))
    · skip
      refine s223_24.mpr (s223_25.mpr ?_)
      refine (s223_26 kM).mpr ?_
      refine s223_29.mpr (s223_30.mpr ?_)
      try simp (disch := first | assumption | exact SA.k (by assumption) (by decide) (by decide) rfl | exact SA.q (by assumption) (by decide) (by decide) (by decide) | exact SA.r (by assumption) (by decide) (by decide) (by decide) | exact PTa (by assumption) (by assumption) (by omega) (by omega) | decide | omega | rfl) only [kon, knt_some, knt_none, Option.toList_some, Option.toList_none, List.cons_append, List.nil_append, h1, hp, upI_eq, upI_a, upI_i, upR_eq, upR_a, upR_i, upI_up, at1, fl1, bAt_up, fAdd_id, fMul_id, pw6]
      refine (s223_31 kM).mpr ?_
      refine s223_34.mpr ?_
      try simp (disch := first | assumption | exact SA.k (by assumption) (by decide) (by decide) rfl | exact SA.q (by assumption) (by decide) (by decide) (by decide) | exact SA.r (by assumption) (by decide) (by decide) (by decide) | exact PTa (by assumption) (by assumption) (by omega) (by omega) | decide | omega | rfl) only [kon, knt_some, knt_none, Option.toList_some, Option.toList_none, List.cons_append, List.nil_append, h1, hp, upI_eq, upI_a, upI_i, upR_eq, upR_a, upR_i, upI_up, at1, fl1, bAt_up, fAdd_id, fMul_id, pw6]
      refine (s223_35).mpr ?_
      first | (exfalso; omega) | (simp (disch := first | assumption | exact SA.k (by assumption) (by decide) (by decide) rfl | exact SA.q (by assumption) (by decide) (by decide) (by decide) | exact SA.r (by assumption) (by decide) (by decide) (by decide) | exact PTa (by assumption) (by assumption) (by omega) (by omega) | decide | omega | rfl) only [if_pos, if_neg, kEx_ok, kEx_er] at hq; first | exact hq | (rw [hs] at hq; exact hq))
    · skip
      refine s223_36.mpr ?_
      refine s223_37.mpr (wif (fun c37 => ?_) (fun c37 => ?_))
      · skip
        refine s223_53.mpr (s223_54.mpr (s223_55.mpr ?_))
        refine (s223_56 kM).mpr ?_
        try simp (disch := first | assumption | exact SA.k (by assumption) (by decide) (by decide) rfl | exact SA.q (by assumption) (by decide) (by decide) (by decide) | exact SA.r (by assumption) (by decide) (by decide) (by decide) | exact PTa (by assumption) (by assumption) (by omega) (by omega) | decide | omega | rfl) only [kon, knt_some, knt_none, Option.toList_some, Option.toList_none, List.cons_append, List.nil_append, h1, hp, upI_eq, upI_a, upI_i, upR_eq, upR_a, upR_i, upI_up, at1, fl1, bAt_up, fAdd_id, fMul_id, pw6]
        refine (s223_59 (by omega) kM).mpr ?_
        refine (m_fails hA hR).mpr ?_
        show tho 223 = true ∧ Q none _ _ _
        refine ⟨rfl, ?_⟩
        first | (exfalso; omega) | (simp (disch := first | assumption | exact SA.k (by assumption) (by decide) (by decide) rfl | exact SA.q (by assumption) (by decide) (by decide) (by decide) | exact SA.r (by assumption) (by decide) (by decide) (by decide) | exact PTa (by assumption) (by assumption) (by omega) (by omega) | decide | omega | rfl) only [if_pos, if_neg, kEx_ok, kEx_er] at hq; first | exact hq | (rw [hs] at hq; exact hq))
      · skip
        refine s223_40.mpr (s223_41.mpr ?_)
        refine s223_42.mpr (wif (fun c42 => ?_) (fun c42 => ?_))
        · skip
          refine s223_53.mpr (s223_54.mpr (s223_55.mpr ?_))
          refine (s223_56 kM).mpr ?_
          try simp (disch := first | assumption | exact SA.k (by assumption) (by decide) (by decide) rfl | exact SA.q (by assumption) (by decide) (by decide) (by decide) | exact SA.r (by assumption) (by decide) (by decide) (by decide) | exact PTa (by assumption) (by assumption) (by omega) (by omega) | decide | omega | rfl) only [kon, knt_some, knt_none, Option.toList_some, Option.toList_none, List.cons_append, List.nil_append, h1, hp, upI_eq, upI_a, upI_i, upR_eq, upR_a, upR_i, upI_up, at1, fl1, bAt_up, fAdd_id, fMul_id, pw6]
          refine (s223_59 (by omega) kM).mpr ?_
          refine (m_fails hA hR).mpr ?_
          show tho 223 = true ∧ Q none _ _ _
          refine ⟨rfl, ?_⟩
          first | (exfalso; omega) | (simp (disch := first | assumption | exact SA.k (by assumption) (by decide) (by decide) rfl | exact SA.q (by assumption) (by decide) (by decide) (by decide) | exact SA.r (by assumption) (by decide) (by decide) (by decide) | exact PTa (by assumption) (by assumption) (by omega) (by omega) | decide | omega | rfl) only [if_pos, if_neg, kEx_ok, kEx_er] at hq; first | exact hq | (rw [hs] at hq; exact hq))
        · skip
          refine s223_45.mpr (s223_46.mpr (s223_47.mpr (s223_48.mpr (s223_49.mpr ?_))))
          try simp (disch := first | assumption | exact SA.k (by assumption) (by decide) (by decide) rfl | exact SA.q (by assumption) (by decide) (by decide) (by decide) | exact SA.r (by assumption) (by decide) (by decide) (by decide) | exact PTa (by assumption) (by assumption) (by omega) (by omega) | decide | omega | rfl) only [kon, knt_some, knt_none, Option.toList_some, Option.toList_none, List.cons_append, List.nil_append, h1, hp, upI_eq, upI_a, upI_i, upR_eq, upR_a, upR_i, upI_up, at1, fl1, bAt_up, fAdd_id, fMul_id, pw6]
          refine s223_50.mpr (wif (fun c50 => ?_) (fun c50 => ?_))
          · skip
            refine s223_53.mpr (s223_54.mpr (s223_55.mpr ?_))
            refine (s223_56 kM).mpr ?_
            try simp (disch := first | assumption | exact SA.k (by assumption) (by decide) (by decide) rfl | exact SA.q (by assumption) (by decide) (by decide) (by decide) | exact SA.r (by assumption) (by decide) (by decide) (by decide) | exact PTa (by assumption) (by assumption) (by omega) (by omega) | decide | omega | rfl) only [kon, knt_some, knt_none, Option.toList_some, Option.toList_none, List.cons_append, List.nil_append, h1, hp, upI_eq, upI_a, upI_i, upR_eq, upR_a, upR_i, upI_up, at1, fl1, bAt_up, fAdd_id, fMul_id, pw6]
            refine (s223_59 (by omega) kM).mpr ?_
            refine (m_fails hA hR).mpr ?_
            show tho 223 = true ∧ Q none _ _ _
            refine ⟨rfl, ?_⟩
            first | (exfalso; omega) | (simp (disch := first | assumption | exact SA.k (by assumption) (by decide) (by decide) rfl | exact SA.q (by assumption) (by decide) (by decide) (by decide) | exact SA.r (by assumption) (by decide) (by decide) (by decide) | exact PTa (by assumption) (by assumption) (by omega) (by omega) | decide | omega | rfl) only [if_pos, if_neg, kEx_ok, kEx_er] at hq; first | exact hq | (rw [hs] at hq; exact hq))
          · skip
            refine s223_62.mpr (s223_63.mpr ?_)
            refine (s223_64 kM).mpr ?_
            refine s223_67.mpr (s223_68.mpr ?_)
            try simp (disch := first | assumption | exact SA.k (by assumption) (by decide) (by decide) rfl | exact SA.q (by assumption) (by decide) (by decide) (by decide) | exact SA.r (by assumption) (by decide) (by decide) (by decide) | exact PTa (by assumption) (by assumption) (by omega) (by omega) | decide | omega | rfl) only [kon, knt_some, knt_none, Option.toList_some, Option.toList_none, List.cons_append, List.nil_append, h1, hp, upI_eq, upI_a, upI_i, upR_eq, upR_a, upR_i, upI_up, at1, fl1, bAt_up, fAdd_id, fMul_id, pw6]
            refine (s223_69 kM).mpr ?_
            refine s223_72.mpr ?_
            try simp (disch := first | assumption | exact SA.k (by assumption) (by decide) (by decide) rfl | exact SA.q (by assumption) (by decide) (by decide) (by decide) | exact SA.r (by assumption) (by decide) (by decide) (by decide) | exact PTa (by assumption) (by assumption) (by omega) (by omega) | decide | omega | rfl) only [kon, knt_some, knt_none, Option.toList_some, Option.toList_none, List.cons_append, List.nil_append, h1, hp, upI_eq, upI_a, upI_i, upR_eq, upR_a, upR_i, upI_up, at1, fl1, bAt_up, fAdd_id, fMul_id, pw6]
            refine s223_73.mpr (wif (fun c73 => ?_) (fun c73 => ?_))
            · skip
              refine s223_81.mpr ?_
              refine (s223_82).mpr ?_
              first | (exfalso; omega) | (simp (disch := first | assumption | exact SA.k (by assumption) (by decide) (by decide) rfl | exact SA.q (by assumption) (by decide) (by decide) (by decide) | exact SA.r (by assumption) (by decide) (by decide) (by decide) | exact PTa (by assumption) (by assumption) (by omega) (by omega) | decide | omega | rfl) only [if_pos, if_neg, kEx_ok, kEx_er] at hq; first | exact hq | (rw [hs] at hq; exact hq))
            · skip
              refine s223_76.mpr (s223_77.mpr ?_)
              refine s223_78.mpr (wif (fun c78 => ?_) (fun c78 => ?_))
              · skip
                refine s223_81.mpr ?_
                refine (s223_82).mpr ?_
                first | (exfalso; omega) | (simp (disch := first | assumption | exact SA.k (by assumption) (by decide) (by decide) rfl | exact SA.q (by assumption) (by decide) (by decide) (by decide) | exact SA.r (by assumption) (by decide) (by decide) (by decide) | exact PTa (by assumption) (by assumption) (by omega) (by omega) | decide | omega | rfl) only [if_pos, if_neg, kEx_ok, kEx_er] at hq; first | exact hq | (rw [hs] at hq; exact hq))
              · skip
                refine s223_83.mpr (s223_84.mpr (s223_85.mpr ?_))
                refine (s223_88 (by omega) kM).mpr ?_
                refine (m_number hA hR (by first | assumption | exact SA.k (by assumption) (by decide) (by decide) rfl | exact SA.q (by assumption) (by decide) (by decide) (by decide) | exact SA.r (by assumption) (by decide) (by decide) (by decide) | exact PTa (by assumption) (by assumption) (by omega) (by omega) | decide | omega | rfl) (by omega)).mpr ?_
                try simp (disch := first | assumption | exact SA.k (by assumption) (by decide) (by decide) rfl | exact SA.q (by assumption) (by decide) (by decide) (by decide) | exact SA.r (by assumption) (by decide) (by decide) (by decide) | exact PTa (by assumption) (by assumption) (by omega) (by omega) | decide | omega | rfl) only [kon, knt_some, knt_none, Option.toList_some, Option.toList_none, List.cons_append, List.nil_append, h1, hp, upI_eq, upI_a, upI_i, upR_eq, upR_a, upR_i, upI_up, at1, fl1, bAt_up, fAdd_id, fMul_id, pw6]
                refine wif (fun c88 => ?_) (fun c88 => ?_)
                · skip
                  refine s223_91.mpr (s223_93.mpr (s223_94.mpr ?_))
                  refine s223_95.mpr (wif (fun c95 => ?_) (fun c95 => ?_))
                  · skip
                    refine s223_106.mpr (s223_107.mpr (s223_108.mpr ?_))
                    refine (s223_111 (by omega) kM).mpr ?_
                    refine (m_number hA hR (by first | assumption | exact SA.k (by assumption) (by decide) (by decide) rfl | exact SA.q (by assumption) (by decide) (by decide) (by decide) | exact SA.r (by assumption) (by decide) (by decide) (by decide) | exact PTa (by assumption) (by assumption) (by omega) (by omega) | decide | omega | rfl) (by omega)).mpr ?_
                    try simp (disch := first | assumption | exact SA.k (by assumption) (by decide) (by decide) rfl | exact SA.q (by assumption) (by decide) (by decide) (by decide) | exact SA.r (by assumption) (by decide) (by decide) (by decide) | exact PTa (by assumption) (by assumption) (by omega) (by omega) | decide | omega | rfl) only [kon, knt_some, knt_none, Option.toList_some, Option.toList_none, List.cons_append, List.nil_append, h1, hp, upI_eq, upI_a, upI_i, upR_eq, upR_a, upR_i, upI_up, at1, fl1, bAt_up, fAdd_id, fMul_id, pw6]
                    refine wif (fun c111 => ?_) (fun c111 => ?_)
                    · skip
                      refine s223_114.mpr (s223_116.mpr (s223_117.mpr (s223_119.mpr (s223_121.mpr (s223_122.mpr ?_)))))
                      refine s223_123.mpr (s223_126.mpr (s223_128.mpr (s223_129.mpr (s223_130.mpr (s223_133.mpr ?_)))))
                      refine s223_134.mpr (s223_135.mpr ?_)
                      try simp (disch := first | assumption | exact SA.k (by assumption) (by decide) (by decide) rfl | exact SA.q (by assumption) (by decide) (by decide) (by decide) | exact SA.r (by assumption) (by decide) (by decide) (by decide) | exact PTa (by assumption) (by assumption) (by omega) (by omega) | decide | omega | rfl) only [kon, knt_some, knt_none, Option.toList_some, Option.toList_none, List.cons_append, List.nil_append, h1, hp, upI_eq, upI_a, upI_i, upR_eq, upR_a, upR_i, upI_up, at1, fl1, bAt_up, fAdd_id, fMul_id, pw6]
                      refine (s223_136 (by omega) kM).mpr ?_
                      refine (m_number hA hR (by first | assumption | exact SA.k (by assumption) (by decide) (by decide) rfl | exact SA.q (by assumption) (by decide) (by decide) (by decide) | exact SA.r (by assumption) (by decide) (by decide) (by decide) | exact PTa (by assumption) (by assumption) (by omega) (by omega) | decide | omega | rfl) (by omega)).mpr ?_
                      try simp (disch := first | assumption | exact SA.k (by assumption) (by decide) (by decide) rfl | exact SA.q (by assumption) (by decide) (by decide) (by decide) | exact SA.r (by assumption) (by decide) (by decide) (by decide) | exact PTa (by assumption) (by assumption) (by omega) (by omega) | decide | omega | rfl) only [kon, knt_some, knt_none, Option.toList_some, Option.toList_none, List.cons_append, List.nil_append, h1, hp, upI_eq, upI_a, upI_i, upR_eq, upR_a, upR_i, upI_up, at1, fl1, bAt_up, fAdd_id, fMul_id, pw6]
                      refine wif (fun c136 => ?_) (fun c136 => ?_)
                      · skip
                        refine s223_139.mpr (s223_140.mpr ?_)
                        try simp (disch := first | assumption | exact SA.k (by assumption) (by decide) (by decide) rfl | exact SA.q (by assumption) (by decide) (by decide) (by decide) | exact SA.r (by assumption) (by decide) (by decide) (by decide) | exact PTa (by assumption) (by assumption) (by omega) (by omega) | decide | omega | rfl) only [kon, knt_some, knt_none, Option.toList_some, Option.toList_none, List.cons_append, List.nil_append, h1, hp, upI_eq, upI_a, upI_i, upR_eq, upR_a, upR_i, upI_up, at1, fl1, bAt_up, fAdd_id, fMul_id, pw6]
                        refine (s223_141).mpr ?_
                        first | (exfalso; omega) | (simp (disch := first | assumption | exact SA.k (by assumption) (by decide) (by decide) rfl | exact SA.q (by assumption) (by decide) (by decide) (by decide) | exact SA.r (by assumption) (by decide) (by decide) (by decide) | exact PTa (by assumption) (by assumption) (by omega) (by omega) | decide | omega | rfl) only [if_pos, if_neg, kEx_ok, kEx_er] at hq; first | exact hq | (rw [hs] at hq; exact hq))
                      · skip
                        show tho 223 = true ∧ Q none _ _ _
                        refine ⟨rfl, ?_⟩
                        first | (exfalso; omega) | (simp (disch := first | assumption | exact SA.k (by assumption) (by decide) (by decide) rfl | exact SA.q (by assumption) (by decide) (by decide) (by decide) | exact SA.r (by assumption) (by decide) (by decide) (by decide) | exact PTa (by assumption) (by assumption) (by omega) (by omega) | decide | omega | rfl) only [if_pos, if_neg, kEx_ok, kEx_er] at hq; first | exact hq | (rw [hs] at hq; exact hq))
                    · skip
                      show tho 223 = true ∧ Q none _ _ _
                      refine ⟨rfl, ?_⟩
                      first | (exfalso; omega) | (simp (disch := first | assumption | exact SA.k (by assumption) (by decide) (by decide) rfl | exact SA.q (by assumption) (by decide) (by decide) (by decide) | exact SA.r (by assumption) (by decide) (by decide) (by decide) | exact PTa (by assumption) (by assumption) (by omega) (by omega) | decide | omega | rfl) only [if_pos, if_neg, kEx_ok, kEx_er] at hq; first | exact hq | (rw [hs] at hq; exact hq))
                  · skip
                    refine s223_98.mpr (s223_99.mpr (s223_101.mpr (s223_103.mpr (s223_104.mpr ?_))))
                    try simp (disch := first | assumption | exact SA.k (by assumption) (by decide) (by decide) rfl | exact SA.q (by assumption) (by decide) (by decide) (by decide) | exact SA.r (by assumption) (by decide) (by decide) (by decide) | exact PTa (by assumption) (by assumption) (by omega) (by omega) | decide | omega | rfl) only [kon, knt_some, knt_none, Option.toList_some, Option.toList_none, List.cons_append, List.nil_append, h1, hp, upI_eq, upI_a, upI_i, upR_eq, upR_a, upR_i, upI_up, at1, fl1, bAt_up, fAdd_id, fMul_id, pw6]
                    refine (s223_105).mpr ?_
                    first | (exfalso; omega) | (simp (disch := first | assumption | exact SA.k (by assumption) (by decide) (by decide) rfl | exact SA.q (by assumption) (by decide) (by decide) (by decide) | exact SA.r (by assumption) (by decide) (by decide) (by decide) | exact PTa (by assumption) (by assumption) (by omega) (by omega) | decide | omega | rfl) only [if_pos, if_neg, kEx_ok, kEx_er] at hq; first | exact hq | (rw [hs] at hq; exact hq))
                · skip
                  show tho 223 = true ∧ Q none _ _ _
                  refine ⟨rfl, ?_⟩
                  first | (exfalso; omega) | (simp (disch := first | assumption | exact SA.k (by assumption) (by decide) (by decide) rfl | exact SA.q (by assumption) (by decide) (by decide) (by decide) | exact SA.r (by assumption) (by decide) (by decide) (by decide) | exact PTa (by assumption) (by assumption) (by omega) (by omega) | decide | omega | rfl) only [if_pos, if_neg, kEx_ok, kEx_er] at hq; first | exact hq | (rw [hs] at hq; exact hq))
end MP1
