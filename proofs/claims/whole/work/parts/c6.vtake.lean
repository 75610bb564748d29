section CV6
variable {d : Nat} {al : AL} {hi : HI} {hr : HR} {Q : QQ} {B : Int → Int} {N t H C : Nat} {l : Int}
theorem v_takeUp {p : Int} {X : Tst} {A : Asg} (h : VR al hr) (hV : RV al hr t H C l) (hk : hr 8 8 = some (t + 1)) (hd : 1 ≤ d) (p0 : 0 ≤ p) (p1 : p < l) (h5 : hi 8 5 = 0) (hm : MC A hi t H C l) (hX : A p = some X)
    (q : ∀ hi', VS (some X) hi' → FW wV hi hi' → Q (some none) al hi' hr) : Ev d 161 [vR (some 8), vI p] al hi hr Q := by
  have k8 := h.k8; have k11 := h.k11; have k12 := h.k12; have l11 := h.l11; have l12 := h.l12; have r1 := h.2.2.1; have r2 := h.2.2.2.1
  obtain ⟨kt, ⟨h1, kH, lH⟩, ⟨c1, kC, lC⟩, hHC, t119, H119, C119, l0, l240⟩ := id hV; have rH : isR al H = true := isR_of kH (by decide) (by decide); have rC : isR al C = true := isR_of kC (by decide) (by decide); have nH : t + 1 ≠ H := isK_ne kt kH (by decide); have nC : t + 1 ≠ C := isK_ne kt kC (by decide)
  have mp := hm.1 p p0 p1
  rw [hX] at mp
  obtain ⟨b1, b2, b3, b4, b5⟩ := mp
  have ehp : (if p < 0 ∨ l ≤ p then -1 else hi H p) = X.1 := by rw [if_neg (by omega), b1]
  have emm : fMax 0 (fMin X.1 16) = X.1 := by unfold fMax fMin; split <;> split <;> omega
  have fwC : ∀ {h2 : HI}, FW wV hi h2 → ∀ j, h2 C j = hi C j := fun f j => f C j (wV_a (by omega))
  -- locals
  have T54 : ∀ h2, FW wV hi h2 → h2 8 5 = 0 → h2 8 4 = X.1 → (∀ k, 0 ≤ k → k < X.1 → h2 11 k = cv (X.2.1 k)) → Wp d 161 54 [vR (some 8), vI p, vI 0] [] al h2 hr Q := by
    intro h2 f2 g5 g4 gS
    refine wp_cnt (N := 10) (fun i ls h3 => ls = [vR (some 8), vI p, vI i] ∧ FW wV hi h3 ∧ h3 8 5 = 0 ∧ h3 8 4 = X.1 ∧ (∀ k, 0 ≤ k → k < X.1 → h3 11 k = cv (X.2.1 k)) ∧ (∀ k : Int, 0 ≤ k → k < i → h3 12 k = cv (X.2.2 k))) ?_ ?_ _ _ ⟨rfl, f2, g5, g4, gS, fun k k0 k1 => absurd k1 (by omega)⟩
    · rintro i ls h3 hi10 ⟨rfl, f3, d5, d4, dS, dL⟩ nx
      have ec : (if l ≤ p then 7 else h3 C (26 * p + (16 + (i : Int)))) = cv (X.2.2 i) := by rw [if_neg (by omega), fwC f3, ← b5 i (by omega) (by omega)]; congr 1; omega
      refine s161_54.mpr (s161_55.mpr ?_)
      refine s161_57.mpr (wif (fun c57 => ?_) (fun c57 => ?_))
      · first
        | (exfalso; omega)
        | skip
          refine s161_60.mpr ?_
          refine (s161_61 (by first | decide | assumption | omega)).mpr ?_
          refine s161_64.mpr (s161_65.mpr ?_)
          try simp (disch := first | decide | assumption | omega) only [kon, knt_some, knt_none, Option.toList_some, Option.toList_none, List.cons_append, List.nil_append, r2, hk, fAdd_id]
          refine (s161_66 (by first | decide | assumption | omega)).mpr ?_
          refine s161_69.mpr (s161_70.mpr (s161_72.mpr (s161_73.mpr ?_)))
          try simp (disch := first | decide | assumption | omega) only [kon, knt_some, knt_none, Option.toList_some, Option.toList_none, List.cons_append, List.nil_append, r2, hk, fAdd_id]
          refine (s161_74 (by first | decide | assumption | omega) (by first | decide | assumption | omega)).mpr ?_
          refine r_typeComing hV p0 (by omega) (by omega) (by omega) ?_
          simp only [kon, knt_some, knt_none, Option.toList_some, Option.toList_none, List.cons_append, List.nil_append, ec]
          refine (s161_77 (by first | decide | assumption | omega) (by first | decide | assumption | omega) (by first | decide | assumption | omega)).mpr ?_
          refine s161_78.mpr (s161_81.mpr ?_)
          try simp (disch := first | decide | assumption | omega) only [kon, knt_some, knt_none, Option.toList_some, Option.toList_none, List.cons_append, List.nil_append, r2, hk, fAdd_id]
          refine nx _ _ ⟨rfl, f3.up wV_12, ?_, ?_, fun k k0 k1 => ?_, fun k k0 k1 => ?_⟩
          · rw [upI_a (by decide)]; exact d5
          · rw [upI_a (by decide)]; exact d4
          · rw [upI_a (by decide)]; exact dS k k0 k1
          · by_cases e : k = i
            · subst e; rw [upI_eq]
            · rw [upI_i e]; exact dL k k0 (by omega)
      · first
        | (exfalso; omega)
        | skip
          refine (s161_84).mpr ?_
          exfalso; omega
    · rintro ls h3 ⟨rfl, f3, d5, d4, dS, dL⟩
      have E := q h3 ⟨d5, d4, b2, b3, dS, fun k k0 k1 => dL k k0 (by omega)⟩ f3
      refine s161_54.mpr (s161_55.mpr ?_)
      refine s161_57.mpr (wif (fun c57 => ?_) (fun c57 => ?_))
      · skip
        exfalso; omega
      · skip
        refine (s161_84).mpr ?_
        exact E
  have T23 : Wp d 161 23 [vR (some 8), vI p, vI 0] [] al (upI hi 8 4 X.1) hr Q := by
    refine wp_cnt (N := X.1.toNat) (fun i ls h3 => ls = [vR (some 8), vI p, vI i] ∧ FW wV hi h3 ∧ h3 8 5 = 0 ∧ h3 8 4 = X.1 ∧ (∀ k : Int, 0 ≤ k → k < i → h3 11 k = cv (X.2.1 k))) ?_ ?_ _ _ ⟨rfl, FW.up FW.rf wV_4, by rw [upI_i (by decide)]; exact h5, upI_eq, fun k k0 k1 => absurd k1 (by omega)⟩
    · rintro i ls h3 hi10 ⟨rfl, f3, d5, d4, dS⟩ nx
      have ec : (if l ≤ p then 7 else h3 C (26 * p + (i : Int))) = cv (X.2.1 i) := by rw [if_neg (by omega), fwC f3, ← b4 i (by omega) (by omega)]
      refine s161_23.mpr (s161_24.mpr ?_)
      refine (s161_25 (by first | decide | assumption | omega)).mpr ?_
      try simp (disch := first | decide | assumption | omega) only [kon, knt_some, knt_none, Option.toList_some, Option.toList_none, List.cons_append, List.nil_append, r1, hk, d4, fAdd_id]
      refine s161_28.mpr (wif (fun c28 => ?_) (fun c28 => ?_))
      · first
        | (exfalso; omega)
        | skip
          refine s161_31.mpr ?_
          refine (s161_32 (by first | decide | assumption | omega)).mpr ?_
          refine s161_35.mpr (s161_36.mpr ?_)
          try simp (disch := first | decide | assumption | omega) only [kon, knt_some, knt_none, Option.toList_some, Option.toList_none, List.cons_append, List.nil_append, r1, hk, d4, fAdd_id]
          refine (s161_37 (by first | decide | assumption | omega)).mpr ?_
          refine s161_40.mpr (s161_41.mpr ?_)
          try simp (disch := first | decide | assumption | omega) only [kon, knt_some, knt_none, Option.toList_some, Option.toList_none, List.cons_append, List.nil_append, r1, hk, d4, fAdd_id]
          refine (s161_42 (by first | decide | assumption | omega) (by first | decide | assumption | omega)).mpr ?_
          refine r_typeComing hV p0 (by omega) (by omega) (by omega) ?_
          simp only [kon, knt_some, knt_none, Option.toList_some, Option.toList_none, List.cons_append, List.nil_append, ec]
          refine (s161_45 (by first | decide | assumption | omega) (by first | decide | assumption | omega) (by first | decide | assumption | omega)).mpr ?_
          refine s161_46.mpr (s161_49.mpr ?_)
          try simp (disch := first | decide | assumption | omega) only [kon, knt_some, knt_none, Option.toList_some, Option.toList_none, List.cons_append, List.nil_append, r1, hk, d4, fAdd_id]
          refine nx _ _ ⟨rfl, f3.up wV_11, ?_, ?_, fun k k0 k1 => ?_⟩
          · rw [upI_a (by decide)]; exact d5
          · rw [upI_a (by decide)]; exact d4
          · by_cases e : k = i
            · subst e; rw [upI_eq]
            · rw [upI_i e]; exact dS k k0 (by omega)
      · first
        | (exfalso; omega)
        | skip
          exfalso; omega
    · rintro ls h3 ⟨rfl, f3, d5, d4, dS⟩
      have E := T54 h3 f3 d5 d4 (fun k k0 k1 => dS k k0 (by omega))
      refine s161_23.mpr (s161_24.mpr ?_)
      refine (s161_25 (by first | decide | assumption | omega)).mpr ?_
      try simp (disch := first | decide | assumption | omega) only [d4]
      refine s161_28.mpr (wif (fun c28 => ?_) (fun c28 => ?_))
      · skip
        exfalso; omega
      · skip
        refine s161_52.mpr (s161_53.mpr ?_)
        exact E
  rw [e161]
  refine s161_0.mpr (s161_1.mpr (s161_2.mpr ?_))
  refine (s161_3 (by first | decide | assumption | omega)).mpr ?_
  refine s161_6.mpr ?_
  try simp (disch := first | decide | assumption | omega) only [kon, knt_some, knt_none, Option.toList_some, Option.toList_none, List.cons_append, List.nil_append, hk, emm]
  refine (s161_7 (by first | decide | assumption | omega) (by first | decide | assumption | omega)).mpr ?_
  refine r_heightAt hV ?_
  simp only [kon, knt_some, knt_none, Option.toList_some, Option.toList_none, List.cons_append, List.nil_append, ehp]
  refine s161_10.mpr (s161_12.mpr (s161_15.mpr ?_))
  try simp (disch := first | decide | assumption | omega) only [kon, knt_some, knt_none, Option.toList_some, Option.toList_none, List.cons_append, List.nil_append, hk, emm]
  refine (s161_18 (by first | decide | assumption | omega)).mpr ?_
  refine s161_21.mpr (s161_22.mpr ?_)
  try simp (disch := first | decide | assumption | omega) only [kon, knt_some, knt_none, Option.toList_some, Option.toList_none, List.cons_append, List.nil_append, hk, emm]
  exact T23
/-- rows for what comes are made -/
theorem r_prepare (hT : RtS al hr t) (hb : (aln al (t + 2) : Int) = l) (l0 : 0 ≤ l) (l1 : l ≤ 240) (ht : 119 ≤ t) (h6 : hi (t + 1) 6 = 0)
    (q : ∀ al' hi' hr', GA al al' 2 6480 → al'.1 = al.1 + 2 → RV al' hr' t al.1 (al.1 + 1) l → MC (fun _ => none) hi' t al.1 (al.1 + 1) l → (∀ a i, a < al.1 → hi' a i = hi a i) → (∀ a i, a < al.1 → ¬ (a = t + 1 ∧ (i = 8 ∨ i = 9)) → hr' a i = hr a i) → Q (some none) al' hi' hr') : Ev d 110 [vR (some (t + 1))] al hi hr Q := by
  obtain ⟨a0, ⟨a1, a2⟩, ⟨b1, b2⟩⟩ := hT
  have lt := a0.2.1
  have lt2 := b2.2.1
  have hR9 : isR al (t + 2) = true := isR_of b2 (by decide) (by decide)
  let al1 := nwA al 15 l.toNat l.toNat
  let al2 := nwA al1 15 (26 * l).toNat (26 * l).toNat
  have k1 : isK al1 (t + 1) 8 := isK_nw a0
  have k2 : isK al2 (t + 1) 8 := isK_nw k1
  have kH1 : isK al1 al.1 15 := isK_n (by omega) rfl
  have kH : isK al2 al.1 15 := isK_nw kH1
  have kC : isK al2 (al.1 + 1) 15 := isK_n (by show 2 ≤ al.1 + 1; omega) rfl
  have lH : (aln al2 al.1 : Int) = l := by rw [aln_nw (by show al.1 < al.1 + 1; omega), aln_n rfl]; omega
  have lC : (aln al2 (al.1 + 1) : Int) = 26 * l := by rw [show aln al2 (al.1 + 1) = (26 * l).toNat from aln_n rfl]; omega
  have b1' : (upR (zeR hr al.1) (t + 1) 8 (some al.1)) (t + 1) 7 = some (t + 2) := by rw [upR_i (by decide), zeR_a (by omega)]; exact b1
  have hz7 : zeR hr al.1 (t + 1) 7 = some (t + 2) := by rw [zeR_a (by omega)]; exact b1
  have hR1 : isR al1 (t + 2) = true := isR_of (isK_nw b2) (by decide) (by decide)
  have lb1 : (aln (nwA al 15 l.toNat l.toNat) (t + 2) : Int) = l := by rw [aln_nw lt2]; exact hb
  have eM : fMul l 26 = 26 * l := by rw [fMul_id (by omega) (by omega)]; omega
  let hr3 := upR (zeR (upR (zeR hr al.1) (t + 1) 8 (some al.1)) (al.1 + 1)) (t + 1) 9 (some (al.1 + 1))
  have r8 : hr3 (t + 1) 8 = some al.1 := by show upR _ (t + 1) 9 _ (t + 1) 8 = _; rw [upR_i (by decide), zeR_a (by omega), upR_eq]
  have r9 : hr3 (t + 1) 9 = some (al.1 + 1) := upR_eq
  have rHH : isR al2 al.1 = true := isR_of kH (by decide) (by decide)
  let hi3 := zeI (zeI hi al.1) (al.1 + 1)
  have o3 : ∀ a i, a < al.1 → hi3 a i = hi a i := fun a i z => by show zeI (zeI hi al.1) (al.1 + 1) a i = _; rw [zeI_a (by omega), zeI_a (by omega)]
  have T27 : Wp d 110 27 [vR (some (t + 1)), vI 0] [] al2 hi3 hr3 Q := by
    refine wp_cnt (N := l.toNat) (fun i ls h3 => ls = [vR (some (t + 1)), vI i] ∧ FW (fun a _ => a = al.1) hi3 h3 ∧ (∀ k : Int, 0 ≤ k → k < i → h3 al.1 k = -1)) ?_ ?_ _ _ ⟨rfl, FW.rf, fun k k0 k1 => absurd k1 (by omega)⟩
    · rintro i ls h3 hi10 ⟨rfl, f3, dS⟩ nx
      refine s110_27.mpr (s110_28.mpr ?_)
      refine (s110_29 (by first | decide | assumption | omega)).mpr ?_
      try simp (disch := first | decide | assumption | omega) only [r8, lH, fAdd_id]
      refine (s110_32 (by first | decide | assumption | omega)).mpr ?_
      try simp (disch := first | decide | assumption | omega) only [r8, lH, fAdd_id]
      refine s110_33.mpr (wif (fun c33 => ?_) (fun c33 => ?_))
      · first
        | (exfalso; omega)
        | skip
          refine s110_36.mpr ?_
          refine (s110_37 (by first | decide | assumption | omega)).mpr ?_
          refine s110_40.mpr (s110_41.mpr ?_)
          try simp (disch := first | decide | assumption | omega) only [r8, lH, fAdd_id]
          refine (s110_42 (by first | decide | assumption | omega) (by first | decide | assumption | omega) (by first | decide | assumption | omega)).mpr ?_
          refine s110_43.mpr (s110_46.mpr ?_)
          try simp (disch := first | decide | assumption | omega) only [r8, lH, fAdd_id]
          refine nx _ _ ⟨rfl, f3.up rfl, fun k k0 k1 => ?_⟩
          by_cases e : k = i
          · subst e; rw [upI_eq]
          · rw [upI_i e]; exact dS k k0 (by omega)
      · first
        | (exfalso; omega)
        | skip
          refine (s110_49).mpr ?_
          exfalso; omega
    · rintro ls h3 ⟨rfl, f3, dS⟩
      have f4 : ∀ a i, a < al.1 → h3 a i = hi a i := fun a i z => (f3 a i (by omega)).trans (o3 a i z)
      have E := q al2 h3 hr3 ((GA.rf.nw).nw.mn (by decide) (by omega)) rfl ⟨k2, ⟨r8, kH, lH⟩, ⟨r9, kC, lC⟩, by omega, ht, by omega, by omega, l0, l1⟩ ⟨fun p p0 p1 => dS p p0 (by omega), fun _ _ => rfl, by rw [f4 _ _ lt, h6]; decide, fun p X p0 z => (by cases z), Or.inl (by rw [f4 _ _ lt, h6])⟩ f4 (fun a i z1 z2 => by
        show upR (zeR (upR (zeR hr al.1) (t + 1) 8 (some al.1)) (al.1 + 1)) (t + 1) 9 (some (al.1 + 1)) a i = _
        unfold upR
        rw [if_neg (fun z => z2 ⟨z.1, Or.inr z.2⟩), zeR_a (by omega), if_neg (fun z => z2 ⟨z.1, Or.inl z.2⟩), zeR_a (by omega)])
      refine s110_27.mpr (s110_28.mpr ?_)
      refine (s110_29 (by first | decide | assumption | omega)).mpr ?_
      try simp (disch := first | decide | assumption | omega) only [r8, lH]
      refine (s110_32 (by first | decide | assumption | omega)).mpr ?_
      try simp (disch := first | decide | assumption | omega) only [r8, lH]
      refine s110_33.mpr (wif (fun c33 => ?_) (fun c33 => ?_))
      · skip
        exfalso; omega
      · skip
        refine (s110_49).mpr ?_
        exact E
  rw [e110]
  refine s110_0.mpr (s110_1.mpr ?_)
  refine (s110_2 a0).mpr ?_
  rw [b1]
  refine (s110_5 hR9).mpr ?_
  rw [hb]
  refine (s110_6 (by omega) (by omega)).mpr ?_
  refine (s110_8 k1).mpr ?_
  refine s110_11.mpr (s110_12.mpr ?_)
  refine (s110_13 k1).mpr ?_
  rw [b1']
  refine (s110_16 hR1).mpr ?_
  rw [lb1]
  refine s110_17.mpr (s110_19.mpr ?_)
  rw [eM]
  refine (s110_20 (by omega) (by omega)).mpr ?_
  refine (s110_22 k2).mpr ?_
  refine s110_25.mpr (s110_26.mpr ?_)
  exact T27
end CV6
