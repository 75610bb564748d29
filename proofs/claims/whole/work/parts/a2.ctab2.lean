/-! THE CLASS: contracts, routines; what is made anew -/
section CT2
variable {d : Nat} {al : AL} {hi : HI} {hr : HR} {Q : QQ} {B : Int → Int}
/-- no more than c cells and s slots have come, the old stand -/
def GA (al al' : AL) (c s : Nat) : Prop := al.1 ≤ al'.1 ∧ al'.1 ≤ al.1 + c ∧ al'.2.1 ≤ al.2.1 + s ∧ ∀ a, a < al.1 → al'.2.2 a = al.2.2 a
theorem GA.rf : GA al al 0 0 := ⟨Nat.le_refl _, Nat.le_refl _, Nat.le_refl _, fun _ _ => rfl⟩
theorem GA.mn {al' : AL} {c s c' s' : Nat} (h : GA al al' c s) (h1 : c ≤ c') (h2 : s ≤ s') : GA al al' c' s' := ⟨h.1, by have := h.2.1; omega, by have := h.2.2.1; omega, h.2.2.2⟩
theorem GA.tr {al' al2 : AL} {c s c' s' : Nat} (h : GA al al' c s) (h2 : GA al' al2 c' s') : GA al al2 (c + c') (s + s') := ⟨Nat.le_trans h.1 h2.1, by have := h.2.1; have := h2.2.1; omega, by have := h.2.2.1; have := h2.2.2.1; omega, fun a ha => (h2.2.2.2 a (Nat.lt_of_lt_of_le ha h.1)).trans (h.2.2.2 a ha)⟩
theorem GA.nw {al' : AL} {c s k n z : Nat} (h : GA al al' c s) : GA al (nwA al' k n z) (c + 1) (s + z) := ⟨Nat.le_succ_of_le h.1, by show al'.1 + 1 ≤ _; have := h.2.1; omega, by show al'.2.1 + z ≤ _; have := h.2.2.1; omega, fun a ha => by
  show (if a = al'.1 then (k, n) else al'.2.2 a) = _
  rw [if_neg (by have := h.1; omega)]; exact h.2.2.2 a ha⟩
theorem GA.k {al' : AL} {c s a k : Nat} (h : GA al al' c s) (hk : isK al a k) : isK al' a k := ⟨hk.1, Nat.lt_of_lt_of_le hk.2.1 h.1, by rw [h.2.2.2 a hk.2.1]; exact hk.2.2⟩
theorem GA.l {al' : AL} {c s a : Nat} (h : GA al al' c s) (hk : a < al.1) : aln al' a = aln al a := by show (al'.2.2 a).2 = _; rw [h.2.2.2 a hk]
theorem GA.sa {al' : AL} {c s : Nat} (h : GA al al' c s) (hA : SA al) : SA al' := ⟨Nat.le_trans hA.1 h.1, fun a h1 h2 => (h.2.2.2 a (Nat.lt_of_lt_of_le h2 hA.1)).trans (hA.2 a h1 h2)⟩
theorem isK_n {k n s m : Nat} (h2 : 2 ≤ al.1) (e : m = al.1) : isK (nwA al k n s) m k := by subst e; exact isK_new h2
theorem aln_n {k n s m : Nat} (e : m = al.1) : aln (nwA al k n s) m = n := by subst e; exact aln_new
theorem zeI_a {a b : Nat} {i : Int} (h : b ≠ a) : zeI hi a b i = hi b i := if_neg h
theorem zeR_a {a b : Nat} {i : Int} (h : b ≠ a) : zeR hr a b i = hr b i := if_neg h
theorem zeI_eq {a : Nat} {i : Int} : zeI hi a a i = 0 := if_pos rfl
theorem zeR_eq {a : Nat} {i : Int} : zeR hr a a i = none := if_pos rfl
/-- a contract's rows stand -/
def CtS (al : AL) (hr : HR) (o : Nat) : Prop := isK al o 3 ∧ (hr o 1 = some (o + 1) ∧ isK al (o + 1) 15 ∧ aln al (o + 1) = 8) ∧ (hr o 2 = some (o + 2) ∧ isK al (o + 2) 15 ∧ aln al (o + 2) = 8) ∧ (hr o 3 = some (o + 3) ∧ isK al (o + 3) 15 ∧ aln al (o + 3) = 32) ∧ (hr o 4 = some (o + 4) ∧ isK al (o + 4) 15 ∧ aln al (o + 4) = 32)
variable {o : Nat}
def ixA (hi : HI) (o : Nat) (s t : Int) : Int := if 0 ≤ s ∧ s < 8 ∧ 0 ≤ t ∧ t < 4 ∧ t < hi (o + 2) s then 4 * s + t else -1
theorem k_turnAt {s : Int} (h : CtS al hr o) (q : Q (some (some (vI (if s < 0 ∨ 8 ≤ s then 0 else hi (o + 1) s)))) al hi hr) : Ev d 20 [vR (some o), vI s] al hi hr Q := by
  obtain ⟨a0, ⟨a1, a2, a3⟩, ⟨b1, b2, b3⟩, ⟨w1, w2, w3⟩, ⟨d1, d2, d3⟩⟩ := h
  rw [e20]
  refine s20_0.mpr ?_
  refine s20_1.mpr (wif (fun c1 => ?_) (fun c1 => ?_))
  · skip
    refine s20_10.mpr (s20_11.mpr ?_)
    refine (s20_20).mpr ?_
    first | (rw [if_pos (by omega)] at q; exact q) | (rw [if_neg (by omega)] at q; exact q)
  · skip
    refine s20_4.mpr (s20_5.mpr ?_)
    refine s20_7.mpr (wif (fun c7 => ?_) (fun c7 => ?_))
    · skip
      refine s20_14.mpr ?_
      refine (s20_15 (by first | decide | assumption | omega)).mpr ?_
      refine s20_18.mpr ?_
      try simp (disch := first | decide | assumption | omega) only [a1]
      refine (s20_19 (by first | decide | assumption | omega) (by first | decide | assumption | omega) (by first | decide | assumption | omega)).mpr ?_
      try simp (disch := first | decide | assumption | omega) only [a1]
      refine (s20_20).mpr ?_
      first | (rw [if_pos (by omega)] at q; exact q) | (rw [if_neg (by omega)] at q; exact q)
    · skip
      refine s20_10.mpr (s20_11.mpr ?_)
      refine (s20_20).mpr ?_
      first | (rw [if_pos (by omega)] at q; exact q) | (rw [if_neg (by omega)] at q; exact q)
theorem k_countAt {s : Int} (h : CtS al hr o) (q : Q (some (some (vI (if s < 0 ∨ 8 ≤ s then 0 else hi (o + 2) s)))) al hi hr) : Ev d 21 [vR (some o), vI s] al hi hr Q := by
  obtain ⟨a0, ⟨a1, a2, a3⟩, ⟨b1, b2, b3⟩, ⟨w1, w2, w3⟩, ⟨d1, d2, d3⟩⟩ := h
  rw [e21]
  refine s21_0.mpr ?_
  refine s21_1.mpr (wif (fun c1 => ?_) (fun c1 => ?_))
  · skip
    refine s21_10.mpr (s21_11.mpr ?_)
    refine (s21_20).mpr ?_
    first | (rw [if_pos (by omega)] at q; exact q) | (rw [if_neg (by omega)] at q; exact q)
  · skip
    refine s21_4.mpr (s21_5.mpr ?_)
    refine s21_7.mpr (wif (fun c7 => ?_) (fun c7 => ?_))
    · skip
      refine s21_14.mpr ?_
      refine (s21_15 (by first | decide | assumption | omega)).mpr ?_
      refine s21_18.mpr ?_
      try simp (disch := first | decide | assumption | omega) only [b1]
      refine (s21_19 (by first | decide | assumption | omega) (by first | decide | assumption | omega) (by first | decide | assumption | omega)).mpr ?_
      try simp (disch := first | decide | assumption | omega) only [b1]
      refine (s21_20).mpr ?_
      first | (rw [if_pos (by omega)] at q; exact q) | (rw [if_neg (by omega)] at q; exact q)
    · skip
      refine s21_10.mpr (s21_11.mpr ?_)
      refine (s21_20).mpr ?_
      first | (rw [if_pos (by omega)] at q; exact q) | (rw [if_neg (by omega)] at q; exact q)
theorem k_indexOf {s t : Int} (h : CtS al hr o) (q : Q (some (some (vI (ixA hi o s t)))) al hi hr) : Ev d 22 [vR (some o), vI s, vI t] al hi hr Q := by
  obtain ⟨a0, ⟨a1, a2, a3⟩, ⟨b1, b2, b3⟩, ⟨w1, w2, w3⟩, ⟨d1, d2, d3⟩⟩ := h
  unfold ixA at q
  have e9 : 0 ≤ s → s < 8 → 0 ≤ t → t < 4 → fAdd (fMul s 4) t = 4 * s + t := fun _ _ _ _ => by rw [fMul_id (by omega) (by omega), fAdd_id (by omega) (by omega)]; omega
  rw [e22]
  refine s22_0.mpr ?_
  refine s22_1.mpr (wif (fun c1 => ?_) (fun c1 => ?_))
  · skip
    refine s22_19.mpr ?_
    refine (s22_20).mpr ?_
    first | (rw [if_pos (by omega)] at q; rw [e9 (by omega) (by omega) (by omega) (by omega)]; exact q) | (rw [if_neg (by omega)] at q; exact q)
  · skip
    refine s22_4.mpr (s22_5.mpr ?_)
    refine s22_7.mpr (wif (fun c7 => ?_) (fun c7 => ?_))
    · skip
      refine s22_10.mpr ?_
      refine s22_11.mpr (wif (fun c11 => ?_) (fun c11 => ?_))
      · skip
        refine s22_19.mpr ?_
        refine (s22_20).mpr ?_
        first | (rw [if_pos (by omega)] at q; rw [e9 (by omega) (by omega) (by omega) (by omega)]; exact q) | (rw [if_neg (by omega)] at q; exact q)
      · skip
        refine s22_14.mpr (s22_15.mpr ?_)
        refine s22_16.mpr (wif (fun c16 => ?_) (fun c16 => ?_))
        · skip
          refine s22_21.mpr (s22_22.mpr ?_)
          refine (s22_23 (by first | decide | assumption | omega)).mpr ?_
          refine s22_26.mpr ?_
          try simp (disch := first | decide | assumption | omega) only [b1]
          refine (s22_27 (by first | decide | assumption | omega) (by first | decide | assumption | omega) (by first | decide | assumption | omega)).mpr ?_
          try simp (disch := first | decide | assumption | omega) only [b1]
          refine s22_28.mpr (wif (fun c28 => ?_) (fun c28 => ?_))
          · skip
            refine s22_31.mpr (s22_32.mpr (s22_33.mpr (s22_34.mpr (s22_35.mpr (s22_36.mpr ?_)))))
            try simp (disch := first | decide | assumption | omega) only [b1]
            refine (s22_40).mpr ?_
            first | (rw [if_pos (by omega)] at q; rw [e9 (by omega) (by omega) (by omega) (by omega)]; exact q) | (rw [if_neg (by omega)] at q; exact q)
          · skip
            refine s22_39.mpr ?_
            refine (s22_40).mpr ?_
            first | (rw [if_pos (by omega)] at q; rw [e9 (by omega) (by omega) (by omega) (by omega)]; exact q) | (rw [if_neg (by omega)] at q; exact q)
        · skip
          refine s22_19.mpr ?_
          refine (s22_20).mpr ?_
          first | (rw [if_pos (by omega)] at q; rw [e9 (by omega) (by omega) (by omega) (by omega)]; exact q) | (rw [if_neg (by omega)] at q; exact q)
    · skip
      refine s22_19.mpr ?_
      refine (s22_20).mpr ?_
      first | (rw [if_pos (by omega)] at q; rw [e9 (by omega) (by omega) (by omega) (by omega)]; exact q) | (rw [if_neg (by omega)] at q; exact q)
theorem k_has {s t : Int} (h : CtS al hr o) (hd : 1 ≤ d) (q1 : 0 ≤ ixA hi o s t → Q (some (some (vI 1))) al hi hr) (q2 : ¬ 0 ≤ ixA hi o s t → Q (some (some (vI 0))) al hi hr) : Ev d 23 [vR (some o), vI s, vI t] al hi hr Q := by
  have a0 := h.1
  rw [e23]
  refine s23_0.mpr (s23_1.mpr (s23_2.mpr ?_))
  refine (s23_3 (by first | decide | assumption | omega) (by first | decide | assumption | omega)).mpr ?_
  refine k_indexOf h ?_
  refine s23_6.mpr (wif (fun c6 => ?_) (fun c6 => ?_))
  · skip
    refine s23_13.mpr ?_
    refine (s23_14 (by first | assumption | omega)).mpr ?_
    first | exact q1 (by omega) | exact q2 (by omega)
  · skip
    refine s23_9.mpr (s23_10.mpr ?_)
    refine (s23_14 (by first | assumption | omega)).mpr ?_
    first | exact q1 (by omega) | exact q2 (by omega)
theorem ixA_lt {s t : Int} : ixA hi o s t < 32 := by
  unfold ixA
  split <;> omega
theorem k_loadOf {s t : Int} (h : CtS al hr o) (hd : 1 ≤ d) (q : Q (some (some (vI (if ixA hi o s t < 0 then -1 else hi (o + 3) (ixA hi o s t))))) al hi hr) : Ev d 24 [vR (some o), vI s, vI t] al hi hr Q := by
  have h' := h
  obtain ⟨a0, ⟨a1, a2, a3⟩, ⟨b1, b2, b3⟩, ⟨w1, w2, w3⟩, ⟨d1, d2, d3⟩⟩ := h
  have hR9 : isR al (o + 3) = true := isR_of w2 (by decide) (by decide)
  have h32 := ixA_lt (hi := hi) (o := o) (s := s) (t := t)
  rw [e24]
  refine s24_0.mpr (s24_1.mpr (s24_2.mpr ?_))
  refine (s24_3 (by first | decide | assumption | omega) (by first | decide | assumption | omega)).mpr ?_
  refine k_indexOf h' ?_
  refine s24_6.mpr (s24_7.mpr ?_)
  refine s24_8.mpr (wif (fun c8 => ?_) (fun c8 => ?_))
  · skip
    refine s24_20.mpr (s24_21.mpr ?_)
    refine (s24_30).mpr ?_
    first | (rw [if_pos (by omega)] at q; exact q) | (rw [if_neg (by omega)] at q; exact q) | (exfalso; omega)
  · skip
    refine s24_11.mpr (s24_12.mpr ?_)
    refine (s24_13 (by first | decide | assumption | omega)).mpr ?_
    try simp (disch := first | decide | assumption | omega) only [kon, knt_some, knt_none, Option.toList_some, Option.toList_none, List.cons_append, List.nil_append, w1]
    refine (s24_16 (by first | decide | assumption | omega)).mpr ?_
    refine s24_17.mpr (wif (fun c17 => ?_) (fun c17 => ?_))
    · skip
      refine s24_24.mpr ?_
      refine (s24_25 (by first | decide | assumption | omega)).mpr ?_
      refine s24_28.mpr ?_
      try simp (disch := first | decide | assumption | omega) only [kon, knt_some, knt_none, Option.toList_some, Option.toList_none, List.cons_append, List.nil_append, w1]
      refine (s24_29 (by first | decide | assumption | omega) (by first | decide | assumption | omega) (by first | decide | assumption | omega)).mpr ?_
      try simp (disch := first | decide | assumption | omega) only [kon, knt_some, knt_none, Option.toList_some, Option.toList_none, List.cons_append, List.nil_append, w1]
      refine (s24_30).mpr ?_
      first | (rw [if_pos (by omega)] at q; exact q) | (rw [if_neg (by omega)] at q; exact q) | (exfalso; omega)
    · skip
      refine s24_20.mpr (s24_21.mpr ?_)
      refine (s24_30).mpr ?_
      first | (rw [if_pos (by omega)] at q; exact q) | (rw [if_neg (by omega)] at q; exact q) | (exfalso; omega)
theorem k_nextOf {s t : Int} (h : CtS al hr o) (hd : 1 ≤ d) (q : Q (some (some (vI (if ixA hi o s t < 0 then 0 else hi (o + 4) (ixA hi o s t))))) al hi hr) : Ev d 25 [vR (some o), vI s, vI t] al hi hr Q := by
  have h' := h
  obtain ⟨a0, ⟨a1, a2, a3⟩, ⟨b1, b2, b3⟩, ⟨w1, w2, w3⟩, ⟨d1, d2, d3⟩⟩ := h
  have hR9 : isR al (o + 4) = true := isR_of d2 (by decide) (by decide)
  have h32 := ixA_lt (hi := hi) (o := o) (s := s) (t := t)
  rw [e25]
  refine s25_0.mpr (s25_1.mpr (s25_2.mpr ?_))
  refine (s25_3 (by first | decide | assumption | omega) (by first | decide | assumption | omega)).mpr ?_
  refine k_indexOf h' ?_
  refine s25_6.mpr (s25_7.mpr ?_)
  refine s25_8.mpr (wif (fun c8 => ?_) (fun c8 => ?_))
  · skip
    refine s25_20.mpr (s25_21.mpr ?_)
    refine (s25_30).mpr ?_
    first | (rw [if_pos (by omega)] at q; exact q) | (rw [if_neg (by omega)] at q; exact q) | (exfalso; omega)
  · skip
    refine s25_11.mpr (s25_12.mpr ?_)
    refine (s25_13 (by first | decide | assumption | omega)).mpr ?_
    try simp (disch := first | decide | assumption | omega) only [kon, knt_some, knt_none, Option.toList_some, Option.toList_none, List.cons_append, List.nil_append, d1]
    refine (s25_16 (by first | decide | assumption | omega)).mpr ?_
    refine s25_17.mpr (wif (fun c17 => ?_) (fun c17 => ?_))
    · skip
      refine s25_24.mpr ?_
      refine (s25_25 (by first | decide | assumption | omega)).mpr ?_
      refine s25_28.mpr ?_
      try simp (disch := first | decide | assumption | omega) only [kon, knt_some, knt_none, Option.toList_some, Option.toList_none, List.cons_append, List.nil_append, d1]
      refine (s25_29 (by first | decide | assumption | omega) (by first | decide | assumption | omega) (by first | decide | assumption | omega)).mpr ?_
      try simp (disch := first | decide | assumption | omega) only [kon, knt_some, knt_none, Option.toList_some, Option.toList_none, List.cons_append, List.nil_append, d1]
      refine (s25_30).mpr ?_
      first | (rw [if_pos (by omega)] at q; exact q) | (rw [if_neg (by omega)] at q; exact q) | (exfalso; omega)
    · skip
      refine s25_20.mpr (s25_21.mpr ?_)
      refine (s25_30).mpr ?_
      first | (rw [if_pos (by omega)] at q; exact q) | (rw [if_neg (by omega)] at q; exact q) | (exfalso; omega)
theorem k_setState {s x n : Int} (h : CtS al hr o) (h0 : 0 ≤ s) (h1 : s < 8) (q : Q (some none) al (upI (upI hi (o + 1) s x) (o + 2) s n) hr) : Ev d 26 [vR (some o), vI s, vI x, vI n] al hi hr Q := by
  obtain ⟨a0, ⟨a1, a2, a3⟩, ⟨b1, b2, b3⟩, ⟨w1, w2, w3⟩, ⟨d1, d2, d3⟩⟩ := h
  rw [e26]
  refine s26_0.mpr ?_
  refine s26_1.mpr (wif (fun c1 => ?_) (fun c1 => ?_))
  · first
    | (exfalso; omega)
    | skip
      refine (s26_24).mpr ?_
      exact q
  · first
    | (exfalso; omega)
    | skip
      refine s26_4.mpr (s26_5.mpr ?_)
      refine s26_7.mpr (wif (fun c7 => ?_) (fun c7 => ?_))
      · first
        | (exfalso; omega)
        | skip
          refine s26_10.mpr ?_
          refine (s26_11 (by first | decide | assumption | omega)).mpr ?_
          refine s26_14.mpr (s26_15.mpr ?_)
          try simp (disch := first | decide | assumption | omega) only [a1, b1]
          refine (s26_16 (by first | decide | assumption | omega) (by first | decide | assumption | omega) (by first | decide | assumption | omega)).mpr ?_
          refine s26_17.mpr ?_
          try simp (disch := first | decide | assumption | omega) only [a1, b1]
          refine (s26_18 (by first | decide | assumption | omega)).mpr ?_
          refine s26_21.mpr (s26_22.mpr ?_)
          try simp (disch := first | decide | assumption | omega) only [a1, b1]
          refine (s26_23 (by first | decide | assumption | omega) (by first | decide | assumption | omega) (by first | decide | assumption | omega)).mpr ?_
          try simp (disch := first | decide | assumption | omega) only [a1, b1]
          refine (s26_24).mpr ?_
          exact q
      · first
        | (exfalso; omega)
        | skip
          refine (s26_24).mpr ?_
          exact q
theorem k_setMessage {s t x n : Int} (h : CtS al hr o) (hd : 1 ≤ d) (q1 : ixA hi o s t < 0 → Q (some none) al hi hr) (q2 : 0 ≤ ixA hi o s t → Q (some none) al (upI (upI hi (o + 3) (ixA hi o s t) x) (o + 4) (ixA hi o s t) n) hr) : Ev d 27 [vR (some o), vI s, vI t, vI x, vI n] al hi hr Q := by
  have h' := h
  obtain ⟨a0, ⟨a1, a2, a3⟩, ⟨b1, b2, b3⟩, ⟨w1, w2, w3⟩, ⟨d1, d2, d3⟩⟩ := h
  have hR9 : isR al (o + 3) = true := isR_of w2 (by decide) (by decide)
  have h32 := ixA_lt (hi := hi) (o := o) (s := s) (t := t)
  rw [e27]
  refine s27_0.mpr (s27_1.mpr (s27_2.mpr ?_))
  refine (s27_3 (by first | decide | assumption | omega) (by first | decide | assumption | omega)).mpr ?_
  refine k_indexOf h' ?_
  refine s27_6.mpr (s27_8.mpr ?_)
  refine s27_10.mpr (wif (fun c10 => ?_) (fun c10 => ?_))
  · skip
    refine (s27_40).mpr ?_
    first | exact q1 (by omega) | exact q2 (by omega) | (exfalso; omega)
  · skip
    refine s27_13.mpr (s27_15.mpr ?_)
    refine (s27_16 (by first | decide | assumption | omega)).mpr ?_
    try simp (disch := first | decide | assumption | omega) only [kon, knt_some, knt_none, Option.toList_some, Option.toList_none, List.cons_append, List.nil_append, w1, d1]
    refine (s27_19 (by first | decide | assumption | omega)).mpr ?_
    refine s27_20.mpr (wif (fun c20 => ?_) (fun c20 => ?_))
    · skip
      refine s27_23.mpr ?_
      refine (s27_24 (by first | decide | assumption | omega)).mpr ?_
      refine s27_27.mpr (s27_29.mpr ?_)
      try simp (disch := first | decide | assumption | omega) only [kon, knt_some, knt_none, Option.toList_some, Option.toList_none, List.cons_append, List.nil_append, w1, d1]
      refine (s27_30 (by first | decide | assumption | omega) (by first | decide | assumption | omega) (by first | decide | assumption | omega)).mpr ?_
      refine s27_31.mpr ?_
      try simp (disch := first | decide | assumption | omega) only [kon, knt_some, knt_none, Option.toList_some, Option.toList_none, List.cons_append, List.nil_append, w1, d1]
      refine (s27_32 (by first | decide | assumption | omega)).mpr ?_
      refine s27_35.mpr (s27_37.mpr ?_)
      try simp (disch := first | decide | assumption | omega) only [kon, knt_some, knt_none, Option.toList_some, Option.toList_none, List.cons_append, List.nil_append, w1, d1]
      refine (s27_39 (by first | decide | assumption | omega) (by first | decide | assumption | omega) (by first | decide | assumption | omega)).mpr ?_
      try simp (disch := first | decide | assumption | omega) only [kon, knt_some, knt_none, Option.toList_some, Option.toList_none, List.cons_append, List.nil_append, w1, d1]
      refine (s27_40).mpr ?_
      first | exact q1 (by omega) | exact q2 (by omega) | (exfalso; omega)
    · skip
      refine (s27_40).mpr ?_
      first | exact q1 (by omega) | exact q2 (by omega) | (exfalso; omega)
def sbA (hi : HI) (o : Nat) (s e m : Int) : Prop := 0 ≤ s ∧ s < 8 ∧ 0 ≤ m ∧ m < 4 ∧ hi (o + 1) s = e + 1 ∧ m < hi (o + 2) s ∧ hi (o + 3) (4 * s + m) = -1
theorem k_sendsBare {s e m : Int} (h : CtS al hr o) (he : 0 ≤ e) (he2 : e < 100) (q1 : sbA hi o s e m → Q (some (some (vI 1))) al hi hr) (q2 : ¬ sbA hi o s e m → Q (some (some (vI 0))) al hi hr) : Ev d 28 [vR (some o), vI s, vI e, vI m] al hi hr Q := by
  obtain ⟨a0, ⟨a1, a2, a3⟩, ⟨b1, b2, b3⟩, ⟨w1, w2, w3⟩, ⟨d1, d2, d3⟩⟩ := h
  unfold sbA at q1 q2
  have e9 : 0 ≤ s → s < 8 → 0 ≤ m → m < 4 → fAdd (fMul s 4) m = 4 * s + m := fun _ _ _ _ => by rw [fMul_id (by omega) (by omega), fAdd_id (by omega) (by omega)]; omega
  rw [e28]
  refine s28_0.mpr ?_
  refine s28_1.mpr (wif (fun c1 => ?_) (fun c1 => ?_))
  · skip
    refine s28_19.mpr ?_
    refine (s28_20 (by first | assumption | omega)).mpr ?_
    first | exact q1 (by omega) | exact q2 (by omega)
  · skip
    refine s28_4.mpr (s28_5.mpr ?_)
    refine s28_7.mpr (wif (fun c7 => ?_) (fun c7 => ?_))
    · skip
      refine s28_10.mpr ?_
      refine s28_11.mpr (wif (fun c11 => ?_) (fun c11 => ?_))
      · skip
        refine s28_19.mpr ?_
        refine (s28_20 (by first | assumption | omega)).mpr ?_
        first | exact q1 (by omega) | exact q2 (by omega)
      · skip
        refine s28_14.mpr (s28_15.mpr ?_)
        refine s28_16.mpr (wif (fun c16 => ?_) (fun c16 => ?_))
        · skip
          refine s28_21.mpr ?_
          refine (s28_22 (by first | decide | assumption | omega)).mpr ?_
          refine s28_25.mpr ?_
          try simp (disch := first | decide | assumption | omega) only [a1, b1, w1, e9, fAdd_id]
          refine (s28_26 (by first | decide | assumption | omega) (by first | decide | assumption | omega) (by first | decide | assumption | omega)).mpr ?_
          refine s28_27.mpr (s28_28.mpr (s28_29.mpr ?_))
          try simp (disch := first | decide | assumption | omega) only [a1, b1, w1, e9, fAdd_id]
          refine s28_30.mpr (wif (fun c30 => ?_) (fun c30 => ?_))
          · skip
            refine s28_33.mpr (s28_34.mpr ?_)
            refine (s28_35 (by first | decide | assumption | omega)).mpr ?_
            refine s28_38.mpr ?_
            try simp (disch := first | decide | assumption | omega) only [a1, b1, w1, e9, fAdd_id]
            refine (s28_39 (by first | decide | assumption | omega) (by first | decide | assumption | omega) (by first | decide | assumption | omega)).mpr ?_
            try simp (disch := first | decide | assumption | omega) only [a1, b1, w1, e9, fAdd_id]
            refine s28_40.mpr (wif (fun c40 => ?_) (fun c40 => ?_))
            · skip
              refine s28_43.mpr ?_
              refine (s28_44 (by first | decide | assumption | omega)).mpr ?_
              refine s28_47.mpr (s28_48.mpr (s28_49.mpr (s28_50.mpr (s28_51.mpr ?_))))
              try simp (disch := first | decide | assumption | omega) only [a1, b1, w1, e9, fAdd_id]
              refine (s28_52 (by first | decide | assumption | omega) (by first | decide | assumption | omega) (by first | decide | assumption | omega)).mpr ?_
              refine s28_53.mpr ?_
              try simp (disch := first | decide | assumption | omega) only [a1, b1, w1, e9, fAdd_id]
              refine s28_54.mpr (wif (fun c54 => ?_) (fun c54 => ?_))
              · skip
                refine s28_57.mpr (s28_58.mpr ?_)
                refine (s28_62 (by first | assumption | omega)).mpr ?_
                first | exact q1 (by omega) | exact q2 (by omega)
              · skip
                refine s28_61.mpr ?_
                refine (s28_62 (by first | assumption | omega)).mpr ?_
                first | exact q1 (by omega) | exact q2 (by omega)
            · skip
              refine s28_61.mpr ?_
              refine (s28_62 (by first | assumption | omega)).mpr ?_
              first | exact q1 (by omega) | exact q2 (by omega)
          · skip
            refine s28_61.mpr ?_
            refine (s28_62 (by first | assumption | omega)).mpr ?_
            first | exact q1 (by omega) | exact q2 (by omega)
        · skip
          refine s28_19.mpr ?_
          refine (s28_20 (by first | assumption | omega)).mpr ?_
          first | exact q1 (by omega) | exact q2 (by omega)
    · skip
      refine s28_19.mpr ?_
      refine (s28_20 (by first | assumption | omega)).mpr ?_
      first | exact q1 (by omega) | exact q2 (by omega)
/-- a new contract -/
theorem k_init {s : Int} (ho : isK al o 3) (e : al.1 = o + 1)
    (q : ∀ al' hi' hr', GA al al' 4 80 → CtS al' hr' o → hi' o 0 = s → (∀ a i, a < o → hi' a i = hi a i) → (∀ a i, a < o → hr' a i = hr a i) → al'.1 = o + 5 → Q (some none) al' hi' hr') : Ev d 19 [vR (some o), vI s] al hi hr Q := by
  have o2 : 2 ≤ o := ho.1
  have k1 : isK (nwA al 15 8 8) o 3 := isK_nw ho
  have k2 : isK (nwA (nwA al 15 8 8) 15 8 8) o 3 := isK_nw k1
  have k3 : isK (nwA (nwA (nwA al 15 8 8) 15 8 8) 15 32 32) o 3 := isK_nw k2
  have k4 : isK (nwA (nwA (nwA (nwA al 15 8 8) 15 8 8) 15 32 32) 15 32 32) o 3 := isK_nw k3
  rw [e19]
  refine s19_0.mpr (s19_1.mpr (s19_4.mpr (s19_5.mpr ?_)))
  refine (s19_7 (by first | assumption | omega) (by first | assumption | omega)).mpr ?_
  refine (s19_9 (by first | decide | assumption | omega)).mpr ?_
  refine s19_12.mpr (s19_13.mpr ?_)
  refine (s19_15 (by first | assumption | omega) (by first | assumption | omega)).mpr ?_
  refine (s19_17 (by first | decide | assumption | omega)).mpr ?_
  refine s19_20.mpr (s19_21.mpr ?_)
  refine (s19_23 (by first | assumption | omega) (by first | assumption | omega)).mpr ?_
  refine (s19_25 (by first | decide | assumption | omega)).mpr ?_
  refine s19_28.mpr (s19_29.mpr ?_)
  refine (s19_31 (by first | assumption | omega) (by first | assumption | omega)).mpr ?_
  refine (s19_33 (by first | decide | assumption | omega)).mpr ?_
  refine s19_36.mpr (s19_37.mpr ?_)
  refine (s19_38 (by first | decide | assumption | omega)).mpr ?_
  refine (s19_41).mpr ?_
  skip
  refine q _ _ _ (GA.mn (((GA.rf.nw).nw).nw).nw (by decide) (by decide)) ⟨k4, ⟨?_, ?_, ?_⟩, ⟨?_, ?_, ?_⟩, ⟨?_, ?_, ?_⟩, ⟨?_, ?_, ?_⟩⟩ upI_eq (fun a i ha => ?_) (fun a i ha => ?_) ?_
  all_goals (try simp only [nw_1, e])
  · rw [upR_i (by decide), zeR_a (by omega), upR_i (by decide), zeR_a (by omega), upR_i (by decide), zeR_a (by omega), upR_eq]
  · exact isK_nw (isK_nw (isK_nw (isK_n (by omega) (by omega))))
  · rw [aln_nw (by simp only [nw_1]; omega), aln_nw (by simp only [nw_1]; omega), aln_nw (by simp only [nw_1]; omega), aln_n (by omega)]; rfl
  · rw [upR_i (by decide), zeR_a (by omega), upR_i (by decide), zeR_a (by omega), upR_eq]
  · exact isK_nw (isK_nw (isK_n (by simp only [nw_1]; omega) (by simp only [nw_1]; omega)))
  · rw [aln_nw (by simp only [nw_1]; omega), aln_nw (by simp only [nw_1]; omega), aln_n (by simp only [nw_1]; omega)]; rfl
  · rw [upR_i (by decide), zeR_a (by omega), upR_eq]
  · exact isK_nw (isK_n (by simp only [nw_1]; omega) (by simp only [nw_1]; omega))
  · rw [aln_nw (by simp only [nw_1]; omega), aln_n (by simp only [nw_1]; omega)]; rfl
  · rw [upR_eq]
  · exact isK_n (by simp only [nw_1]; omega) (by simp only [nw_1]; omega)
  · rw [aln_n (by simp only [nw_1]; omega)]; rfl
  · rw [upI_a (by omega), zeI_a (by omega), zeI_a (by omega), zeI_a (by omega), zeI_a (by omega)]
  · rw [upR_a (by omega), zeR_a (by omega), upR_a (by omega), zeR_a (by omega), upR_a (by omega), zeR_a (by omega), upR_a (by omega), zeR_a (by omega)]
/-- a routine's rows stand: its types are t, it is t + 1, where instructions begin t + 2 -/
def RtS (al : AL) (hr : HR) (t : Nat) : Prop := isK al (t + 1) 8 ∧ (hr (t + 1) 1 = some t ∧ isK al t 15) ∧ (hr (t + 1) 7 = some (t + 2) ∧ isK al (t + 2) 16)
variable {t : Nat}
theorem r_typeOfParameter {i : Int} (h : RtS al hr t) (q : Q (some (some (vI (if i < 0 ∨ aln al t ≤ i then -1 else hi t i)))) al hi hr) : Ev d 107 [vR (some (t + 1)), vI i] al hi hr Q := by
  obtain ⟨a0, ⟨a1, a2⟩, ⟨b1, b2⟩⟩ := h
  have hR9 : isR al t = true := isR_of a2 (by decide) (by decide)
  rw [e107]
  refine s107_0.mpr ?_
  refine s107_1.mpr (wif (fun c1 => ?_) (fun c1 => ?_))
  · skip
    refine s107_13.mpr (s107_14.mpr ?_)
    refine (s107_23).mpr ?_
    first | (rw [if_pos (by omega)] at q; exact q) | (rw [if_neg (by omega)] at q; exact q)
  · skip
    refine s107_4.mpr (s107_5.mpr ?_)
    refine (s107_6 (by first | decide | assumption | omega)).mpr ?_
    try simp (disch := first | decide | assumption | omega) only [a1]
    refine (s107_9 (by first | decide | assumption | omega)).mpr ?_
    refine s107_10.mpr (wif (fun c10 => ?_) (fun c10 => ?_))
    · skip
      refine s107_17.mpr ?_
      refine (s107_18 (by first | decide | assumption | omega)).mpr ?_
      refine s107_21.mpr ?_
      try simp (disch := first | decide | assumption | omega) only [a1]
      refine (s107_22 (by first | decide | assumption | omega) (by first | decide | assumption | omega) (by first | decide | assumption | omega)).mpr ?_
      try simp (disch := first | decide | assumption | omega) only [a1]
      refine (s107_23).mpr ?_
      first | (rw [if_pos (by omega)] at q; exact q) | (rw [if_neg (by omega)] at q; exact q)
    · skip
      refine s107_13.mpr (s107_14.mpr ?_)
      refine (s107_23).mpr ?_
      first | (rw [if_pos (by omega)] at q; exact q) | (rw [if_neg (by omega)] at q; exact q)
def bgA (al : AL) (hi : HI) (t : Nat) (p : Int) : Prop := 0 ≤ p ∧ p < aln al (t + 2) ∧ hi (t + 2) p ≠ 0
theorem r_beginsAt {p : Int} (h : RtS al hr t) (q1 : bgA al hi t p → Q (some (some (vI 1))) al hi hr) (q2 : ¬ bgA al hi t p → Q (some (some (vI 0))) al hi hr) : Ev d 108 [vR (some (t + 1)), vI p] al hi hr Q := by
  obtain ⟨a0, ⟨a1, a2⟩, ⟨b1, b2⟩⟩ := h
  have hR9 : isR al (t + 2) = true := isR_of b2 (by decide) (by decide)
  unfold bgA at q1 q2
  rw [e108]
  refine s108_0.mpr ?_
  refine s108_1.mpr (wif (fun c1 => ?_) (fun c1 => ?_))
  · skip
    refine s108_26.mpr ?_
    refine (s108_27 (by first | assumption | omega)).mpr ?_
    first | exact q1 (by omega) | exact q2 (by omega)
  · skip
    refine s108_4.mpr (s108_5.mpr ?_)
    refine (s108_6 (by first | decide | assumption | omega)).mpr ?_
    try simp (disch := first | decide | assumption | omega) only [b1]
    refine (s108_9 (by first | decide | assumption | omega)).mpr ?_
    refine s108_10.mpr (wif (fun c10 => ?_) (fun c10 => ?_))
    · skip
      refine s108_13.mpr ?_
      refine (s108_14 (by first | decide | assumption | omega)).mpr ?_
      refine s108_17.mpr ?_
      try simp (disch := first | decide | assumption | omega) only [b1]
      refine (s108_18Z (by first | decide | assumption | omega) (by first | decide | assumption | omega) (by first | decide | assumption | omega)).mpr ?_
      try simp (disch := first | decide | assumption | omega) only [b1]
      refine s108_19.mpr (wif (fun c19 => ?_) (fun c19 => ?_))
      · skip
        refine s108_26.mpr ?_
        refine (s108_27 (by first | assumption | omega)).mpr ?_
        first | exact q1 (by omega) | exact q2 (by omega)
      · skip
        refine s108_22.mpr (s108_23.mpr ?_)
        refine (s108_27 (by first | assumption | omega)).mpr ?_
        first | exact q1 (by omega) | exact q2 (by omega)
    · skip
      refine s108_26.mpr ?_
      refine (s108_27 (by first | assumption | omega)).mpr ?_
      first | exact q1 (by omega) | exact q2 (by omega)
theorem r_setBegin {p : Int} (h : RtS al hr t) (q1 : 0 ≤ p → p < aln al (t + 2) → Q (some none) al (upI hi (t + 2) p 1) hr) (q2 : ¬ (0 ≤ p ∧ p < aln al (t + 2)) → Q (some none) al hi hr) : Ev d 109 [vR (some (t + 1)), vI p] al hi hr Q := by
  obtain ⟨a0, ⟨a1, a2⟩, ⟨b1, b2⟩⟩ := h
  have hR9 : isR al (t + 2) = true := isR_of b2 (by decide) (by decide)
  rw [e109]
  refine s109_0.mpr ?_
  refine s109_1.mpr (wif (fun c1 => ?_) (fun c1 => ?_))
  · skip
    refine (s109_20).mpr ?_
    first | exact q2 (by omega) | exact q1 (by omega) (by omega)
  · skip
    refine s109_4.mpr (s109_5.mpr ?_)
    refine (s109_6 (by first | decide | assumption | omega)).mpr ?_
    try simp (disch := first | decide | assumption | omega) only [b1]
    refine (s109_9 (by first | decide | assumption | omega)).mpr ?_
    refine s109_10.mpr (wif (fun c10 => ?_) (fun c10 => ?_))
    · skip
      refine s109_13.mpr ?_
      refine (s109_14 (by first | decide | assumption | omega)).mpr ?_
      refine s109_17.mpr (s109_18.mpr ?_)
      try simp (disch := first | decide | assumption | omega) only [b1]
      refine (s109_19Z (by first | decide | assumption | omega) (by first | decide | assumption | omega) (by first | decide | assumption | omega)).mpr ?_
      try simp (disch := first | decide | assumption | omega) only [b1]
      refine (s109_20).mpr ?_
      first | exact q2 (by omega) | exact q1 (by omega) (by omega)
    · skip
      refine (s109_20).mpr ?_
      first | exact q2 (by omega) | exact q1 (by omega) (by omega)
/-- a new routine -/
theorem r_init {r l n s : Int} (ho : isK al (t + 1) 8) (ht : isK al t 15) (e : al.1 = t + 2) (h0 : 0 ≤ n) (h1 : n ≤ 240)
    (q : ∀ al' hi' hr', GA al al' 1 240 → RtS al' hr' t → aln al' (t + 2) = n.toNat → (hi' (t + 1) 0 = (aln al t : Int) ∧ hi' (t + 1) 2 = r ∧ hi' (t + 1) 3 = l ∧ hi' (t + 1) 4 = n ∧ hi' (t + 1) 5 = s ∧ hi' (t + 1) 6 = 0 ∧ hr' (t + 1) 8 = none ∧ hr' (t + 1) 9 = none) → (∀ i, hi' (t + 2) i = 0) → (∀ a i, a < t + 1 → hi' a i = hi a i) → (∀ a i, a < t + 1 → hr' a i = hr a i) → al'.1 = t + 3 → Q (some none) al' hi' hr') : Ev d 106 [vR (some (t + 1)), vR (some t), vI r, vI l, vI n, vI s] al hi hr Q := by
  have t2 : 2 ≤ t := ht.1
  have hR9 : isR al t = true := isR_of ht (by decide) (by decide)
  have k1 : isK (nwA al 16 n.toNat n.toNat) (t + 1) 8 := isK_nw ho
  have k2 : isK (nwA al 16 n.toNat n.toNat) t 15 := isK_nw ht
  have e9 : fMax 0 n = n := by unfold fMax; split <;> omega
  rw [e106]
  refine s106_0.mpr (s106_1.mpr (s106_4.mpr (s106_5.mpr ?_)))
  refine (s106_6 (by first | decide | assumption | omega)).mpr ?_
  refine s106_9.mpr (s106_10.mpr ?_)
  try simp (disch := first | decide | assumption | omega) only [e9]
  refine (s106_11 (by first | decide | assumption | omega)).mpr ?_
  refine s106_14.mpr (s106_15.mpr ?_)
  refine (s106_16 (by first | decide | assumption | omega)).mpr ?_
  refine s106_19.mpr (s106_20.mpr ?_)
  refine (s106_21 (by first | decide | assumption | omega)).mpr ?_
  refine s106_24.mpr (s106_25.mpr ?_)
  refine (s106_26 (by first | decide | assumption | omega)).mpr ?_
  refine (s106_27 (by first | decide | assumption | omega)).mpr ?_
  refine s106_30.mpr (s106_31.mpr ?_)
  try simp (disch := first | decide | assumption | omega) only [e9]
  refine (s106_32 (by first | decide | assumption | omega)).mpr ?_
  refine s106_35.mpr (s106_36.mpr ?_)
  try simp (disch := first | decide | assumption | omega) only [e9]
  refine (s106_37 (by first | decide | assumption | omega)).mpr ?_
  refine s106_40.mpr (s106_41.mpr ?_)
  try simp (disch := first | decide | assumption | omega) only [e9]
  refine (s106_43 (by first | decide | assumption | omega)).mpr ?_
  refine s106_46.mpr (s106_47.mpr ?_)
  try simp (disch := first | decide | assumption | omega) only [e9]
  refine (s106_49 (by first | decide | assumption | omega)).mpr ?_
  refine s106_52.mpr (s106_53.mpr (s106_54.mpr (s106_56.mpr ?_)))
  try simp (disch := first | decide | assumption | omega) only [e9]
  refine (s106_59 (by first | assumption | omega) (by first | assumption | omega)).mpr ?_
  refine (s106_61 (by first | decide | assumption | omega)).mpr ?_
  refine (s106_64).mpr ?_
  skip
  refine q _ _ _ (GA.mn (GA.rf.nw) (by decide) (by omega)) ⟨k1, ⟨?_, k2⟩, ⟨?_, ?_⟩⟩ ?_ ⟨?_, ?_, ?_, ?_, ?_, ?_, ?_, ?_⟩ (fun i => ?_) (fun a i ha => ?_) (fun a i ha => ?_) ?_
  all_goals (try simp only [nw_1, e])
  · rw [upR_i (by decide), zeR_a (by omega), upR_eq]
  · rw [upR_eq]
  · exact isK_n (by omega) (by omega)
  · exact aln_n (by omega)
  · rw [zeI_a (by omega)]; (try simp (disch := decide) only [upI_eq, upI_a, upI_i, upR_eq, upR_a, upR_i])
  · rw [zeI_a (by omega)]; (try simp (disch := decide) only [upI_eq, upI_a, upI_i, upR_eq, upR_a, upR_i])
  · rw [zeI_a (by omega)]; (try simp (disch := decide) only [upI_eq, upI_a, upI_i, upR_eq, upR_a, upR_i])
  · rw [zeI_a (by omega)]; (try simp (disch := decide) only [upI_eq, upI_a, upI_i, upR_eq, upR_a, upR_i])
  · rw [zeI_a (by omega)]; (try simp (disch := decide) only [upI_eq, upI_a, upI_i, upR_eq, upR_a, upR_i])
  · rw [zeI_a (by omega)]; (try simp (disch := decide) only [upI_eq, upI_a, upI_i, upR_eq, upR_a, upR_i])
  · rw [upR_i (by decide), zeR_a (by omega), upR_i (by decide), upR_i (by decide), upR_eq]
  · rw [upR_i (by decide), zeR_a (by omega), upR_i (by decide), upR_eq]
  · exact zeI_eq
  · rw [zeI_a (by omega)]; repeat rw [upI_a (by omega)]
  · rw [upR_a (by omega), zeR_a (by omega), upR_a (by omega), upR_a (by omega), upR_a (by omega)]
end CT2
