/-! RUNNING, the class: ends -/
section CE0
variable {d : Nat} {Q : QQ} {T : TXs} {al al' : AL} {hi hi' : HI} {hr hr' : HR} {s s' : HI} {A A' : Int → Int → Int} {NN : Int → Option Nat} {E E' : Int → Prop} {p q m f v w x i e : Int} {B : Int → Int} {X Y : Tst} {t t' N : Nat} {al0 : AL} {hi0 : HI} {hr0 : HR}
theorem e_isOpen (hA : SA al) (hC : CR hr) (q1 : 0 ≤ e → e < 24 → hi 34 e ≠ 0 → Q (some (some (vI 1))) al hi hr) (q0 : ¬ (0 ≤ e ∧ e < 24 ∧ hi 34 e ≠ 0) → Q (some (some (vI 0))) al hi hr) : Ev d 41 [vR (some 33), vI e] al hi hr Q := by
  have k33 : isK al 33 5 := hA.k (by decide) (by decide) rfl
  have l34 := SA.len (a := 34) (n := 24) hA (by decide) (by decide) rfl
  have R34 : isR al 34 = true := hA.r (by decide) (by decide) (by decide); have K34 : isK al 34 16 := hA.k (by decide) (by decide) rfl; have R35 : isR al 35 = true := hA.r (by decide) (by decide) (by decide); have R36 : isR al 36 = true := hA.r (by decide) (by decide) (by decide); have R38 : isR al 38 = true := hA.r (by decide) (by decide) (by decide); have R39 : isR al 39 = true := hA.r (by decide) (by decide) (by decide); have R40 : isR al 40 = true := hA.r (by decide) (by decide) (by decide); have R41 : isR al 41 = true := hA.r (by decide) (by decide) (by decide); have R42 : isR al 42 = true := hA.r (by decide) (by decide) (by decide)
  have g34 := cr_33_1 hC
  rw [e41]
  refine s41_0.mpr ?_
  refine s41_1.mpr (wif (fun c1 => ?_) (fun c1 => ?_))
  · skip
    refine s41_23.mpr ?_
    refine (s41_24 (by first | assumption | omega)).mpr ?_
    first | exact q1 (by omega) (by omega) (by omega) | exact q0 (by omega)
  · skip
    refine s41_4.mpr (s41_5.mpr ?_)
    refine s41_7.mpr (wif (fun c7 => ?_) (fun c7 => ?_))
    · skip
      refine s41_10.mpr ?_
      refine (s41_11 (by first | decide | assumption | omega)).mpr ?_
      refine s41_14.mpr ?_
      try simp (disch := first | decide | assumption | omega) only [g34]
      refine (s41_15Z (by first | decide | assumption | omega) (by first | decide | assumption | omega) (by first | decide | assumption | omega)).mpr ?_
      try simp (disch := first | decide | assumption | omega) only [g34]
      refine s41_16.mpr (wif (fun c16 => ?_) (fun c16 => ?_))
      · skip
        refine s41_23.mpr ?_
        refine (s41_24 (by first | assumption | omega)).mpr ?_
        first | exact q1 (by omega) (by omega) (by omega) | exact q0 (by omega)
      · skip
        refine s41_19.mpr (s41_20.mpr ?_)
        refine (s41_24 (by first | assumption | omega)).mpr ?_
        first | exact q1 (by omega) (by omega) (by omega) | exact q0 (by omega)
    · skip
      refine s41_23.mpr ?_
      refine (s41_24 (by first | assumption | omega)).mpr ?_
      first | exact q1 (by omega) (by omega) (by omega) | exact q0 (by omega)
theorem e_addClosing (hA : SA al) (hC : CR hr) (h : 0 ≤ hi 33 10 ∧ hi 33 10 < 25) (q : Q (some none) al (upI (upI hi 42 (hi 33 10) e) 33 10 (hi 33 10 + 1)) hr) : Ev d 60 [vR (some 33), vI e] al hi hr Q := by
  have k33 : isK al 33 5 := hA.k (by decide) (by decide) rfl
  have l42 := SA.len (a := 42) (n := 25) hA (by decide) (by decide) rfl
  have R34 : isR al 34 = true := hA.r (by decide) (by decide) (by decide); have K34 : isK al 34 16 := hA.k (by decide) (by decide) rfl; have R35 : isR al 35 = true := hA.r (by decide) (by decide) (by decide); have R36 : isR al 36 = true := hA.r (by decide) (by decide) (by decide); have R38 : isR al 38 = true := hA.r (by decide) (by decide) (by decide); have R39 : isR al 39 = true := hA.r (by decide) (by decide) (by decide); have R40 : isR al 40 = true := hA.r (by decide) (by decide) (by decide); have R41 : isR al 41 = true := hA.r (by decide) (by decide) (by decide); have R42 : isR al 42 = true := hA.r (by decide) (by decide) (by decide)
  have K35 : isK al 35 15 := hA.k (by decide) (by decide) rfl; have K36 : isK al 36 15 := hA.k (by decide) (by decide) rfl; have K38 : isK al 38 15 := hA.k (by decide) (by decide) rfl; have K39 : isK al 39 15 := hA.k (by decide) (by decide) rfl; have K40 : isK al 40 15 := hA.k (by decide) (by decide) rfl; have K41 : isK al 41 15 := hA.k (by decide) (by decide) rfl; have K42 : isK al 42 15 := hA.k (by decide) (by decide) rfl
  have g42 := cr_33_9 hC
  rw [e60]
  refine s60_0.mpr ?_
  refine (s60_1 (by first | decide | assumption | omega)).mpr ?_
  refine s60_4.mpr ?_
  try simp (disch := first | decide | assumption | omega) only [g42, upI_a, upI_i, fAdd_id]
  refine (s60_5 (by first | decide | assumption | omega)).mpr ?_
  try simp (disch := first | decide | assumption | omega) only [g42, upI_a, upI_i, fAdd_id]
  refine (s60_8 (by first | decide | assumption | omega)).mpr ?_
  try simp (disch := first | decide | assumption | omega) only [g42, upI_a, upI_i, fAdd_id]
  refine s60_9.mpr (wif (fun c9 => ?_) (fun c9 => ?_))
  · first
    | (exfalso; omega)
    | skip
      refine s60_12.mpr ?_
      refine (s60_13 (by first | decide | assumption | omega)).mpr ?_
      refine s60_16.mpr ?_
      try simp (disch := first | decide | assumption | omega) only [g42, upI_a, upI_i, fAdd_id]
      refine (s60_17 (by first | decide | assumption | omega)).mpr ?_
      refine s60_20.mpr ?_
      try simp (disch := first | decide | assumption | omega) only [g42, upI_a, upI_i, fAdd_id]
      refine (s60_21 (by first | decide | assumption | omega) (by first | decide | assumption | omega) (by first | decide | assumption | omega)).mpr ?_
      refine s60_22.mpr (s60_23.mpr ?_)
      try simp (disch := first | decide | assumption | omega) only [g42, upI_a, upI_i, fAdd_id]
      refine (s60_24 (by first | decide | assumption | omega)).mpr ?_
      refine s60_27.mpr (s60_28.mpr ?_)
      try simp (disch := first | decide | assumption | omega) only [g42, upI_a, upI_i, fAdd_id]
      refine (s60_29 (by first | decide | assumption | omega)).mpr ?_
      try simp (disch := first | decide | assumption | omega) only [g42, upI_a, upI_i, fAdd_id]
      refine (s60_32).mpr ?_
      first | exact q | (exfalso; omega)
  · first
    | (exfalso; omega)
    | skip
      refine (s60_32).mpr ?_
      first | exact q | (exfalso; omega)
theorem e_close (hA : SA al) (hC : CR hr) (hd : 1 ≤ d) (h : 0 ≤ hi 33 10 ∧ hi 33 10 < 25) (no : ¬ (0 ≤ e ∧ e < 24 ∧ hi 34 e ≠ 0) → Q (some none) al hi hr) (yes : 0 ≤ e → e < 24 → hi 34 e ≠ 0 → Q (some none) al (upI (upI (upI hi 34 e 0) 42 (hi 33 10) e) 33 10 (hi 33 10 + 1)) hr) : Ev d 58 [vR (some 33), vI e] al hi hr Q := by
  have k33 : isK al 33 5 := hA.k (by decide) (by decide) rfl
  have l34 := SA.len (a := 34) (n := 24) hA (by decide) (by decide) rfl
  have l42 := SA.len (a := 42) (n := 25) hA (by decide) (by decide) rfl
  have R34 : isR al 34 = true := hA.r (by decide) (by decide) (by decide); have K34 : isK al 34 16 := hA.k (by decide) (by decide) rfl; have R35 : isR al 35 = true := hA.r (by decide) (by decide) (by decide); have R36 : isR al 36 = true := hA.r (by decide) (by decide) (by decide); have R38 : isR al 38 = true := hA.r (by decide) (by decide) (by decide); have R39 : isR al 39 = true := hA.r (by decide) (by decide) (by decide); have R40 : isR al 40 = true := hA.r (by decide) (by decide) (by decide); have R41 : isR al 41 = true := hA.r (by decide) (by decide) (by decide); have R42 : isR al 42 = true := hA.r (by decide) (by decide) (by decide)
  have g34 := cr_33_1 hC
  rw [e58]
  have ek : upI hi 34 e 0 33 10 = hi 33 10 := upI_a (by decide)
  by_cases c : 0 ≤ e ∧ e < 24 ∧ hi 34 e ≠ 0
  · have E := yes c.1 c.2.1 c.2.2
    have c1 := c.1
    have c2 := c.2.1
    have X := e_addClosing (d := d - 1) (e := e) (Q := kon d 58 17 20 [vR (some 33), vI e] [] Q) (hi := upI hi 34 e 0) hA hC (by rw [ek]; exact h) (by
      rw [ek]
      simp only [kon, knt_some, knt_none, Option.toList_some, Option.toList_none, List.cons_append, List.nil_append]
      refine (s58_20).mpr ?_
      exact E
      )
    refine s58_0.mpr (s58_1.mpr ?_)
    refine (s58_2 (by first | decide | assumption | omega) (by first | decide | assumption | omega)).mpr ?_
    refine e_isOpen hA hC (fun _ _ _ => ?_) (fun z => absurd c z)
    simp only [kon, knt_some, knt_none, Option.toList_some, Option.toList_none, List.cons_append, List.nil_append]
    refine s58_5.mpr (wif (fun c5 => ?_) (fun c5 => ?_))
    · first
      | (exfalso; omega)
      | skip
        exfalso; omega
    · first
      | (exfalso; omega)
      | skip
        refine s58_8.mpr ?_
        refine (s58_9 (by first | decide | assumption | omega)).mpr ?_
        refine s58_12.mpr (s58_13.mpr ?_)
        try simp (disch := first | decide | assumption | omega) only [g34, kon, knt_some, knt_none, Option.toList_some, Option.toList_none, List.cons_append, List.nil_append]
        refine (s58_14Z (by first | decide | assumption | omega) (by first | decide | assumption | omega) (by first | decide | assumption | omega)).mpr ?_
        refine s58_15.mpr (s58_16.mpr ?_)
        try simp (disch := first | decide | assumption | omega) only [g34, kon, knt_some, knt_none, Option.toList_some, Option.toList_none, List.cons_append, List.nil_append]
        refine (s58_17 (by first | decide | assumption | omega) (by first | decide | assumption | omega)).mpr ?_
        exact X
  · have E := no c
    refine s58_0.mpr (s58_1.mpr ?_)
    refine (s58_2 (by first | decide | assumption | omega) (by first | decide | assumption | omega)).mpr ?_
    refine e_isOpen hA hC (fun z1 z2 z3 => absurd ⟨z1, z2, z3⟩ c) (fun _ => ?_)
    simp only [kon, knt_some, knt_none, Option.toList_some, Option.toList_none, List.cons_append, List.nil_append]
    refine s58_5.mpr (wif (fun c5 => ?_) (fun c5 => ?_))
    · first
      | (exfalso; omega)
      | skip
        refine (s58_20).mpr ?_
        exact E
    · first
      | (exfalso; omega)
      | skip
        exfalso; omega
theorem opc_up : ∀ n : Nat, 0 ≤ e → e < n → hi 34 e = 1 → opc (upI hi 34 e 0) n = opc hi n - 1
  | 0, h0, h, _ => by omega
  | n + 1, h0, h, h1 => by
    unfold opc
    by_cases z : e = n
    · subst z
      have : ∀ k : Nat, k ≤ n → opc (upI hi 34 n 0) k = opc hi k := fun k => by
        induction k with
        | zero => intro _; rfl
        | succ k ih => intro hk; unfold opc; rw [ih (by omega), upI_i (by omega)]
      rw [upI_eq, this n (by omega), if_neg (by omega), if_pos h1]; omega
    · rw [upI_i (fun y => z y.symm), opc_up n h0 (by omega) h1]; omega
theorem opc_b : ∀ n : Nat, 0 ≤ opc hi n ∧ opc hi n ≤ n
  | 0 => ⟨Int.le_refl _, Int.le_refl _⟩
  | n + 1 => by have := opc_b n; unfold opc; split <;> omega
theorem opc_1 : ∀ n : Nat, 0 ≤ e → e < n → hi 34 e ≠ 1 → opc hi n ≤ n - 1
  | 0, h0, h, _ => by omega
  | n + 1, h0, h, h1 => by
    unfold opc
    by_cases z : e = n
    · subst z
      have := (opc_b (hi := hi) n).2
      rw [if_neg h1]; omega
    · have := opc_1 n h0 (by omega) h1
      split <;> omega
theorem opc_2 : ∀ n : Nat, 0 ≤ e → e < n → hi 34 e = 1 → 1 ≤ opc hi n
  | 0, h0, h, _ => by omega
  | n + 1, h0, h, h1 => by
    unfold opc
    have := (opc_b (hi := hi) n).1
    by_cases z : e = n
    · subst z
      rw [if_pos h1]; omega
    · have := opc_2 n h0 (by omega) h1
      split <;> omega
set_option maxRecDepth 8000 in
/-- an end is closed: it is in the list then -/
theorem x_close {j : Int} (h : RelS T NN al0 hi0 hr0 E A al hi hr s) (hP : AllP s) (hL : ClL j hi E) (hj : j ≤ hi 33 10) (hd : 1 ≤ d) (q : ∀ hi' E', RelS T NN al0 hi0 hr0 E' A al hi' hr s → ClL j hi' E' → (∀ x, E' x ↔ E x ∨ (x = e ∧ opn s e)) → j ≤ hi' 33 10 → (∀ (a : Nat) i, a ≠ 33 → a ≠ 34 → a ≠ 42 → hi' a i = hi a i) → (∀ i, i < j → hi' 42 i = hi 42 i) → hi 33 10 ≤ hi' 33 10 → (∀ i, i < hi 33 10 → hi' 42 i = hi 42 i) → Q (some none) al hi' hr) : Ev d 58 [vR (some 33), vI e] al hi hr Q := by
  obtain ⟨⟨l0, l1⟩, l2, l3, l4⟩ := hL
  obtain ⟨n0, n1, n2⟩ := h.2.2.2.1
  have hop := (opc_b (hi := hi) 24).1
  refine e_close h.1.1 h.1.2.1 hd (by omega) (fun no => ?_) (fun e0 e1 e2 => ?_)
  · refine q hi E h ⟨⟨l0, l1⟩, l2, l3, l4⟩ (fun x => ⟨Or.inl, fun z => ?_⟩) hj (fun _ _ _ _ _ => rfl) (fun _ _ => rfl) (Int.le_refl _) (fun _ _ => rfl)
    rcases z with z | ⟨rfl, z⟩
    · exact z
    · apply Classical.byContradiction
      intro y
      have := (n1 x z.1 z.2.1).2.1.mpr ⟨z, y⟩
      exact no ⟨z.1, z.2.1, by omega⟩
  · obtain ⟨z1, z2, z3, z4⟩ := n1 e e0 e1
    have e9 : hi 34 e = 1 := by omega
    obtain ⟨ho, hn⟩ := z2.mp e9
    have oc := opc_up (hi := hi) 24 e0 (by omega) e9
    obtain ⟨c, hc⟩ : ∃ c, hi 33 10 = c := ⟨_, rfl⟩
    rw [hc] at l0 l1 l2 l3 l4 hj ⊢
    have r34 : ∀ i, upI (upI (upI hi 34 e 0) 42 c e) 33 10 (c + 1) 34 i = upI hi 34 e 0 34 i := fun i => by rw [upI_a (by decide), upI_a (by decide)]
    have r10 : upI (upI (upI hi 34 e 0) 42 c e) 33 10 (c + 1) 33 10 = c + 1 := upI_eq
    have r42 : ∀ i, i ≠ c → upI (upI (upI hi 34 e 0) 42 c e) 33 10 (c + 1) 42 i = hi 42 i := fun i z => by rw [upI_a (by decide), upI_i z, upI_a (by decide)]
    have r42c : upI (upI (upI hi 34 e 0) 42 c e) 33 10 (c + 1) 42 c = e := by rw [upI_a (by decide), upI_eq]
    have rw9 : ∀ (a : Nat) i, a ≠ 33 → a ≠ 34 → a ≠ 42 → upI (upI (upI hi 34 e 0) 42 c e) 33 10 (c + 1) a i = hi a i := fun a i y1 y2 y3 => by rw [upI_a y1, upI_a y3, upI_a y2]
    obtain ⟨h9, hh9⟩ : ∃ h9, upI (upI (upI hi 34 e 0) 42 c e) 33 10 (c + 1) = h9 := ⟨_, rfl⟩
    rw [hh9] at r34 r10 r42 r42c rw9 ⊢
    have oc9 := opc_c (hi := upI hi 34 e 0) (hi' := h9) (fun i => r34 i) 24
    refine q h9 (fun x => E x ∨ x = e) (h.glo hP (fun a i z => rw9 a i (by unfold gC at z; omega) (by unfold gC at z; omega) (by unfold gC at z; omega)) (fun _ _ _ => rfl) (fun _ _ _ => rfl) rfl (h.2.1.cg (fun a i z => rw9 a i (by omega) (by omega) (by omega)) (fun _ _ _ => rfl)) (h.2.2.1.cg (fun a i y1 y2 => rw9 a i (by omega) (by omega) (by omega)) (fun _ _ _ => rfl) (fun _ _ _ _ => ⟨rfl, fun _ _ _ => rfl⟩)) ⟨fun x z => ?_, fun x x0 x1 => ?_, n2⟩) ⟨⟨by omega, by omega⟩, fun k k0 k1 => ?_, fun k k' k0 k1 k2 => ?_, fun x hx => ?_⟩ (fun x => ⟨fun z => z.imp id (fun y => ⟨y, ho⟩), fun z => z.imp id (fun y => y.1)⟩) (by omega) rw9 (fun i z => r42 i (by omega)) (by omega) (fun i z => r42 i (by omega))
    · rcases z with z | rfl
      · exact n0 x z
      · exact ho
    · obtain ⟨y1, y2, y3, y4⟩ := n1 x x0 x1
      rw [r34, rw9 38 _ (by decide) (by decide) (by decide)]
      by_cases u : x = e
      · subst u
        rw [upI_eq]
        refine ⟨Or.inl rfl, ⟨fun z => absurd z (by decide), fun z => absurd (Or.inr rfl) z.2⟩, y3, fun o => ?_⟩
        rw [rw9 35 _ (by decide) (by decide) (by decide), rw9 36 _ (by decide) (by decide) (by decide)]
        refine ⟨fun z => absurd (Or.inr rfl) z, fun k k0 k1 => ?_⟩
        rw [rw9 39 _ (by decide) (by decide) (by decide), rw9 40 _ (by decide) (by decide) (by decide), rw9 41 _ (by decide) (by decide) (by decide)]
        exact (y4 o).2 k k0 k1
      · rw [upI_i u]
        refine ⟨y1, y2.trans ⟨fun z => ⟨z.1, fun w => w.elim z.2 u⟩, fun z => ⟨z.1, fun w => z.2 (Or.inl w)⟩⟩, y3, fun o => ?_⟩
        rw [rw9 35 _ (by decide) (by decide) (by decide), rw9 36 _ (by decide) (by decide) (by decide)]
        refine ⟨fun z => (y4 o).1 (fun w => z (Or.inl w)), fun k k0 k1 => ?_⟩
        rw [rw9 39 _ (by decide) (by decide) (by decide), rw9 40 _ (by decide) (by decide) (by decide), rw9 41 _ (by decide) (by decide) (by decide)]
        exact (y4 o).2 k k0 k1
    · rw [r10] at k1
      by_cases u : k = c
      · subst u; rw [r42c]; exact Or.inr rfl
      · rw [r42 k u]; exact Or.inl (l2 k k0 (by omega))
    · rw [r10] at k2
      by_cases u : k' = c
      · subst u
        rw [r42c, r42 k (by omega)]
        intro y
        exact hn (by rw [← y]; exact l2 k k0 (by omega))
      · rw [r42 k (by omega), r42 k' u]; exact l3 k k' k0 k1 (by omega)
    · rw [r10]
      rcases hx with hx | rfl
      · obtain ⟨k, k0, k1, k2⟩ := l4 x hx
        exact ⟨k, k0, by omega, by rw [r42 k (by omega)]; exact k2⟩
      · exact ⟨c, hj, by omega, r42c⟩
set_option maxRecDepth 8000 in
/-- all that a process has of ends -/
theorem x_closeAllOf (h : RelS T NN al0 hi0 hr0 E A al hi hr s) (hP : AllP s) (hL : ClL 0 hi E) (hE : ∀ x, ¬ E x) (hd : 2 ≤ d) (q : ∀ hi', RelS T NN al0 hi0 hr0 (fun x => opn s x ∧ s 113 x = p) A al hi' hr s → ClL 0 hi' (fun x => opn s x ∧ s 113 x = p) → (∀ (a : Nat) i, a ≠ 33 → a ≠ 34 → a ≠ 42 → hi' a i = hi a i) → Q (some none) al hi' hr) : Ev d 59 [vR (some 33), vI p] al hi hr Q := by
  have hA := h.1.1
  have hC := h.1.2.1
  have k33 : isK al 33 5 := hA.k (by decide) (by decide) rfl
  have l34 := SA.len (a := 34) (n := 24) hA (by decide) (by decide) rfl
  have l36 := SA.len (a := 36) (n := 24) hA (by decide) (by decide) rfl
  have R34 : isR al 34 = true := hA.r (by decide) (by decide) (by decide); have K34 : isK al 34 16 := hA.k (by decide) (by decide) rfl; have R35 : isR al 35 = true := hA.r (by decide) (by decide) (by decide); have R36 : isR al 36 = true := hA.r (by decide) (by decide) (by decide); have R38 : isR al 38 = true := hA.r (by decide) (by decide) (by decide); have R39 : isR al 39 = true := hA.r (by decide) (by decide) (by decide); have R40 : isR al 40 = true := hA.r (by decide) (by decide) (by decide); have R41 : isR al 41 = true := hA.r (by decide) (by decide) (by decide); have R42 : isR al 42 = true := hA.r (by decide) (by decide) (by decide)
  have K35 : isK al 35 15 := hA.k (by decide) (by decide) rfl; have K36 : isK al 36 15 := hA.k (by decide) (by decide) rfl; have K38 : isK al 38 15 := hA.k (by decide) (by decide) rfl; have K39 : isK al 39 15 := hA.k (by decide) (by decide) rfl; have K40 : isK al 40 15 := hA.k (by decide) (by decide) rfl; have K41 : isK al 41 15 := hA.k (by decide) (by decide) rfl; have K42 : isK al 42 15 := hA.k (by decide) (by decide) rfl
  have g29 := cr_33_0 hC; have g34 := cr_33_1 hC; have g35 := cr_33_2 hC; have g36 := cr_33_3 hC; have g37 := cr_33_4 hC; have g38 := cr_33_5 hC; have g39 := cr_33_6 hC; have g40 := cr_33_7 hC; have g41 := cr_33_8 hC; have g42 := cr_33_9 hC
  have T2 : Wp d 59 2 [vR (some 33), vI p, vI 0] [] al hi hr Q := by
    refine wp_cnt (N := 24) (fun i ls h3 => ls = [vR (some 33), vI p, vI i] ∧ (∃ E', RelS T NN al0 hi0 hr0 E' A al h3 hr s ∧ ClL 0 h3 E' ∧ (∀ x, E' x ↔ opn s x ∧ s 113 x = p ∧ x < i) ∧ 0 ≤ h3 33 10) ∧ ∀ (a : Nat) i, a ≠ 33 → a ≠ 34 → a ≠ 42 → h3 a i = hi a i) ?_ ?_ _ _ ⟨rfl, ⟨E, h, hL, fun x => ⟨fun z => absurd z (hE x), fun z => absurd z.1.1 (by omega)⟩, hL.1.1⟩, fun _ _ _ _ _ => rfl⟩
    · rintro i ls h3 hi9 ⟨rfl, ⟨E', w3, w4, w5, w6⟩, a3⟩ nx
      obtain ⟨z1, z2, z3, z4⟩ := w3.2.2.2.1.2.1 i (by omega) (by omega)
      have nE : ¬ E' i := fun z => by have := ((w5 i).mp z).2.2; omega
      have st : ∀ {F : Int → Prop}, (∀ x, F x ↔ E' x ∨ (x = (i : Int) ∧ opn s i ∧ s 113 i = p)) → ∀ x, F x ↔ opn s x ∧ s 113 x = p ∧ x < ((i + 1 : Nat) : Int) := fun hF x => by
        rw [hF, w5]
        constructor
        · rintro (⟨y1, y2, y3⟩ | ⟨rfl, y1, y2⟩)
          · exact ⟨y1, y2, by omega⟩
          · exact ⟨y1, y2, by omega⟩
        · rintro ⟨y1, y2, y3⟩
          by_cases u : x = i
          · subst u; exact Or.inr ⟨rfl, y1, y2⟩
          · exact Or.inl ⟨y1, y2, by omega⟩
      by_cases c : opn s i ∧ s 113 i = p
      · have o1 := z2.mpr ⟨c.1, nE⟩
        have o2 := ((z4 c.1).1 nE).2
        have c2 := c.2
        rw [c2] at o2
        have X := x_close (d := d - 1) (Q := kon d 59 29 32 [vR (some 33), vI p, vI i] [] Q) (e := i) (j := 0) w3 hP w4 w6 (by omega) (fun h4 F y1 y2 y3 y4 y5 _ _ _ => by
          have N := nx [vR (some 33), vI p, vI (i + 1)] h4 ⟨by rw [cast1], ⟨F, y1, y2, st (fun x => (y3 x).trans ⟨fun z => z.imp id (fun u => ⟨u.1, u.2, c2⟩), fun z => z.imp id (fun u => ⟨u.1, u.2.1⟩)⟩), y4⟩, fun a j u1 u2 u3 => (y5 a j u1 u2 u3).trans (a3 a j u1 u2 u3)⟩
          simp only [kon, knt_some, knt_none, Option.toList_some, Option.toList_none, List.cons_append, List.nil_append]
          refine s59_32.mpr (s59_35.mpr ?_)
          try simp (disch := first | decide | assumption | omega) only [fAdd_id]
          exact N
          )
        refine s59_2.mpr (s59_3.mpr ?_)
        refine s59_5.mpr (wif (fun c5 => ?_) (fun c5 => ?_))
        · first
          | (exfalso; omega)
          | skip
            refine s59_8.mpr ?_
            refine (s59_9 (by first | decide | assumption | omega)).mpr ?_
            refine s59_12.mpr ?_
            try simp (disch := first | decide | assumption | omega) only [g29, g34, g35, g36, g37, g38, g39, g40, g41, g42, o1, o2]
            refine (s59_13Z (by first | decide | assumption | omega) (by first | decide | assumption | omega) (by first | decide | assumption | omega)).mpr ?_
            try simp (disch := first | decide | assumption | omega) only [g29, g34, g35, g36, g37, g38, g39, g40, g41, g42, o1, o2]
            refine s59_14.mpr (wif (fun c14 => ?_) (fun c14 => ?_))
            · first
              | (exfalso; omega)
              | skip
                exfalso; omega
            · first
              | (exfalso; omega)
              | skip
                refine s59_17.mpr ?_
                refine (s59_18 (by first | decide | assumption | omega)).mpr ?_
                refine s59_21.mpr ?_
                try simp (disch := first | decide | assumption | omega) only [g29, g34, g35, g36, g37, g38, g39, g40, g41, g42, o1, o2]
                refine (s59_22 (by first | decide | assumption | omega) (by first | decide | assumption | omega) (by first | decide | assumption | omega)).mpr ?_
                refine s59_23.mpr ?_
                try simp (disch := first | decide | assumption | omega) only [g29, g34, g35, g36, g37, g38, g39, g40, g41, g42, o1, o2]
                refine s59_24.mpr (wif (fun c24 => ?_) (fun c24 => ?_))
                · first
                  | (exfalso; omega)
                  | skip
                    refine s59_27.mpr (s59_28.mpr ?_)
                    refine (s59_29 (by first | decide | assumption | omega) (by first | decide | assumption | omega)).mpr ?_
                    exact X
                · first
                  | (exfalso; omega)
                  | skip
                    exfalso; omega
        · first
          | (exfalso; omega)
          | skip
            refine (s59_38).mpr ?_
            exfalso; omega
      · have N := nx [vR (some 33), vI p, vI (i + 1)] h3 ⟨by rw [cast1], ⟨E', w3, w4, st (fun x => ⟨Or.inl, fun z => z.elim id (fun u => absurd u.2 c)⟩), w6⟩, a3⟩
        have T32 : Wp d 59 32 [vR (some 33), vI p, vI i] [] al h3 hr Q := by
          refine s59_32.mpr (s59_35.mpr ?_)
          try simp (disch := first | decide | assumption | omega) only [fAdd_id]
          exact N
        refine s59_2.mpr (s59_3.mpr ?_)
        refine s59_5.mpr (wif (fun c5 => ?_) (fun c5 => ?_))
        · first
          | (exfalso; omega)
          | skip
            refine s59_8.mpr ?_
            refine (s59_9 (by first | decide | assumption | omega)).mpr ?_
            refine s59_12.mpr ?_
            try simp (disch := first | decide | assumption | omega) only [g29, g34, g35, g36, g37, g38, g39, g40, g41, g42]
            refine (s59_13Z (by first | decide | assumption | omega) (by first | decide | assumption | omega) (by first | decide | assumption | omega)).mpr ?_
            try simp (disch := first | decide | assumption | omega) only [g29, g34, g35, g36, g37, g38, g39, g40, g41, g42]
            refine s59_14.mpr (wif (fun c14 => ?_) (fun c14 => ?_))
            · first
              | (exfalso; omega)
              | skip
                exact T32
            · first
              | (exfalso; omega)
              | skip
                refine s59_17.mpr ?_
                refine (s59_18 (by first | decide | assumption | omega)).mpr ?_
                refine s59_21.mpr ?_
                try simp (disch := first | decide | assumption | omega) only [g29, g34, g35, g36, g37, g38, g39, g40, g41, g42]
                refine (s59_22 (by first | decide | assumption | omega) (by first | decide | assumption | omega) (by first | decide | assumption | omega)).mpr ?_
                refine s59_23.mpr ?_
                try simp (disch := first | decide | assumption | omega) only [g29, g34, g35, g36, g37, g38, g39, g40, g41, g42]
                refine s59_24.mpr (wif (fun c24 => ?_) (fun c24 => ?_))
                · first
                  | (exfalso; omega)
                  | skip
                    exfalso; have y := z2.mp (by omega); have y2 := ((z4 y.1).1 nE).2; exact c ⟨y.1, by omega⟩
                · first
                  | (exfalso; omega)
                  | skip
                    exact T32
        · first
          | (exfalso; omega)
          | skip
            refine (s59_38).mpr ?_
            exfalso; omega
    · rintro ls h3 ⟨rfl, ⟨E', w3, w4, w5, w6⟩, a3⟩
      have eE : E' = fun x => opn s x ∧ s 113 x = p := by
        funext x
        exact propext ((w5 x).trans ⟨fun z => ⟨z.1, z.2.1⟩, fun z => ⟨z.1, z.2, by have := z.1.2.1; omega⟩⟩)
      subst eE
      have E9 := q h3 w3 w4 a3
      refine s59_2.mpr (s59_3.mpr ?_)
      refine s59_5.mpr (wif (fun c5 => ?_) (fun c5 => ?_))
      · skip
        exfalso; omega
      · skip
        refine (s59_38).mpr ?_
        exact E9
  rw [e59]
  refine s59_0.mpr (s59_1.mpr ?_)
  exact T2
end CE0
