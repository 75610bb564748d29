/-! BOOT, the class: all is cleared -/
section CB0
variable {d : Nat} {Q : QQ} {T : TXs} {al al' : AL} {hi hi' h1 h : HI} {hr hr' r1 : HR} {s s' s1 : HI} {A A' : Int → Int → Int} {NN : Int → Option Nat} {E : Int → Prop} {p m k n i : Int} {t N : Nat} {al0 : AL} {hi0 : HI} {hr0 : HR}
theorem bcn_0 : ∀ n : Nat, (∀ b : Nat, b < n → s 109 b = -1) → bcn s n = 0 ∧ bcl s n = 0
  | 0, _ => ⟨rfl, rfl⟩
  | n + 1, h => by
    obtain ⟨u1, u2⟩ := bcn_0 n (fun b hb => h b (by omega))
    unfold bcn bcl
    rw [u1, u2, h n (by omega)]
    exact ⟨rfl, rfl⟩
theorem opc_0 : ∀ n : Nat, (∀ b : Nat, b < n → hi 34 b = 0) → opc hi n = 0
  | 0, _ => rfl
  | n + 1, h => by
    unfold opc
    rw [opc_0 n (fun b hb => h b (by omega)), h n (by omega)]
    rfl
theorem RelC.m46 (hR : RelC T NN al0 hi0 hr0 E A al hi hr s) (hP : AllP s) (hw : ∀ (a : Nat) i, a ≠ 46 → hi' a i = hi a i) : RelC T NN al0 hi0 hr0 E A al hi' hr s := by
  obtain ⟨R1, R2⟩ := hR.rs_
  exact (R1.glo hP (fun a i y => hw a i (by unfold gC at y; omega)) (fun _ _ _ => rfl) (fun _ _ _ => rfl) rfl (R1.2.1.cg (fun a i y => hw a i (by omega)) (fun _ _ _ => rfl)) (R1.2.2.1.cg (fun a i y1 y2 => hw a i (by omega)) (fun _ _ _ => rfl) (fun _ _ _ _ => ⟨rfl, fun _ _ _ => rfl⟩)) (R1.2.2.2.1.cg (fun a i y1 y2 => hw a i (by omega)) (fun _ => rfl) (fun _ => rfl) (fun _ _ => ⟨rfl, rfl, fun _ _ _ => ⟨rfl, rfl, rfl⟩⟩))).rc_ (R2.cg (fun a i y => hw a i (by omega)))
/-- nothing has begun -/
theorem RelC.bt0 (hA : SA al) (hC : CR hr) (hT : TkA al hr) (h0 : ∀ q t, 0 ≤ q → q < 12 → hr 27 q = some t → hi t 0 = q) (h26 : hi 26 0 = 1 ∧ hi 26 8 = 0 ∧ hi 26 9 = 0 ∧ hi 26 10 = 0 ∧ hi 26 11 = 0) (h28 : ∀ q, 0 ≤ q → q < 12 → hi 28 q = 0) (h29 : hi 29 3 = 0 ∧ hi 29 4 = 0) (h30 : ∀ b, 0 ≤ b → b < 128 → hi 30 b = 0) (h33 : hi 33 10 = 0) (h34 : ∀ e, 0 ≤ e → e < 24 → hi 34 e = 0 ∧ hi 38 e = 0) : RelC T NN al hi hr (fun _ => False) A al hi hr (bp0 0 s1) ∧ AllP (bp0 0 s1) := by
  obtain ⟨B1, B2, -, -, -, -, B7, B8, -⟩ := bp_0 (S := fun _ => none) (G := s1) (kn := 0) (s0 := s1)
  have e89 : ∀ q, 0 ≤ q → q < 12 → bp0 0 s1 89 q = 4 := fun q q0 q1 => by rw [B2, if_neg (by omega), if_pos ⟨q0, q1⟩]
  have e109 : ∀ b, 0 ≤ b → b < 128 → bp0 0 s1 109 b = -1 := fun b b0 b1 => by rw [B7, if_pos ⟨b0, b1⟩]
  have e112 : ∀ x, 0 ≤ x → x < 24 → bp0 0 s1 112 x = -1 ∧ bp0 0 s1 114 x = 0 := fun x x0 x1 => ⟨by rw [(B8 x).1, if_pos ⟨x0, x1⟩, if_neg (by omega)], by rw [(B8 x).2.2.1, if_pos ⟨x0, x1⟩]⟩
  have no : ∀ x, ¬ opn (bp0 0 s1) x := fun x hx => hx.2.2 (e112 x hx.1 hx.2.1).1
  have e56 : bp0 0 s1 49 56 = 0 := by rw [B1]; rfl
  have o24 : opc hi 24 = 0 := opc_0 24 (fun b hb => (h34 b (by omega) (by omega)).1)
  obtain ⟨n1, n2⟩ := bcn_0 (s := bp0 0 s1) 128 (fun b hb => e109 b (by omega) (by omega))
  refine ⟨⟨⟨hA, hC, ⟨⟨_, _, GA.rf⟩, fun _ _ _ => ⟨rfl, rfl⟩, fun _ _ _ _ _ => ⟨rfl, rfl⟩, fun _ _ z => z, h0⟩, Nat.le_refl _, Nat.le_refl _⟩, ⟨h26.1, by rw [h26.2.1, B1]; rfl, by rw [h26.2.2.1, B1]; rfl, by rw [h26.2.2.2.1, B1]; rfl, by rw [h26.2.2.2.2, B1]; rfl, fun q q0 q1 => by rw [h28 q q0 q1, e56, if_neg (by omega)], fun i i0 i1 => by rw [B1] at i1; exact absurd (show i < 0 from i1) (by omega)⟩, ⟨fun b b0 b1 => ⟨by rw [h30 b b0 b1, e109 b b0 b1]; rfl, fun z => absurd (e109 b b0 b1) z⟩, by rw [h29.1, n1], by rw [h29.2, n2]⟩, ⟨⟨fun _ z => z.elim, fun e x0 x1 => ⟨Or.inl (h34 e x0 x1).1, ⟨fun z => by rw [(h34 e x0 x1).1] at z; omega, fun z => absurd z.1 (no e)⟩, by rw [(h34 e x0 x1).2, (e112 e x0 x1).2], fun z => absurd z (no e)⟩, fun c _ _ hc => absurd hc (fun y => y.elim (no _) (no _))⟩, ⟨by omega, by rw [h33, o24]; decide⟩, fun j j0 j1 => by omega, fun j j' j0 j1 j2 => by omega, fun _ z => z.elim⟩, hT, fun q q0 q1 q2 => by rw [e56] at q2; omega, fun q t q0 q1 _ q2 => by rw [e89 q q0 q1] at q2; omega⟩, fun q q0 q1 q2 => by rw [e89 q q0 q1] at q2; omega⟩
theorem x_bclear (hA : SA al) (hC : CR hr) (q : ∀ hi', (∀ b, 0 ≤ b → b < 128 → hi' 30 b = 0) → hi' 29 3 = 0 → hi' 29 4 = 0 → (∀ (a : Nat) i, a ≠ 29 → a ≠ 30 → hi' a i = hi a i) → Q (some none) al hi' hr) : Ev d 1 [vR (some 29)] al hi hr Q := by
  have k29 : isK al 29 1 := hA.k (by decide) (by decide) rfl
  have R30 : isR al 30 = true := hA.r (by decide) (by decide) (by decide)
  have K30 : isK al 30 15 := hA.k (by decide) (by decide) rfl
  have g0 := cr_29_0 hC
  have l30 := SA.len (a := 30) (n := 128) hA (by decide) (by decide) rfl
  have T2 : ∀ (j : Nat) (m : Int) (h : HI), m + j = 128 → 0 ≤ m → (∀ b, 0 ≤ b → b < m → h 30 b = 0) → (∀ (a : Nat) i, a ≠ 29 → a ≠ 30 → h a i = hi a i) → Wp d 1 2 [vR (some 29), vI m] [] al h hr Q := by
    intro j
    induction j with
    | zero =>
      intro m h hm m0 h0 hf
      have E := q (upI (upI h 29 3 0) 29 4 0) (fun b b0 b1 => by rw [upI_a (by decide), upI_a (by decide)]; exact h0 b b0 (by omega)) (by rw [upI_i (by decide), upI_eq]) upI_eq (fun a i z1 z2 => by rw [upI_a z1, upI_a z1]; exact hf a i z1 z2)
      refine s1_2.mpr (s1_3.mpr ?_)
      refine s1_6.mpr (wif (fun c6 => ?_) (fun c6 => ?_))
      · skip
        exfalso; omega
      · skip
        refine s1_22.mpr (s1_23.mpr ?_)
        refine (s1_24 (by first | decide | assumption | omega)).mpr ?_
        refine s1_27.mpr (s1_28.mpr ?_)
        refine (s1_29 (by first | decide | assumption | omega)).mpr ?_
        refine (s1_32).mpr ?_
        exact E
    | succ j ih =>
      intro m h hm m0 h0 hf
      have NX := ih (m + 1) (upI h 30 m 0) (by omega) (by omega) (fun b b0 b1 => by
        by_cases z : b = m
        · subst z; exact upI_eq
        · rw [upI_i z]; exact h0 b b0 (by omega)) (fun a i z1 z2 => by rw [upI_a z2]; exact hf a i z1 z2)
      refine s1_2.mpr (s1_3.mpr ?_)
      refine s1_6.mpr (wif (fun c6 => ?_) (fun c6 => ?_))
      · skip
        refine s1_9.mpr ?_
        refine (s1_10 (by first | decide | assumption | omega)).mpr ?_
        refine s1_13.mpr (s1_14.mpr ?_)
        try simp (disch := first | decide | assumption | omega) only [g0, fAdd_id]
        refine (s1_15 (by first | decide | assumption | omega) (by first | decide | assumption | omega) (by first | decide | assumption | omega)).mpr ?_
        refine s1_16.mpr (s1_19.mpr ?_)
        try simp (disch := first | decide | assumption | omega) only [g0, fAdd_id]
        exact NX
      · skip
        exfalso; omega
  have NX := T2 128 0 hi (by decide) (Int.le_refl _) (fun b b0 b1 => by omega) (fun _ _ _ _ => rfl)
  rw [e1]
  refine s1_0.mpr (s1_1.mpr ?_)
  exact NX
theorem x_eclear (hA : SA al) (hC : CR hr) (q : ∀ hi' hr', (∀ e, 0 ≤ e → e < 24 → hi' 34 e = 0 ∧ hi' 38 e = 0) → (∀ (a : Nat) i, a ≠ 34 → a ≠ 38 → hi' a i = hi a i) → (∀ (a : Nat) i, a ≠ 37 → hr' a i = hr a i) → Q (some none) al hi' hr') : Ev d 40 [vR (some 33)] al hi hr Q := by
  have k33 : isK al 33 5 := hA.k (by decide) (by decide) rfl
  have R34 : isR al 34 = true := hA.r (by decide) (by decide) (by decide)
  have K34 : isK al 34 16 := hA.k (by decide) (by decide) rfl
  have R38 : isR al 38 = true := hA.r (by decide) (by decide) (by decide)
  have K38 : isK al 38 15 := hA.k (by decide) (by decide) rfl
  have Q37 : isQ al 37 = true := hA.q (by decide) (by decide) (by decide)
  have l34 := SA.len (a := 34) (n := 24) hA (by decide) (by decide) rfl
  have l37 := SA.len (a := 37) (n := 12) hA (by decide) (by decide) rfl
  have l38 := SA.len (a := 38) (n := 24) hA (by decide) (by decide) rfl
  have T2 : ∀ (j : Nat) (m : Int) (h : HI) (r : HR), m + j = 24 → 0 ≤ m → (∀ b, 0 ≤ b → b < m → h 34 b = 0 ∧ h 38 b = 0) → (∀ (a : Nat) i, a ≠ 34 → a ≠ 38 → h a i = hi a i) → (∀ (a : Nat) i, a ≠ 37 → r a i = hr a i) → Wp d 40 2 [vR (some 33), vI m] [] al h r Q := by
    intro j
    induction j with
    | zero =>
      intro m h r hm m0 h0 hf hg
      have E := q h r (fun b b0 b1 => h0 b b0 (by omega)) hf hg
      refine s40_2.mpr (s40_3.mpr ?_)
      refine s40_5.mpr (wif (fun c5 => ?_) (fun c5 => ?_))
      · skip
        exfalso; omega
      · skip
        refine (s40_37).mpr ?_
        exact E
    | succ j ih =>
      intro m h r hm m0 h0 hf hg
      have hC' : CR r := fun pr hpr => by
        have : pr.1 ≠ 37 := (show ∀ p ∈ crl, p.1 ≠ 37 by decide) pr hpr
        rw [hg _ _ this]; exact hC pr hpr
      have g1 := cr_33_1 hC'
      have g4 := cr_33_4 hC'
      have g5 := cr_33_5 hC'
      have eD := fDiv_2 (e := m) ⟨m0, by omega⟩
      have NX := ih (m + 1) (upI (upI h 34 m 0) 38 m 0) (upR r 37 (m / 2) none) (by omega) (by omega) (fun b b0 b1 => by
        rw [upI_a (b := 34) (by decide)]
        by_cases z : b = m
        · subst z; exact ⟨upI_eq, upI_eq⟩
        · rw [upI_i z, upI_i z, upI_a (by decide)]; exact h0 b b0 (by omega)) (fun a i z1 z2 => by rw [upI_a z2, upI_a z1]; exact hf a i z1 z2) (fun a i z => by rw [upR_a z]; exact hg a i z)
      have T31 : Wp d 40 31 [vR (some 33), vI m] [] al (upI (upI h 34 m 0) 38 m 0) (upR r 37 (m / 2) none) Q := by
        refine s40_31.mpr (s40_34.mpr ?_)
        try simp (disch := first | decide | assumption | omega) only [fAdd_id]
        exact NX
      refine s40_2.mpr (s40_3.mpr ?_)
      refine s40_5.mpr (wif (fun c5 => ?_) (fun c5 => ?_))
      · skip
        refine s40_8.mpr ?_
        refine (s40_9 (by first | decide | assumption | omega)).mpr ?_
        refine s40_12.mpr (s40_13.mpr ?_)
        try simp (disch := first | decide | assumption | omega) only [g1, g4, g5, eD, fAdd_id]
        refine (s40_14Z (by first | decide | assumption | omega) (by first | decide | assumption | omega) (by first | decide | assumption | omega)).mpr ?_
        refine s40_15.mpr ?_
        try simp (disch := first | decide | assumption | omega) only [g1, g4, g5, eD, fAdd_id]
        refine (s40_16 (by first | decide | assumption | omega)).mpr ?_
        refine s40_19.mpr (s40_20.mpr ?_)
        try simp (disch := first | decide | assumption | omega) only [g1, g4, g5, eD, fAdd_id]
        refine (s40_21 (by first | decide | assumption | omega) (by first | decide | assumption | omega) (by first | decide | assumption | omega)).mpr ?_
        refine s40_22.mpr ?_
        try simp (disch := first | decide | assumption | omega) only [g1, g4, g5, eD, fAdd_id]
        refine (s40_23 (by first | decide | assumption | omega)).mpr ?_
        refine s40_26.mpr (s40_27.mpr ?_)
        try simp (disch := first | decide | assumption | omega) only [g1, g4, g5, eD, fAdd_id]
        refine (s40_28 (by first | assumption | omega)).mpr ?_
        refine s40_29.mpr ?_
        try simp (disch := first | decide | assumption | omega) only [g1, g4, g5, eD, fAdd_id]
        exact (s40_30N Q37 (by omega) (by omega)).mpr T31
      · skip
        exfalso; omega
  have NX := T2 24 0 hi hr (by decide) (Int.le_refl _) (fun b b0 b1 => by omega) (fun _ _ _ _ => rfl) (fun _ _ _ => rfl)
  rw [e40]
  refine s40_0.mpr (s40_1.mpr ?_)
  exact NX
end CB0
