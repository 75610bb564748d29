/-! BOOT, the class: start, whole -/
section CB3
variable {d : Nat} {Q : QQ} {T : TXs} {al al' : AL} {hi hi' h1 h : HI} {hr hr' r1 : HR} {s s' s1 s0 : HI} {A A' : Int → Int → Int} {NN : Int → Option Nat} {p m k n i e c P : Int} {t N b : Nat} {S : Int → Option (Int → Int)} {G : HI}
theorem MnC.cg (H : MnC S hi hr G p) (h1 : ∀ a i, 18 ≤ a → a ≤ 21 → hi' a i = hi a i) (h2 : ∀ i, hr' 17 i = hr 17 i ∧ hr' 4 i = hr 4 i) : MnC S hi' hr' G p := by
  unfold MnC at H ⊢
  simp only [h1 18 _ (by decide) (by decide), h1 19 _ (by decide) (by decide), h1 20 _ (by decide) (by decide), h1 21 _ (by decide) (by decide), (h2 _).1, (h2 _).2]
  exact H
theorem GM.own {B : Int → Int} (H : GM al hi hr N B) (h0 : ∀ i, hi' 0 i = hi 0 i) (h1 : ∀ (a : Nat) i, 119 ≤ a → hi' a i = hi a i) (h2 : ∀ (a : Nat) i, 119 ≤ a → hr' a i = hr a i) (h27 : ∀ i, hr' 27 i = hr 27 i) : GM al hi' hr' N B := by
  obtain ⟨n, L, H1, H2⟩ := H
  have n119 := H1.n119
  refine ⟨n, L, H1.fr GA.rf h0 (fun a i z _ => h1 a i (by omega)) (fun a i z _ => h2 a i (by omega)), fun a z1 z2 z => H2 a z1 z2 ?_⟩
  unfold Zt at z ⊢
  simp only [h27] at z
  exact z
theorem TkA.own (H : TkA al hr) (h2 : ∀ (a : Nat) i, a ≠ 37 → hr' a i = hr a i) : TkA al hr' := by
  obtain ⟨H1, H2, H3⟩ := H
  have r27 : ∀ i, hr' 27 i = hr 27 i := fun i => h2 _ _ (by decide)
  have pls : ∀ a, pool hr' a ↔ pool hr a := fun a => by unfold pool; simp only [r27]
  refine ⟨fun q t q0 q1 e => ?_, ?_, fun q q' t t' q0 q1 q0' q1' hq e e' => ?_⟩
  · rw [r27] at e
    obtain ⟨w1, c, w2, w3, w4⟩ := H1 q t q0 q1 e
    have := w1.1.1
    refine ⟨?_, c, (h2 _ _ (by omega)).trans w2, (pls c).mpr w3, by rw [h2 _ _ (by decide)]; exact w4⟩
    unfold TkS at w1 ⊢
    simp only [h2 t 9 (by omega), h2 t 10 (by omega), h2 t 11 (by omega), h2 t 12 (by omega), h2 t 13 (by omega)]
    exact w1
  · obtain ⟨c, w1, w2⟩ := H2
    exact ⟨c, (h2 _ _ (by decide)).trans w1, (pls c).mpr w2⟩
  · rw [r27] at e e'
    have z1 := (H1 q t q0 q1 e).1.1.1
    have z2 := (H1 q' t' q0' q1' e').1.1.1
    rw [h2 _ _ (by omega), h2 _ _ (by omega)]
    exact H3 q q' t t' q0 q1 q0' q1' hq e e'
/-- what start has cleared -/
def wSt (a : Nat) (_ : Int) : Prop := a = 26 ∨ (28 ≤ a ∧ a ≤ 30) ∨ a = 34 ∨ a = 38 ∨ a = 46
set_option maxRecDepth 8000 in
theorem x5_start (hA : SA al) (hC : CR hr) (hT : TkA al hr) (h0 : ∀ q t, 0 ≤ q → q < 12 → hr 27 q = some t → hi t 0 = q) (h33 : hi 33 10 = 0) (hBs : Bs T NN al hi hr) (hG : GF S G n) (n6 : 1 ≤ n ∧ n ≤ 6) (hMg : ∀ m b, S m = some b → T (6 + m) = b ∧ Mg T s0 (6 + m)) (hMn : ∀ p, 0 ≤ p → p < n → MnC S hi hr G p) (h14 : hi 14 1 = n) (hNN : ∀ m b, S m = some b → NN (6 + m) = hr 4 m ∧ ∃ N, hr 4 m = some N) (hd : 5 ≤ d)
    (q : ∀ hc rc al' hi' hr', FW wSt hi hc → RW (fun a _ => a = 37) hr rc → BS T NN al hc rc S G s0 n al' hi' hr' → Bs T NN al hc rc → Q (some none) al' hi' hr') : Ev d 63 [vR (some 26), vR (some 14)] al hi hr Q := by
  have k26 : isK al 26 6 := hA.k (by decide) (by decide) rfl
  have K28 : isK al 28 16 := hA.k (by decide) (by decide) rfl
  have R28 : isR al 28 = true := hA.r (by decide) (by decide) (by decide)
  have k46 : isK al 46 15 := hA.k (by decide) (by decide) rfl
  have k14 : isK al 14 7 := hA.k (by decide) (by decide) rfl
  have g2 := cr_26_2 hC
  have g3 := cr_26_3 hC
  have g4 := cr_26_4 hC
  have g12 := cr_26_12 hC
  have l28 := SA.len (a := 28) (n := 12) hA (by decide) (by decide) rfl
  have l46 := SA.len (a := 46) (n := 8) hA (by decide) (by decide) rfl
  have al119 : 119 ≤ al.1 := hA.1
  -- the processes
  have T83 : ∀ hc rc, FW wSt hi hc → RW (fun a _ => a = 37) hr rc → Bs T NN al hc rc → ∀ (j : Nat) (P : Int) al' hi' hr', P + j = n → 0 ≤ P → BS T NN al hc rc S G s0 P al' hi' hr' → Wp d 63 83 [vR (some 26), vR (some 14), vI P] [] al' hi' hr' Q := by
    intro hc rc w wr hB j
    induction j with
    | zero =>
      intro P al' hi' hr' hP P0 hBS
      have eP : P = n := by omega
      have E := q hc rc al' hi' hr' w wr (eP ▸ hBS) hB
      obtain ⟨A, s, c, R, -⟩ := hBS
      have k14' : isK al' 14 7 := R.1.1.k (by decide) (by decide) rfl
      have e14 : hi' 14 1 = n := by rw [(R.1.2.2.1.2.1 14 1 (by decide)).1, w 14 1 (by unfold wSt; omega)]; exact h14
      refine s63_83.mpr (s63_84.mpr ?_)
      refine (s63_85 (by first | decide | assumption | omega)).mpr ?_
      try simp (disch := first | decide | assumption | omega) only [e14]
      refine s63_88.mpr (wif (fun c88 => ?_) (fun c88 => ?_))
      · skip
        exfalso; omega
      · skip
        refine (s63_109).mpr ?_
        exact E
    | succ j ih =>
      intro P al' hi' hr' hP P0 hBS
      have hBS' := hBS
      obtain ⟨A, s, c, R, -⟩ := hBS'
      have k14' : isK al' 14 7 := R.1.1.k (by decide) (by decide) rfl
      have e14 : hi' 14 1 = n := by rw [(R.1.2.2.1.2.1 14 1 (by decide)).1, w 14 1 (by unfold wSt; omega)]; exact h14
      have k26' : isK al' 26 6 := R.1.1.k (by decide) (by decide) rfl
      have ST := x5_sTask (d := d - 1) (Q := kon d 63 100 103 [vR (some 26), vR (some 14), vI P] [] Q) hBS hB hG ⟨P0, by omega⟩ n6.2 hMg ((hMn P P0 (by omega)).cg (fun a i z1 z2 => w a i (by unfold wSt; omega)) (fun i => ⟨wr 17 i (show ¬ (17 : Nat) = 37 by decide), wr 4 i (show ¬ (4 : Nat) = 37 by decide)⟩)) (fun m b e => by rw [wr 4 m (show ¬ (4 : Nat) = 37 by decide)]; exact hNN m b e) (by omega) (fun al2 hi2 hr2 hB2 => by
        have NX := ih (P + 1) al2 hi2 hr2 (by omega) (by omega) hB2
        simp only [kon, knt_some, knt_none, Option.toList_some, Option.toList_none, List.cons_append, List.nil_append]
        refine s63_103.mpr (s63_106.mpr ?_)
        try simp (disch := first | decide | assumption | omega) only [fAdd_id]
        exact NX
        )
      refine s63_83.mpr (s63_84.mpr ?_)
      refine (s63_85 (by first | decide | assumption | omega)).mpr ?_
      try simp (disch := first | decide | assumption | omega) only [e14]
      refine s63_88.mpr (wif (fun c88 => ?_) (fun c88 => ?_))
      · skip
        refine s63_91.mpr (s63_92.mpr ?_)
        refine s63_94.mpr (wif (fun c94 => ?_) (fun c94 => ?_))
        · skip
          refine s63_97.mpr (s63_98.mpr (s63_99.mpr ?_))
          refine (s63_100 (by first | decide | assumption | omega) (by first | decide | assumption | omega)).mpr ?_
          exact ST
        · skip
          exfalso; omega
      · skip
        exfalso; omega
  -- channelOf
  have T62 : ∀ (j : Nat) (m : Int) (h : HI) (r : HR), m + j = 8 → 0 ≤ m → FW wSt hi h → RW (fun a _ => a = 37) hr r → (h 26 0 = 1 ∧ h 26 8 = 0 ∧ h 26 9 = 0 ∧ h 26 10 = 0 ∧ h 26 11 = 0) → (∀ q, 0 ≤ q → q < 12 → h 28 q = 0) → (h 29 3 = 0 ∧ h 29 4 = 0) → (∀ b, 0 ≤ b → b < 128 → h 30 b = 0) → (∀ e, 0 ≤ e → e < 24 → h 34 e = 0 ∧ h 38 e = 0) → (∀ e, 0 ≤ e → e < m → h 46 e = -1) → Wp d 63 62 [vR (some 26), vR (some 14), vI m] [] al h r Q := by
    intro j
    induction j with
    | zero =>
      intro m h r hm m0 w wr x26 x28 x29 x30 x34 x46
      have hC' : CR r := fun pr hpr => by
        have : pr.1 ≠ 37 := (show ∀ p ∈ crl, p.1 ≠ 37 by decide) pr hpr
        rw [wr _ _ this]; exact hC pr hpr
      have hB : Bs T NN al h r := ⟨fun m N e => ⟨(hBs.1 m N e).1.own (fun i => w 0 i (by unfold wSt; omega)) (fun a i z => w a i (by unfold wSt; omega)) (fun a i z => wr a i (by omega)) (fun i => wr 27 i (show ¬ (27 : Nat) = 37 by decide)), (hBs.1 m N e).2⟩, hBs.2⟩
      obtain ⟨B1, B2⟩ := RelC.bt0 (T := T) (NN := NN) (A := fun _ _ => 0) (s1 := s0) hA hC' (hT.own (fun a i z => wr a i z)) (fun q t q0 q1 e => by
        rw [wr 27 q (show ¬ (27 : Nat) = 37 by decide)] at e
        have := (hT.1 q t q0 q1 e).1.1.1
        rw [w t 0 (by unfold wSt; omega)]; exact h0 q t q0 q1 e) x26 x28 x29 x30 (by rw [w 33 10 (by unfold wSt; omega)]; exact h33) x34
      have NX := T83 h r w wr hB n.toNat 0 al h r (by omega) (Int.le_refl _) ⟨_, bp0 0 s0, 0, B1, B2, bp_0, ⟨⟨Int.le_refl _, hG.1.1.2.2.2.1.1⟩, fun c' z0 z1 => by omega, fun c' z0 z1 => by
        have := hG.ch ⟨z0, z1⟩
        obtain ⟨p, k, u1, u2, u3, -⟩ := hG.us (j := 0) this.1 (by omega) (by omega)
        rw [Int.add_zero] at u1
        omega⟩, fun c' z0 z1 => by omega, fun e e0 e1 _ => x46 e e0 (by omega)⟩
      refine s63_62.mpr (s63_63.mpr ?_)
      refine s63_65.mpr (wif (fun c65 => ?_) (fun c65 => ?_))
      · skip
        exfalso; omega
      · skip
        refine s63_81.mpr (s63_82.mpr ?_)
        exact NX
    | succ j ih =>
      intro m h r hm m0 w wr x26 x28 x29 x30 x34 x46
      have f12 : r 26 12 = some 46 := (wr 26 12 (by decide)).trans g12
      have NX := ih (m + 1) (upI h 46 m (-1)) r (by omega) (by omega) (w.up (by unfold wSt; omega)) wr (by simp (disch := decide) only [upI_a]; exact x26) (fun q q0 q1 => by rw [upI_a (by decide)]; exact x28 q q0 q1) (by simp (disch := decide) only [upI_a]; exact x29) (fun b b0 b1 => by rw [upI_a (by decide)]; exact x30 b b0 b1) (fun b b0 b1 => by rw [upI_a (by decide), upI_a (by decide)]; exact x34 b b0 b1) (fun e e0 e1 => by
        by_cases z : e = m
        · subst z; exact upI_eq
        · rw [upI_i z]; exact x46 e e0 (by omega))
      refine s63_62.mpr (s63_63.mpr ?_)
      refine s63_65.mpr (wif (fun c65 => ?_) (fun c65 => ?_))
      · skip
        refine s63_68.mpr ?_
        refine (s63_69 (by first | decide | assumption | omega)).mpr ?_
        refine s63_72.mpr (s63_73.mpr ?_)
        try simp (disch := first | decide | assumption | omega) only [f12, fAdd_id]
        refine (s63_74 (by first | decide | assumption | omega) (by first | decide | assumption | omega) (by first | decide | assumption | omega)).mpr ?_
        refine s63_75.mpr (s63_78.mpr ?_)
        try simp (disch := first | decide | assumption | omega) only [f12, fAdd_id]
        exact NX
      · skip
        exfalso; omega
  -- had
  have T7 : ∀ (j : Nat) (m : Int) (h : HI), m + j = 12 → 0 ≤ m → FW wSt hi h → h 26 0 = 1 → (∀ q, 0 ≤ q → q < m → h 28 q = 0) → Wp d 63 7 [vR (some 26), vR (some 14), vI m] [] al h hr Q := by
    intro j
    induction j with
    | zero =>
      intro m h hm m0 w x26 x28
      have CL := x_bclear (d := d - 1) (hi := h) (Q := kon d 63 30 33 [vR (some 26), vR (some 14), vI m] [] Q) hA hC (fun h2 b30 b3 b4 bf => by
        have EC := x_eclear (d := d - 1) (hi := h2) (Q := kon d 63 37 40 [vR (some 26), vR (some 14), vI m] [] Q) hA hC (fun h3 r3 e34 ef er => by
          have W3 : FW wSt hi h3 := fun a i z => by
            rw [ef a i (fun y => z (by unfold wSt; omega)) (fun y => z (by unfold wSt; omega)), bf a i (fun y => z (by unfold wSt; omega)) (fun y => z (by unfold wSt; omega))]
            exact w a i z
          have W4 : FW wSt hi (upI (upI (upI (upI h3 26 8 0) 26 9 0) 26 10 0) 26 11 0) := (((W3.up (Or.inl rfl)).up (Or.inl rfl)).up (Or.inl rfl)).up (Or.inl rfl)
          have NX := T62 8 0 (upI (upI (upI (upI h3 26 8 0) 26 9 0) 26 10 0) 26 11 0) r3 (by decide) (Int.le_refl _) W4 (fun a i z => er a i z) ⟨by rw [upI_i (by decide), upI_i (by decide), upI_i (by decide), upI_i (by decide), ef _ _ (by decide) (by decide), bf _ _ (by decide) (by decide)]; exact x26, by rw [upI_i (by decide), upI_i (by decide), upI_i (by decide), upI_eq], by rw [upI_i (by decide), upI_i (by decide), upI_eq], by rw [upI_i (by decide), upI_eq], upI_eq⟩ (fun q q0 q1 => by rw [upI_a (by decide), upI_a (by decide), upI_a (by decide), upI_a (by decide), ef _ _ (by decide) (by decide), bf _ _ (by decide) (by decide)]; exact x28 q q0 (by omega)) ⟨by rw [upI_a (by decide), upI_a (by decide), upI_a (by decide), upI_a (by decide), ef _ _ (by decide) (by decide)]; exact b3, by rw [upI_a (by decide), upI_a (by decide), upI_a (by decide), upI_a (by decide), ef _ _ (by decide) (by decide)]; exact b4⟩ (fun b b0 b1 => by rw [upI_a (by decide), upI_a (by decide), upI_a (by decide), upI_a (by decide), ef _ _ (by decide) (by decide)]; exact b30 b b0 b1) (fun e e0 e1 => by rw [upI_a (by decide), upI_a (by decide), upI_a (by decide), upI_a (by decide), upI_a (by decide), upI_a (by decide), upI_a (by decide), upI_a (by decide)]; exact e34 e e0 e1) (fun e e0 e1 => by omega)
          simp only [kon, knt_some, knt_none, Option.toList_some, Option.toList_none, List.cons_append, List.nil_append]
          refine s63_40.mpr (s63_41.mpr ?_)
          refine (s63_42 (by first | decide | assumption | omega)).mpr ?_
          refine s63_45.mpr (s63_46.mpr ?_)
          refine (s63_47 (by first | decide | assumption | omega)).mpr ?_
          refine s63_50.mpr (s63_51.mpr ?_)
          refine (s63_52 (by first | decide | assumption | omega)).mpr ?_
          refine s63_55.mpr (s63_56.mpr ?_)
          refine (s63_57 (by first | decide | assumption | omega)).mpr ?_
          refine s63_60.mpr (s63_61.mpr ?_)
          exact NX
          )
        simp only [kon, knt_some, knt_none, Option.toList_some, Option.toList_none, List.cons_append, List.nil_append]
        have k33 : isK al 33 5 := hA.k (by decide) (by decide) rfl
        refine s63_33.mpr ?_
        refine (s63_34 (by first | decide | assumption | omega)).mpr ?_
        try simp (disch := first | decide | assumption | omega) only [g4]
        refine (s63_37 (by first | decide | assumption | omega) (by first | decide | assumption | omega)).mpr ?_
        exact EC
        )
      have k29 : isK al 29 1 := hA.k (by decide) (by decide) rfl
      refine s63_7.mpr (s63_8.mpr ?_)
      refine s63_10.mpr (wif (fun c10 => ?_) (fun c10 => ?_))
      · skip
        exfalso; omega
      · skip
        refine s63_26.mpr ?_
        refine (s63_27 (by first | decide | assumption | omega)).mpr ?_
        try simp (disch := first | decide | assumption | omega) only [g3]
        refine (s63_30 (by first | decide | assumption | omega) (by first | decide | assumption | omega)).mpr ?_
        exact CL
    | succ j ih =>
      intro m h hm m0 w x26 x28
      have NX := ih (m + 1) (upI h 28 m 0) (by omega) (by omega) (w.up (by unfold wSt; omega)) (by rw [upI_a (by decide)]; exact x26) (fun q q0 q1 => by
        by_cases z : q = m
        · subst z; exact upI_eq
        · rw [upI_i z]; exact x28 q q0 (by omega))
      refine s63_7.mpr (s63_8.mpr ?_)
      refine s63_10.mpr (wif (fun c10 => ?_) (fun c10 => ?_))
      · skip
        refine s63_13.mpr ?_
        refine (s63_14 (by first | decide | assumption | omega)).mpr ?_
        refine s63_17.mpr (s63_18.mpr ?_)
        try simp (disch := first | decide | assumption | omega) only [g2, fAdd_id]
        refine (s63_19Z (by first | decide | assumption | omega) (by first | decide | assumption | omega) (by first | decide | assumption | omega)).mpr ?_
        refine s63_20.mpr (s63_23.mpr ?_)
        try simp (disch := first | decide | assumption | omega) only [g2, fAdd_id]
        exact NX
      · skip
        exfalso; omega
  have NX := T7 12 0 (upI hi 26 0 1) (by decide) (Int.le_refl _) (FW.rf.up (Or.inl rfl)) upI_eq (fun q q0 q1 => by omega)
  rw [e63]
  refine s63_0.mpr (s63_1.mpr ?_)
  refine (s63_2 (by first | decide | assumption | omega) (by first | decide | assumption | omega)).mpr ?_
  refine s63_5.mpr (s63_6.mpr ?_)
  exact NX
end CB3
