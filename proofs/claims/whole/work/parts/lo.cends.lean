/-! RUNNING, the class: what contracts tell; messages -/
section CN4
variable {d : Nat} {Q : QQ} {T : TXs} {al al' : AL} {hi hi' : HI} {hr hr' : HR} {s s' u sx sm : HI} {A A' : Int → Int → Int} {NN : Int → Option Nat} {E E' : Int → Prop} {p m f q v w x y n k g qx i r P e fr ty : Int} {B : Int → Int} {X Y : Tst} {t t' N M c b o : Nat} {al0 : AL} {hi0 : HI} {hr0 : HR} {V W ws : Int → Int}
theorem kn_m1 {L : Int} (h : L = -1 ∨ 0 ≤ L) : L = -1 ↔ kindM L = -1 := by
  rcases h with h | h
  · subst h; exact ⟨fun _ => rfl, fun _ => rfl⟩
  · have : kindM L = L % 8 := by unfold kindM; rw [if_neg (by omega)]
    exact ⟨fun z => by omega, fun z => by omega⟩
theorem cv_1 {L : Int} (h : L = -1 ∨ 0 ≤ L) : cv L = -1 ↔ L = -1 := by
  rcases h with h | h
  · subst h; exact ⟨fun _ => rfl, fun _ => rfl⟩
  · rw [cv_p h]
    exact ⟨fun z => by omega, fun z => by omega⟩
/-- an open end's contract -/
theorem RelC.ctr (hR : RelC T NN al0 hi0 hr0 E A al hi hr s) (hBs : Bs T NN al0 hi0 hr0) (ho : opn s e) (hQ : QO T s e) : ∃ o, hr 37 (e / 2) = some o ∧ CtS al hr o ∧ (0 ≤ s 112 e ∧ s 112 e < 8) ∧ (∀ t, sbA hi o (s 112 e) (e % 2) t ↔ 0 ≤ t ∧ (s 60 (8 * s 118 e + s 112 e) = 1 + e % 2 ∧ t < s 61 (8 * s 118 e + s 112 e) ∧ s 62 (4 * (8 * s 118 e + s 112 e) + t) = -1)) ∧ ∀ t, 0 ≤ t → t < s 61 (8 * s 118 e + s 112 e) → (if ixA hi o (s 112 e) t < 0 then 0 else hi (o + 4) (ixA hi o (s 112 e) t)) = s 63 (4 * (8 * s 118 e + s 112 e) + t) := by
  obtain ⟨m', c', q1, q2, q3, q4, q5, -⟩ := hQ
  obtain ⟨x0, x1, x2⟩ := id ho
  obtain ⟨mm, cc, N, o, y1, y2, y3, y4, y5⟩ := hR.2.2.2.1.1.2.2 (e / 2) (by omega) (by omega) (by
    by_cases z : e % 2 = 0
    · left; rw [show 2 * (e / 2) = e by omega]; exact ho
    · right; rw [show 2 * (e / 2) + 1 = e by omega]; exact ho)
  have hal := y5 e ho rfl
  rw [q1, show (4 * m' + c') / 4 = m' by omega, show (4 * m' + c') % 4 = c' by omega] at hal
  obtain ⟨S, hS⟩ : ∃ S, s 112 e = S := ⟨_, rfl⟩
  rw [hS] at q5 ⊢
  obtain ⟨⟨c1, c2⟩, e1, e2, e3, e4⟩ := hal.sy.st q5.1 q5.2
  obtain ⟨d1, d2, d3⟩ := q4.2.1.1.ct q4.2.1.2.1 c1.1 c1.2 q5.1 q5.2
  obtain ⟨n, L, ⟨M, hM, hT, -⟩, -⟩ := (hR.gm hBs y1).1
  obtain ⟨o', o1, o2, o3, o4⟩ := hM.2.2.2.2.1 cc y2.1 y2.2
  rw [y3] at o1; cases o1
  obtain ⟨r1, r2, r3, r4⟩ := o4.rd hT y2.1 y2.2
  have S8 : S < nSt (T mm) cc := by rw [← e1]; exact q5.2
  obtain ⟨u1, u2, u3, u4⟩ := r4 S q5.1 S8
  have s8 : S < 8 := by omega
  rw [if_neg (by omega)] at u1 u2
  rw [q1, d1, d2]
  have ldm : ∀ t, 0 ≤ t → t < nMs (T m') c' S → (hi (o + 3) (4 * S + t) = -1 ↔ s 62 (4 * (8 * (4 * m' + c') + S) + t) = -1) := fun t t0 t1 => by
    have t2 : t < nMs (T mm) cc S := by rw [← e3]; exact t1
    have ix : ixA hi o S t = 4 * S + t := if_pos ⟨q5.1, s8, t0, by omega, by omega⟩
    obtain ⟨w1, w2, w3⟩ := u4 t t0 t2
    rw [ix, if_neg (by omega)] at w1
    have g1 := (e4 t t0 t1).2.1
    have l1 : ldM (T mm) cc S t = -1 ∨ 0 ≤ ldM (T mm) cc S t := w3.imp id (fun z => z.1.1)
    have l2 : ldM (T m') c' S t = -1 ∨ 0 ≤ ldM (T m') c' S t := ((q4.2.1.2.2.1.2.1 c' S t c1.1 c1.2 q5.1 q5.2 t0 t1).1).imp id (fun z => z.1.1)
    rw [w1, (d3 t t0 t1).1, cv_1 l1, kn_m1 l1, kn_m1 l2, g1]
  refine ⟨o, y4, r1, ⟨q5.1, s8⟩, fun t => ?_, fun t t0 t1 => ?_⟩
  · unfold sbA
    rw [u1, u2, ← e2, ← e3]
    constructor
    · rintro ⟨-, -, z1, z2, z3, z4, z5⟩
      exact ⟨z1, by omega, z4, (ldm t z1 z4).mp z5⟩
    · rintro ⟨z1, z2, z3, z4⟩
      exact ⟨q5.1, s8, z1, by omega, by omega, z3, (ldm t z1 z3).mpr z4⟩
  · have t2 : t < nMs (T mm) cc S := by rw [← e3]; exact t1
    rw [(u4 t t0 t2).2.1, (d3 t t0 t1).2]
    exact ((e4 t t0 t1).1).symm
theorem fDiv_2 {e : Int} (h : 0 ≤ e ∧ e < 24) : fDiv e 2 = e / 2 := by
  have : ∀ k : Fin 24, fDiv (k.val : Int) 2 = (k.val : Int) / 2 := by decide +kernel
  have z := this ⟨e.toNat, by omega⟩
  rw [show ((⟨e.toNat, by omega⟩ : Fin 24).val : Int) = e from Int.toNat_of_nonneg h.1] at z
  exact z
theorem fRem_2 {e : Int} (h : 0 ≤ e ∧ e < 24) : fRem e 2 = e % 2 := by
  have : ∀ k : Fin 24, fRem (k.val : Int) 2 = (k.val : Int) % 2 := by decide +kernel
  have z := this ⟨e.toNat, by omega⟩
  rw [show ((⟨e.toNat, by omega⟩ : Fin 24).val : Int) = e from Int.toNat_of_nonneg h.1] at z
  exact z
theorem e_sendsBare (hA : SA al) (hC : CR hr) (he : 0 ≤ e ∧ e < 24) (h34 : hi 34 e ≠ 0) (h37 : hr 37 (e / 2) = some o) (hct : CtS al hr o) (hd : 1 ≤ d) (q1 : sbA hi o (hi 35 e) (e % 2) v → Q (some (some (vI 1))) al hi hr) (q2 : ¬ sbA hi o (hi 35 e) (e % 2) v → Q (some (some (vI 0))) al hi hr) : Ev d 49 [vR (some 33), vI e, vI v] al hi hr Q := by
  have k33 : isK al 33 5 := hA.k (by decide) (by decide) rfl
  have l34 := SA.len (a := 34) (n := 24) hA (by decide) (by decide) rfl
  have l35 := SA.len (a := 35) (n := 24) hA (by decide) (by decide) rfl
  have l37 := SA.len (a := 37) (n := 12) hA (by decide) (by decide) rfl
  have R34 : isR al 34 = true := hA.r (by decide) (by decide) (by decide); have K34 : isK al 34 16 := hA.k (by decide) (by decide) rfl; have R35 : isR al 35 = true := hA.r (by decide) (by decide) (by decide); have R36 : isR al 36 = true := hA.r (by decide) (by decide) (by decide); have R38 : isR al 38 = true := hA.r (by decide) (by decide) (by decide); have R39 : isR al 39 = true := hA.r (by decide) (by decide) (by decide); have R40 : isR al 40 = true := hA.r (by decide) (by decide) (by decide); have R41 : isR al 41 = true := hA.r (by decide) (by decide) (by decide)
  have K35 : isK al 35 15 := hA.k (by decide) (by decide) rfl; have K36 : isK al 36 15 := hA.k (by decide) (by decide) rfl; have K38 : isK al 38 15 := hA.k (by decide) (by decide) rfl; have K37 : isK al 37 17 := hA.k (by decide) (by decide) rfl; have Q37 : isQ al 37 = true := isQ_of K37 (by decide) (by decide); have K39 : isK al 39 15 := hA.k (by decide) (by decide) rfl; have K40 : isK al 40 15 := hA.k (by decide) (by decide) rfl; have K41 : isK al 41 15 := hA.k (by decide) (by decide) rfl
  have g29 := cr_33_0 hC; have g34 := cr_33_1 hC; have g35 := cr_33_2 hC; have g36 := cr_33_3 hC; have g37 := cr_33_4 hC; have g38 := cr_33_5 hC; have g39 := cr_33_6 hC; have g40 := cr_33_7 hC; have g41 := cr_33_8 hC
  have e1 := fDiv_2 he
  have e2 := fRem_2 he
  have ko : isK al o 3 := hct.1
  have T42 : sbA hi o (hi 35 e) (e % 2) v → Wp d 49 42 [vR (some 33), vI e, vI v, vR (some o)] [] al hi hr Q := fun z => by
    have E0 := q1 z
    refine s49_42.mpr (s49_43.mpr ?_)
    refine (s49_47 (by first | assumption | omega)).mpr ?_
    exact E0
  have T46 : ¬ sbA hi o (hi 35 e) (e % 2) v → Wp d 49 46 [vR (some 33), vI e, vI v, vR (some o)] [] al hi hr Q := fun z => by
    have E0 := q2 z
    refine s49_46.mpr ?_
    refine (s49_47 (by first | assumption | omega)).mpr ?_
    exact E0
  have SB : Ev (d - 1) 28 [vR (some o), vI (hi 35 e), vI (e % 2), vI v] al hi hr (kon d 49 36 39 [vR (some 33), vI e, vI v, vR (some o)] [] Q) := by
    refine k_sendsBare hct (by omega) (by omega) (fun z => ?_) (fun z => ?_)
    · simp only [kon, knt_some, knt_none, Option.toList_some, Option.toList_none, List.cons_append, List.nil_append]
      have Z := T42 z
      refine s49_39.mpr (wif (fun c39 => ?_) (fun c39 => ?_))
      · skip
        exfalso; omega
      · skip
        exact Z
    · simp only [kon, knt_some, knt_none, Option.toList_some, Option.toList_none, List.cons_append, List.nil_append]
      have Z := T46 z
      refine s49_39.mpr (wif (fun c39 => ?_) (fun c39 => ?_))
      · skip
        exact Z
      · skip
        exfalso; omega
  rw [e49]
  refine s49_0.mpr (s49_1.mpr ?_)
  refine (s49_2 (by first | decide | assumption | omega) (by first | decide | assumption | omega)).mpr ?_
  refine e_isOpen hA hC (fun _ _ _ => ?_) (fun z => absurd ⟨he.1, he.2, h34⟩ z)
  simp only [kon, knt_some, knt_none, Option.toList_some, Option.toList_none, List.cons_append, List.nil_append]
  refine s49_5.mpr (wif (fun c5 => ?_) (fun c5 => ?_))
  · skip
    exfalso; omega
  · skip
    refine s49_8.mpr ?_
    refine (s49_9 (by first | decide | assumption | omega)).mpr ?_
    refine s49_12.mpr (s49_13.mpr ?_)
    try simp (disch := first | decide | assumption | omega) only [g29, g34, g35, g36, g37, g38, g39, g40, g41, e1, e2, h37]
    refine (s49_14 (by first | assumption | omega)).mpr ?_
    try simp (disch := first | decide | assumption | omega) only [g29, g34, g35, g36, g37, g38, g39, g40, g41, e1, e2, h37]
    refine (s49_15 (by first | decide | assumption | omega) (by first | decide | assumption | omega) (by first | decide | assumption | omega)).mpr ?_
    refine s49_16.mpr (s49_20.mpr (s49_21.mpr ?_))
    refine s49_22.mpr (wif (fun c22 => ?_) (fun c22 => ?_))
    · skip
      first | (exfalso; omega) | (exfalso; rw [h37] at c22; simp at c22)
    · skip
      refine s49_25.mpr (s49_26.mpr ?_)
      refine (s49_27 (by first | decide | assumption | omega)).mpr ?_
      refine s49_30.mpr ?_
      try simp (disch := first | decide | assumption | omega) only [g29, g34, g35, g36, g37, g38, g39, g40, g41, e1, e2, h37]
      refine (s49_31 (by first | decide | assumption | omega) (by first | decide | assumption | omega) (by first | decide | assumption | omega)).mpr ?_
      refine s49_32.mpr (s49_33.mpr ?_)
      try simp (disch := first | decide | assumption | omega) only [g29, g34, g35, g36, g37, g38, g39, g40, g41, e1, e2, h37]
      refine (s49_34 (by first | assumption | omega)).mpr ?_
      refine s49_35.mpr ?_
      try simp (disch := first | decide | assumption | omega) only [g29, g34, g35, g36, g37, g38, g39, g40, g41, e1, e2, h37]
      refine (s49_36 (by first | decide | assumption | omega) (by first | decide | assumption | omega)).mpr ?_
      exact SB
theorem e_moveOn (hA : SA al) (hC : CR hr) (he : 0 ≤ e ∧ e < 24) (h34 : hi 34 e ≠ 0) (h37 : hr 37 (e / 2) = some o) (hct : CtS al hr o) (hd : 2 ≤ d) (hx : (if ixA hi o (hi 35 e) v < 0 then 0 else hi (o + 4) (ixA hi o (hi 35 e) v)) = x) (q : Q (some none) al (upI hi 35 e x) hr) : Ev d 51 [vR (some 33), vI e, vI v] al hi hr Q := by
  have k33 : isK al 33 5 := hA.k (by decide) (by decide) rfl
  have l34 := SA.len (a := 34) (n := 24) hA (by decide) (by decide) rfl
  have l35 := SA.len (a := 35) (n := 24) hA (by decide) (by decide) rfl
  have l37 := SA.len (a := 37) (n := 12) hA (by decide) (by decide) rfl
  have R34 : isR al 34 = true := hA.r (by decide) (by decide) (by decide); have K34 : isK al 34 16 := hA.k (by decide) (by decide) rfl; have R35 : isR al 35 = true := hA.r (by decide) (by decide) (by decide); have R36 : isR al 36 = true := hA.r (by decide) (by decide) (by decide); have R38 : isR al 38 = true := hA.r (by decide) (by decide) (by decide); have R39 : isR al 39 = true := hA.r (by decide) (by decide) (by decide); have R40 : isR al 40 = true := hA.r (by decide) (by decide) (by decide); have R41 : isR al 41 = true := hA.r (by decide) (by decide) (by decide)
  have K35 : isK al 35 15 := hA.k (by decide) (by decide) rfl; have K36 : isK al 36 15 := hA.k (by decide) (by decide) rfl; have K38 : isK al 38 15 := hA.k (by decide) (by decide) rfl; have K37 : isK al 37 17 := hA.k (by decide) (by decide) rfl; have Q37 : isQ al 37 = true := isQ_of K37 (by decide) (by decide); have K39 : isK al 39 15 := hA.k (by decide) (by decide) rfl; have K40 : isK al 40 15 := hA.k (by decide) (by decide) rfl; have K41 : isK al 41 15 := hA.k (by decide) (by decide) rfl
  have g29 := cr_33_0 hC; have g34 := cr_33_1 hC; have g35 := cr_33_2 hC; have g36 := cr_33_3 hC; have g37 := cr_33_4 hC; have g38 := cr_33_5 hC; have g39 := cr_33_6 hC; have g40 := cr_33_7 hC; have g41 := cr_33_8 hC
  have e1 := fDiv_2 he
  have ko : isK al o 3 := hct.1
  have NX : Ev (d - 1) 25 [vR (some o), vI (hi 35 e), vI v] al hi hr (kon d 51 38 41 [vR (some 33), vI e, vI v, vR (some o)] [vI e, vR (some 35)] Q) := by
    refine k_nextOf hct (by omega) ?_
    rw [hx]
    simp only [kon, knt_some, knt_none, Option.toList_some, Option.toList_none, List.cons_append, List.nil_append]
    refine (s51_41 (by first | decide | assumption | omega) (by first | decide | assumption | omega) (by first | decide | assumption | omega)).mpr ?_
    refine (s51_42).mpr ?_
    exact q
  rw [e51]
  refine s51_0.mpr (s51_1.mpr ?_)
  refine (s51_2 (by first | decide | assumption | omega) (by first | decide | assumption | omega)).mpr ?_
  refine e_isOpen hA hC (fun _ _ _ => ?_) (fun z => absurd ⟨he.1, he.2, h34⟩ z)
  simp only [kon, knt_some, knt_none, Option.toList_some, Option.toList_none, List.cons_append, List.nil_append]
  refine s51_5.mpr (wif (fun c5 => ?_) (fun c5 => ?_))
  · skip
    exfalso; omega
  · skip
    refine s51_8.mpr ?_
    refine (s51_9 (by first | decide | assumption | omega)).mpr ?_
    refine s51_12.mpr (s51_13.mpr ?_)
    try simp (disch := first | decide | assumption | omega) only [g29, g34, g35, g36, g37, g38, g39, g40, g41, e1, h37]
    refine (s51_14 (by first | assumption | omega)).mpr ?_
    try simp (disch := first | decide | assumption | omega) only [g29, g34, g35, g36, g37, g38, g39, g40, g41, e1, h37]
    refine (s51_15 (by first | decide | assumption | omega) (by first | decide | assumption | omega) (by first | decide | assumption | omega)).mpr ?_
    refine s51_16.mpr (s51_20.mpr (s51_21.mpr ?_))
    refine s51_22.mpr (wif (fun c22 => ?_) (fun c22 => ?_))
    · skip
      first | (exfalso; omega) | (exfalso; rw [h37] at c22; simp at c22)
    · skip
      refine s51_25.mpr ?_
      refine (s51_26 (by first | decide | assumption | omega)).mpr ?_
      refine s51_29.mpr (s51_30.mpr (s51_31.mpr ?_))
      try simp (disch := first | decide | assumption | omega) only [g29, g34, g35, g36, g37, g38, g39, g40, g41, e1, h37]
      refine (s51_32 (by first | decide | assumption | omega)).mpr ?_
      refine s51_35.mpr ?_
      try simp (disch := first | decide | assumption | omega) only [g29, g34, g35, g36, g37, g38, g39, g40, g41, e1, h37]
      refine (s51_36 (by first | decide | assumption | omega) (by first | decide | assumption | omega) (by first | decide | assumption | omega)).mpr ?_
      refine s51_37.mpr ?_
      try simp (disch := first | decide | assumption | omega) only [g29, g34, g35, g36, g37, g38, g39, g40, g41, e1, h37]
      refine (s51_38 (by first | decide | assumption | omega) (by first | decide | assumption | omega)).mpr ?_
      exact NX
theorem e_waitingFor (hA : SA al) (hC : CR hr) (q : Q (some (some (vI (if 0 ≤ e ∧ e < 24 ∧ hi 34 e ≠ 0 then hi 38 e else 0)))) al hi hr) (hd : 1 ≤ d) : Ev d 48 [vR (some 33), vI e] al hi hr Q := by
  have k33 : isK al 33 5 := hA.k (by decide) (by decide) rfl
  have l38 := SA.len (a := 38) (n := 24) hA (by decide) (by decide) rfl
  have R34 : isR al 34 = true := hA.r (by decide) (by decide) (by decide); have K34 : isK al 34 16 := hA.k (by decide) (by decide) rfl; have R35 : isR al 35 = true := hA.r (by decide) (by decide) (by decide); have R36 : isR al 36 = true := hA.r (by decide) (by decide) (by decide); have R38 : isR al 38 = true := hA.r (by decide) (by decide) (by decide); have R39 : isR al 39 = true := hA.r (by decide) (by decide) (by decide); have R40 : isR al 40 = true := hA.r (by decide) (by decide) (by decide); have R41 : isR al 41 = true := hA.r (by decide) (by decide) (by decide)
  have K35 : isK al 35 15 := hA.k (by decide) (by decide) rfl; have K36 : isK al 36 15 := hA.k (by decide) (by decide) rfl; have K38 : isK al 38 15 := hA.k (by decide) (by decide) rfl; have K37 : isK al 37 17 := hA.k (by decide) (by decide) rfl; have Q37 : isQ al 37 = true := isQ_of K37 (by decide) (by decide); have K39 : isK al 39 15 := hA.k (by decide) (by decide) rfl; have K40 : isK al 40 15 := hA.k (by decide) (by decide) rfl; have K41 : isK al 41 15 := hA.k (by decide) (by decide) rfl
  have g29 := cr_33_0 hC; have g34 := cr_33_1 hC; have g35 := cr_33_2 hC; have g36 := cr_33_3 hC; have g37 := cr_33_4 hC; have g38 := cr_33_5 hC; have g39 := cr_33_6 hC; have g40 := cr_33_7 hC; have g41 := cr_33_8 hC
  rw [e48]
  by_cases c : 0 ≤ e ∧ e < 24 ∧ hi 34 e ≠ 0
  · rw [if_pos c] at q
    refine s48_0.mpr (s48_1.mpr ?_)
    refine (s48_2 (by first | decide | assumption | omega) (by first | decide | assumption | omega)).mpr ?_
    refine e_isOpen hA hC (fun _ _ _ => ?_) (fun z => absurd c z)
    simp only [kon, knt_some, knt_none, Option.toList_some, Option.toList_none, List.cons_append, List.nil_append]
    refine s48_5.mpr (wif (fun c5 => ?_) (fun c5 => ?_))
    · skip
      exfalso; omega
    · skip
      refine s48_8.mpr ?_
      refine (s48_9 (by first | decide | assumption | omega)).mpr ?_
      refine s48_12.mpr ?_
      try simp (disch := first | decide | assumption | omega) only [g29, g34, g35, g36, g37, g38, g39, g40, g41]
      refine (s48_13 (by first | decide | assumption | omega) (by first | decide | assumption | omega) (by first | decide | assumption | omega)).mpr ?_
      refine s48_14.mpr ?_
      try simp (disch := first | decide | assumption | omega) only [g29, g34, g35, g36, g37, g38, g39, g40, g41]
      refine (s48_18).mpr ?_
      exact q
  · rw [if_neg c] at q
    refine s48_0.mpr (s48_1.mpr ?_)
    refine (s48_2 (by first | decide | assumption | omega) (by first | decide | assumption | omega)).mpr ?_
    refine e_isOpen hA hC (fun z1 z2 z3 => absurd ⟨z1, z2, z3⟩ c) (fun _ => ?_)
    simp only [kon, knt_some, knt_none, Option.toList_some, Option.toList_none, List.cons_append, List.nil_append]
    refine s48_5.mpr (wif (fun c5 => ?_) (fun c5 => ?_))
    · skip
      refine s48_17.mpr ?_
      refine (s48_18).mpr ?_
      exact q
    · skip
      exfalso; omega
theorem e_give (hA : SA al) (hC : CR hr) (q : ∀ hi', (0 ≤ e → e < 24 → hi' 36 e = v) → (∀ (a : Nat) i, ¬ (a = 36 ∧ i = e) → hi' a i = hi a i) → Q (some none) al hi' hr) : Ev d 47 [vR (some 33), vI e, vI v] al hi hr Q := by
  have k33 : isK al 33 5 := hA.k (by decide) (by decide) rfl
  have l36 := SA.len (a := 36) (n := 24) hA (by decide) (by decide) rfl
  have R34 : isR al 34 = true := hA.r (by decide) (by decide) (by decide); have K34 : isK al 34 16 := hA.k (by decide) (by decide) rfl; have R35 : isR al 35 = true := hA.r (by decide) (by decide) (by decide); have R36 : isR al 36 = true := hA.r (by decide) (by decide) (by decide); have R38 : isR al 38 = true := hA.r (by decide) (by decide) (by decide); have R39 : isR al 39 = true := hA.r (by decide) (by decide) (by decide); have R40 : isR al 40 = true := hA.r (by decide) (by decide) (by decide); have R41 : isR al 41 = true := hA.r (by decide) (by decide) (by decide)
  have K35 : isK al 35 15 := hA.k (by decide) (by decide) rfl; have K36 : isK al 36 15 := hA.k (by decide) (by decide) rfl; have K38 : isK al 38 15 := hA.k (by decide) (by decide) rfl; have K37 : isK al 37 17 := hA.k (by decide) (by decide) rfl; have Q37 : isQ al 37 = true := isQ_of K37 (by decide) (by decide); have K39 : isK al 39 15 := hA.k (by decide) (by decide) rfl; have K40 : isK al 40 15 := hA.k (by decide) (by decide) rfl; have K41 : isK al 41 15 := hA.k (by decide) (by decide) rfl
  have g29 := cr_33_0 hC; have g34 := cr_33_1 hC; have g35 := cr_33_2 hC; have g36 := cr_33_3 hC; have g37 := cr_33_4 hC; have g38 := cr_33_5 hC; have g39 := cr_33_6 hC; have g40 := cr_33_7 hC; have g41 := cr_33_8 hC
  rw [e47]
  by_cases c : 0 ≤ e ∧ e < 24
  · have E0 := q (upI hi 36 e v) (fun _ _ => upI_eq) (fun a i z => upI_ne z)
    refine s47_0.mpr ?_
    refine s47_1.mpr (wif (fun c1 => ?_) (fun c1 => ?_))
    · skip
      first | (refine s47_17.mpr ?_; exact E0) | (exfalso; omega)
    · skip
      refine s47_4.mpr (s47_5.mpr ?_)
      refine s47_7.mpr (wif (fun c7 => ?_) (fun c7 => ?_))
      · skip
        refine s47_10.mpr ?_
        refine (s47_11 (by first | decide | assumption | omega)).mpr ?_
        refine s47_14.mpr (s47_15.mpr ?_)
        try simp (disch := first | decide | assumption | omega) only [g29, g34, g35, g36, g37, g38, g39, g40, g41]
        refine (s47_16 (by first | decide | assumption | omega) (by first | decide | assumption | omega) (by first | decide | assumption | omega)).mpr ?_
        try simp (disch := first | decide | assumption | omega) only [g29, g34, g35, g36, g37, g38, g39, g40, g41]
        first | (refine s47_17.mpr ?_; exact E0) | (exfalso; omega)
      · skip
        first | (refine s47_17.mpr ?_; exact E0) | (exfalso; omega)
  · have E0 := q hi (fun z1 z2 => absurd ⟨z1, z2⟩ c) (fun _ _ _ => rfl)
    refine s47_0.mpr ?_
    refine s47_1.mpr (wif (fun c1 => ?_) (fun c1 => ?_))
    · skip
      refine (s47_17).mpr ?_
      exact E0
    · skip
      refine s47_4.mpr (s47_5.mpr ?_)
      refine s47_7.mpr (wif (fun c7 => ?_) (fun c7 => ?_))
      · skip
        exfalso; omega
      · skip
        refine (s47_17).mpr ?_
        exact E0
end CN4
