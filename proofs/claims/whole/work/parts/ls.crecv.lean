/-! RUNNING, the class: receiving -/
section CN8
variable {d : Nat} {Q : QQ} {T : TXs} {al al' : AL} {hi hi' : HI} {hr hr' : HR} {s s' s1 s2 u sx sm : HI} {A A' : Int → Int → Int} {NN : Int → Option Nat} {E E' : Int → Prop} {p m f q v w x y n k g qx i r P e fr ty kd tt cv : Int} {B : Int → Int} {X Y : Tst} {t t' N M c b o : Nat} {al0 : AL} {hi0 : HI} {hr0 : HR} {V W ws : Int → Int}
theorem e_nextMessage (hA : SA al) (hC : CR hr) (he : 0 ≤ e ∧ e < 24) (h34 : hi 34 e ≠ 0) (hn : 1 ≤ hi 38 e) (hd : 2 ≤ d) (q : Q (some (some (vI (hi 39 (4 * e))))) al hi hr) : Ev d 53 [vR (some 33), vI e] al hi hr Q := by
  have k33 : isK al 33 5 := hA.k (by decide) (by decide) rfl; have k29 : isK al 29 1 := hA.k (by decide) (by decide) rfl
  have l39 := SA.len (a := 39) (n := 96) hA (by decide) (by decide) rfl
  have R34 : isR al 34 = true := hA.r (by decide) (by decide) (by decide); have K34 : isK al 34 16 := hA.k (by decide) (by decide) rfl; have R35 : isR al 35 = true := hA.r (by decide) (by decide) (by decide); have R36 : isR al 36 = true := hA.r (by decide) (by decide) (by decide); have R38 : isR al 38 = true := hA.r (by decide) (by decide) (by decide); have R39 : isR al 39 = true := hA.r (by decide) (by decide) (by decide); have R40 : isR al 40 = true := hA.r (by decide) (by decide) (by decide); have R41 : isR al 41 = true := hA.r (by decide) (by decide) (by decide)
  have K35 : isK al 35 15 := hA.k (by decide) (by decide) rfl; have K36 : isK al 36 15 := hA.k (by decide) (by decide) rfl; have K37 : isK al 37 17 := hA.k (by decide) (by decide) rfl; have K38 : isK al 38 15 := hA.k (by decide) (by decide) rfl; have K39 : isK al 39 15 := hA.k (by decide) (by decide) rfl; have K40 : isK al 40 15 := hA.k (by decide) (by decide) rfl; have K41 : isK al 41 15 := hA.k (by decide) (by decide) rfl
  have g29 := cr_33_0 hC; have g34 := cr_33_1 hC; have g35 := cr_33_2 hC; have g36 := cr_33_3 hC; have g37 := cr_33_4 hC; have g38 := cr_33_5 hC; have g39 := cr_33_6 hC; have g40 := cr_33_7 hC; have g41 := cr_33_8 hC
  rw [e53]
  refine s53_0.mpr (s53_1.mpr ?_)
  refine (s53_2 (by first | decide | assumption | omega) (by first | decide | assumption | omega)).mpr ?_
  refine e_waitingFor hA hC ?_ (by omega)
  rw [if_pos ⟨he.1, he.2, h34⟩]; simp only [kon, knt_some, knt_none, Option.toList_some, Option.toList_none, List.cons_append, List.nil_append]
  refine s53_5.mpr (wif (fun c5 => ?_) (fun c5 => ?_))
  · skip
    refine s53_8.mpr ?_
    refine (s53_9 (by first | decide | assumption | omega)).mpr ?_
    refine s53_12.mpr (s53_13.mpr (s53_14.mpr ?_))
    try simp (disch := first | decide | assumption | omega) only [g29, g34, g35, g36, g37, g38, g39, g40, g41, fMul_id, Int.mul_comm e 4]
    refine (s53_15 (by first | decide | assumption | omega) (by first | decide | assumption | omega) (by first | decide | assumption | omega)).mpr ?_
    refine s53_16.mpr ?_
    try simp (disch := first | decide | assumption | omega) only [g29, g34, g35, g36, g37, g38, g39, g40, g41, fMul_id, Int.mul_comm e 4]
    refine (s53_20).mpr ?_
    exact q
  · skip
    exfalso; omega
theorem e_nextLoadKind (hA : SA al) (hC : CR hr) (he : 0 ≤ e ∧ e < 24) (h34 : hi 34 e ≠ 0) (hn : 1 ≤ hi 38 e) (hd : 2 ≤ d) (q : Q (some (some (vI (hi 40 (4 * e))))) al hi hr) : Ev d 54 [vR (some 33), vI e] al hi hr Q := by
  have k33 : isK al 33 5 := hA.k (by decide) (by decide) rfl; have k29 : isK al 29 1 := hA.k (by decide) (by decide) rfl
  have l40 := SA.len (a := 40) (n := 96) hA (by decide) (by decide) rfl
  have R34 : isR al 34 = true := hA.r (by decide) (by decide) (by decide); have K34 : isK al 34 16 := hA.k (by decide) (by decide) rfl; have R35 : isR al 35 = true := hA.r (by decide) (by decide) (by decide); have R36 : isR al 36 = true := hA.r (by decide) (by decide) (by decide); have R38 : isR al 38 = true := hA.r (by decide) (by decide) (by decide); have R39 : isR al 39 = true := hA.r (by decide) (by decide) (by decide); have R40 : isR al 40 = true := hA.r (by decide) (by decide) (by decide); have R41 : isR al 41 = true := hA.r (by decide) (by decide) (by decide)
  have K35 : isK al 35 15 := hA.k (by decide) (by decide) rfl; have K36 : isK al 36 15 := hA.k (by decide) (by decide) rfl; have K37 : isK al 37 17 := hA.k (by decide) (by decide) rfl; have K38 : isK al 38 15 := hA.k (by decide) (by decide) rfl; have K39 : isK al 39 15 := hA.k (by decide) (by decide) rfl; have K40 : isK al 40 15 := hA.k (by decide) (by decide) rfl; have K41 : isK al 41 15 := hA.k (by decide) (by decide) rfl
  have g29 := cr_33_0 hC; have g34 := cr_33_1 hC; have g35 := cr_33_2 hC; have g36 := cr_33_3 hC; have g37 := cr_33_4 hC; have g38 := cr_33_5 hC; have g39 := cr_33_6 hC; have g40 := cr_33_7 hC; have g41 := cr_33_8 hC
  rw [e54]
  refine s54_0.mpr (s54_1.mpr ?_)
  refine (s54_2 (by first | decide | assumption | omega) (by first | decide | assumption | omega)).mpr ?_
  refine e_waitingFor hA hC ?_ (by omega)
  rw [if_pos ⟨he.1, he.2, h34⟩]; simp only [kon, knt_some, knt_none, Option.toList_some, Option.toList_none, List.cons_append, List.nil_append]
  refine s54_5.mpr (wif (fun c5 => ?_) (fun c5 => ?_))
  · skip
    refine s54_8.mpr ?_
    refine (s54_9 (by first | decide | assumption | omega)).mpr ?_
    refine s54_12.mpr (s54_13.mpr (s54_14.mpr ?_))
    try simp (disch := first | decide | assumption | omega) only [g29, g34, g35, g36, g37, g38, g39, g40, g41, fMul_id, Int.mul_comm e 4]
    refine (s54_15 (by first | decide | assumption | omega) (by first | decide | assumption | omega) (by first | decide | assumption | omega)).mpr ?_
    refine s54_16.mpr ?_
    try simp (disch := first | decide | assumption | omega) only [g29, g34, g35, g36, g37, g38, g39, g40, g41, fMul_id, Int.mul_comm e 4]
    refine (s54_20).mpr ?_
    exact q
  · skip
    exfalso; omega
theorem e_nextLoad (hA : SA al) (hC : CR hr) (he : 0 ≤ e ∧ e < 24) (h34 : hi 34 e ≠ 0) (hn : 1 ≤ hi 38 e) (hd : 2 ≤ d) (q : Q (some (some (vI (hi 41 (4 * e))))) al hi hr) : Ev d 55 [vR (some 33), vI e] al hi hr Q := by
  have k33 : isK al 33 5 := hA.k (by decide) (by decide) rfl; have k29 : isK al 29 1 := hA.k (by decide) (by decide) rfl
  have l41 := SA.len (a := 41) (n := 96) hA (by decide) (by decide) rfl
  have R34 : isR al 34 = true := hA.r (by decide) (by decide) (by decide); have K34 : isK al 34 16 := hA.k (by decide) (by decide) rfl; have R35 : isR al 35 = true := hA.r (by decide) (by decide) (by decide); have R36 : isR al 36 = true := hA.r (by decide) (by decide) (by decide); have R38 : isR al 38 = true := hA.r (by decide) (by decide) (by decide); have R39 : isR al 39 = true := hA.r (by decide) (by decide) (by decide); have R40 : isR al 40 = true := hA.r (by decide) (by decide) (by decide); have R41 : isR al 41 = true := hA.r (by decide) (by decide) (by decide)
  have K35 : isK al 35 15 := hA.k (by decide) (by decide) rfl; have K36 : isK al 36 15 := hA.k (by decide) (by decide) rfl; have K37 : isK al 37 17 := hA.k (by decide) (by decide) rfl; have K38 : isK al 38 15 := hA.k (by decide) (by decide) rfl; have K39 : isK al 39 15 := hA.k (by decide) (by decide) rfl; have K40 : isK al 40 15 := hA.k (by decide) (by decide) rfl; have K41 : isK al 41 15 := hA.k (by decide) (by decide) rfl
  have g29 := cr_33_0 hC; have g34 := cr_33_1 hC; have g35 := cr_33_2 hC; have g36 := cr_33_3 hC; have g37 := cr_33_4 hC; have g38 := cr_33_5 hC; have g39 := cr_33_6 hC; have g40 := cr_33_7 hC; have g41 := cr_33_8 hC
  rw [e55]
  refine s55_0.mpr (s55_1.mpr ?_)
  refine (s55_2 (by first | decide | assumption | omega) (by first | decide | assumption | omega)).mpr ?_
  refine e_waitingFor hA hC ?_ (by omega)
  rw [if_pos ⟨he.1, he.2, h34⟩]; simp only [kon, knt_some, knt_none, Option.toList_some, Option.toList_none, List.cons_append, List.nil_append]
  refine s55_5.mpr (wif (fun c5 => ?_) (fun c5 => ?_))
  · skip
    refine s55_8.mpr ?_
    refine (s55_9 (by first | decide | assumption | omega)).mpr ?_
    refine s55_12.mpr (s55_13.mpr (s55_14.mpr ?_))
    try simp (disch := first | decide | assumption | omega) only [g29, g34, g35, g36, g37, g38, g39, g40, g41, fMul_id, Int.mul_comm e 4]
    refine (s55_15 (by first | decide | assumption | omega) (by first | decide | assumption | omega) (by first | decide | assumption | omega)).mpr ?_
    refine s55_16.mpr ?_
    try simp (disch := first | decide | assumption | omega) only [g29, g34, g35, g36, g37, g38, g39, g40, g41, fMul_id, Int.mul_comm e 4]
    refine (s55_20).mpr ?_
    exact q
  · skip
    exfalso; omega
/-- the first has gone, in the memory -/
def rmK (hi : HI) (e n : Int) (hi' : HI) : Prop := hi' 38 e = n - 1 ∧ (∀ (a : Nat) i, a = 39 ∨ a = 40 ∨ a = 41 → 4 * e ≤ i → i < 4 * e + (n - 1) → hi' a i = hi a (i + 1)) ∧ ∀ (a : Nat) i, ¬ (a = 38 ∧ i = e) → ¬ ((a = 39 ∨ a = 40 ∨ a = 41) ∧ 4 * e ≤ i ∧ i < 4 * e + (n - 1)) → hi' a i = hi a i
theorem e_removeNext (hA : SA al) (hC : CR hr) (he : 0 ≤ e ∧ e < 24) (h34 : hi 34 e ≠ 0) (hn : 1 ≤ hi 38 e) (hd : 2 ≤ d) (n4 : hi 38 e = n ∧ n ≤ 4) (q : ∀ hi', rmK hi e n hi' → Q (some none) al hi' hr) : Ev d 56 [vR (some 33), vI e] al hi hr Q := by
  have k33 : isK al 33 5 := hA.k (by decide) (by decide) rfl; have k29 : isK al 29 1 := hA.k (by decide) (by decide) rfl
  have l38 := SA.len (a := 38) (n := 24) hA (by decide) (by decide) rfl
  have l39 := SA.len (a := 39) (n := 96) hA (by decide) (by decide) rfl
  have l40 := SA.len (a := 40) (n := 96) hA (by decide) (by decide) rfl
  have l41 := SA.len (a := 41) (n := 96) hA (by decide) (by decide) rfl
  have R34 : isR al 34 = true := hA.r (by decide) (by decide) (by decide); have K34 : isK al 34 16 := hA.k (by decide) (by decide) rfl; have R35 : isR al 35 = true := hA.r (by decide) (by decide) (by decide); have R36 : isR al 36 = true := hA.r (by decide) (by decide) (by decide); have R38 : isR al 38 = true := hA.r (by decide) (by decide) (by decide); have R39 : isR al 39 = true := hA.r (by decide) (by decide) (by decide); have R40 : isR al 40 = true := hA.r (by decide) (by decide) (by decide); have R41 : isR al 41 = true := hA.r (by decide) (by decide) (by decide)
  have K35 : isK al 35 15 := hA.k (by decide) (by decide) rfl; have K36 : isK al 36 15 := hA.k (by decide) (by decide) rfl; have K37 : isK al 37 17 := hA.k (by decide) (by decide) rfl; have K38 : isK al 38 15 := hA.k (by decide) (by decide) rfl; have K39 : isK al 39 15 := hA.k (by decide) (by decide) rfl; have K40 : isK al 40 15 := hA.k (by decide) (by decide) rfl; have K41 : isK al 41 15 := hA.k (by decide) (by decide) rfl
  have g29 := cr_33_0 hC; have g34 := cr_33_1 hC; have g35 := cr_33_2 hC; have g36 := cr_33_3 hC; have g37 := cr_33_4 hC; have g38 := cr_33_5 hC; have g39 := cr_33_6 hC; have g40 := cr_33_7 hC; have g41 := cr_33_8 hC
  have T22 : Wp d 56 22 [vR (some 33), vI e, vI (4 * e)] [] al (upI hi 38 e (n - 1)) hr Q := by
    refine wp_cnt (N := (n - 1).toNat) (fun j ls h => ls = [vR (some 33), vI e, vI (4 * e + j)] ∧ h 38 e = n - 1 ∧ (∀ (a : Nat) i, a = 39 ∨ a = 40 ∨ a = 41 → 4 * e ≤ i → i < 4 * e + (j : Int) → h a i = hi a (i + 1)) ∧ ∀ (a : Nat) i, ¬ (a = 38 ∧ i = e) → ¬ ((a = 39 ∨ a = 40 ∨ a = 41) ∧ 4 * e ≤ i ∧ i < 4 * e + (j : Int)) → h a i = hi a i) ?_ ?_ _ _ ⟨by rw [show 4 * e + ((0 : Nat) : Int) = 4 * e by omega], upI_eq, fun a i _ i0 i1 => by exfalso; omega, fun a i z _ => upI_ne z⟩
    · rintro j ls h hj ⟨rfl, w1, w2, w3⟩ nx
      have r9 := w3 39 (4 * e + j + 1) (by omega) (by omega)
      have r0 := w3 40 (4 * e + j + 1) (by omega) (by omega)
      have r1 := w3 41 (4 * e + j + 1) (by omega) (by omega)
      have N := nx [vR (some 33), vI e, vI (4 * e + ((j : Int) + 1))] (upI (upI (upI h 39 (4 * e + j) (h 39 (4 * e + j + 1))) 40 (4 * e + j) (h 40 (4 * e + j + 1))) 41 (4 * e + j) (h 41 (4 * e + j + 1))) ⟨by rw [cast1], by rw [upI_a (by decide), upI_a (by decide), upI_a (by decide)]; exact w1, fun a i ha i0 i1 => by
        rw [cast1] at i1
        by_cases z : i = 4 * e + j
        · subst z
          rcases ha with rfl | rfl | rfl
          · rw [upI_a (by decide), upI_a (by decide), upI_eq]; exact r9
          · rw [upI_a (by decide), upI_eq]; exact r0
          · rw [upI_eq]; exact r1
        · rw [upI_i z, upI_i z, upI_i z]; exact w2 a i ha i0 (by omega), fun a i z1 z2 => by
        rw [cast1] at z2
        rw [upI_ne (by omega), upI_ne (by omega), upI_ne (by omega)]
        exact w3 a i z1 (by omega)⟩
      rw [show 4 * e + ((j : Int) + 1) = 4 * e + j + 1 by omega] at N
      refine s56_22.mpr (s56_23.mpr (s56_24.mpr (s56_25.mpr (s56_26.mpr ?_))))
      try simp (disch := first | decide | assumption | omega) only [g29, g34, g35, g36, g37, g38, g39, g40, g41, w1, upI_a, fMul_id, fAdd_id, Int.mul_comm e 4]
      refine (s56_27 (by first | decide | assumption | omega)).mpr ?_
      refine s56_30.mpr ?_
      try simp (disch := first | decide | assumption | omega) only [g29, g34, g35, g36, g37, g38, g39, g40, g41, w1, upI_a, fMul_id, fAdd_id, Int.mul_comm e 4]
      refine (s56_31 (by first | decide | assumption | omega) (by first | decide | assumption | omega) (by first | decide | assumption | omega)).mpr ?_
      refine s56_32.mpr ?_
      try simp (disch := first | decide | assumption | omega) only [g29, g34, g35, g36, g37, g38, g39, g40, g41, w1, upI_a, fMul_id, fAdd_id, Int.mul_comm e 4]
      refine s56_33.mpr (wif (fun c33 => ?_) (fun c33 => ?_))
      · skip
        refine s56_36.mpr ?_
        refine (s56_37 (by first | decide | assumption | omega)).mpr ?_
        refine s56_40.mpr (s56_41.mpr ?_)
        try simp (disch := first | decide | assumption | omega) only [g29, g34, g35, g36, g37, g38, g39, g40, g41, w1, upI_a, fMul_id, fAdd_id, Int.mul_comm e 4]
        refine (s56_42 (by first | decide | assumption | omega)).mpr ?_
        refine s56_45.mpr (s56_46.mpr (s56_47.mpr ?_))
        try simp (disch := first | decide | assumption | omega) only [g29, g34, g35, g36, g37, g38, g39, g40, g41, w1, upI_a, fMul_id, fAdd_id, Int.mul_comm e 4]
        refine (s56_48 (by first | decide | assumption | omega) (by first | decide | assumption | omega) (by first | decide | assumption | omega)).mpr ?_
        try simp (disch := first | decide | assumption | omega) only [g29, g34, g35, g36, g37, g38, g39, g40, g41, w1, upI_a, fMul_id, fAdd_id, Int.mul_comm e 4]
        refine (s56_49 (by first | decide | assumption | omega) (by first | decide | assumption | omega) (by first | decide | assumption | omega)).mpr ?_
        refine s56_50.mpr ?_
        try simp (disch := first | decide | assumption | omega) only [g29, g34, g35, g36, g37, g38, g39, g40, g41, w1, upI_a, fMul_id, fAdd_id, Int.mul_comm e 4]
        refine (s56_51 (by first | decide | assumption | omega)).mpr ?_
        refine s56_54.mpr (s56_55.mpr ?_)
        try simp (disch := first | decide | assumption | omega) only [g29, g34, g35, g36, g37, g38, g39, g40, g41, w1, upI_a, fMul_id, fAdd_id, Int.mul_comm e 4]
        refine (s56_56 (by first | decide | assumption | omega)).mpr ?_
        refine s56_59.mpr (s56_60.mpr (s56_61.mpr ?_))
        try simp (disch := first | decide | assumption | omega) only [g29, g34, g35, g36, g37, g38, g39, g40, g41, w1, upI_a, fMul_id, fAdd_id, Int.mul_comm e 4]
        refine (s56_62 (by first | decide | assumption | omega) (by first | decide | assumption | omega) (by first | decide | assumption | omega)).mpr ?_
        try simp (disch := first | decide | assumption | omega) only [g29, g34, g35, g36, g37, g38, g39, g40, g41, w1, upI_a, fMul_id, fAdd_id, Int.mul_comm e 4]
        refine (s56_63 (by first | decide | assumption | omega) (by first | decide | assumption | omega) (by first | decide | assumption | omega)).mpr ?_
        refine s56_64.mpr ?_
        try simp (disch := first | decide | assumption | omega) only [g29, g34, g35, g36, g37, g38, g39, g40, g41, w1, upI_a, fMul_id, fAdd_id, Int.mul_comm e 4]
        refine (s56_65 (by first | decide | assumption | omega)).mpr ?_
        refine s56_68.mpr (s56_69.mpr ?_)
        try simp (disch := first | decide | assumption | omega) only [g29, g34, g35, g36, g37, g38, g39, g40, g41, w1, upI_a, fMul_id, fAdd_id, Int.mul_comm e 4]
        refine (s56_70 (by first | decide | assumption | omega)).mpr ?_
        refine s56_73.mpr (s56_74.mpr (s56_75.mpr ?_))
        try simp (disch := first | decide | assumption | omega) only [g29, g34, g35, g36, g37, g38, g39, g40, g41, w1, upI_a, fMul_id, fAdd_id, Int.mul_comm e 4]
        refine (s56_76 (by first | decide | assumption | omega) (by first | decide | assumption | omega) (by first | decide | assumption | omega)).mpr ?_
        try simp (disch := first | decide | assumption | omega) only [g29, g34, g35, g36, g37, g38, g39, g40, g41, w1, upI_a, fMul_id, fAdd_id, Int.mul_comm e 4]
        refine (s56_77 (by first | decide | assumption | omega) (by first | decide | assumption | omega) (by first | decide | assumption | omega)).mpr ?_
        refine s56_78.mpr (s56_81.mpr ?_)
        try simp (disch := first | decide | assumption | omega) only [g29, g34, g35, g36, g37, g38, g39, g40, g41, w1, upI_a, fMul_id, fAdd_id, Int.mul_comm e 4]
        exact N
      · skip
        exfalso; omega
    · rintro ls h ⟨rfl, w1, w2, w3⟩
      rw [Int.toNat_of_nonneg (by omega)] at w2 w3 ⊢
      have E0 := q h ⟨w1, w2, w3⟩
      refine s56_22.mpr (s56_23.mpr (s56_24.mpr (s56_25.mpr (s56_26.mpr ?_))))
      try simp (disch := first | decide | assumption | omega) only [g29, g34, g35, g36, g37, g38, g39, g40, g41, w1, fMul_id, fAdd_id, Int.mul_comm e 4]
      refine (s56_27 (by first | decide | assumption | omega)).mpr ?_
      refine s56_30.mpr ?_
      try simp (disch := first | decide | assumption | omega) only [g29, g34, g35, g36, g37, g38, g39, g40, g41, w1, fMul_id, fAdd_id, Int.mul_comm e 4]
      refine (s56_31 (by first | decide | assumption | omega) (by first | decide | assumption | omega) (by first | decide | assumption | omega)).mpr ?_
      refine s56_32.mpr ?_
      try simp (disch := first | decide | assumption | omega) only [g29, g34, g35, g36, g37, g38, g39, g40, g41, w1, fMul_id, fAdd_id, Int.mul_comm e 4]
      refine s56_33.mpr (wif (fun c33 => ?_) (fun c33 => ?_))
      · skip
        exfalso; omega
      · skip
        refine (s56_84).mpr ?_
        exact E0
  have e38 := n4.1
  rw [e56]
  refine s56_0.mpr (s56_1.mpr ?_)
  refine (s56_2 (by first | decide | assumption | omega) (by first | decide | assumption | omega)).mpr ?_
  refine e_waitingFor hA hC ?_ (by omega)
  rw [if_pos ⟨he.1, he.2, h34⟩]; simp only [kon, knt_some, knt_none, Option.toList_some, Option.toList_none, List.cons_append, List.nil_append]
  refine s56_5.mpr (wif (fun c5 => ?_) (fun c5 => ?_))
  · skip
    refine s56_8.mpr ?_
    refine (s56_9 (by first | decide | assumption | omega)).mpr ?_
    refine s56_12.mpr (s56_13.mpr ?_)
    try simp (disch := first | decide | assumption | omega) only [g29, g34, g35, g36, g37, g38, g39, g40, g41, e38, fMul_id, fSub_id, Int.mul_comm e 4]
    refine (s56_14 (by first | decide | assumption | omega) (by first | decide | assumption | omega) (by first | decide | assumption | omega)).mpr ?_
    refine s56_15.mpr (s56_16.mpr ?_)
    try simp (disch := first | decide | assumption | omega) only [g29, g34, g35, g36, g37, g38, g39, g40, g41, e38, fMul_id, fSub_id, Int.mul_comm e 4]
    refine (s56_17 (by first | decide | assumption | omega) (by first | decide | assumption | omega) (by first | decide | assumption | omega)).mpr ?_
    refine s56_18.mpr (s56_19.mpr (s56_20.mpr (s56_21.mpr ?_)))
    try simp (disch := first | decide | assumption | omega) only [g29, g34, g35, g36, g37, g38, g39, g40, g41, e38, fMul_id, fSub_id, Int.mul_comm e 4]
    exact T22
  · skip
    exfalso; omega
theorem RelS.shf (h : RelS T NN al0 hi0 hr0 E A al hi hr s) (hP : AllP s) (hq : QB s) (ho : opn s e) (hM : rmK hi e (s 114 e) hi') : RelS T NN al0 hi0 hr0 E A al hi' hr (shfS s e) := by
  obtain ⟨m1, m2, m3⟩ := hM
  obtain ⟨n1, n2, n3⟩ := h.2.2.2.1
  have sn : ∀ (a : Nat) i, a ≠ 114 → a ≠ 115 → a ≠ 116 → a ≠ 117 → shfS s e a i = s a i := fun a i z1 z2 z3 z4 => by unfold shfS; rw [if_neg (by omega), if_neg (by omega)]
  have s14 : ∀ x, shfS s e 114 x = if x = e then s 114 e - 1 else s 114 x := fun x => by
    unfold shfS
    by_cases z : x = e
    · rw [if_pos ⟨rfl, z⟩, if_pos z]
    · rw [if_neg (by omega), if_neg (by omega), if_neg z]
  have sm : ∀ (a : Nat) i, a = 115 ∨ a = 116 ∨ a = 117 → shfS s e a i = if 4 * e ≤ i ∧ i < 4 * e + s 114 e - 1 then s a (i + 1) else s a i := fun a i z => by
    unfold shfS
    rw [if_neg (by omega)]
    by_cases y : 4 * e ≤ i ∧ i < 4 * e + s 114 e - 1
    · rw [if_pos ⟨z, y⟩, if_pos y]
    · rw [if_neg (by omega), if_neg y]
  have op : ∀ y, opn (shfS s e) y ↔ opn s y := fun y => by unfold opn; rw [sn _ _ (by decide) (by decide) (by decide) (by decide)]
  have be := (hq e ho).1
  refine h.glo hP (fun a i z => m3 a i (by unfold gC at z; omega) (by unfold gC at z; omega)) (fun _ _ _ => rfl) (fun a i z => sn a i (by unfold gS at z; omega) (by unfold gS at z; omega) (by unfold gS at z; omega) (by unfold gS at z; omega)) (sn _ _ (by decide) (by decide) (by decide) (by decide)) (h.2.1.cg (fun a i y => m3 a i (by omega) (by omega)) (fun a i y => sn a i (by omega) (by omega) (by omega) (by omega))) (h.2.2.1.cg (fun a i y1 y2 => m3 a i (by omega) (by omega)) (fun b _ _ => sn _ _ (by decide) (by decide) (by decide) (by decide)) (fun b _ _ _ => ⟨sn _ _ (by decide) (by decide) (by decide) (by decide), fun j _ _ => sn _ _ (by decide) (by decide) (by decide) (by decide)⟩)) ⟨fun y z => (op y).mpr (n1 y z), fun y y0 y1 => ?_, fun c c0 c1 hc => ?_⟩
  · obtain ⟨z1, z2, z3, z4⟩ := n2 y y0 y1
    rw [m3 34 _ (by omega) (by omega), op, s14]
    refine ⟨z1, z2, by
      by_cases c : y = e
      · rw [if_pos c, c]; exact m1
      · rw [if_neg c, m3 38 _ (by omega) (by omega)]; exact z3, fun u => ⟨fun q => ?_, fun j j0 j1 => ?_⟩⟩
    · rw [m3 35 _ (by omega) (by omega), m3 36 _ (by omega) (by omega), sn 112 _ (by decide) (by decide) (by decide) (by decide), sn 113 _ (by decide) (by decide) (by decide) (by decide)]
      exact (z4 u).1 q
    · have by4 := (hq y u).1
      by_cases c : y = e
      · subst c
        rw [if_pos rfl] at j1
        rw [m2 39 _ (by decide) (by omega) (by omega), m2 40 _ (by decide) (by omega) (by omega), m2 41 _ (by decide) (by omega) (by omega), sm 115 _ (by decide), sm 116 _ (by decide), sm 117 _ (by decide), if_pos (by omega), if_pos (by omega), if_pos (by omega), show 4 * y + j + 1 = 4 * y + (j + 1) by omega]
        exact (z4 u).2 (j + 1) (by omega) (by omega)
      · rw [if_neg c] at j1
        rw [m3 39 _ (by omega) (by omega), m3 40 _ (by omega) (by omega), m3 41 _ (by omega) (by omega), sm 115 _ (by decide), sm 116 _ (by decide), sm 117 _ (by decide), if_neg (by omega), if_neg (by omega), if_neg (by omega)]
        exact (z4 u).2 j j0 j1
  · rw [op, op] at hc
    obtain ⟨m, cc, N, o', w1, w2, w3, w4, w5⟩ := n3 c c0 c1 hc
    refine ⟨m, cc, N, o', w1, w2, w3, w4, fun y hy ec => ?_⟩
    rw [op] at hy
    rw [sn _ _ (by decide) (by decide) (by decide) (by decide)]
    exact w5 y hy ec
end CN8
