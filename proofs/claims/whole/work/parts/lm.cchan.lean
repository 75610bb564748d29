/-! RUNNING, the class: a channel -/
section CN2
variable {d : Nat} {Q : QQ} {T : TXs} {al al' : AL} {hi hi' : HI} {hr hr' : HR} {s s' u sx sm : HI} {A A' : Int → Int → Int} {NN : Int → Option Nat} {E E' : Int → Prop} {p m f o q v w x y n k g qx cv i r P b e fr ty : Int} {B : Int → Int} {X Y : Tst} {t t' N M c : Nat} {al0 : AL} {hi0 : HI} {hr0 : HR} {V W ws : Int → Int}
/-- an end as it is opened, in the memory -/
noncomputable def enK (hi : HI) (e p : Int) : HI := upI (upI (upI (upI hi 34 e 1) 35 e 0) 36 e p) 38 e 0
def enS (s : HI) (e p c : Int) : HI := upI (upI (upI (upI s 112 e 0) 113 e p) 114 e 0) 118 e c
theorem e_openEnd (hA : SA al) (hC : CR hr) (he : 0 ≤ e ∧ e < 24) (q : Q (some none) al (enK hi e p) hr) : Ev d 44 [vR (some 33), vI e, vI p] al hi hr Q := by
  have k33 : isK al 33 5 := hA.k (by decide) (by decide) rfl
  have l34 := SA.len (a := 34) (n := 24) hA (by decide) (by decide) rfl
  have l35 := SA.len (a := 35) (n := 24) hA (by decide) (by decide) rfl
  have l36 := SA.len (a := 36) (n := 24) hA (by decide) (by decide) rfl
  have l38 := SA.len (a := 38) (n := 24) hA (by decide) (by decide) rfl
  have R34 : isR al 34 = true := hA.r (by decide) (by decide) (by decide); have K34 : isK al 34 16 := hA.k (by decide) (by decide) rfl; have R35 : isR al 35 = true := hA.r (by decide) (by decide) (by decide); have R36 : isR al 36 = true := hA.r (by decide) (by decide) (by decide); have R38 : isR al 38 = true := hA.r (by decide) (by decide) (by decide)
  have K35 : isK al 35 15 := hA.k (by decide) (by decide) rfl; have K36 : isK al 36 15 := hA.k (by decide) (by decide) rfl; have K38 : isK al 38 15 := hA.k (by decide) (by decide) rfl; have K37 : isK al 37 17 := hA.k (by decide) (by decide) rfl
  have g34 := cr_33_1 hC; have g35 := cr_33_2 hC; have g36 := cr_33_3 hC; have g37 := cr_33_4 hC; have g38 := cr_33_5 hC
  rw [e44]
  refine s44_0.mpr ?_
  refine (s44_1 (by first | decide | assumption | omega)).mpr ?_
  refine s44_4.mpr (s44_5.mpr ?_)
  try simp (disch := first | decide | assumption | omega) only [g34, g35, g36, g37, g38]
  refine (s44_6Z (by first | decide | assumption | omega) (by first | decide | assumption | omega) (by first | decide | assumption | omega)).mpr ?_
  refine s44_7.mpr ?_
  try simp (disch := first | decide | assumption | omega) only [g34, g35, g36, g37, g38]
  refine (s44_8 (by first | decide | assumption | omega)).mpr ?_
  refine s44_11.mpr (s44_12.mpr ?_)
  try simp (disch := first | decide | assumption | omega) only [g34, g35, g36, g37, g38]
  refine (s44_13 (by first | decide | assumption | omega) (by first | decide | assumption | omega) (by first | decide | assumption | omega)).mpr ?_
  refine s44_14.mpr ?_
  try simp (disch := first | decide | assumption | omega) only [g34, g35, g36, g37, g38]
  refine (s44_15 (by first | decide | assumption | omega)).mpr ?_
  refine s44_18.mpr (s44_19.mpr ?_)
  try simp (disch := first | decide | assumption | omega) only [g34, g35, g36, g37, g38]
  refine (s44_20 (by first | decide | assumption | omega) (by first | decide | assumption | omega) (by first | decide | assumption | omega)).mpr ?_
  refine s44_21.mpr ?_
  try simp (disch := first | decide | assumption | omega) only [g34, g35, g36, g37, g38]
  refine (s44_22 (by first | decide | assumption | omega)).mpr ?_
  refine s44_25.mpr (s44_26.mpr ?_)
  try simp (disch := first | decide | assumption | omega) only [g34, g35, g36, g37, g38]
  refine (s44_27 (by first | decide | assumption | omega) (by first | decide | assumption | omega) (by first | decide | assumption | omega)).mpr ?_
  try simp (disch := first | decide | assumption | omega) only [g34, g35, g36, g37, g38]
  refine (s44_28).mpr ?_
  exact q
theorem enK_n {a : Nat} {i : Int} (h : a ≠ 34 ∧ a ≠ 35 ∧ a ≠ 36 ∧ a ≠ 38) : enK hi e p a i = hi a i := by unfold enK; rw [upI_a (by omega), upI_a (by omega), upI_a (by omega), upI_a (by omega)]
theorem enK_i {a : Nat} {i : Int} (h : i ≠ e) : enK hi e p a i = hi a i := by unfold enK; rw [upI_ne (by omega), upI_ne (by omega), upI_ne (by omega), upI_ne (by omega)]
theorem enK_e : enK hi e p 34 e = 1 ∧ enK hi e p 35 e = 0 ∧ enK hi e p 36 e = p ∧ enK hi e p 38 e = 0 := by
  unfold enK
  refine ⟨by rw [upI_a (by decide), upI_a (by decide), upI_a (by decide), upI_eq], by rw [upI_a (by decide), upI_a (by decide), upI_eq], by rw [upI_a (by decide), upI_eq], upI_eq⟩
theorem enS_n {a : Nat} {i : Int} (h : a ≠ 112 ∧ a ≠ 113 ∧ a ≠ 114 ∧ a ≠ 118) : enS s e p w a i = s a i := by unfold enS; rw [upI_a (by omega), upI_a (by omega), upI_a (by omega), upI_a (by omega)]
theorem enS_i {a : Nat} {i : Int} (h : i ≠ e) : enS s e p w a i = s a i := by unfold enS; rw [upI_ne (by omega), upI_ne (by omega), upI_ne (by omega), upI_ne (by omega)]
theorem enS_e : enS s e p w 112 e = 0 ∧ enS s e p w 113 e = p ∧ enS s e p w 114 e = 0 ∧ enS s e p w 118 e = w := by
  unfold enS
  refine ⟨by rw [upI_a (by decide), upI_a (by decide), upI_a (by decide), upI_eq], by rw [upI_a (by decide), upI_a (by decide), upI_eq], by rw [upI_a (by decide), upI_eq], upI_eq⟩
set_option maxRecDepth 8000 in
/-- the lowest channel that is none -/
theorem e_make {b : Nat} (kb : isK al b 3) (hA : SA al) (hC : CR hr) (hb : ∀ e, 0 ≤ e → e < 24 → hi 34 e = 0 ∨ hi 34 e = 1) (hd : 1 ≤ d) (no : (∀ k, 0 ≤ k → k < 12 → hi 34 (2 * k) = 1 ∨ hi 34 (2 * k + 1) = 1) → Q (some (some (vI (-1)))) al hi hr) (yes : ∀ k, 0 ≤ k → k < 12 → hi 34 (2 * k) = 0 → hi 34 (2 * k + 1) = 0 → (∀ j, 0 ≤ j → j < k → hi 34 (2 * j) = 1 ∨ hi 34 (2 * j + 1) = 1) → Q (some (some (vI k))) al (enK (enK hi (2 * k) p) (2 * k + 1) p) (upR hr 37 k (some b))) : Ev d 43 [vR (some 33), vR (some b), vI p] al hi hr Q := by
  have k33 : isK al 33 5 := hA.k (by decide) (by decide) rfl
  have l34 := SA.len (a := 34) (n := 24) hA (by decide) (by decide) rfl
  have l37 := SA.len (a := 37) (n := 12) hA (by decide) (by decide) rfl
  have R34 : isR al 34 = true := hA.r (by decide) (by decide) (by decide); have K34 : isK al 34 16 := hA.k (by decide) (by decide) rfl; have R35 : isR al 35 = true := hA.r (by decide) (by decide) (by decide); have R36 : isR al 36 = true := hA.r (by decide) (by decide) (by decide); have R38 : isR al 38 = true := hA.r (by decide) (by decide) (by decide)
  have K35 : isK al 35 15 := hA.k (by decide) (by decide) rfl; have K36 : isK al 36 15 := hA.k (by decide) (by decide) rfl; have K38 : isK al 38 15 := hA.k (by decide) (by decide) rfl; have K37 : isK al 37 17 := hA.k (by decide) (by decide) rfl
  have g34 := cr_33_1 hC; have g35 := cr_33_2 hC; have g36 := cr_33_3 hC; have g37 := cr_33_4 hC; have g38 := cr_33_5 hC
  have T2 : ∀ (n : Nat) (k : Int), k + n = 12 → 0 ≤ k → (∀ j, 0 ≤ j → j < k → hi 34 (2 * j) = 1 ∨ hi 34 (2 * j + 1) = 1) → Wp d 43 2 [vR (some 33), vR (some b), vI p, vI k] [] al hi hr Q := by
    intro n
    induction n with
    | zero =>
      intro k hk k0 hj
      have E0 := no (fun j j0 j1 => hj j j0 (by omega))
      refine s43_2.mpr (s43_3.mpr ?_)
      refine s43_5.mpr (wif (fun c5 => ?_) (fun c5 => ?_))
      · skip
        exfalso; omega
      · skip
        refine s43_65.mpr ?_
        refine (s43_66).mpr ?_
        exact E0
    | succ n ih =>
      intro k hk k0 hj
      have b0 := hb (2 * k) (by omega) (by omega)
      have b1 := hb (2 * k + 1) (by omega) (by omega)
      by_cases c : hi 34 (2 * k) = 0 ∧ hi 34 (2 * k + 1) = 0
      · obtain ⟨c1, c2⟩ := c
        have E0 := yes k k0 (by omega) c1 c2 hj
        have hC' : CR (upR hr 37 k (some b)) := fun pr hpr => by
          have : pr.1 ≠ 37 := (show ∀ p ∈ crl, p.1 ≠ 37 by decide) pr hpr
          rw [upR_a this]; exact hC pr hpr
        have g33 := cr_33_1 hC'
        have T39 : Wp d 43 39 [vR (some 33), vR (some b), vI p, vI k] [] al hi (upR hr 37 k (some b)) Q := by
          refine s43_39.mpr (s43_40.mpr (s43_41.mpr (s43_42.mpr (s43_43.mpr ?_))))
          try simp (disch := first | decide | assumption | omega) only [fMul_id, fAdd_id]
          refine (s43_44 (by first | decide | assumption | omega) (by first | decide | assumption | omega)).mpr ?_
          refine e_openEnd hA hC' (by omega) ?_
          simp only [kon, knt_some, knt_none, Option.toList_some, Option.toList_none, List.cons_append, List.nil_append]
          refine s43_47.mpr (s43_48.mpr (s43_49.mpr (s43_50.mpr (s43_51.mpr (s43_52.mpr ?_)))))
          refine s43_53.mpr ?_
          try simp (disch := first | decide | assumption | omega) only [fMul_id, fAdd_id]
          refine (s43_54 (by first | decide | assumption | omega) (by first | decide | assumption | omega)).mpr ?_
          refine e_openEnd hA hC' (by omega) ?_
          simp only [kon, knt_some, knt_none, Option.toList_some, Option.toList_none, List.cons_append, List.nil_append]
          refine s43_57.mpr ?_
          refine (s43_58).mpr ?_
          exact E0
        refine s43_2.mpr (s43_3.mpr ?_)
        refine s43_5.mpr (wif (fun c5 => ?_) (fun c5 => ?_))
        · skip
          refine s43_8.mpr ?_
          refine (s43_9 (by first | decide | assumption | omega)).mpr ?_
          refine s43_12.mpr (s43_13.mpr (s43_14.mpr ?_))
          try simp (disch := first | decide | assumption | omega) only [g34, g35, g36, g37, g38, fMul_id, fAdd_id]
          refine (s43_15Z (by first | decide | assumption | omega) (by first | decide | assumption | omega) (by first | decide | assumption | omega)).mpr ?_
          try simp (disch := first | decide | assumption | omega) only [g34, g35, g36, g37, g38, fMul_id, fAdd_id]
          refine s43_16.mpr (wif (fun c16 => ?_) (fun c16 => ?_))
          · skip
            refine s43_19.mpr ?_
            refine (s43_20 (by first | decide | assumption | omega)).mpr ?_
            refine s43_23.mpr (s43_24.mpr (s43_25.mpr (s43_26.mpr (s43_27.mpr ?_))))
            try simp (disch := first | decide | assumption | omega) only [g34, g35, g36, g37, g38, fMul_id, fAdd_id]
            refine (s43_28Z (by first | decide | assumption | omega) (by first | decide | assumption | omega) (by first | decide | assumption | omega)).mpr ?_
            try simp (disch := first | decide | assumption | omega) only [g34, g35, g36, g37, g38, fMul_id, fAdd_id]
            refine s43_29.mpr (wif (fun c29 => ?_) (fun c29 => ?_))
            · skip
              refine s43_32.mpr ?_
              refine (s43_33 (by first | decide | assumption | omega)).mpr ?_
              refine s43_36.mpr (s43_37.mpr ?_)
              try simp (disch := first | decide | assumption | omega) only [g34, g35, g36, g37, g38, fMul_id, fAdd_id]
              refine (s43_38 K37 ⟨by decide, by decide⟩ (by omega) (by omega) kb).mpr ?_
              exact T39
            · skip
              exfalso; omega
          · skip
            exfalso; omega
        · skip
          exfalso; omega
      · have N := ih (k + 1) (by omega) (by omega) (fun j j0 j1 => by
          by_cases z : j = k
          · subst z; omega
          · exact hj j j0 (by omega))
        refine s43_2.mpr (s43_3.mpr ?_)
        refine s43_5.mpr (wif (fun c5 => ?_) (fun c5 => ?_))
        · skip
          refine s43_8.mpr ?_
          refine (s43_9 (by first | decide | assumption | omega)).mpr ?_
          refine s43_12.mpr (s43_13.mpr (s43_14.mpr ?_))
          try simp (disch := first | decide | assumption | omega) only [g34, g35, g36, g37, g38, fMul_id, fAdd_id]
          refine (s43_15Z (by first | decide | assumption | omega) (by first | decide | assumption | omega) (by first | decide | assumption | omega)).mpr ?_
          try simp (disch := first | decide | assumption | omega) only [g34, g35, g36, g37, g38, fMul_id, fAdd_id]
          refine s43_16.mpr (wif (fun c16 => ?_) (fun c16 => ?_))
          · skip
            refine s43_19.mpr ?_
            refine (s43_20 (by first | decide | assumption | omega)).mpr ?_
            refine s43_23.mpr (s43_24.mpr (s43_25.mpr (s43_26.mpr (s43_27.mpr ?_))))
            try simp (disch := first | decide | assumption | omega) only [g34, g35, g36, g37, g38, fMul_id, fAdd_id]
            refine (s43_28Z (by first | decide | assumption | omega) (by first | decide | assumption | omega) (by first | decide | assumption | omega)).mpr ?_
            try simp (disch := first | decide | assumption | omega) only [g34, g35, g36, g37, g38, fMul_id, fAdd_id]
            refine s43_29.mpr (wif (fun c29 => ?_) (fun c29 => ?_))
            · skip
              exfalso; omega
            · skip
              refine s43_59.mpr (s43_62.mpr ?_)
              try simp (disch := first | decide | assumption | omega) only [g34, g35, g36, g37, g38, fMul_id, fAdd_id]
              exact N
          · skip
            refine s43_59.mpr (s43_62.mpr ?_)
            try simp (disch := first | decide | assumption | omega) only [g34, g35, g36, g37, g38, fMul_id, fAdd_id]
            exact N
        · skip
          exfalso; omega
  rw [e43]
  refine s43_0.mpr (s43_1.mpr ?_)
  exact T2 12 0 rfl (Int.le_refl _) (fun j j0 j1 => by exfalso; omega)
end CN2
