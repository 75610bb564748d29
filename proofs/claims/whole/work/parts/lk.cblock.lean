/-! RUNNING, the class: the instructions of blocks -/
section CN0
variable {d : Nat} {Q : QQ} {T : TXs} {al al' : AL} {hi hi' : HI} {hr hr' : HR} {s s' u sx sm : HI} {A A' : Int → Int → Int} {NN : Int → Option Nat} {E E' : Int → Prop} {p m f o q v w x y n k g qx cv i r a P b fr : Int} {B : Int → Int} {X Y : Tst} {t t' N M c : Nat} {al0 : AL} {hi0 : HI} {hr0 : HR} {V W : Int → Int}
theorem frL_l {g : Int → Bool} : ∀ (n : Nat) (k b : Int), k ≤ b → b < k + n → g b = false → (∀ j, k ≤ j → j < b → g j = true) → frL g n k = b
  | 0, k, b, h1, h2, _, _ => by omega
  | n + 1, k, b, h1, h2, h3, h4 => by
    by_cases c : k = b
    · subst c; exact frL_n h3
    · rw [frL_y (h4 k (Int.le_refl _) (by omega))]
      exact frL_l n (k + 1) b (by omega) (by omega) h3 (fun j j0 j1 => h4 j (by omega) j1)
def nbS (s : HI) (b n p : Int) : HI := fun a i => if a = 109 ∧ i = b then n else if a = 110 ∧ i = b then p else if a = 111 ∧ 6 * b ≤ i ∧ i < 6 * b + 6 then 0 else s a i
theorem nbS_n {a : Nat} {i : Int} (h : a ≠ 109 ∧ a ≠ 110 ∧ a ≠ 111) : nbS s b n p a i = s a i := by unfold nbS; rw [if_neg (by omega), if_neg (by omega), if_neg (by omega)]
/-- the memory of a new block -/
def nbK (hi : HI) (b n p : Int) (hi' : HI) : Prop := hi' 30 b = n ∧ hi' 31 b = p ∧ (∀ j, 0 ≤ j → j < 6 → hi' 32 (6 * b + j) = 0) ∧ hi' 29 3 = hi 29 3 + 1 ∧ hi' 29 4 = hi 29 4 + (n + 1) ∧ ∀ (a : Nat) i, ¬ (a = 30 ∧ i = b) → ¬ (a = 31 ∧ i = b) → ¬ (a = 32 ∧ 6 * b ≤ i ∧ i < 6 * b + 6) → ¬ (a = 29 ∧ (i = 3 ∨ i = 4)) → hi' a i = hi a i
theorem b_make (hA : SA al) (hC : CR hr) (hn : 1 ≤ n ∧ n ≤ 6) (h3 : 0 ≤ hi 29 3 ∧ hi 29 3 ≤ 128) (h4 : 0 ≤ hi 29 4 ∧ hi 29 4 ≤ 40000) (no : 256 < hi 29 4 + n + 1 → Q (some (some (vI (-1)))) al hi hr) (he : hi 29 4 + n + 1 ≤ 256 → ∃ b, 0 ≤ b ∧ b < 128 ∧ hi 30 b = 0) (yes : ∀ b hi', hi 29 4 + n + 1 ≤ 256 → 0 ≤ b → b < 128 → hi 30 b = 0 → (∀ k, 0 ≤ k → k < b → hi 30 k ≠ 0) → nbK hi b n p hi' → Q (some (some (vI b))) al hi' hr) : Ev d 2 [vR (some 29), vI n, vI p] al hi hr Q := by
  have k29 : isK al 29 1 := hA.k (by decide) (by decide) rfl; have R30 : isR al 30 = true := hA.r (by decide) (by decide) (by decide); have R31 : isR al 31 = true := hA.r (by decide) (by decide) (by decide); have R32 : isR al 32 = true := hA.r (by decide) (by decide) (by decide); have K30 : isK al 30 15 := hA.k (by decide) (by decide) rfl; have K31 : isK al 31 15 := hA.k (by decide) (by decide) rfl; have K32 : isK al 32 15 := hA.k (by decide) (by decide) rfl; have g30 := cr_29_0 hC; have g31 := cr_29_1 hC; have g32 := cr_29_2 hC
  have l30 := SA.len (a := 30) (n := 128) hA (by decide) (by decide) rfl
  have l31 := SA.len (a := 31) (n := 128) hA (by decide) (by decide) rfl
  have l32 := SA.len (a := 32) (n := 768) hA (by decide) (by decide) rfl
  rw [e2]
  by_cases c : 256 < hi 29 4 + n + 1
  · have E0 := no c
    refine s2_0.mpr (s2_1.mpr ?_)
    refine s2_2.mpr (wif (fun c2 => ?_) (fun c2 => ?_))
    · first
      | (exfalso; omega)
      | skip
        refine s2_25.mpr ?_
        refine (s2_26).mpr ?_
        exact E0
    · first
      | (exfalso; omega)
      | skip
        refine s2_5.mpr (s2_6.mpr ?_)
        refine s2_8.mpr (wif (fun c8 => ?_) (fun c8 => ?_))
        · first
          | (exfalso; omega)
          | skip
            refine s2_25.mpr ?_
            refine (s2_26).mpr ?_
            exact E0
        · first
          | (exfalso; omega)
          | skip
            refine s2_11.mpr ?_
            refine (s2_12 (by first | decide | assumption | omega)).mpr ?_
            refine s2_15.mpr (s2_16.mpr (s2_17.mpr (s2_18.mpr (s2_19.mpr ?_))))
            try simp (disch := first | decide | assumption | omega) only [fAdd_id]
            refine s2_22.mpr (wif (fun c22 => ?_) (fun c22 => ?_))
            · first
              | (exfalso; omega)
              | skip
                refine s2_25.mpr ?_
                refine (s2_26).mpr ?_
                exact E0
            · first
              | (exfalso; omega)
              | skip
                exfalso; omega
  · obtain ⟨b0, z0, z1, z2⟩ := he (by omega)
    have T29 : ∀ (j : Nat) (b : Int) l4, b + j = 128 → 0 ≤ b → (∀ k, 0 ≤ k → k < b → hi 30 k ≠ 0) → Wp d 2 29 [vR (some 29), vI n, vI p, vI b, l4] [] al hi hr Q := by
      intro j
      induction j with
      | zero => intro b l4 hb b1 hk; exact absurd z2 (hk b0 z0 (by omega))
      | succ j ih =>
        intro b l4 hb b1 hk
        by_cases cz : hi 30 b = 0
        · obtain ⟨h1, hh1⟩ : ∃ h1, upI (upI hi 30 b n) 31 b p = h1 := ⟨_, rfl⟩
          have T62 : Wp d 2 62 [vR (some 29), vI n, vI p, vI b, vI 0] [] al h1 hr Q := by
            refine wp_cnt (N := 6) (fun k ls h => ls = [vR (some 29), vI n, vI p, vI b, vI k] ∧ (∀ j, 0 ≤ j → j < (k : Int) → h 32 (6 * b + j) = 0) ∧ ∀ (a : Nat) i, ¬ (a = 32 ∧ 6 * b ≤ i ∧ i < 6 * b + 6) → h a i = h1 a i) ?_ ?_ _ _ ⟨rfl, fun j j0 j1 => by exfalso; omega, fun _ _ _ => rfl⟩
            · rintro k ls h hk6 ⟨rfl, w1, w2⟩ nx
              have N := nx [vR (some 29), vI n, vI p, vI b, vI ((k : Int) + 1)] (upI h 32 (6 * b + k) 0) ⟨by rw [cast1], fun j j0 j1 => by
                rw [cast1] at j1
                by_cases z : j = k
                · subst z; exact upI_eq
                · rw [upI_i (by omega)]; exact w1 j j0 (by omega), fun a i z => by rw [upI_ne (by omega)]; exact w2 a i z⟩
              refine s2_62.mpr (s2_64.mpr ?_)
              refine s2_66.mpr (wif (fun c66 => ?_) (fun c66 => ?_))
              · skip
                refine s2_69.mpr ?_
                refine (s2_70 (by first | decide | assumption | omega)).mpr ?_
                refine s2_73.mpr (s2_74.mpr (s2_76.mpr (s2_77.mpr (s2_79.mpr (s2_80.mpr ?_)))))
                try simp (disch := first | decide | assumption | omega) only [g32, fMul_id, fAdd_id, Int.mul_comm b 6]
                refine (s2_81 (by first | decide | assumption | omega) (by first | decide | assumption | omega) (by first | decide | assumption | omega)).mpr ?_
                refine s2_82.mpr (s2_85.mpr ?_)
                try simp (disch := first | decide | assumption | omega) only [g32, fMul_id, fAdd_id, Int.mul_comm b 6]
                exact N
              · skip
                exfalso; omega
            · rintro ls h ⟨rfl, w1, w2⟩
              have e3 : h 29 3 = hi 29 3 := by rw [w2 _ _ (by omega), ← hh1, upI_a (by decide), upI_a (by decide)]
              have e4 : h 29 4 = hi 29 4 := by rw [w2 _ _ (by omega), ← hh1, upI_a (by decide), upI_a (by decide)]
              have E0 := yes b (upI (upI h 29 3 (hi 29 3 + 1)) 29 4 (hi 29 4 + (n + 1))) (by omega) b1 (by omega) cz hk ⟨by rw [upI_a (by decide), upI_a (by decide), w2 _ _ (by omega), ← hh1, upI_a (by decide), upI_eq], by rw [upI_a (by decide), upI_a (by decide), w2 _ _ (by omega), ← hh1, upI_eq], fun j j0 j1 => by rw [upI_a (by decide), upI_a (by decide)]; exact w1 j j0 j1, by rw [upI_i (by decide), upI_eq], upI_eq, fun a i y1 y2 y3 y4 => by
                rw [upI_ne (by omega), upI_ne (by omega), w2 _ _ (by omega), ← hh1, upI_ne (by omega), upI_ne (by omega)]⟩
              refine s2_62.mpr (s2_64.mpr ?_)
              refine s2_66.mpr (wif (fun c66 => ?_) (fun c66 => ?_))
              · skip
                exfalso; omega
              · skip
                refine s2_88.mpr (s2_89.mpr ?_)
                refine (s2_90 (by first | decide | assumption | omega)).mpr ?_
                refine s2_93.mpr (s2_94.mpr ?_)
                try simp (disch := first | decide | assumption | omega) only [e3, e4, upI_i, fAdd_id]
                refine (s2_95 (by first | decide | assumption | omega)).mpr ?_
                refine s2_98.mpr (s2_99.mpr ?_)
                try simp (disch := first | decide | assumption | omega) only [e3, e4, upI_i, fAdd_id]
                refine (s2_100 (by first | decide | assumption | omega)).mpr ?_
                refine s2_103.mpr (s2_104.mpr (s2_105.mpr (s2_106.mpr ?_)))
                try simp (disch := first | decide | assumption | omega) only [e3, e4, upI_i, fAdd_id]
                refine (s2_107 (by first | decide | assumption | omega)).mpr ?_
                refine s2_110.mpr ?_
                try simp (disch := first | decide | assumption | omega) only [e3, e4, upI_i, fAdd_id]
                refine (s2_111).mpr ?_
                exact E0
          rw [← hh1] at T62
          refine s2_29.mpr (s2_30.mpr ?_)
          refine s2_33.mpr (wif (fun c33 => ?_) (fun c33 => ?_))
          · skip
            refine s2_36.mpr ?_
            refine (s2_37 (by first | decide | assumption | omega)).mpr ?_
            refine s2_40.mpr ?_
            try simp (disch := first | decide | assumption | omega) only [g30, g31]
            refine (s2_41 (by first | decide | assumption | omega) (by first | decide | assumption | omega) (by first | decide | assumption | omega)).mpr ?_
            try simp (disch := first | decide | assumption | omega) only [g30, g31]
            refine s2_42.mpr (wif (fun c42 => ?_) (fun c42 => ?_))
            · skip
              refine s2_45.mpr ?_
              refine (s2_46 (by first | decide | assumption | omega)).mpr ?_
              refine s2_49.mpr (s2_50.mpr ?_)
              try simp (disch := first | decide | assumption | omega) only [g30, g31]
              refine (s2_51 (by first | decide | assumption | omega) (by first | decide | assumption | omega) (by first | decide | assumption | omega)).mpr ?_
              refine s2_52.mpr ?_
              try simp (disch := first | decide | assumption | omega) only [g30, g31]
              refine (s2_53 (by first | decide | assumption | omega)).mpr ?_
              refine s2_56.mpr (s2_57.mpr ?_)
              try simp (disch := first | decide | assumption | omega) only [g30, g31]
              refine (s2_58 (by first | decide | assumption | omega) (by first | decide | assumption | omega) (by first | decide | assumption | omega)).mpr ?_
              refine s2_59.mpr (s2_60.mpr ?_)
              try simp (disch := first | decide | assumption | omega) only [g30, g31]
              exact T62
            · skip
              exact absurd cz (by assumption)
          · skip
            exfalso; omega
        · have N := ih (b + 1) l4 (by omega) (by omega) (fun k k0 k1 => by
            by_cases z : k = b
            · subst z; exact cz
            · exact hk k k0 (by omega))
          refine s2_29.mpr (s2_30.mpr ?_)
          refine s2_33.mpr (wif (fun c33 => ?_) (fun c33 => ?_))
          · skip
            refine s2_36.mpr ?_
            refine (s2_37 (by first | decide | assumption | omega)).mpr ?_
            refine s2_40.mpr ?_
            try simp (disch := first | decide | assumption | omega) only [g30, fAdd_id]
            refine (s2_41 (by first | decide | assumption | omega) (by first | decide | assumption | omega) (by first | decide | assumption | omega)).mpr ?_
            try simp (disch := first | decide | assumption | omega) only [g30, fAdd_id]
            refine s2_42.mpr (wif (fun c42 => ?_) (fun c42 => ?_))
            · skip
              exact absurd (by assumption) cz
            · skip
              refine s2_112.mpr (s2_115.mpr ?_)
              try simp (disch := first | decide | assumption | omega) only [g30, fAdd_id]
              exact N
          · skip
            exfalso; omega
    have T0 := fun l4 => T29 128 0 l4 rfl (Int.le_refl _) (fun k k0 k1 => by exfalso; omega)
    refine s2_0.mpr (s2_1.mpr ?_)
    refine s2_2.mpr (wif (fun c2 => ?_) (fun c2 => ?_))
    · first
      | (exfalso; omega)
      | skip
        exfalso; omega
    · first
      | (exfalso; omega)
      | skip
        refine s2_5.mpr (s2_6.mpr ?_)
        refine s2_8.mpr (wif (fun c8 => ?_) (fun c8 => ?_))
        · first
          | (exfalso; omega)
          | skip
            exfalso; omega
        · first
          | (exfalso; omega)
          | skip
            refine s2_11.mpr ?_
            refine (s2_12 (by first | decide | assumption | omega)).mpr ?_
            refine s2_15.mpr (s2_16.mpr (s2_17.mpr (s2_18.mpr (s2_19.mpr ?_))))
            try simp (disch := first | decide | assumption | omega) only [fAdd_id]
            refine s2_22.mpr (wif (fun c22 => ?_) (fun c22 => ?_))
            · first
              | (exfalso; omega)
              | skip
                exfalso; omega
            · first
              | (exfalso; omega)
              | skip
                refine s2_27.mpr (s2_28.mpr ?_)
                exact T0 _
theorem RelC.nbk (hR : RelC T NN al0 hi0 hr0 E A al hi hr s) (hO : OnP hr s p t) (hP : AllP s) (hb : 0 ≤ b ∧ b < 128) (hn : s 109 b = -1) (n1 : 1 ≤ n ∧ n ≤ 6) (hB9 : BkI s) (hM : nbK hi b n p hi') : RelC T NN al0 hi0 hr0 E A al hi' hr (nbS s b n p) ∧ OnP hr (nbS s b n p) p t ∧ AllP (nbS s b n p) := by
  obtain ⟨m1, m2, m3, m4, m5, m6⟩ := hM
  obtain ⟨R1, R2⟩ := hR.rs_
  have gs : ∀ a i, ¬ gS a → nbS s b n p a i = s a i := fun a i z => nbS_n (by unfold gS at z; omega)
  have e9 : ∀ i, nbS s b n p 109 i = upI s 109 b n 109 i := fun i => by
    unfold nbS upI
    by_cases z : i = b
    · rw [if_pos ⟨rfl, z⟩, if_pos ⟨rfl, z⟩]
    · rw [if_neg (by omega), if_neg (by omega), if_neg (by omega), if_neg (by omega)]
  have e10 : ∀ i, nbS s b n p 110 i = if i = b then p else s 110 i := fun i => by
    unfold nbS
    rw [if_neg (by omega)]
    by_cases z : i = b
    · rw [if_pos ⟨rfl, z⟩, if_pos z]
    · rw [if_neg (by omega), if_neg (by omega), if_neg z]
  have e11 : ∀ i, nbS s b n p 111 i = if 6 * b ≤ i ∧ i < 6 * b + 6 then 0 else s 111 i := fun i => by
    unfold nbS
    rw [if_neg (by omega), if_neg (by omega)]
    by_cases z : 6 * b ≤ i ∧ i < 6 * b + 6
    · rw [if_pos ⟨rfl, z⟩, if_pos z]
    · rw [if_neg (by omega), if_neg z]
  have hB : BlC hi' (nbS s b n p) := by
    obtain ⟨h1, h2, h3⟩ := hR.2.2.1
    refine ⟨fun c c0 c1 => ?_, ?_, ?_⟩
    · obtain ⟨y1, y2⟩ := h1 c c0 c1
      rw [e9, e10]
      by_cases z : c = b
      · subst z
        rw [upI_eq, if_pos rfl, if_neg (by omega)]
        refine ⟨m1, fun _ => ⟨m2, fun j j0 j1 => ?_⟩⟩
        rw [e11, if_pos (by omega)]
        exact m3 j j0 (by omega)
      · rw [upI_i z, if_neg z, m6 _ _ (by omega) (by omega) (by omega) (by omega)]
        refine ⟨y1, fun u => ?_⟩
        obtain ⟨w1, w2⟩ := y2 u
        rw [m6 _ _ (by omega) (by omega) (by omega) (by omega)]
        refine ⟨w1, fun j j0 j1 => ?_⟩
        have j6 := hB9 c c0 c1
        rw [e11, if_neg (by omega), m6 _ _ (by omega) (by omega) (by omega) (by omega)]
        exact w2 j j0 j1
    · rw [bcn_cg 128 (fun c z => e9 c), bcn_up 128 hb.1 (by omega), if_pos hn, if_neg (by omega), m4, h2]; omega
    · rw [bcl_cg2 128 (fun c z => e9 c), bcl_up 128 hb.1 (by omega), if_pos hn, if_neg (by omega), m5, h3]; omega
  have R := R1.glo (hi' := hi') (s' := nbS s b n p) hP (fun a i y => m6 a i (by unfold gC at y; omega) (by unfold gC at y; omega) (by unfold gC at y; omega) (by unfold gC at y; omega)) (fun _ _ _ => rfl) gs (nbS_n (by decide)) (R1.2.1.cg (fun a i y => m6 a i (by omega) (by omega) (by omega) (by omega)) (fun a i y => nbS_n (by omega))) hB (R1.2.2.2.1.cg (fun a i y1 y2 => m6 a i (by omega) (by omega) (by omega) (by omega)) (fun e => nbS_n (by decide)) (fun e => nbS_n (by decide)) (fun e _ => ⟨nbS_n (by decide), nbS_n (by decide), fun k _ _ => ⟨nbS_n (by decide), nbS_n (by decide), nbS_n (by decide)⟩⟩))
  exact ⟨R.rc_ (R2.cg (fun a i y => m6 a i (by omega) (by omega) (by omega) (by omega))), hO.glo (fun _ _ _ => rfl) gs (nbS_n (by decide)), hP.glo gs (nbS_n (by decide))⟩
theorem b_sizeOf (hA : SA al) (hC : CR hr) (b0 : 0 ≤ b ∧ b < 128) (q : Q (some (some (vI (hi 30 b)))) al hi hr) : Ev d 3 [vR (some 29), vI b] al hi hr Q := by
  have k29 : isK al 29 1 := hA.k (by decide) (by decide) rfl; have R30 : isR al 30 = true := hA.r (by decide) (by decide) (by decide); have R31 : isR al 31 = true := hA.r (by decide) (by decide) (by decide); have R32 : isR al 32 = true := hA.r (by decide) (by decide) (by decide); have K30 : isK al 30 15 := hA.k (by decide) (by decide) rfl; have K31 : isK al 31 15 := hA.k (by decide) (by decide) rfl; have K32 : isK al 32 15 := hA.k (by decide) (by decide) rfl; have g30 := cr_29_0 hC; have g31 := cr_29_1 hC; have g32 := cr_29_2 hC
  have l30 := SA.len (a := 30) (n := 128) hA (by decide) (by decide) rfl
  rw [e3]
  refine s3_0.mpr ?_
  refine s3_1.mpr (wif (fun c1 => ?_) (fun c1 => ?_))
  · skip
    exfalso; omega
  · skip
    refine s3_4.mpr (s3_5.mpr ?_)
    refine s3_8.mpr (wif (fun c8 => ?_) (fun c8 => ?_))
    · skip
      refine s3_15.mpr ?_
      refine (s3_16 (by first | decide | assumption | omega)).mpr ?_
      refine s3_19.mpr ?_
      try simp (disch := first | decide | assumption | omega) only [g30]
      refine (s3_20 (by first | decide | assumption | omega) (by first | decide | assumption | omega) (by first | decide | assumption | omega)).mpr ?_
      try simp (disch := first | decide | assumption | omega) only [g30]
      refine (s3_21).mpr ?_
      exact q
    · skip
      exfalso; omega
theorem b_see (hA : SA al) (hC : CR hr) (b0 : 0 ≤ b ∧ b < 128) (f0 : 0 ≤ f ∧ f < 6) (h : f < hi 30 b) (hd : 1 ≤ d) (q : Q (some (some (vI (hi 32 (6 * b + f))))) al hi hr) : Ev d 6 [vR (some 29), vI b, vI f] al hi hr Q := by
  have k29 : isK al 29 1 := hA.k (by decide) (by decide) rfl; have R30 : isR al 30 = true := hA.r (by decide) (by decide) (by decide); have R31 : isR al 31 = true := hA.r (by decide) (by decide) (by decide); have R32 : isR al 32 = true := hA.r (by decide) (by decide) (by decide); have K30 : isK al 30 15 := hA.k (by decide) (by decide) rfl; have K31 : isK al 31 15 := hA.k (by decide) (by decide) rfl; have K32 : isK al 32 15 := hA.k (by decide) (by decide) rfl; have g30 := cr_29_0 hC; have g31 := cr_29_1 hC; have g32 := cr_29_2 hC
  have l32 := SA.len (a := 32) (n := 768) hA (by decide) (by decide) rfl
  rw [e6]
  refine s6_0.mpr ?_
  refine s6_1.mpr (wif (fun c1 => ?_) (fun c1 => ?_))
  · skip
    exfalso; omega
  · skip
    refine s6_4.mpr (s6_5.mpr (s6_6.mpr ?_))
    refine (s6_7 (by first | decide | assumption | omega) (by first | decide | assumption | omega)).mpr ?_
    refine b_sizeOf hA hC b0 ?_
    simp only [kon, knt_some, knt_none, Option.toList_some, Option.toList_none, List.cons_append, List.nil_append]
    refine s6_10.mpr (wif (fun c10 => ?_) (fun c10 => ?_))
    · skip
      refine s6_17.mpr ?_
      refine (s6_18 (by first | decide | assumption | omega)).mpr ?_
      refine s6_21.mpr (s6_22.mpr (s6_24.mpr (s6_25.mpr (s6_26.mpr ?_))))
      try simp (disch := first | decide | assumption | omega) only [g32, fMul_id, fAdd_id, Int.mul_comm b 6]
      refine (s6_27 (by first | decide | assumption | omega) (by first | decide | assumption | omega) (by first | decide | assumption | omega)).mpr ?_
      try simp (disch := first | decide | assumption | omega) only [g32, fMul_id, fAdd_id, Int.mul_comm b 6]
      refine (s6_28).mpr ?_
      exact q
    · skip
      exfalso; omega
theorem b_set (hA : SA al) (hC : CR hr) (b0 : 0 ≤ b ∧ b < 128) (f0 : 0 ≤ f ∧ f < 6) (h : f < hi 30 b) (hd : 1 ≤ d) (q : Q (some none) al (upI hi 32 (6 * b + f) v) hr) : Ev d 7 [vR (some 29), vI b, vI f, vI v] al hi hr Q := by
  have k29 : isK al 29 1 := hA.k (by decide) (by decide) rfl; have R30 : isR al 30 = true := hA.r (by decide) (by decide) (by decide); have R31 : isR al 31 = true := hA.r (by decide) (by decide) (by decide); have R32 : isR al 32 = true := hA.r (by decide) (by decide) (by decide); have K30 : isK al 30 15 := hA.k (by decide) (by decide) rfl; have K31 : isK al 31 15 := hA.k (by decide) (by decide) rfl; have K32 : isK al 32 15 := hA.k (by decide) (by decide) rfl; have g30 := cr_29_0 hC; have g31 := cr_29_1 hC; have g32 := cr_29_2 hC
  have l32 := SA.len (a := 32) (n := 768) hA (by decide) (by decide) rfl
  rw [e7]
  refine s7_0.mpr ?_
  refine s7_1.mpr (wif (fun c1 => ?_) (fun c1 => ?_))
  · skip
    first | (refine s7_25.mpr ?_; exact q) | (exfalso; omega)
  · skip
    refine s7_4.mpr (s7_5.mpr (s7_6.mpr ?_))
    refine (s7_7 (by first | decide | assumption | omega) (by first | decide | assumption | omega)).mpr ?_
    refine b_sizeOf hA hC b0 ?_
    simp only [kon, knt_some, knt_none, Option.toList_some, Option.toList_none, List.cons_append, List.nil_append]
    refine s7_10.mpr (wif (fun c10 => ?_) (fun c10 => ?_))
    · skip
      refine s7_13.mpr ?_
      refine (s7_14 (by first | decide | assumption | omega)).mpr ?_
      refine s7_17.mpr (s7_18.mpr (s7_20.mpr (s7_21.mpr (s7_22.mpr (s7_23.mpr ?_)))))
      try simp (disch := first | decide | assumption | omega) only [g32, fMul_id, fAdd_id, Int.mul_comm b 6]
      refine (s7_24 (by first | decide | assumption | omega) (by first | decide | assumption | omega) (by first | decide | assumption | omega)).mpr ?_
      try simp (disch := first | decide | assumption | omega) only [g32, fMul_id, fAdd_id, Int.mul_comm b 6]
      first | (refine s7_25.mpr ?_; exact q) | (exfalso; omega)
    · skip
      first | (refine s7_25.mpr ?_; exact q) | (exfalso; omega)
theorem b_give (hA : SA al) (hC : CR hr) (q : ∀ hi', (0 ≤ b → b < 128 → hi' 31 b = v) → (∀ (a : Nat) i, ¬ (a = 31 ∧ i = b) → hi' a i = hi a i) → Q (some none) al hi' hr) : Ev d 5 [vR (some 29), vI b, vI v] al hi hr Q := by
  have k29 : isK al 29 1 := hA.k (by decide) (by decide) rfl; have R30 : isR al 30 = true := hA.r (by decide) (by decide) (by decide); have R31 : isR al 31 = true := hA.r (by decide) (by decide) (by decide); have R32 : isR al 32 = true := hA.r (by decide) (by decide) (by decide); have K30 : isK al 30 15 := hA.k (by decide) (by decide) rfl; have K31 : isK al 31 15 := hA.k (by decide) (by decide) rfl; have K32 : isK al 32 15 := hA.k (by decide) (by decide) rfl; have g30 := cr_29_0 hC; have g31 := cr_29_1 hC; have g32 := cr_29_2 hC
  have l31 := SA.len (a := 31) (n := 128) hA (by decide) (by decide) rfl
  by_cases c : 0 ≤ b ∧ b < 128
  · have E0 := q (upI hi 31 b v) (fun _ _ => upI_eq) (fun a i z => upI_ne z)
    rw [e5]
    refine s5_0.mpr ?_
    refine s5_1.mpr (wif (fun c1 => ?_) (fun c1 => ?_))
    · skip
      first | (refine s5_18.mpr ?_; exact E0) | (exfalso; omega)
    · skip
      refine s5_4.mpr (s5_5.mpr ?_)
      refine s5_8.mpr (wif (fun c8 => ?_) (fun c8 => ?_))
      · skip
        refine s5_11.mpr ?_
        refine (s5_12 (by first | decide | assumption | omega)).mpr ?_
        refine s5_15.mpr (s5_16.mpr ?_)
        try simp (disch := first | decide | assumption | omega) only [g31]
        refine (s5_17 (by first | decide | assumption | omega) (by first | decide | assumption | omega) (by first | decide | assumption | omega)).mpr ?_
        try simp (disch := first | decide | assumption | omega) only [g31]
        first | (refine s5_18.mpr ?_; exact E0) | (exfalso; omega)
      · skip
        first | (refine s5_18.mpr ?_; exact E0) | (exfalso; omega)
  · have E0 := q hi (fun z1 z2 => absurd ⟨z1, z2⟩ c) (fun _ _ _ => rfl)
    rw [e5]
    refine s5_0.mpr ?_
    refine s5_1.mpr (wif (fun c1 => ?_) (fun c1 => ?_))
    · skip
      refine (s5_18).mpr ?_
      exact E0
    · skip
      refine s5_4.mpr (s5_5.mpr ?_)
      refine s5_8.mpr (wif (fun c8 => ?_) (fun c8 => ?_))
      · skip
        exfalso; omega
      · skip
        refine (s5_18).mpr ?_
        exact E0
theorem BlC.st {j : Int} (h : BlC hi s) (hB : BkI s) (b0 : 0 ≤ b ∧ b < 128) (j0 : 0 ≤ j ∧ j < 6) : BlC (upI hi 32 (6 * b + j) v) (upI s 111 (6 * b + j) v) := by
  obtain ⟨h1, h2, h3⟩ := h
  refine ⟨fun c c0 c1 => ?_, by rw [upI_a (by decide), bcn_cg 128 (fun b _ => upI_a (by decide))]; exact h2, by rw [upI_a (by decide), bcl_cg2 128 (fun b _ => upI_a (by decide))]; exact h3⟩
  obtain ⟨y1, y2⟩ := h1 c c0 c1
  have y3 := hB c c0 c1
  rw [upI_a (by decide), upI_a (by decide), upI_a (by decide), upI_a (by decide)]
  refine ⟨y1, fun u => ⟨(y2 u).1, fun k k0 k1 => ?_⟩⟩
  by_cases z : c = b ∧ k = j
  · obtain ⟨rfl, rfl⟩ := z; rw [upI_eq, upI_eq]
  · rw [upI_i (by omega), upI_i (by omega)]; exact (y2 u).2 k k0 k1
theorem x5_block (hR : RelC T NN al0 hi0 hr0 (fun _ => False) A al hi hr s) (hO : OnP hr s p t) (hP : AllP s) (hBQ : BQ s) (hBs : Bs T NN al0 hi0 hr0) (hm : s 91 p = m) (ho : o = 32) (hcv : cv = v) (v0 : 0 ≤ v ∧ v < nRec (T m)) (r8 : nRec (T m) ≤ 8) (hn : 1 ≤ nFld (T m) v ∧ nFld (T m) v ≤ 6) (h16 : hg s p < 16) (he : bcl s 128 + nFld (T m) v + 1 ≤ 256 → ∃ b, 0 ≤ b ∧ b < 128 ∧ s 109 b = -1) (hd : 3 ≤ d) (q : ∀ v' al' hi' hr', Pf T NN al0 hi0 hr0 p t (exS (T m) f s p o v qx) v' al' hi' hr' → Q (some (some (vI v'))) al' hi' hr') : Ev d 93 [vR (some 26), vR (some t), vI o, vI cv] al hi hr Q := by
  obtain ⟨⟨p0, p1⟩, ht, h89, ⟨a1, a16⟩, ⟨r0, r1⟩, h97, h56⟩ := id hO
  have hg16 := h97 _ (by unfold ai; omega) (Int.le_refl _); have hg16 : 0 ≤ hg s p ∧ hg s p ≤ 16 := hg16
  subst hcv
  have hA := hR.1.1
  have hC := hR.1.2.1
  have k26 : isK al 26 6 := hA.k (by decide) (by decide) rfl
  have k29 : isK al 29 1 := hA.k (by decide) (by decide) rfl
  have g3 := cr_26_3 hC
  have k9 := (hR.tf hO).1.1.2
  have e0 : hi t 0 = p := (hR.tf hO).2.2.1
  obtain ⟨N, n, M, e1, -, hM, hT, -, kN⟩ := hR.cod hO hBs
  rw [hm] at hM hT
  have esz : szR hi N cv = nFld (T m) cv := by unfold szR; rw [if_neg (by omega)]; exact ((hM.2.2.2.1 cv v0.1 v0.2).1).1
  rw [exq_32 ho] at q
  obtain ⟨n, hn9⟩ : ∃ n, nFld (T m) cv = n := ⟨_, rfl⟩
  rw [hn9] at esz hn he q
  obtain ⟨d1, d2, d3⟩ := hR.2.2.1.bd hBQ.1
  have e4 := hR.2.2.1.2.2
  have MK := b_make (d := d - 1) (n := n) (p := p) (Q := kon d 93 22 25 [vR (some 26), vR (some t), vI o, vI cv, none, none] [] Q) hA hC hn d2 d3 (fun no => by
    rw [if_pos (by omega)] at q
    have E0 := q 6 _ _ _ (Pf.tr hR hO hP hBQ (by decide) rfl)
    simp only [kon, knt_some, knt_none, Option.toList_some, Option.toList_none, List.cons_append, List.nil_append]
    refine s93_25.mpr (s93_27.mpr (s93_29.mpr ?_))
    refine s93_30.mpr (wif (fun c30 => ?_) (fun c30 => ?_))
    · skip
      refine s93_33.mpr ?_
      refine (s93_35).mpr ?_
      exact E0
    · skip
      exact absurd rfl (by assumption)
    ) (fun le => by
    obtain ⟨b, b0, b1, b2⟩ := he (by omega)
    exact ⟨b, b0, b1, by have := d1 b b0 b1; omega⟩) (fun b h3 le b0 b1 b2 b3 b4 => by
    rw [if_neg (by omega)] at q
    have hb9 : s 109 b = -1 := by have := d1 b b0 b1; omega
    have ef : frL (fun k => decide (s 109 k ≠ -1)) 128 0 = b := frL_l 128 0 b b0 (by omega) (by simp only [hb9]; decide) (fun j j0 j1 => by
      have y := b3 j j0 j1
      have := d1 j j0 (by omega)
      exact decide_eq_true (by omega))
    have q : ∀ v' al' hi' hr', Pf T NN al0 hi0 hr0 p t (psh (nbS s b n p) p b 2) v' al' hi' hr' → Q (some (some (vI v'))) al' hi' hr' := by
      unfold mkbS at q
      rw [ef] at q
      exact q
    obtain ⟨y1, y2, y3⟩ := hR.nbk hO hP ⟨b0, b1⟩ hb9 hn hBQ.1 b4
    have hBQ' : BQ (nbS s b n p) := ⟨fun c c0 c1 => by
      unfold nbS
      by_cases z : c = b
      · rw [if_pos ⟨rfl, z⟩]; exact Or.inr hn
      · rw [if_neg (by omega), if_neg (by omega), if_neg (by omega)]; exact hBQ.1 c c0 c1, hBQ.2.eq (fun _ => nbS_n (by decide)) (fun _ => nbS_n (by decide)) (fun _ => nbS_n (by decide)) (fun _ => nbS_n (by decide))⟩
    have eh : hg (nbS s b n p) p = hg s p := hg_n (nbS_n (by decide)) (fun i => nbS_n (by decide))
    have PU := t_push (d := d - 1) (Q := kon d 93 40 43 [vR (some 26), vR (some t), vI o, vI cv, vI b, none] [] Q) (v := b) (w := 2) y1 y2 y3 (by rw [eh]; omega) (fun z => absurd z (by decide)) (fun h4 x1 x2 x3 _ => by
      have E0 := q 0 _ _ _ (Pf.ok x1 x2 x3 hBQ'.psh_)
      simp only [kon, knt_some, knt_none, Option.toList_some, Option.toList_none, List.cons_append, List.nil_append]
      refine s93_43.mpr ?_
      refine (s93_44).mpr ?_
      exact E0
      )
    simp only [kon, knt_some, knt_none, Option.toList_some, Option.toList_none, List.cons_append, List.nil_append]
    refine s93_25.mpr (s93_27.mpr (s93_29.mpr ?_))
    refine s93_30.mpr (wif (fun c30 => ?_) (fun c30 => ?_))
    · skip
      exfalso; omega
    · skip
      refine s93_36.mpr (s93_37.mpr (s93_38.mpr ?_))
      refine (s93_40 (by first | decide | assumption | omega) (by first | decide | assumption | omega)).mpr ?_
      exact PU
    )
  rw [e93]
  refine s93_0.mpr (s93_1.mpr ?_)
  refine s93_3.mpr (wif (fun c3 => ?_) (fun c3 => ?_))
  · skip
    refine s93_6.mpr ?_
    refine (s93_7 (by first | decide | assumption | omega)).mpr ?_
    refine s93_10.mpr ?_
    try simp (disch := first | decide | assumption | omega) only [g3, e1, e0, kon, knt_some, knt_none, Option.toList_some, Option.toList_none, List.cons_append, List.nil_append]
    refine (s93_11 (by first | decide | assumption | omega)).mpr ?_
    refine s93_14.mpr ?_
    try simp (disch := first | decide | assumption | omega) only [g3, e1, e0, kon, knt_some, knt_none, Option.toList_some, Option.toList_none, List.cons_append, List.nil_append]
    refine (s93_15 (by first | decide | assumption | omega) (by first | decide | assumption | omega)).mpr ?_
    refine t_sizeOfRecord hM.1.1 ?_
    simp only [kon, knt_some, knt_none, Option.toList_some, Option.toList_none, List.cons_append, List.nil_append, esz]
    refine s93_18.mpr ?_
    refine (s93_19 (by first | decide | assumption | omega)).mpr ?_
    try simp (disch := first | decide | assumption | omega) only [g3, e1, e0, kon, knt_some, knt_none, Option.toList_some, Option.toList_none, List.cons_append, List.nil_append]
    refine (s93_22 (by first | decide | assumption | omega) (by first | decide | assumption | omega)).mpr ?_
    exact MK
  · skip
    exact absurd ho (by assumption)
theorem x5_see (hR : RelC T NN al0 hi0 hr0 (fun _ => False) A al hi hr s) (hO : OnP hr s p t) (hP : AllP s) (hBQ : BQ s) (ho : o = 33) (hcv : cv = v) (k0 : ts s p 0 = 2) (h1 : 1 ≤ hg s p ∧ hg s p < 16) (b0 : 0 ≤ tv s p 0 ∧ tv s p 0 < 128) (v0 : 0 ≤ v ∧ v < 6) (hn : s 109 (tv s p 0) ≠ -1 ∧ v < s 109 (tv s p 0)) (hd : 3 ≤ d) (q : ∀ v' al' hi' hr', Pf T NN al0 hi0 hr0 p t (exS (T m) f s p o v qx) v' al' hi' hr' → Q (some (some (vI v'))) al' hi' hr') : Ev d 93 [vR (some 26), vR (some t), vI o, vI cv] al hi hr Q := by
  subst hcv
  have hA := hR.1.1
  have hC := hR.1.2.1
  have k26 : isK al 26 6 := hA.k (by decide) (by decide) rfl
  have k29 : isK al 29 1 := hA.k (by decide) (by decide) rfl
  have g3 := cr_26_3 hC
  have k9 := (hR.tf hO).1.1.2
  rw [exq_33 ho] at q
  obtain ⟨b, hb⟩ : ∃ b, tv s p 0 = b := ⟨_, rfl⟩
  rw [hb] at q b0 hn
  obtain ⟨d1, -⟩ := hR.2.2.1.bd hBQ.1
  have db := d1 b b0.1 b0.2
  have e111 := ((hR.2.2.1.1 b b0.1 b0.2).2 hn.1).2 cv v0.1 hn.2
  have PU := t_push0 (d := d - 1) (Q := kon d 93 85 88 [vR (some 26), vR (some t), vI o, vI cv, vI 0, vI b] [] Q) (v := s 111 (6 * b + cv)) hR hO hP (by omega) (fun h4 x1 x2 x3 _ => by
    have E0 := q 0 _ _ _ (Pf.ok x1 x2 x3 hBQ.psh_)
    simp only [kon, knt_some, knt_none, Option.toList_some, Option.toList_none, List.cons_append, List.nil_append]
    refine s93_88.mpr (s93_123.mpr ?_)
    refine (s93_124).mpr ?_
    exact E0
    )
  rw [e93]
  refine s93_0.mpr (s93_1.mpr ?_)
  refine s93_3.mpr (wif (fun c3 => ?_) (fun c3 => ?_))
  · skip
    exfalso; omega
  · skip
    refine s93_45.mpr (s93_46.mpr ?_)
    refine s93_48.mpr (wif (fun c48 => ?_) (fun c48 => ?_))
    · skip
      exfalso; omega
    · skip
      refine s93_58.mpr (s93_59.mpr (s93_61.mpr ?_))
      refine (s93_62 (by first | decide | assumption | omega) (by first | decide | assumption | omega)).mpr ?_
      refine t_highest hR hO (by omega) h1.1 ?_
      simp only [kon, knt_some, knt_none, Option.toList_some, Option.toList_none, List.cons_append, List.nil_append]; rw [vm_0 (show ts s p 0 ≠ 1 by omega), hb]
      refine s93_65.mpr (s93_67.mpr (s93_68.mpr ?_))
      refine s93_70.mpr (wif (fun c70 => ?_) (fun c70 => ?_))
      · skip
        refine s93_73.mpr (s93_74.mpr (s93_75.mpr ?_))
        refine (s93_76 (by first | decide | assumption | omega)).mpr ?_
        refine s93_79.mpr (s93_81.mpr ?_)
        try simp (disch := first | decide | assumption | omega) only [g3]
        refine (s93_82 (by first | decide | assumption | omega) (by first | decide | assumption | omega)).mpr ?_
        refine b_see hA hC b0 v0 (by omega) (by omega) ?_
        simp only [kon, knt_some, knt_none, Option.toList_some, Option.toList_none, List.cons_append, List.nil_append, e111]
        refine (s93_85 (by first | decide | assumption | omega) (by first | decide | assumption | omega)).mpr ?_
        exact PU
      · skip
        exact absurd ho (by assumption)
theorem x5_set (hR : RelC T NN al0 hi0 hr0 (fun _ => False) A al hi hr s) (hO : OnP hr s p t) (hP : AllP s) (hBQ : BQ s) (ho : o = 34) (hcv : cv = v) (k0 : ts s p 0 = 0) (k1 : ts s p 1 = 2) (h2 : 2 ≤ hg s p) (b0 : 0 ≤ tv s p 1 ∧ tv s p 1 < 128) (v0 : 0 ≤ v ∧ v < 6) (hn : s 109 (tv s p 1) ≠ -1 ∧ v < s 109 (tv s p 1)) (hd : 3 ≤ d) (q : ∀ v' al' hi' hr', Pf T NN al0 hi0 hr0 p t (exS (T m) f s p o v qx) v' al' hi' hr' → Q (some (some (vI v'))) al' hi' hr') : Ev d 93 [vR (some 26), vR (some t), vI o, vI cv] al hi hr Q := by
  subst hcv
  have hA := hR.1.1
  have hC := hR.1.2.1
  have k26 : isK al 26 6 := hA.k (by decide) (by decide) rfl
  have k29 : isK al 29 1 := hA.k (by decide) (by decide) rfl
  have g3 := cr_26_3 hC
  have k9 := (hR.tf hO).1.1.2
  rw [exq_34 ho] at q
  obtain ⟨b, hb⟩ : ∃ b, tv s p 1 = b := ⟨_, rfl⟩
  rw [hb] at q b0 hn
  have T55 : ∀ h3 l4 l5, RelC T NN al0 hi0 hr0 (fun _ => False) A al h3 hr (pp s p 1) → OnP hr (pp s p 1) p t → AllP (pp s p 1) → Wp d 93 55 [vR (some 26), vR (some t), vI o, vI cv, l4, l5] [vI (tv s p 0)] al h3 hr Q := by
    intro h3 l4 l5 w1 w2 w3
    have bq : BQ (pp s p 1) := hBQ.pp_
    obtain ⟨d1, -⟩ := w1.2.2.1.bd bq.1
    have e109 : pp s p 1 109 b = s 109 b := ppz_n (by decide)
    have db := d1 b b0.1 b0.2
    rw [e109] at db
    obtain ⟨R1, R2⟩ := w1.rs_
    have gs : ∀ a i, ¬ gS a → upI (pp s p 1) 111 (6 * b + cv) (tv s p 0) a i = pp s p 1 a i := fun a i z => upI_a (by unfold gS at z; omega)
    have R := R1.glo (hi' := upI h3 32 (6 * b + cv) (tv s p 0)) (s' := upI (pp s p 1) 111 (6 * b + cv) (tv s p 0)) w3 (fun a i y => upI_a (by unfold gC at y; omega)) (fun _ _ _ => rfl) gs (upI_a (by decide)) (R1.2.1.cg (fun a i y => upI_a (by omega)) (fun a i y => upI_a (by omega))) (w1.2.2.1.st bq.1 b0 v0) (R1.2.2.2.1.cg (fun a i y1 y2 => upI_a (by omega)) (fun e => upI_a (by decide)) (fun e => upI_a (by decide)) (fun e _ => ⟨upI_a (by decide), upI_a (by decide), fun k _ _ => ⟨upI_a (by decide), upI_a (by decide), upI_a (by decide)⟩⟩))
    have E0 := q 0 _ _ _ (Pf.ok (R.rc_ (R2.cg (fun a i y => upI_a (by omega)))) (w2.glo (fun _ _ _ => rfl) gs (upI_a (by decide))) (w3.glo gs (upI_a (by decide))) (bq.eq (fun a i z => upI_a (by omega))))
    have e2 : tv (pp s p 1) p 0 = b := by rw [tv_pp]; exact hb
    have e3 : ts (pp s p 1) p 0 = 2 := by rw [ts_pp]; exact k1
    refine s93_55.mpr (s93_59.mpr (s93_61.mpr ?_))
    refine (s93_62 (by first | decide | assumption | omega) (by first | decide | assumption | omega)).mpr ?_
    refine t_highest w1 w2 (by omega) (by rw [ppz_hg]; omega) ?_
    simp only [kon, knt_some, knt_none, Option.toList_some, Option.toList_none, List.cons_append, List.nil_append]; rw [vm_0 (show ts (pp s p 1) p 0 ≠ 1 by omega), e2]
    refine s93_65.mpr (s93_67.mpr (s93_68.mpr ?_))
    refine s93_70.mpr (wif (fun c70 => ?_) (fun c70 => ?_))
    · skip
      exfalso; omega
    · skip
      refine s93_91.mpr (s93_92.mpr ?_)
      refine s93_94.mpr (wif (fun c94 => ?_) (fun c94 => ?_))
      · skip
        refine s93_97.mpr ?_
        refine (s93_98 (by first | decide | assumption | omega)).mpr ?_
        refine s93_101.mpr (s93_103.mpr (s93_104.mpr ?_))
        try simp (disch := first | decide | assumption | omega) only [g3]
        refine (s93_106 (by first | decide | assumption | omega) (by first | decide | assumption | omega)).mpr ?_
        refine b_set hA hC b0 v0 (by omega) (by omega) ?_
        simp only [kon, knt_some, knt_none, Option.toList_some, Option.toList_none, List.cons_append, List.nil_append]
        refine s93_109.mpr (s93_123.mpr ?_)
        refine (s93_124).mpr ?_
        exact E0
      · skip
        exact absurd ho (by assumption)
  rw [e93]
  refine s93_0.mpr (s93_1.mpr ?_)
  refine s93_3.mpr (wif (fun c3 => ?_) (fun c3 => ?_))
  · skip
    exfalso; omega
  · skip
    refine s93_45.mpr (s93_46.mpr ?_)
    refine s93_48.mpr (wif (fun c48 => ?_) (fun c48 => ?_))
    · skip
      refine s93_51.mpr ?_
      refine (s93_52 (by first | decide | assumption | omega) (by first | decide | assumption | omega)).mpr ?_
      refine t_pop hR hO hP (by omega) (fun h4 y1 y2 y3 y4 => ?_)
      simp only [kon, knt_some, knt_none, Option.toList_some, Option.toList_none, List.cons_append, List.nil_append]; rw [vm_0 (show ts s p 0 ≠ 1 by omega)]
      exact T55 _ _ _ y1 y2 y3
    · skip
      exact absurd ho (by assumption)
theorem x5_free (hR : RelC T NN al0 hi0 hr0 (fun _ => False) A al hi hr s) (hO : OnP hr s p t) (hP : AllP s) (hBQ : BQ s) (ho : o = 35) (k0 : ts s p 0 = 2) (h1 : 1 ≤ hg s p) (hd : 3 ≤ d) (q : ∀ v' al' hi' hr', Pf T NN al0 hi0 hr0 p t (exS (T m) f s p o v qx) v' al' hi' hr' → Q (some (some (vI v'))) al' hi' hr') : Ev d 93 [vR (some 26), vR (some t), vI o, vI cv] al hi hr Q := by
  have hA := hR.1.1
  have hC := hR.1.2.1
  have k26 : isK al 26 6 := hA.k (by decide) (by decide) rfl
  have k29 : isK al 29 1 := hA.k (by decide) (by decide) rfl
  have g3 := cr_26_3 hC
  have k9 := (hR.tf hO).1.1.2
  rw [exq_35 ho] at q
  have T120 : ∀ h3 l4 l5, RelC T NN al0 hi0 hr0 (fun _ => False) A al h3 hr (pp s p 1) → OnP hr (pp s p 1) p t → AllP (pp s p 1) → Wp d 93 120 [vR (some 26), vR (some t), vI o, vI cv, l4, l5] [vI (tv s p 0), vR (some 29)] al h3 hr Q := by
    intro h3 l4 l5 w1 w2 w3
    have bq : BQ (pp s p 1) := hBQ.pp_
    obtain ⟨R1, R2⟩ := w1.rs_
    have gs : ∀ a i, ¬ gS a → upI (pp s p 1) 109 (tv s p 0) (-1) a i = pp s p 1 a i := fun a i z => upI_a (by unfold gS at z; omega)
    have FR := x_free (d := d - 1) (Q := kon d 93 120 123 [vR (some 26), vR (some t), vI o, vI cv, l4, l5] [] Q) (b := tv s p 0) R1 w3 bq.1 (fun h4 y1 y2 => by
      have E0 := q 0 _ _ _ (Pf.ok (y1.rc_ (R2.cg (fun a i y => y2 a i (by omega) (by omega)))) (w2.glo (fun _ _ _ => rfl) gs (upI_a (by decide))) (w3.glo gs (upI_a (by decide))) ⟨fun c c0 c1 => by
        by_cases z : c = tv s p 0
        · subst z; rw [upI_eq]; exact Or.inl rfl
        · rw [upI_i z]; exact bq.1 c c0 c1, bq.2.eq (fun _ => upI_a (by decide)) (fun _ => upI_a (by decide)) (fun _ => upI_a (by decide)) (fun _ => upI_a (by decide))⟩)
      simp only [kon, knt_some, knt_none, Option.toList_some, Option.toList_none, List.cons_append, List.nil_append]
      refine s93_123.mpr ?_
      refine (s93_124).mpr ?_
      exact E0
      )
    refine (s93_120 (by first | decide | assumption | omega) (by first | decide | assumption | omega)).mpr ?_
    exact FR
  rw [e93]
  refine s93_0.mpr (s93_1.mpr ?_)
  refine s93_3.mpr (wif (fun c3 => ?_) (fun c3 => ?_))
  · skip
    exfalso; omega
  · skip
    refine s93_45.mpr (s93_46.mpr ?_)
    refine s93_48.mpr (wif (fun c48 => ?_) (fun c48 => ?_))
    · skip
      exfalso; omega
    · skip
      refine s93_58.mpr (s93_59.mpr (s93_61.mpr ?_))
      refine (s93_62 (by first | decide | assumption | omega) (by first | decide | assumption | omega)).mpr ?_
      refine t_highest hR hO (by omega) h1 ?_
      simp only [kon, knt_some, knt_none, Option.toList_some, Option.toList_none, List.cons_append, List.nil_append]
      refine s93_65.mpr (s93_67.mpr (s93_68.mpr ?_))
      refine s93_70.mpr (wif (fun c70 => ?_) (fun c70 => ?_))
      · skip
        exfalso; omega
      · skip
        refine s93_91.mpr (s93_92.mpr ?_)
        refine s93_94.mpr (wif (fun c94 => ?_) (fun c94 => ?_))
        · skip
          exfalso; omega
        · skip
          refine s93_112.mpr ?_
          refine (s93_113 (by first | decide | assumption | omega)).mpr ?_
          refine s93_116.mpr ?_
          try simp (disch := first | decide | assumption | omega) only [g3]
          refine (s93_117 (by first | decide | assumption | omega) (by first | decide | assumption | omega)).mpr ?_
          refine t_pop hR hO hP (by omega) (fun h4 y1 y2 y3 y4 => ?_)
          simp only [kon, knt_some, knt_none, Option.toList_some, Option.toList_none, List.cons_append, List.nil_append]; rw [vm_0 (show ts s p 0 ≠ 1 by omega)]
          exact T120 _ _ _ y1 y2 y3
end CN0
