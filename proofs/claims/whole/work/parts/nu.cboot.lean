/-! FACES: boot and run; the class -/
section FE0
variable {d : Nat} {T : TXs} {al al' : AL} {hi hi' h h' : HI} {hr hr' : HR} {Q : QQ} {s s' s0 : HI} {p q m f v w i c e n : Int} {B b : Int → Int} {S : Int → Option (Int → Int)} {G : HI} {A : Int → Int → Int} {NN : Int → Option Nat} {al0 : AL} {hi0 : HI} {hr0 : HR} {t : Nat}
theorem x_runU (hA : SA al) (hC : CR hr) (m0 : hi 26 0 = 0) (q : Q (some (some (vI (-1)))) al hi hr) : Ev d 193 [vR (some 2), vI n] al hi hr Q := by
  have k2 : isK al 2 12 := hA.k (by decide) (by decide) rfl
  have k26 : isK al 26 6 := hA.k (by decide) (by decide) rfl
  have g8 := cr_2_8 hC
  rw [e193]
  refine s193_0.mpr ?_
  refine s193_1.mpr (wif (fun c1 => ?_) (fun c1 => ?_))
  · skip
    refine s193_21.mpr ?_
    refine (s193_22).mpr ?_
    exact q
  · skip
    refine s193_4.mpr (s193_5.mpr ?_)
    refine s193_8.mpr (wif (fun c8 => ?_) (fun c8 => ?_))
    · skip
      refine s193_21.mpr ?_
      refine (s193_22).mpr ?_
      exact q
    · skip
      refine s193_11.mpr ?_
      refine (s193_12 (by first | decide | assumption | omega)).mpr ?_
      try simp (disch := first | decide | assumption | omega) only [g8, m0]
      refine (s193_15 (by first | decide | assumption | omega)).mpr ?_
      try simp (disch := first | decide | assumption | omega) only [g8, m0]
      refine s193_18.mpr (wif (fun c18 => ?_) (fun c18 => ?_))
      · skip
        refine s193_21.mpr ?_
        refine (s193_22).mpr ?_
        exact q
      · skip
        exact absurd rfl (by assumption)
theorem x_run (hR : RelC T NN al0 hi0 hr0 (fun _ => False) A al hi hr s) (hP : AllP s) (hBs : Bs T NN al0 hi0 hr0) (hI : INV T s) (hZ : Z90 s) (h52 : s 49 52 < 1000000000) (hd : 11 ≤ d) (no : ¬ (0 ≤ n ∧ n ≤ 10000) → Q (some (some (vI (-1)))) al hi hr)
    (ok : 0 ≤ n → n ≤ 10000 → ∀ A' al' hi' hr', RelC T NN al0 hi0 hr0 (fun _ => False) A' al' hi' hr' (rnF T ((n + 1) * 13).toNat s 0 0 n).1 → AllP (rnF T ((n + 1) * 13).toNat s 0 0 n).1 → INV T (rnF T ((n + 1) * 13).toNat s 0 0 n).1 → Z90 (rnF T ((n + 1) * 13).toNat s 0 0 n).1 → Q (some (some (vI (rnF T ((n + 1) * 13).toNat s 0 0 n).2))) al' hi' hr') : Ev d 193 [vR (some 2), vI n] al hi hr Q := by
  have hA := hR.1.1
  have hC := hR.1.2.1
  have k2 : isK al 2 12 := hA.k (by decide) (by decide) rfl
  have k26 : isK al 26 6 := hA.k (by decide) (by decide) rfl
  have g8 := cr_2_8 hC
  have m0 : hi 26 0 = 1 := hR.2.1.1
  rw [e193]
  by_cases c : 0 ≤ n ∧ n ≤ 10000
  · obtain ⟨c0, c1⟩ := c
    have GO : Ev (d - 1) 72 [vR (some 26), vI n] al hi hr (kon d 193 28 31 [vR (some 2), vI n] [] Q) := by
      refine x5_goOn hR hP hBs hI hZ ⟨c0, c1⟩ h52 (by omega) (fun A' al' hi' hr' y1 y2 y3 y4 => ?_)
      have E0 := ok c0 c1 A' al' hi' hr' y1 y2 y3 y4
      simp only [kon, knt_some, knt_none, Option.toList_some, Option.toList_none, List.cons_append, List.nil_append]
      refine (s193_31).mpr ?_
      exact E0
    refine s193_0.mpr ?_
    refine s193_1.mpr (wif (fun c1 => ?_) (fun c1 => ?_))
    · first
      | (exfalso; omega)
      | skip
        exfalso; omega
    · first
      | (exfalso; omega)
      | skip
        refine s193_4.mpr (s193_5.mpr ?_)
        refine s193_8.mpr (wif (fun c8 => ?_) (fun c8 => ?_))
        · first
          | (exfalso; omega)
          | skip
            exfalso; omega
        · first
          | (exfalso; omega)
          | skip
            refine s193_11.mpr ?_
            refine (s193_12 (by first | decide | assumption | omega)).mpr ?_
            try simp (disch := first | decide | assumption | omega) only [g8, m0]
            refine (s193_15 (by first | decide | assumption | omega)).mpr ?_
            try simp (disch := first | decide | assumption | omega) only [g8, m0]
            refine s193_18.mpr (wif (fun c18 => ?_) (fun c18 => ?_))
            · first
              | (exfalso; omega)
              | skip
                exfalso; omega
            · first
              | (exfalso; omega)
              | skip
                refine s193_23.mpr ?_
                refine (s193_24 (by first | decide | assumption | omega)).mpr ?_
                refine s193_27.mpr ?_
                try simp (disch := first | decide | assumption | omega) only [g8, m0]
                refine (s193_28 (by first | decide | assumption | omega) (by first | decide | assumption | omega)).mpr ?_
                exact GO
  · have E0 := no c
    refine s193_0.mpr ?_
    refine s193_1.mpr (wif (fun c1 => ?_) (fun c1 => ?_))
    · first
      | (exfalso; omega)
      | skip
        refine s193_21.mpr ?_
        refine (s193_22).mpr ?_
        exact E0
    · first
      | (exfalso; omega)
      | skip
        refine s193_4.mpr (s193_5.mpr ?_)
        refine s193_8.mpr (wif (fun c8 => ?_) (fun c8 => ?_))
        · first
          | (exfalso; omega)
          | skip
            refine s193_21.mpr ?_
            refine (s193_22).mpr ?_
            exact E0
        · first
          | (exfalso; omega)
          | skip
            refine s193_11.mpr ?_
            refine (s193_12 (by first | decide | assumption | omega)).mpr ?_
            try simp (disch := first | decide | assumption | omega) only [g8, m0]
            refine (s193_15 (by first | decide | assumption | omega)).mpr ?_
            try simp (disch := first | decide | assumption | omega) only [g8, m0]
            refine s193_18.mpr (wif (fun c18 => ?_) (fun c18 => ?_))
            · first
              | (exfalso; omega)
              | skip
                refine s193_21.mpr ?_
                refine (s193_22).mpr ?_
                exact E0
            · first
              | (exfalso; omega)
              | skip
                exfalso; omega
/-- how many steps there are -/
theorem rn_52 : ∀ (k : Nat) (s : HI) (j y N : Int), INV T s → (rnF T k s j y N).1 49 52 ≤ s 49 52 + k ∧ INV T (rnF T k s j y N).1
  | 0, s, j, y, N, hI => ⟨by show s 49 52 ≤ _; omega, hI⟩
  | k + 1, s, j, y, N, hI => by
    by_cases c : j < N ∧ y < 12
    · obtain ⟨i1, i2, i3⟩ := inv_look hI
      by_cases c2 : (lkS T s).2 = true
      · rw [rnF_y c c2]
        have := rn_52 k (lkS T s).1 (j + 1) 0 N i2
        exact ⟨by omega, this.2⟩
      · have c2 : (lkS T s).2 = false := by cases h : (lkS T s).2 <;> simp_all
        rw [rnF_w c c2]
        have := rn_52 k (lkS T s).1 j (y + 1) N i2
        exact ⟨by omega, this.2⟩
    · rw [rnF_n c]
      show s 49 52 ≤ s 49 52 + ((k + 1 : Nat) : Int) ∧ INV T s
      exact ⟨by omega, hI⟩
theorem rn_91 : ∀ (k : Nat) (s : HI) (j y N : Int), INV T s → R91 s → R91 (rnF T k s j y N).1
  | 0, s, j, y, N, hI, h => h
  | k + 1, s, j, y, N, hI, h => by
    by_cases c : j < N ∧ y < 12
    · obtain ⟨i1, i2, i3⟩ := inv_look hI
      by_cases c2 : (lkS T s).2 = true
      · rw [rnF_y c c2]; exact rn_91 k (lkS T s).1 (j + 1) 0 N i2 (lk_91 hI h)
      · have c2 : (lkS T s).2 = false := by cases h : (lkS T s).2 <;> simp_all
        rw [rnF_w c c2]; exact rn_91 k (lkS T s).1 j (y + 1) N i2 (lk_91 hI h)
    · rw [rnF_n c]; exact h
def wXb (a : Nat) (i : Int) : Prop := wCm a i ∨ (a = 2 ∧ (i = 1 ∨ i = 3 ∨ i = 4))
def NTf (S : Int → Option (Int → Int)) (hr : HR) : Int → Option Nat := fun m => match S (m - 6) with | some _ => hr 4 (m - 6) | none => none
theorem NTf_y (h : S m = some b) : NTf S hr (6 + m) = hr 4 m := by unfold NTf; rw [show 6 + m - 6 = m by omega, h]
set_option maxRecDepth 8000 in
theorem x_boot (hA : SA al) (hC : CR hr) (hT : TkA al hr) (h0 : ∀ q t, 0 ≤ q → q < 12 → hr 27 q = some t → hi t 0 = q) (h33 : hi 33 10 = 0) (ht : 0 ≤ hi 2 1 ∧ hi 2 1 ≤ 2000) (hx : ∀ k, 0 ≤ k → k < hi 2 1 → 0 ≤ hi 3 k ∧ hi 3 k ≤ 255)
    (hS : ∀ m b, S m = some b → (0 ≤ m ∧ m < 6) ∧ ∃ N, hr 4 m = some N ∧ GM al hi hr N b ∧ N < al.1) (hS0 : ∀ m, 0 ≤ m → m < 6 → S m = none → hr 4 m = none) (hSh : ∀ m b, S m = some b → Sh b) (hM : ∀ m b, S m = some b → T (6 + m) = b ∧ Mg T s0 (6 + m)) (hd : 9 ≤ d)
    (bad : ¬ (0 ≤ n ∧ n ≤ hi 2 1) → Q (some (some (vI (-2)))) al hi hr)
    (er : 0 ≤ n → n ≤ hi 2 1 → ∀ w q hi' hr', manP S (cB hi n) n = .error (w, q) → FW wXb hi hi' → RW rCm hr hr' → hi' 2 3 = w → hi' 2 4 = q → hi' 2 1 = 0 → Q (some (some (vI (-1)))) al hi' hr')
    (ok : 0 ≤ n → n ≤ hi 2 1 → ∀ q G hc rc A s c al' hi' hr', manP S (cB hi n) n = .ok (q, G) → GF S G (cB hi n 2) → (1 ≤ cB hi n 2 ∧ cB hi n 2 ≤ 6) → FW (fun a i => wXb a i ∨ wSt a i) hi hc → RW (fun a i => rCm a i ∨ a = 37) hr rc → RelC T (NTf S hr) al hc rc (fun _ => False) A al' hi' hr' s → Bs T (NTf S hr) al hc rc → AllP s → BP S G (cB hi n 2) (cB hi n 2) (4 * cB hi n 2) c s0 s → CC G (4 * cB hi n 2) c → hc 2 3 = 0 → hc 2 4 = -1 → hc 2 1 = 0 → Q (some (some (vI (cB hi n 2)))) al' hi' hr') : Ev d 192 [vR (some 2), vI n] al hi hr Q := by
  have k2 : isK al 2 12 := hA.k (by decide) (by decide) rfl
  have k26 : isK al 26 6 := hA.k (by decide) (by decide) rfl
  have k15 : isK al 15 2 := hA.k (by decide) (by decide) rfl
  have k14 : isK al 14 7 := hA.k (by decide) (by decide) rfl
  have g0 := cr_2_0 hC
  have g2 := cr_2_2 hC
  have g7 := cr_2_7 hC
  have g8 := cr_2_8 hC
  rw [e192]
  by_cases hn : 0 ≤ n ∧ n ≤ hi 2 1
  case neg =>
    have E0 := bad hn
    refine s192_0.mpr ?_
    refine s192_1.mpr (wif (fun c1 => ?_) (fun c1 => ?_))
    · first
      | (exfalso; omega)
      | skip
        refine s192_12.mpr ?_
        refine (s192_14).mpr ?_
        exact E0
    · first
      | (exfalso; omega)
      | skip
        refine s192_4.mpr (s192_5.mpr ?_)
        refine (s192_6 (by first | decide | assumption | omega)).mpr ?_
        refine s192_9.mpr (wif (fun c9 => ?_) (fun c9 => ?_))
        · first
          | (exfalso; omega)
          | skip
            refine s192_12.mpr ?_
            refine (s192_14).mpr ?_
            exact E0
        · first
          | (exfalso; omega)
          | skip
            exfalso; omega
  obtain ⟨n0, n1⟩ := hn
  have er := er n0 n1
  have ok := ok n0 n1
  have hxB : TX2 (cB hi n) n := cB_x n0 (by omega) (fun k a b => hx k a (by omega))
  have hcB : ∀ k, 0 ≤ k → k < n → hi 3 k = cB hi n k := fun k a b => by unfold cB; rw [if_pos ⟨a, b⟩]
  generalize hBd : cB hi n = B at *
  obtain ⟨h1, hh1⟩ : ∃ h1, upI hi 2 1 0 = h1 := ⟨_, rfl⟩
  have w1 : FW wXb hi h1 := by rw [← hh1]; exact FW.rf.up (Or.inr (by omega))
  have x1n : ∀ (a : Nat) i, a ≠ 2 → h1 a i = hi a i := fun a i z => by rw [← hh1]; exact upI_a z
  -- the memory, changed in what is not the processes' and no module
  have EX : ∀ {h' : HI} {hr' : HR}, FW wXb hi h' → RW rCm hr hr' → XC al hi hr al h' hr' := fun {h' hr'} w wr => ⟨⟨0, 0, GA.rf⟩, fun a i z => ⟨w a i (by unfold wXb wCm; omega), wr a i (by unfold rCm; omega)⟩⟩
  have C0 : ∀ {h' : HI}, FW wXb hi h' → ∀ i, h' 0 i = hi 0 i := fun {h'} w i => w 0 i (by unfold wXb wCm; omega)
  have CSH : CSh al h1 hr S := ⟨fun m b e => by
    obtain ⟨y1, N, y2, y3, y4⟩ := hS m b e
    obtain ⟨k, L, z1, z2⟩ := y3.ex (EX w1 (fun _ _ _ => rfl)) (C0 w1)
    exact ⟨y1, N, k, L, y2, z1⟩, hS0⟩
  -- told
  have T40e : ∀ w q h hr', manP S B n = .error (w, q) → w ≠ 0 → FW wXb hi h → RW rCm hr hr' → h 15 4 = w → h 15 5 = q → h 2 1 = 0 → Wp d 192 40 [vR (some 2), vI n] [] al (upI (upI h 2 3 (h 15 4)) 2 4 (h 15 5)) hr' Q := by
    intro w q h hr' y1 y2 y3 y4 y5 y6 y7
    have f3 : (upI (upI h 2 3 (h 15 4)) 2 4 (h 15 5)) 2 3 = w := by rw [upI_i (by decide), upI_eq]; exact y5
    have E0 := er w q (upI (upI h 2 3 (h 15 4)) 2 4 (h 15 5)) hr' y1 ((y3.up (Or.inr (by omega))).up (Or.inr (by omega))) y4 f3 (by rw [upI_eq]; exact y6) (by rw [upI_i (by decide), upI_i (by decide)]; exact y7)
    obtain ⟨h9, hh9⟩ : ∃ h9, upI (upI h 2 3 (h 15 4)) 2 4 (h 15 5) = h9 := ⟨_, rfl⟩
    rw [hh9] at f3 E0 ⊢
    refine s192_40.mpr ?_
    refine (s192_41 (by first | decide | assumption | omega)).mpr ?_
    try simp (disch := first | decide | assumption | omega) only [f3]
    refine s192_44.mpr (wif (fun c44 => ?_) (fun c44 => ?_))
    · skip
      exact absurd (by assumption) y2
    · skip
      refine s192_47.mpr ?_
      refine (s192_48).mpr ?_
      exact E0
  have T40 : ∀ q G h hr', manP S B n = .ok (q, G) → FW wXb hi h → RW rCm hr hr' → h 15 4 = 0 → h 15 5 = -1 → h 14 1 = B 2 → (∀ p, 0 ≤ p → p < B 2 → MnC S h hr' G p) → GV S G → h 2 1 = 0 → Wp d 192 40 [vR (some 2), vI n] [] al (upI (upI h 2 3 (h 15 4)) 2 4 (h 15 5)) hr' Q := by
    intro q G h hr' y1 y3 y4 y5 y6 y7 y8 y9 y10
    obtain ⟨b6, gf⟩ := man_GF hSh y1 y9
    have f3 : (upI (upI h 2 3 (h 15 4)) 2 4 (h 15 5)) 2 3 = 0 := by rw [upI_i (by decide), upI_eq]; exact y5
    have f4 : (upI (upI h 2 3 (h 15 4)) 2 4 (h 15 5)) 2 4 = -1 := by rw [upI_eq]; exact y6
    have f1 : (upI (upI h 2 3 (h 15 4)) 2 4 (h 15 5)) 2 1 = 0 := by rw [upI_i (by decide), upI_i (by decide)]; exact y10
    have fo : ∀ (a : Nat) i, a ≠ 2 → (upI (upI h 2 3 (h 15 4)) 2 4 (h 15 5)) a i = h a i := fun a i z => by rw [upI_a z, upI_a z]
    have w9 : FW wXb hi (upI (upI h 2 3 (h 15 4)) 2 4 (h 15 5)) := (y3.up (Or.inr (by omega))).up (Or.inr (by omega))
    obtain ⟨h9, hh9⟩ : ∃ h9, upI (upI h 2 3 (h 15 4)) 2 4 (h 15 5) = h9 := ⟨_, rfl⟩
    rw [hh9] at f3 f4 f1 w9 ⊢
    simp only [hh9] at fo
    have EX9 := EX w9 y4
    have r4 : ∀ m, hr' 4 m = hr 4 m := fun m => y4 4 m (by unfold rCm; omega)
    have hC9 : CR hr' := fun p hp => by
      have key : ∀ p ∈ crl, p.1 ≠ 15 ∧ p.1 ≠ 17 ∧ p.1 ≠ 23 := by decide
      have := key p hp
      exact (y4 p.1 p.2.1 (by unfold rCm; omega)).trans (hC p hp)
    have tz : ∀ {q t}, 0 ≤ q → q < 12 → hr 27 q = some t → 119 ≤ t ∧ t < al.1 := fun q0 q1 e => ⟨(hT.1 _ _ q0 q1 e).1.1.1, (hT.1 _ _ q0 q1 e).1.1.2.2.1⟩
    have B9 : Bs T (NTf S hr) al h9 hr' := ⟨fun m N hN => by
      unfold NTf at hN
      cases e : S (m - 6) with
      | none => rw [e] at hN; cases hN
      | some b =>
        rw [e] at hN
        have hN : hr 4 (m - 6) = some N := hN
        obtain ⟨-, N', z2, z3, z4⟩ := hS _ b e
        rw [hN] at z2; cases z2
        have := (hM _ b e).1
        rw [show 6 + (m - 6) = m by omega] at this
        rw [this]
        exact ⟨z3.ex EX9 (C0 w9), z4⟩, hA⟩
    have ST : Ev (d - 1) 63 [vR (some 26), vR (some 14)] al h9 hr' (kon d 192 57 60 [vR (some 2), vI n] [] Q) := by
      refine x5_start (T := T) (S := S) (G := G) (s0 := s0) (n := B 2) (NN := NTf S hr) hA hC9 (hT.ex EX9) (fun q t q0 q1 e => ?_) ?_ B9 gf b6 hM (fun p p0 p1 => (y8 p p0 p1).cg (fun a i z1 z2 => fo a i (by omega)) (fun i => ⟨rfl, rfl⟩)) ((fo 14 1 (by decide)).trans y7) (fun m b e => ?_) (by omega) (fun hc rc al' hi' hr2 u1 u2 u3 u4 => ?_)
      · rw [(EX9.2 27 q (Or.inl (by decide))).2] at e
        obtain ⟨t1, t2⟩ := tz q0 q1 e
        rw [(EX9.2 t 0 (Or.inr ⟨t1, t2⟩)).1]
        exact h0 q t q0 q1 e
      · rw [(EX9.2 33 10 (Or.inl (by decide))).1]; exact h33
      · obtain ⟨-, N', z2, -⟩ := hS _ b e
        rw [NTf_y e, r4]
        exact ⟨rfl, N', z2⟩
      · obtain ⟨A, s, c, R, AP, hb, hcc, -⟩ := u3
        have e14 : hi' 14 1 = B 2 := by rw [(R.1.2.2.1.2.1 14 1 (by decide)).1, u1 14 1 (by unfold wSt; omega), fo 14 1 (by decide)]; exact y7
        have n2 : ∀ i, hc 2 i = h9 2 i := fun i => u1 2 i (by unfold wSt; omega)
        have E0 := ok q G hc rc A s c al' hi' hr2 y1 gf b6 ((w9.mn (fun a i z => Or.inl z)).tr (u1.mn (fun a i z => Or.inr z))) (fun a i z => (u2 a i (fun y => z (Or.inr y))).trans (y4 a i (fun y => z (Or.inl y)))) R u4 AP hb hcc ((n2 3).trans f3) ((n2 4).trans f4) ((n2 1).trans f1)
        have hC3 := R.1.2.1
        have k2' : isK al' 2 12 := R.1.1.k (by decide) (by decide) rfl
        have k14' : isK al' 14 7 := R.1.1.k (by decide) (by decide) rfl
        have g7' := cr_2_7 hC3
        simp only [kon, knt_some, knt_none, Option.toList_some, Option.toList_none, List.cons_append, List.nil_append]
        refine s192_60.mpr ?_
        refine (s192_61 (by first | decide | assumption | omega)).mpr ?_
        try simp (disch := first | decide | assumption | omega) only [g7', e14]
        refine (s192_64 (by first | decide | assumption | omega)).mpr ?_
        try simp (disch := first | decide | assumption | omega) only [g7', e14]
        refine (s192_67).mpr ?_
        exact E0
    have g7' := cr_2_7 hC9
    have g8' := cr_2_8 hC9
    refine s192_40.mpr ?_
    refine (s192_41 (by first | decide | assumption | omega)).mpr ?_
    try simp (disch := first | decide | assumption | omega) only [f3, g7', g8']
    refine s192_44.mpr (wif (fun c44 => ?_) (fun c44 => ?_))
    · skip
      refine s192_49.mpr ?_
      refine (s192_50 (by first | decide | assumption | omega)).mpr ?_
      refine s192_53.mpr ?_
      try simp (disch := first | decide | assumption | omega) only [f3, g7', g8']
      refine (s192_54 (by first | decide | assumption | omega)).mpr ?_
      try simp (disch := first | decide | assumption | omega) only [f3, g7', g8']
      refine (s192_57 (by first | decide | assumption | omega) (by first | decide | assumption | omega)).mpr ?_
      exact ST
    · skip
      exact absurd rfl (by assumption)
  have RD : Ev (d - 1) 98 [vR (some 14), vR (some 3), vI n, vR (some 4)] al h1 hr (kon d 192 34 37 [vR (some 2), vI n] [vR (some 2)] Q) := by
    refine x_read (B := B) (S := S) hA hC (by omega) hxB (fun k a b => (x1n 3 k (by decide)).trans (hcB k a b)) CSH (fun q G h' hr' y1 y2 y3 y4 y5 y6 y7 y8 y9 => ?_) (fun w q h' hr' y1 y2 y3 y4 y5 y6 => ?_)
    · have e21 : h' 2 1 = 0 := by rw [y2 2 1 (by unfold wCm; omega), ← hh1, upI_eq]
      have Z := T40 q G h' hr' y1 (w1.tr (y2.mn (fun a i z => Or.inl z))) y3 y4 y5 y6 y7 y9 e21
      simp only [kon, knt_some, knt_none, Option.toList_some, Option.toList_none, List.cons_append, List.nil_append]
      refine (s192_37 (by first | decide | assumption | omega) (by first | decide | assumption | omega)).mpr ?_
      refine x_tell hA k15 ?_
      simp only [kon, knt_some, knt_none, Option.toList_some, Option.toList_none, List.cons_append, List.nil_append]
      exact Z
    · have e21 : h' 2 1 = 0 := by rw [y2 2 1 (by unfold wCm; omega), ← hh1, upI_eq]
      have Z := T40e w q h' hr' y1 y6 (w1.tr (y2.mn (fun a i z => Or.inl z))) y3 y4 y5 e21
      simp only [kon, knt_some, knt_none, Option.toList_some, Option.toList_none, List.cons_append, List.nil_append]
      refine (s192_37 (by first | decide | assumption | omega) (by first | decide | assumption | omega)).mpr ?_
      refine x_tell hA k15 ?_
      simp only [kon, knt_some, knt_none, Option.toList_some, Option.toList_none, List.cons_append, List.nil_append]
      exact Z
  refine s192_0.mpr ?_
  refine s192_1.mpr (wif (fun c1 => ?_) (fun c1 => ?_))
  · first
    | (exfalso; omega)
    | skip
      exfalso; omega
  · first
    | (exfalso; omega)
    | skip
      refine s192_4.mpr (s192_5.mpr ?_)
      refine (s192_6 (by first | decide | assumption | omega)).mpr ?_
      try simp (disch := first | decide | assumption | omega) only [g0, g2, g7, hh1]
      refine s192_9.mpr (wif (fun c9 => ?_) (fun c9 => ?_))
      · first
        | (exfalso; omega)
        | skip
          exfalso; omega
      · first
        | (exfalso; omega)
        | skip
          refine s192_15.mpr (s192_16.mpr ?_)
          refine (s192_17 (by first | decide | assumption | omega)).mpr ?_
          refine s192_20.mpr (s192_21.mpr ?_)
          try simp (disch := first | decide | assumption | omega) only [g0, g2, g7, hh1]
          refine (s192_22 (by first | decide | assumption | omega)).mpr ?_
          refine s192_25.mpr ?_
          try simp (disch := first | decide | assumption | omega) only [g0, g2, g7, hh1]
          refine (s192_26 (by first | decide | assumption | omega)).mpr ?_
          refine s192_29.mpr (s192_30.mpr ?_)
          try simp (disch := first | decide | assumption | omega) only [g0, g2, g7, hh1]
          refine (s192_31 (by first | decide | assumption | omega)).mpr ?_
          try simp (disch := first | decide | assumption | omega) only [g0, g2, g7, hh1]
          refine (s192_34 (by first | decide | assumption | omega) (by first | decide | assumption | omega)).mpr ?_
          exact RD
end FE0
