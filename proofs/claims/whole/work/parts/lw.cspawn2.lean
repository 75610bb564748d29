/-! RUNNING, the class: the instruction that begins a process -/
section CO2
variable {d : Nat} {Q : QQ} {T : TXs} {al al' : AL} {hi hi' h1 : HI} {hr hr' r1 : HR} {s s' s1 s2 u sx sm : HI} {A A' : Int → Int → Int} {NN : Int → Option Nat} {E E' : Int → Prop} {p m f q v w x y n k g qx i P e fr ty kd tt cv o c9 : Int} {B : Int → Int} {X Y : Tst} {t t' N M c b : Nat} {al0 : AL} {hi0 : HI} {hr0 : HR} {V W ws : Int → Int}
theorem tcn_new {r : HR} (n0 : 0 ≤ n) (e0 : hr 27 n = none) (e1 : r 27 n = some t) (eo : ∀ q, q ≠ n → r 27 q = hr 27 q) : ∀ k : Nat, tcn r k = tcn hr k + (if n < k then 1 else 0)
  | 0 => by rw [if_neg (by omega)]; rfl
  | k + 1 => by
    unfold tcn
    rw [tcn_new n0 e0 e1 eo k]
    by_cases z : n = k
    · subst z; rw [e0, e1, if_neg (by omega), if_pos (by omega)]
    · rw [eo k (fun y => z y.symm)]
      by_cases y : n < k
      · rw [if_pos y, if_pos (by omega)]; omega
      · rw [if_neg y, if_neg (by omega)]; omega
theorem tcn_cg {r : HR} (eo : ∀ q, r 27 q = hr 27 q) : ∀ k : Nat, tcn r k = tcn hr k
  | 0 => rfl
  | k + 1 => by unfold tcn; rw [tcn_cg eo k, eo]
theorem upR_ne {a a' : Nat} {j j' : Int} {r : Option Nat} (z : ¬ (a' = a ∧ j' = j)) : upR hr a j r a' j' = hr a' j' := if_neg z
theorem RelC.beg (hR : RelC T NN al0 hi0 hr0 E A al hi hr s) (hP : AllP s) (hBs : Bs T NN al0 hi0 hr0) (n0 : 0 ≤ n ∧ n < 12) (h89 : 4 ≤ s 89 n) (n56 : n ≤ s 49 56) (hN : NN m = some N) (c0 : 0 ≤ c9 ∧ c9 ≤ 1024) (hk : tkN al hi hr n t al' h1 r1) (tS : TkS al' r1 t) (hB : bgM (upI h1 28 n 1) t (m - 6) c9 f hi') : RelC T NN al0 hi0 hr0 E (fun q b => if q = n then 0 else A q b) al' hi' (upR r1 t 1 (some N)) (bgS s n m f c9) ∧ OnP (upR r1 t 1 (some N)) (bgS s n m f c9) n t ∧ AllP (bgS s n m f c9) := by
  obtain ⟨B0, B2, B3, B4, B5, B6, B7, B8, B16, Bf, Bp, Bh, Bs9, Bfr⟩ := hB
  have t119 := tS.1.1
  have tS1 := tS.up1 (r := some N)
  have b4 := hR.2.2.2.2.1
  have a3 := hR.1.2.2.1
  have al119 : 119 ≤ al.1 := hR.1.1.1
  rw [upI_a (by omega)] at B0
  have e28 : hi' 28 n = 1 := by rw [Bfr 28 n (by omega), upI_eq]
  rcases hk with ⟨e27, rfl, rfl, rfl⟩ | ⟨e27, et, gA, eL, -, e15, e0, fi0, e27n, fr0⟩
  · have r27 : ∀ q, upR r1 t 1 (some N) 27 q = r1 27 q := fun q => upR_a (by omega)
    have zt : ∀ a, t ≤ a → a ≤ t + 6 → Zt r1 a := fun a z1 z2 => ⟨n, t, n0.1, n0.2, e27, z1, z2⟩
    obtain ⟨-, c, ec, pc, c5⟩ := b4.1 n t n0.1 n0.2 e27
    refine hR.beg0 hP hBs n0 h89 n56 hN c0 (g1 := 0) (g2 := 0) GA.rf tS1 ((r27 n).trans e27) (fun q _ => r27 q) (fun t' e => by rw [e27] at e; cases e; rfl) (fun a i _ z1 z2 => by rw [Bfr a i z1, upI_ne z2]) (fun a i _ _ z => upR_ne z) upR_eq e28 ⟨?_, B2, B3, B4, B5, B6, B7, B8, B16, Bf, Bp, Bh, Bs9⟩ ⟨c, (upR_ne (by omega)).trans ec, ?_, by rw [upR_ne (by omega)]; exact c5, fun q t' q0 q1 z e y => ?_⟩ (fun q t' q0 q1 z e => (b4.ne ⟨q0, q1⟩ n0 e e27 z)) (fun _ => zt t (Nat.le_refl _) (by omega)) (fun a z z1 z2 => a3.2.2.2.1 a z (zt a z1 z2)) (by rw [tcn_cg r27]; exact ⟨Nat.le_refl _, Nat.le_refl _⟩)
    · rw [B0]; exact a3.2.2.2.2 n t n0.1 n0.2 e27
    · unfold pool; simp only [r27]; exact pc
    · exact (b4.2.2 q n t' t q0 q1 n0.1 n0.2 z e e27).2 (y.trans ec.symm)
  · have r27 : ∀ q, q ≠ n → upR r1 t 1 (some N) 27 q = hr 27 q := fun q z => by rw [upR_a (by omega), fr0 27 q (by omega) (by omega)]
    have r27n : upR r1 t 1 (some N) 27 n = some t := by rw [upR_a (by omega)]; exact e27n
    obtain ⟨⟨x, z, g⟩, -⟩ := id a3
    have glt := g.1
    have tl : ∀ q t', 0 ≤ q → q < 12 → hr 27 q = some t' → t' + 6 < al.1 := fun q t' q0 q1 e => (b4.1 q t' q0 q1 e).1.2.2.2.2.2.2.1.2.1
    have pcl : ∀ {c}, pool hr c → c < al.1 := fun hc => (b4.pk hR.1.1 hc).1.2.1
    have tc := tcn_new (r := upR r1 t 1 (some N)) n0.1 e27 r27n r27 12
    rw [if_pos (by omega)] at tc
    refine hR.beg0 hP hBs n0 h89 n56 hN c0 gA tS1 r27n r27 (fun t' e => by rw [e27] at e; cases e) (fun a i z z1 z2 => by rw [Bfr a i z1, upI_ne z2]; exact fi0 a i (by omega)) (fun a i z z1 z2 => by rw [upR_ne z2]; exact fr0 a i (by omega) z1) upR_eq e28 ⟨B0.trans e0, B2, B3, B4, B5, B6, B7, B8, B16, Bf, Bp, Bh, Bs9⟩ ⟨t + 6, (upR_ne (by omega)).trans e15, Or.inr ⟨n, t, n0.1, n0.2, r27n, rfl⟩, ?_, fun q t' q0 q1 z e y => ?_⟩ (fun q t' q0 q1 z e => ?_) (fun z => by omega) (fun a z z1 z2 => by omega) ⟨by rw [tc, eL]; omega, by have := gA.2.2.1; rw [tc]; omega⟩
    · rw [upR_ne (by omega), fr0 26 5 (by omega) (by omega)]
      obtain ⟨c1, u1, u2⟩ := b4.2.1
      have := pcl u2
      rw [u1]; intro y; cases y; omega
    · obtain ⟨-, c', u1, u2, -⟩ := b4.1 q t' q0 q1 e
      rw [u1] at y; cases y
      have := pcl u2
      omega
    · have := tl q t' q0 q1 e; omega
theorem x5_livingAt (hR : RelC T NN al0 hi0 hr0 E A al hi hr s) (hP : AllP s) (n0 : 0 ≤ n ∧ n < 12) (hd : 2 ≤ d) (q1 : ∀ t, s 89 n < 4 → OnP hr s n t → Q (some (some (vR (some t)))) al hi hr) (q0 : 4 ≤ s 89 n → Q (some (some (vR none))) al hi hr) : Ev d 68 [vR (some 26), vI n] al hi hr Q := by
  have hA := hR.1.1
  have hC := hR.1.2.1
  have k26 : isK al 26 6 := hA.k (by decide) (by decide) rfl
  have Q27 : isQ al 27 = true := hA.q (by decide) (by decide) (by decide)
  have K28 : isK al 28 16 := hA.k (by decide) (by decide) rfl
  have R28 : isR al 28 = true := hA.r (by decide) (by decide) (by decide)
  have g27 := cr_26_1 hC
  have g28 := cr_26_2 hC
  have l27 := SA.len (a := 27) (n := 12) hA (by decide) (by decide) rfl
  have l28 := SA.len (a := 28) (n := 12) hA (by decide) (by decide) rfl
  have m28 := hR.2.1.2.2.2.2.2.1 n n0.1 n0.2
  have TA : ∀ (Q' : QQ), (s 49 56 ≤ n → Q' (some (some (vR none))) al hi hr) → (∀ t, n < s 49 56 → hr 27 n = some t → TkH hi s n t → Q' (some (some (vR (some t)))) al hi hr) → Ev (d - 1) 67 [vR (some 26), vI n] al hi hr Q' := fun Q' no yes => by
    rw [e67]
    by_cases c : n < s 49 56
    · rw [if_pos c] at m28
      obtain ⟨t, e27, tH⟩ := hR.2.2.2.2.2.1 n n0.1 n0.2 c
      have E0 := yes t c e27 tH
      refine s67_0.mpr ?_
      refine s67_1.mpr (wif (fun c1 => ?_) (fun c1 => ?_))
      · skip
        exfalso; omega
      · skip
        refine s67_4.mpr (s67_5.mpr ?_)
        refine s67_7.mpr (wif (fun c7 => ?_) (fun c7 => ?_))
        · skip
          refine s67_10.mpr ?_
          refine (s67_11 (by first | decide | assumption | omega)).mpr ?_
          refine s67_14.mpr ?_
          try simp (disch := first | decide | assumption | omega) only [g27, g28, m28]
          refine (s67_15Z (by first | decide | assumption | omega) (by first | decide | assumption | omega) (by first | decide | assumption | omega)).mpr ?_
          try simp (disch := first | decide | assumption | omega) only [g27, g28, m28]
          refine s67_16.mpr (wif (fun c16 => ?_) (fun c16 => ?_))
          · skip
            exfalso; omega
          · skip
            refine s67_23.mpr ?_
            refine (s67_24 (by first | decide | assumption | omega)).mpr ?_
            refine s67_27.mpr ?_
            try simp (disch := first | decide | assumption | omega) only [g27, g28, m28]
            refine (s67_28 (by first | decide | assumption | omega) (by first | decide | assumption | omega) (by first | decide | assumption | omega)).mpr ?_
            refine (s67_29).mpr ?_
            rw [e27]; exact E0
        · skip
          exfalso; omega
    · rw [if_neg c] at m28
      have E0 := no (by omega)
      refine s67_0.mpr ?_
      refine s67_1.mpr (wif (fun c1 => ?_) (fun c1 => ?_))
      · skip
        refine s67_19.mpr (s67_20.mpr ?_)
        refine (s67_29).mpr ?_
        exact E0
      · skip
        refine s67_4.mpr (s67_5.mpr ?_)
        refine s67_7.mpr (wif (fun c7 => ?_) (fun c7 => ?_))
        · skip
          refine s67_10.mpr ?_
          refine (s67_11 (by first | decide | assumption | omega)).mpr ?_
          refine s67_14.mpr ?_
          try simp (disch := first | decide | assumption | omega) only [g27, g28, m28]
          refine (s67_15Z (by first | decide | assumption | omega) (by first | decide | assumption | omega) (by first | decide | assumption | omega)).mpr ?_
          try simp (disch := first | decide | assumption | omega) only [g27, g28, m28]
          refine s67_16.mpr (wif (fun c16 => ?_) (fun c16 => ?_))
          · skip
            refine s67_19.mpr (s67_20.mpr ?_)
            refine (s67_29).mpr ?_
            exact E0
          · skip
            exfalso; omega
        · skip
          refine s67_19.mpr (s67_20.mpr ?_)
          refine (s67_29).mpr ?_
          exact E0
  by_cases c : s 89 n < 4
  · obtain ⟨y1, y2, y3, y4⟩ := hP n n0.1 n0.2 c
    have ISO : ∀ t, hr 27 n = some t → Ev (d - 1) 67 [vR (some 26), vI n] al hi hr (kon d 68 2 5 [vR (some 26), vI n, none] [] Q) := fun t e27 => by
      refine TA _ (fun z => by omega) (fun t' _ e _ => ?_)
      have hO : OnP hr s n t' := ⟨n0, e, c, y1, y2, y3, y4⟩
      have E0 := q1 t' c hO
      have k9 := (hR.tf hO).1.1.2
      simp only [kon, knt_some, knt_none, Option.toList_some, Option.toList_none, List.cons_append, List.nil_append]
      refine s68_5.mpr (s68_6.mpr ?_)
      refine s68_7.mpr (wif (fun c7 => ?_) (fun c7 => ?_))
      · skip
        first | (exfalso; omega) | (exfalso; simp at c7)
      · skip
        refine s68_10.mpr ?_
        refine (s68_11 (by first | decide | assumption | omega) (by first | decide | assumption | omega)).mpr ?_
        refine t_isOver hR hO ?_
        simp only [kon, knt_some, knt_none, Option.toList_some, Option.toList_none, List.cons_append, List.nil_append]
        refine s68_14.mpr (wif (fun c14 => ?_) (fun c14 => ?_))
        · skip
          refine s68_21.mpr ?_
          refine (s68_22).mpr ?_
          exact E0
        · skip
          first | (exfalso; omega) | (exfalso; simp at c7)
    obtain ⟨t, e27, -⟩ := hR.2.2.2.2.2.1 n n0.1 n0.2 y4
    have Z := ISO t e27
    rw [e68]
    refine s68_0.mpr (s68_1.mpr ?_)
    refine (s68_2 (by first | decide | assumption | omega) (by first | decide | assumption | omega)).mpr ?_
    exact Z
  · have E0 := q0 (by omega)
    have Z : Ev (d - 1) 67 [vR (some 26), vI n] al hi hr (kon d 68 2 5 [vR (some 26), vI n, none] [] Q) := by
      refine TA _ (fun _ => ?_) (fun t' _ e tH => ?_)
      · simp only [kon, knt_some, knt_none, Option.toList_some, Option.toList_none, List.cons_append, List.nil_append]
        refine s68_5.mpr (s68_6.mpr ?_)
        refine s68_7.mpr (wif (fun c7 => ?_) (fun c7 => ?_))
        · skip
          refine s68_17.mpr (s68_18.mpr ?_)
          refine (s68_22).mpr ?_
          exact E0
        · skip
          exfalso; simp at c7
      · have k9 : isK al t' 9 := (hR.2.2.2.2.1.1 n t' n0.1 n0.2 e).1.1.2
        have h4 : hi t' 4 = s 89 n := tH.2.2.2.1
        have IO : ∀ (Q' : QQ), Q' (some (some (vI 1))) al hi hr → Ev (d - 1) 117 [vR (some t')] al hi hr Q' := fun Q' z => by
          rw [e117]
          refine s117_0.mpr ?_
          refine (s117_1 (by first | decide | assumption | omega)).mpr ?_
          refine s117_4.mpr ?_
          try simp (disch := first | decide | assumption | omega) only [h4]
          refine s117_5.mpr (wif (fun c5 => ?_) (fun c5 => ?_))
          · skip
            refine s117_8.mpr ?_
            refine (s117_9 (by first | decide | assumption | omega)).mpr ?_
            refine s117_12.mpr ?_
            try simp (disch := first | decide | assumption | omega) only [h4]
            refine s117_13.mpr (wif (fun c13 => ?_) (fun c13 => ?_))
            · skip
              refine s117_16.mpr (s117_17.mpr ?_)
              refine (s117_21 (by first | assumption | omega)).mpr ?_
              first | exact z | (exfalso; omega)
            · skip
              refine s117_20.mpr ?_
              refine (s117_21 (by first | assumption | omega)).mpr ?_
              first | exact z | (exfalso; omega)
          · skip
            refine s117_16.mpr (s117_17.mpr ?_)
            refine (s117_21 (by first | assumption | omega)).mpr ?_
            first | exact z | (exfalso; omega)
        have T17 : Wp d 68 17 [vR (some 26), vI n, vR (some t')] [] al hi hr Q := by
          refine s68_17.mpr (s68_18.mpr ?_)
          refine (s68_22).mpr ?_
          exact E0
        simp only [kon, knt_some, knt_none, Option.toList_some, Option.toList_none, List.cons_append, List.nil_append]
        refine s68_5.mpr (s68_6.mpr ?_)
        refine s68_7.mpr (wif (fun c7 => ?_) (fun c7 => ?_))
        · skip
          first | exact T17 | (exfalso; simp at c7)
        · skip
          refine s68_10.mpr ?_
          refine (s68_11 (by first | decide | assumption | omega) (by first | decide | assumption | omega)).mpr ?_
          refine IO _ ?_
          simp only [kon, knt_some, knt_none, Option.toList_some, Option.toList_none, List.cons_append, List.nil_append]
          refine s68_14.mpr (wif (fun c14 => ?_) (fun c14 => ?_))
          · skip
            exfalso; omega
          · skip
            first | exact T17 | (exfalso; simp at c7)
    rw [e68]
    refine s68_0.mpr (s68_1.mpr ?_)
    refine (s68_2 (by first | decide | assumption | omega) (by first | decide | assumption | omega)).mpr ?_
    exact Z
end CO2
