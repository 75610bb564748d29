/-! BOOT, the reference: begin, whole: the memory goes with the state -/
section BR5
variable {d : Nat} {al : AL} {hi : HI} {hr : HR} {Q : QQ} {S : Int → Option (Int → Int)} {G s1 s h h' h0 sO : HI} {n c e P K : Int}
theorem GR.fr2 {h' : HI} (H : GR S h G) (hf : ∀ a i, 81 ≤ a → a ≤ 85 → h' a i = h a i) (h49 : h' 49 49 = h 49 49) : GR S h' G := by
  unfold GR at H ⊢
  simp only [hf 81 _ (by decide) (by decide), hf 82 _ (by decide) (by decide), hf 83 _ (by decide) (by decide), hf 84 _ (by decide) (by decide), hf 85 _ (by decide) (by decide), h49]
  exact H
theorem MnP.fr {h' : HI} (H : MnP S h G n) (hf : ∀ a i, 77 ≤ a → a ≤ 80 → h' a i = h a i) : MnP S h' G n := by
  unfold MnP at H ⊢
  simp only [hf 77 _ (by decide) (by decide), hf 78 _ (by decide) (by decide), hf 79 _ (by decide) (by decide), hf 80 _ (by decide) (by decide)]
  exact H
set_option maxRecDepth 4000 in
theorem r_begin (hA : SA al) (hR : MR hr) (hd : 4 ≤ d) (hE : RelR h0 sO) (hSh : MSh h0 S) (hsh : ∀ m, 0 ≤ m → m < 6 → h0 56 m = 0 ∨ h0 56 m = 1) (h52 : ∀ m b, S m = some b → 0 ≤ h0 52 m) (hG : GF S G n) (n6 : 1 ≤ n ∧ n ≤ 6) (hmn : MnP S h0 G n) (hgr : GR S h0 G) (h48 : h0 49 48 = n)
    (q : ∀ h' s1 s', RelR h' s' → BP S G n n (4 * n) (G 200 0) s1 s' → (∀ a i, ¬ (51 ≤ a ∧ a ≤ 69) → s1 a i = sO a i) → (∀ a i, 51 ≤ a → a ≤ 69 → s1 a i = h' a i) → (∀ m b, S m = some b → (0 ≤ m ∧ m < 6) ∧ MB h' (6 + m) b) → FW wBg h0 h' → Q (some none) al h' hr) : Ev d 279 [vR (some 49)] al h0 hr Q := by
  have kM : isK al 49 13 := hA.k (by decide) (by decide) rfl
  have l56 := SA.len (a := 56) (n := 13) hA (by decide) (by decide) rfl
  have l109 := SA.len (a := 109) (n := 128) hA (by decide) (by decide) rfl
  have l112 := SA.len (a := 112) (n := 24) hA (by decide) (by decide) rfl
  have l114 := SA.len (a := 114) (n := 24) hA (by decide) (by decide) rfl
  have l89 := SA.len (a := 89) (n := 12) hA (by decide) (by decide) rfl
  have l77 := SA.len (a := 77) (n := 6) hA (by decide) (by decide) rfl
  have l78 := SA.len (a := 78) (n := 6) hA (by decide) (by decide) rfl
  have l79 := SA.len (a := 79) (n := 6) hA (by decide) (by decide) rfl
  have l91 := SA.len (a := 91) (n := 12) hA (by decide) (by decide) rfl
  have l64 := SA.len (a := 64) (n := 130) hA (by decide) (by decide) rfl
  have l80 := SA.len (a := 80) (n := 24) hA (by decide) (by decide) rfl
  have l65 := SA.len (a := 65) (n := 520) hA (by decide) (by decide) rfl
  have l85 := SA.len (a := 85) (n := 8) hA (by decide) (by decide) rfl
  have l83 := SA.len (a := 83) (n := 16) hA (by decide) (by decide) rfl
  have l118 := SA.len (a := 118) (n := 24) hA (by decide) (by decide) rfl
  have l82 := SA.len (a := 82) (n := 16) hA (by decide) (by decide) rfl
  have l113 := SA.len (a := 113) (n := 24) hA (by decide) (by decide) rfl
  have l84 := SA.len (a := 84) (n := 16) hA (by decide) (by decide) rfl
  have f1 : FW w49 h0 (bgH n h0) := bgH_fw
  have T35 : Wp d 279 35 [vR (some 49), vI 0, none, none] [] al (bgH n h0) hr Q := by
    have n49 : ∀ a i, a ≠ 49 → bgH n h0 a i = h0 a i := fun a i z => f1 a i (by unfold w49; omega)
    refine r_bgcp (h0 := bgH n h0) hA hR (by omega) (hSh.fr (fun a i z1 z2 => n49 a i (by omega))) (fun m m0 m1 => by rw [n49 _ _ (by decide)]; exact hsh m m0 m1) (fun m b e => by rw [n49 _ _ (by decide)]; exact h52 m b e) (fun h2 f2 mb2 => ?_) 6 0 _ (by decide) (Int.le_refl _) FW.rf (fun m' b z0 z1 => by omega)
    have s2 : ∀ a i, ¬ ((51 ≤ a ∧ a ≤ 55) ∨ (57 ≤ a ∧ a ≤ 69)) → h2 a i = bgH n h0 a i := fun a i z => f2 a i (fun ⟨m', z1, z2⟩ => z (wSl_c z2))
    refine r_bgfi hA hR (fun h3 f3 v3 => ?_)
    have s3 : ∀ a i, ¬ wFi a i → h3 a i = h2 a i := f3
    have base : ∀ a i, 77 ≤ a → a ≤ 86 → h3 a i = h0 a i := fun a i z1 z2 => by
      rw [s3 a i (by unfold wFi; omega), s2 a i (by omega), n49 a i (by omega)]
    have AG : Ag S G (4 * 0) 0 h3 (bp0 n (bs1 h2 sO)) := fun a i ha _ => by
      have ce : ((87 ≤ a ∧ a ≤ 100) ∨ (109 ≤ a ∧ a ≤ 118)) → h2 a i = sO a i := fun z => by
        rw [s2 a i (by omega), n49 a i (by omega)]; exact hE.1 a i (by omega)
      have bs : ∀ a i, ¬ (51 ≤ a ∧ a ≤ 69) → bs1 h2 sO a i = sO a i := fun a i z => if_neg z
      obtain ⟨u1, u2, u3, u4⟩ := v3 i
      unfold ceC at ha
      obtain ⟨B1, B2, -, -, -, -, B7, B8, -⟩ := bp_0 (S := S) (G := G) (kn := n) (s0 := bs1 h2 sO)
      by_cases z49 : a = 49
      · subst z49
        rw [s3 49 i (by unfold wFi; omega), s2 49 i (by omega)]
        obtain ⟨w1, w2, w3, w4, w5, w6⟩ := bgH_v (n := n) (h := h0)
        have : i = 51 ∨ i = 52 ∨ i = 53 ∨ i = 54 ∨ i = 55 ∨ i = 56 := by omega
        rcases this with rfl | rfl | rfl | rfl | rfl | rfl
        · rw [w1]; rfl
        · rw [w2]; rfl
        · rw [w3]; rfl
        · rw [w4]; rfl
        · rw [w5]; rfl
        · rw [w6]; rfl
      · by_cases z89 : a = 89
        · subst z89
          rw [u1, B2, if_neg (c := 0 ≤ i ∧ i < 0) (by omega), bs _ _ (by decide), ce (by decide)]
        · by_cases z109 : a = 109
          · subst z109
            rw [u2, B7, bs _ _ (by decide), ce (by decide)]
          · by_cases z112 : a = 112
            · subst z112
              rw [u3, (B8 i).1, bs _ _ (by decide), ce (by decide)]
              by_cases y : 0 ≤ i ∧ i < 24
              · rw [if_pos y, if_pos y, if_neg (by omega)]
              · rw [if_neg y, if_neg y]
            · by_cases z114 : a = 114
              · subst z114
                rw [u4, (B8 i).2.2.1, bs _ _ (by decide), ce (by decide)]
              · rw [bp0_n ⟨z49, z89, z109, z112, z114⟩, s3 a i (by unfold wFi; omega)]
                by_cases y : 51 ≤ a ∧ a ≤ 69
                · exact (if_pos y).symm
                · rw [bs a i y]; exact ce (by omega)
    have mb3 : ∀ m b, S m = some b → (0 ≤ m ∧ m < 6) ∧ MB h3 (6 + m) b := fun m b e => ⟨(mb2 m b e).1, (mb2 m b e).2.fw (fun a i z1 z2 => s3 a i (by unfold wFi; omega))⟩
    refine r_bgpr (s1 := bs1 h2 sO) hA hR (by omega) hG n6 (hmn.fr (fun a i z1 z2 => base a i z1 (by omega))) ?_ mb3 (fun h4 s4 l2 l3 ag4 bp4 f4 => ?_) n.toNat 0 h3 (bp0 n (bs1 h2 sO)) none none (by omega) (Int.le_refl _) AG bp_0 FW.rf
    · rw [s3 49 48 (by unfold wFi; omega), s2 49 48 (by omega), f1 49 48 (by unfold w49; omega)]; exact h48
    have s4' : ∀ a i, ¬ wPr a i → h4 a i = h3 a i := f4
    have gr4 : GR S h4 G := hgr.fr2 (fun a i z1 z2 => by rw [s4' a i (by unfold wPr; omega)]; exact base a i (by omega) (by omega)) (by rw [s4' 49 49 (by unfold wPr; omega), s3 49 49 (by unfold wFi; omega), s2 49 49 (by omega), f1 49 49 (by unfold w49; omega)])
    have NX : ∀ l2 l3, Wp d 279 256 [vR (some 49), vI 0, l2, l3] [] al h4 hr Q := fun l2 l3 => by
      refine r_bgch (h0 := h4) (s1 := bs1 h2 sO) hA hR (by omega) hG n6 gr4 (fun h5 s5 ag5 bp5 f5 => ?_) (G 200 0).toNat 0 h4 s4 l2 l3 (by have := hG.1.1.2.2.2.1.1; omega) (Int.le_refl _) ag4 bp4 FW.rf
      have s5' : ∀ a i, ¬ wCh a i → h5 a i = h4 a i := f5
      have all5 : ∀ a i, ¬ wCh a i → ¬ wPr a i → ¬ wFi a i → h5 a i = h2 a i := fun a i z1 z2 z3 => by rw [s5' a i z1, s4' a i z2, s3 a i z3]
      have sm : ∀ a i, 51 ≤ a → a ≤ 69 → h5 a i = h2 a i := fun a i z1 z2 => all5 a i (by unfold wCh; omega) (by unfold wPr; omega) (by unfold wFi; omega)
      obtain ⟨b1, b2, b3, b4, b5, b6, b7, b8, b9⟩ := id bp5
      refine q h5 (bs1 h2 sO) s5 ⟨fun a i z => ag5 a i z, fun p p0 p1 => ?_⟩ bp5 (fun a i z => if_neg z) (fun a i z1 z2 => by rw [sm a i z1 z2]; exact if_pos ⟨z1, z2⟩) (fun m b e => ⟨(mb3 m b e).1, (mb2 m b e).2.fw sm⟩) (fun a i z => ?_)
      · have L := hE.2 p p0 p1
        have t1 : ∀ i, h5 101 i = h0 101 i := fun i => by rw [all5 _ _ (by unfold wCh; omega) (by unfold wPr; omega) (by unfold wFi; omega), s2 _ _ (by omega), n49 _ _ (by decide)]
        have t3 : ∀ i, h5 103 i = h0 103 i := fun i => by rw [all5 _ _ (by unfold wCh; omega) (by unfold wPr; omega) (by unfold wFi; omega), s2 _ _ (by omega), n49 _ _ (by decide)]
        have t4 : ∀ i, h5 104 i = h0 104 i := fun i => by rw [all5 _ _ (by unfold wCh; omega) (by unfold wPr; omega) (by unfold wFi; omega), s2 _ _ (by omega), n49 _ _ (by decide)]
        have t5 : ∀ i, s5 300 i = sO 300 i := fun i => by rw [b9 _ _ (by decide)]; exact if_neg (by decide)
        have t6 : ∀ i, s5 301 i = sO 301 i := fun i => by rw [b9 _ _ (by decide)]; exact if_neg (by decide)
        by_cases z : p < n
        · have e0 : ∀ b, 1 ≤ b → b ≤ 1024 → s5 100 (1025 * p + b) = 0 := fun b z0 z1 => by rw [b6, if_pos (by omega)]
          exact ⟨fun b z0 z1 z2 => by rw [e0 b z0 z1] at z2; omega, fun b b' z0 z1 z2 z3 z4 z5 => by rw [e0 b z0 z1] at z5; omega⟩
        · have e0 : ∀ b, 1 ≤ b → b ≤ 1024 → s5 100 (1025 * p + b) = sO 100 (1025 * p + b) := fun b z0 z1 => by
            rw [b6, if_neg (by omega)]; exact if_neg (by decide)
          obtain ⟨L1, L2⟩ := L
          refine ⟨fun b z0 z1 z2 => ?_, fun b b' z0 z1 z2 z3 z4 z5 z6 => ?_⟩
          · rw [e0 b z0 z1] at z2 ⊢
            rw [t1]
            simp only [t3, t4, t5, t6]
            exact L1 b z0 z1 z2
          · rw [e0 b z0 z1] at z5 ⊢
            rw [e0 b' z2 z3] at z6 ⊢
            rw [t1, t1]
            exact L2 b b' z0 z1 z2 z3 z4 z5 z6
      · unfold wBg at z
        rw [all5 a i (fun y => z (Or.inr (Or.inr (by unfold wCh at y; omega)))) (fun y => z (Or.inr (Or.inr (by unfold wPr at y; omega)))) (fun y => z (Or.inr (Or.inr (by unfold wFi at y; omega))))]
        rw [f2 a i (fun y => z (Or.inl y))]
        exact f1 a i (fun y => z (Or.inr (Or.inl y)))
    refine s279_254.mpr (s279_255.mpr ?_)
    exact NX _ _
  have e0 : upI (upI (upI (upI (upI (upI h0 49 51 1) 49 52 0) 49 53 0) 49 54 0) 49 55 0) 49 56 n = bgH n h0 := rfl
  have e48 : upI (upI (upI (upI (upI h0 49 51 1) 49 52 0) 49 53 0) 49 54 0) 49 55 0 49 48 = n := by
    rw [upI_i (by decide), upI_i (by decide), upI_i (by decide), upI_i (by decide), upI_i (by decide)]; exact h48
  rw [e279]
  refine s279_0.mpr (s279_1.mpr ?_)
  refine (s279_2 kM (by first | assumption | omega)).mpr ?_
  refine s279_5.mpr (s279_6.mpr ?_)
  refine (s279_7 kM).mpr ?_
  refine s279_10.mpr (s279_11.mpr ?_)
  try simp (disch := first | decide | assumption | omega) only [e48]
  refine (s279_12 kM).mpr ?_
  refine s279_15.mpr (s279_16.mpr ?_)
  try simp (disch := first | decide | assumption | omega) only [e48]
  refine (s279_17 kM).mpr ?_
  refine s279_20.mpr (s279_21.mpr ?_)
  try simp (disch := first | decide | assumption | omega) only [e48]
  refine (s279_22 kM).mpr ?_
  refine s279_25.mpr (s279_26.mpr ?_)
  try simp (disch := first | decide | assumption | omega) only [e48]
  refine (s279_27 kM).mpr ?_
  try simp (disch := first | decide | assumption | omega) only [e48]
  refine (s279_30 kM).mpr ?_
  refine s279_33.mpr (s279_34.mpr ?_)
  try simp (disch := first | decide | assumption | omega) only [e48]
  exact T35
end BR5
