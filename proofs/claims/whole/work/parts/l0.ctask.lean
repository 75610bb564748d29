/-! RUNNING, the class: a process's stack -/
section CT0
variable {d : Nat} {Q : QQ} {T : TXs} {al al' : AL} {hi hi' : HI} {hr hr' : HR} {s s' : HI} {A A' : Int → Int → Int} {NN : Int → Option Nat} {E : Int → Prop} {p q m f v w x : Int} {B : Int → Int} {X Y : Tst} {t t' N : Nat} {al0 : AL} {hi0 : HI} {hr0 : HR}
theorem RelC.tf (hR : RelC T NN al0 hi0 hr0 E A al hi hr s) (hO : OnP hr s p t) : TkS al hr t ∧ TkL A hi hr NN s p t ∧ TkH hi s p t := by
  obtain ⟨⟨p0, p1⟩, ht, h89, ⟨a1, a16⟩, ⟨r0, r1⟩, h97, h56⟩ := id hO
  obtain ⟨-, b1, b2, b3, b4, b5, b6⟩ := hR
  obtain ⟨t', e', k⟩ := b5 p p0 p1 h56
  rw [ht] at e'; cases e'
  exact ⟨(b4.1 p t p0 p1 ht).1, b6 p t p0 p1 ht h89, k⟩
theorem t_height (hR : RelC T NN al0 hi0 hr0 E A al hi hr s) (hO : OnP hr s p t) (q : Q (some (some (vI (hg s p)))) al hi hr) : Ev d 125 [vR (some t)] al hi hr Q := by
  obtain ⟨⟨⟨t119, k9⟩, ⟨e9, K1, L1⟩, ⟨e10, K2, L2⟩, ⟨e11, K3, L3⟩, ⟨e12, K4, L4⟩, ⟨e13, K5, L5⟩, K6, L6⟩, ⟨⟨N, hNN, e1⟩, ⟨e7, e8⟩, h5, h6, c, e15, hH⟩, tH⟩ := hR.tf hO
  obtain ⟨⟨p0, p1⟩, ht, h89, ⟨a1, a16⟩, ⟨r0, r1⟩, h97, h56⟩ := id hO
  obtain ⟨a, ha, aa0, aa1, eai⟩ : ∃ a, s 94 p - 1 = a ∧ 0 ≤ a ∧ a < 16 ∧ 16 * p + a = ai s p := ⟨_, rfl, by omega, by omega, by unfold ai; omega⟩
  obtain ⟨w5, w6, w7⟩ := h5 a aa0 (by omega)
  rw [ha] at e8; rw [eai] at w5 w6 w7
  rw [e125]
  refine s125_0.mpr ?_
  refine (s125_1 (by first | decide | assumption | omega)).mpr ?_
  refine s125_4.mpr ?_
  try simp (disch := first | decide | assumption | omega) only [e11, e8, w7]
  refine (s125_5 (by first | decide | assumption | omega)).mpr ?_
  try simp (disch := first | decide | assumption | omega) only [e11, e8, w7]
  refine (s125_8 (by first | decide | assumption | omega) (by first | decide | assumption | omega) (by first | decide | assumption | omega)).mpr ?_
  try simp (disch := first | decide | assumption | omega) only [e11, e8, w7]
  refine (s125_9).mpr ?_
  exact q
theorem t_place (hR : RelC T NN al0 hi0 hr0 E A al hi hr s) (hO : OnP hr s p t) (q : Q (some (some (vI (s 96 (ai s p))))) al hi hr) : Ev d 123 [vR (some t)] al hi hr Q := by
  obtain ⟨⟨⟨t119, k9⟩, ⟨e9, K1, L1⟩, ⟨e10, K2, L2⟩, ⟨e11, K3, L3⟩, ⟨e12, K4, L4⟩, ⟨e13, K5, L5⟩, K6, L6⟩, ⟨⟨N, hNN, e1⟩, ⟨e7, e8⟩, h5, h6, c, e15, hH⟩, tH⟩ := hR.tf hO
  obtain ⟨⟨p0, p1⟩, ht, h89, ⟨a1, a16⟩, ⟨r0, r1⟩, h97, h56⟩ := id hO
  obtain ⟨a, ha, aa0, aa1, eai⟩ : ∃ a, s 94 p - 1 = a ∧ 0 ≤ a ∧ a < 16 ∧ 16 * p + a = ai s p := ⟨_, rfl, by omega, by omega, by unfold ai; omega⟩
  obtain ⟨w5, w6, w7⟩ := h5 a aa0 (by omega)
  rw [ha] at e8; rw [eai] at w5 w6 w7
  rw [e123]
  refine s123_0.mpr ?_
  refine (s123_1 (by first | decide | assumption | omega)).mpr ?_
  refine s123_4.mpr ?_
  try simp (disch := first | decide | assumption | omega) only [e10, e8, w6]
  refine (s123_5 (by first | decide | assumption | omega)).mpr ?_
  try simp (disch := first | decide | assumption | omega) only [e10, e8, w6]
  refine (s123_8 (by first | decide | assumption | omega) (by first | decide | assumption | omega) (by first | decide | assumption | omega)).mpr ?_
  try simp (disch := first | decide | assumption | omega) only [e10, e8, w6]
  refine (s123_9).mpr ?_
  exact q
theorem t_function (hR : RelC T NN al0 hi0 hr0 E A al hi hr s) (hO : OnP hr s p t) (q : Q (some (some (vI (s 95 (ai s p))))) al hi hr) : Ev d 120 [vR (some t)] al hi hr Q := by
  obtain ⟨⟨⟨t119, k9⟩, ⟨e9, K1, L1⟩, ⟨e10, K2, L2⟩, ⟨e11, K3, L3⟩, ⟨e12, K4, L4⟩, ⟨e13, K5, L5⟩, K6, L6⟩, ⟨⟨N, hNN, e1⟩, ⟨e7, e8⟩, h5, h6, c, e15, hH⟩, tH⟩ := hR.tf hO
  obtain ⟨⟨p0, p1⟩, ht, h89, ⟨a1, a16⟩, ⟨r0, r1⟩, h97, h56⟩ := id hO
  obtain ⟨a, ha, aa0, aa1, eai⟩ : ∃ a, s 94 p - 1 = a ∧ 0 ≤ a ∧ a < 16 ∧ 16 * p + a = ai s p := ⟨_, rfl, by omega, by omega, by unfold ai; omega⟩
  obtain ⟨w5, w6, w7⟩ := h5 a aa0 (by omega)
  rw [ha] at e8; rw [eai] at w5 w6 w7
  rw [e120]
  refine s120_0.mpr ?_
  refine (s120_1 (by first | decide | assumption | omega)).mpr ?_
  refine s120_4.mpr ?_
  try simp (disch := first | decide | assumption | omega) only [e9, e8, w5]
  refine (s120_5 (by first | decide | assumption | omega)).mpr ?_
  try simp (disch := first | decide | assumption | omega) only [e9, e8, w5]
  refine (s120_8 (by first | decide | assumption | omega) (by first | decide | assumption | omega) (by first | decide | assumption | omega)).mpr ?_
  try simp (disch := first | decide | assumption | omega) only [e9, e8, w5]
  refine (s120_9).mpr ?_
  exact q
theorem t_isOver (hR : RelC T NN al0 hi0 hr0 E A al hi hr s) (hO : OnP hr s p t) (q : Q (some (some (vI 0))) al hi hr) : Ev d 117 [vR (some t)] al hi hr Q := by
  obtain ⟨⟨⟨t119, k9⟩, ⟨e9, K1, L1⟩, ⟨e10, K2, L2⟩, ⟨e11, K3, L3⟩, ⟨e12, K4, L4⟩, ⟨e13, K5, L5⟩, K6, L6⟩, ⟨⟨N, hNN, e1⟩, ⟨e7, e8⟩, h5, h6, c, e15, hH⟩, tH⟩ := hR.tf hO
  obtain ⟨⟨p0, p1⟩, ht, h89, ⟨a1, a16⟩, ⟨r0, r1⟩, h97, h56⟩ := id hO
  have e4 := tH.2.2.2.1
  rw [e117]
  refine s117_0.mpr ?_
  refine (s117_1 (by first | decide | assumption | omega)).mpr ?_
  refine s117_4.mpr ?_
  try simp (disch := first | decide | assumption | omega) only [e4, e7]
  refine s117_5.mpr (wif (fun c5 => ?_) (fun c5 => ?_))
  · first
    | (exfalso; omega)
    | skip
      refine s117_8.mpr ?_
      refine (s117_9 (by first | decide | assumption | omega)).mpr ?_
      refine s117_12.mpr ?_
      try simp (disch := first | decide | assumption | omega) only [e4, e7]
      refine s117_13.mpr (wif (fun c13 => ?_) (fun c13 => ?_))
      · first
        | (exfalso; omega)
        | skip
          exfalso; omega
      · first
        | (exfalso; omega)
        | skip
          refine s117_20.mpr ?_
          refine (s117_21 (by first | assumption | omega)).mpr ?_
          exact q
  · first
    | (exfalso; omega)
    | skip
      exfalso; omega
/-- the class's place of what a process has -/
theorem slt_b {k : Int} (h : 0 ≤ k ∧ k < 26) : 0 ≤ slt k ∧ slt k < 26 := by unfold slt; split <;> omega
theorem slt_i {k l : Int} (h : 0 ≤ k ∧ k < 26) (h' : 0 ≤ l ∧ l < 26) (e : slt k = slt l) : k = l := by unfold slt at e; split at e <;> (split at e <;> omega)
/-- a local (k < 10) or what is on the stack (10 and on), of the latest activation -/
theorem TkL.sl (h : TkL A hi hr NN s p t) (hO : OnP hr s p t) {k : Int} (k0 : 0 ≤ k) (k1 : k < 10 + hg s p) : hi (t + 4) (26 * (s 94 p - 1) + slt k) = kmp (s 99 (26 * ai s p + k)) ∧ hi (t + 5) (26 * (s 94 p - 1) + slt k) = vm A p (s 98 (26 * ai s p + k)) (s 99 (26 * ai s p + k)) := by
  obtain ⟨⟨p0, p1⟩, ht, h89, ⟨a1, a16⟩, ⟨r0, r1⟩, h97, h56⟩ := id hO
  have := h.2.2.2.1 (s 94 p - 1) k (by omega) (by omega) k0 (by rw [show 16 * p + (s 94 p - 1) = ai s p by unfold ai; omega]; exact k1)
  rw [show 16 * p + (s 94 p - 1) = ai s p by unfold ai; omega] at this
  exact this
theorem t_kindIn (hR : RelC T NN al0 hi0 hr0 E A al hi hr s) (hO : OnP hr s p t) {k : Int} (k0 : 0 ≤ k) (k1 : k < 10 + hg s p) (q : Q (some (some (vI (kmp (s 99 (26 * ai s p + k)))))) al hi hr) : Ev d 130 [vR (some t), vI (slt k)] al hi hr Q := by
  have hS := (hR.tf hO).2.1.sl hO k0 k1
  obtain ⟨⟨⟨t119, k9⟩, ⟨e9, K1, L1⟩, ⟨e10, K2, L2⟩, ⟨e11, K3, L3⟩, ⟨e12, K4, L4⟩, ⟨e13, K5, L5⟩, K6, L6⟩, ⟨⟨N, hNN, e1⟩, ⟨e7, e8⟩, h5, h6, c, e15, hH⟩, tH⟩ := hR.tf hO
  obtain ⟨⟨p0, p1⟩, ht, h89, ⟨a1, a16⟩, ⟨r0, r1⟩, h97, h56⟩ := id hO
  have hg16 := (h97 _ (by unfold ai; omega) (Int.le_refl _)).2
  have hg16 : hg s p ≤ 16 := hg16
  have sb := slt_b (k := k) ⟨k0, by omega⟩
  obtain ⟨a, ha, aa0, aa1, eai⟩ : ∃ a, s 94 p - 1 = a ∧ 0 ≤ a ∧ a < 16 ∧ 16 * p + a = ai s p := ⟨_, rfl, by omega, by omega, by unfold ai; omega⟩
  rw [ha] at e8 hS
  obtain ⟨z, hz⟩ : ∃ z, slt k = z := ⟨_, rfl⟩
  rw [hz] at sb hS ⊢
  rw [e130]
  refine s130_0.mpr ?_
  refine s130_1.mpr (wif (fun c1 => ?_) (fun c1 => ?_))
  · first
    | (exfalso; omega)
    | skip
      exfalso; omega
  · first
    | (exfalso; omega)
    | skip
      refine s130_4.mpr (s130_5.mpr ?_)
      refine s130_7.mpr (wif (fun c7 => ?_) (fun c7 => ?_))
      · first
        | (exfalso; omega)
        | skip
          refine s130_15.mpr ?_
          refine (s130_16 (by first | decide | assumption | omega)).mpr ?_
          refine s130_19.mpr ?_
          try simp (disch := first | decide | assumption | omega) only [e12, e8, fMul_id, fAdd_id, Int.mul_comm a 26, hS.1]
          refine (s130_20 (by first | decide | assumption | omega)).mpr ?_
          refine s130_23.mpr (s130_25.mpr (s130_26.mpr (s130_27.mpr ?_)))
          try simp (disch := first | decide | assumption | omega) only [e12, e8, fMul_id, fAdd_id, Int.mul_comm a 26, hS.1]
          refine (s130_28 (by first | decide | assumption | omega) (by first | decide | assumption | omega) (by first | decide | assumption | omega)).mpr ?_
          try simp (disch := first | decide | assumption | omega) only [e12, e8, fMul_id, fAdd_id, Int.mul_comm a 26, hS.1]
          refine (s130_29).mpr ?_
          exact q
      · first
        | (exfalso; omega)
        | skip
          exfalso; omega
theorem t_numberIn (hR : RelC T NN al0 hi0 hr0 E A al hi hr s) (hO : OnP hr s p t) {k : Int} (k0 : 0 ≤ k) (k1 : k < 10 + hg s p) (q : Q (some (some (vI (vm A p (s 98 (26 * ai s p + k)) (s 99 (26 * ai s p + k)))))) al hi hr) : Ev d 131 [vR (some t), vI (slt k)] al hi hr Q := by
  have hS := (hR.tf hO).2.1.sl hO k0 k1
  obtain ⟨⟨⟨t119, k9⟩, ⟨e9, K1, L1⟩, ⟨e10, K2, L2⟩, ⟨e11, K3, L3⟩, ⟨e12, K4, L4⟩, ⟨e13, K5, L5⟩, K6, L6⟩, ⟨⟨N, hNN, e1⟩, ⟨e7, e8⟩, h5, h6, c, e15, hH⟩, tH⟩ := hR.tf hO
  obtain ⟨⟨p0, p1⟩, ht, h89, ⟨a1, a16⟩, ⟨r0, r1⟩, h97, h56⟩ := id hO
  have hg16 := (h97 _ (by unfold ai; omega) (Int.le_refl _)).2
  have hg16 : hg s p ≤ 16 := hg16
  have sb := slt_b (k := k) ⟨k0, by omega⟩
  obtain ⟨a, ha, aa0, aa1, eai⟩ : ∃ a, s 94 p - 1 = a ∧ 0 ≤ a ∧ a < 16 ∧ 16 * p + a = ai s p := ⟨_, rfl, by omega, by omega, by unfold ai; omega⟩
  rw [ha] at e8 hS
  obtain ⟨z, hz⟩ : ∃ z, slt k = z := ⟨_, rfl⟩
  rw [hz] at sb hS ⊢
  rw [e131]
  refine s131_0.mpr ?_
  refine s131_1.mpr (wif (fun c1 => ?_) (fun c1 => ?_))
  · first
    | (exfalso; omega)
    | skip
      exfalso; omega
  · first
    | (exfalso; omega)
    | skip
      refine s131_4.mpr (s131_5.mpr ?_)
      refine s131_7.mpr (wif (fun c7 => ?_) (fun c7 => ?_))
      · first
        | (exfalso; omega)
        | skip
          refine s131_14.mpr ?_
          refine (s131_15 (by first | decide | assumption | omega)).mpr ?_
          refine s131_18.mpr ?_
          try simp (disch := first | decide | assumption | omega) only [e13, e8, fMul_id, fAdd_id, Int.mul_comm a 26, hS.2]
          refine (s131_19 (by first | decide | assumption | omega)).mpr ?_
          refine s131_22.mpr (s131_24.mpr (s131_25.mpr (s131_26.mpr ?_)))
          try simp (disch := first | decide | assumption | omega) only [e13, e8, fMul_id, fAdd_id, Int.mul_comm a 26, hS.2]
          refine (s131_27 (by first | decide | assumption | omega) (by first | decide | assumption | omega) (by first | decide | assumption | omega)).mpr ?_
          try simp (disch := first | decide | assumption | omega) only [e13, e8, fMul_id, fAdd_id, Int.mul_comm a 26, hS.2]
          refine (s131_28).mpr ?_
          exact q
      · first
        | (exfalso; omega)
        | skip
          exfalso; omega
theorem slt_s {k : Int} (h : 0 ≤ k) : slt (10 + k) = k := by unfold slt; rw [if_neg (by omega)]; omega
theorem slt_l {k : Int} (h : k < 10) : slt k = 16 + k := if_pos h
theorem t_highest (hR : RelC T NN al0 hi0 hr0 E A al hi hr s) (hO : OnP hr s p t) (hd : 1 ≤ d) (h1 : 1 ≤ hg s p) (q : Q (some (some (vI (vm A p (tv s p 0) (ts s p 0))))) al hi hr) : Ev d 132 [vR (some t)] al hi hr Q := by
  obtain ⟨⟨⟨t119, k9⟩, ⟨e9, K1, L1⟩, ⟨e10, K2, L2⟩, ⟨e11, K3, L3⟩, ⟨e12, K4, L4⟩, ⟨e13, K5, L5⟩, K6, L6⟩, ⟨⟨N, hNN, e1⟩, ⟨e7, e8⟩, h5, h6, c, e15, hH⟩, tH⟩ := hR.tf hO
  obtain ⟨⟨p0, p1⟩, ht, h89, ⟨a1, a16⟩, ⟨r0, r1⟩, h97, h56⟩ := id hO
  have hg16 := (h97 _ (by unfold ai; omega) (Int.le_refl _)).2
  have hg16 : hg s p ≤ 16 := hg16
  obtain ⟨a, ha, aa0, aa1, eai⟩ : ∃ a, s 94 p - 1 = a ∧ 0 ≤ a ∧ a < 16 ∧ 16 * p + a = ai s p := ⟨_, rfl, by omega, by omega, by unfold ai; omega⟩
  obtain ⟨w5, w6, w7⟩ := h5 a aa0 (by omega)
  rw [ha] at e8; rw [eai] at w5 w6 w7
  have w7 : hi (t + 3) a = hg s p := w7
  have es : hg s p - 1 = slt (10 + (hg s p - 1)) := (slt_s (by omega)).symm
  have e9' : 26 * ai s p + (10 + (hg s p - 1)) = sk s p (hg s p - 1 - 0) := by unfold sk; omega
  rw [e132]
  refine s132_0.mpr (s132_1.mpr ?_)
  refine (s132_2 (by first | decide | assumption | omega)).mpr ?_
  refine s132_5.mpr ?_
  try simp (disch := first | decide | assumption | omega) only [e11, e8, w7, fSub_id]
  refine (s132_6 (by first | decide | assumption | omega)).mpr ?_
  try simp (disch := first | decide | assumption | omega) only [e11, e8, w7, fSub_id]
  refine (s132_9 (by first | decide | assumption | omega) (by first | decide | assumption | omega) (by first | decide | assumption | omega)).mpr ?_
  refine s132_10.mpr (s132_11.mpr ?_)
  try simp (disch := first | decide | assumption | omega) only [e11, e8, w7, fSub_id]
  refine (s132_12 (by first | decide | assumption | omega) (by first | decide | assumption | omega)).mpr ?_
  rw [es]
  refine t_numberIn hR hO (by omega) (by omega) ?_
  try simp only [kon, knt_some, knt_none, Option.toList_some, Option.toList_none, List.cons_append, List.nil_append, e9']
  refine (s132_15).mpr ?_
  exact q
/-- the stack, and the object -/
theorem OnP.mono (h : OnP hr s p t) (e89 : s' 89 p = s 89 p) (e94 : s' 94 p = s 94 p) (e92 : s' 92 p = s 92 p) (e56 : s' 49 56 = s 49 56) (h97 : ∀ x, 16 * p ≤ x → x ≤ ai s p → 0 ≤ s' 97 x ∧ s' 97 x ≤ 16) : OnP hr s' p t := by
  obtain ⟨a1, a2, a3, a4, a5, a6, a7⟩ := h
  exact ⟨a1, a2, by rw [e89]; exact a3, by rw [e94]; exact a4, by rw [e92]; exact a5, fun x x0 x1 => h97 x x0 (by rw [← ai_eq e94]; exact x1), by rw [e56]; exact a7⟩
theorem AllP.mono (h : AllP s) (e : ∀ a i, ¬ (ownC p a i ∧ 94 ≤ a) → s' a i = s a i) (p0 : 0 ≤ p ∧ p < 12) (hp : s 89 p < 4 → (1 ≤ s' 94 p ∧ s' 94 p ≤ 16) ∧ ∀ x, 16 * p ≤ x → x ≤ ai s' p → 0 ≤ s' 97 x ∧ s' 97 x ≤ 16) : AllP s' := fun q q0 q1 q2 => by
  have lo : ∀ a, a < 94 → s' a q = s a q := fun a z => e _ _ (by omega)
  rw [lo 89 (by decide)] at q2
  obtain ⟨y1, y2, y3, y4⟩ := h q q0 q1 q2
  have e56 : s' 49 56 = s 49 56 := e _ _ (by omega)
  rw [lo 92 (by decide), e56]
  by_cases c : q = p
  · subst c; exact ⟨(hp q2).1, y2, (hp q2).2, y4⟩
  · have e94 : s' 94 q = s 94 q := e _ _ (by unfold ownC; omega)
    rw [e94, ai_eq e94]
    exact ⟨y1, y2, fun x x0 x1 => by rw [e _ _ (by unfold ownC; unfold ai at x1; omega)]; exact y3 x x0 x1, y4⟩
end CT0
