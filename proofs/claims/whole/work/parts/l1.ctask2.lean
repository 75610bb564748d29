/-! RUNNING, the class: push, pop, a local, the place -/
section CT1
variable {d : Nat} {Q : QQ} {T : TXs} {al al' : AL} {hi hi' : HI} {hr hr' : HR} {s s' : HI} {A A' : Int → Int → Int} {NN : Int → Option Nat} {E : Int → Prop} {p q m f v w x : Int} {B : Int → Int} {X Y : Tst} {t t' N : Nat} {al0 : AL} {hi0 : HI} {hr0 : HR}
theorem RelC.tp (hR : RelC T NN al0 hi0 hr0 E A al hi hr s) (hO : OnP hr s p t) (hP : AllP s) (hT : tpl p s s') (hw : ∀ (b : Nat) (i : Int), ¬ (b = t ∧ i = 14) → ¬ ((b = t + 2 ∨ b = t + 3) ∧ i = s 94 p - 1) → ¬ ((b = t + 4 ∨ b = t + 5) ∧ 26 * (s 94 p - 1) ≤ i ∧ i < 26 * (s 94 p - 1) + 26) → hi' b i = hi b i) (h96 : hi' (t + 2) (s 94 p - 1) = s' 96 (ai s p)) (h97' : hi' (t + 3) (s 94 p - 1) = s' 97 (ai s p)) (hb : 0 ≤ s' 97 (ai s p) ∧ s' 97 (ai s p) ≤ 16) (hsl : ∀ k, 0 ≤ k → k < 10 + s' 97 (ai s p) → hi' (t + 4) (26 * (s 94 p - 1) + slt k) = kmp (s' 99 (26 * ai s p + k)) ∧ hi' (t + 5) (26 * (s 94 p - 1) + slt k) = vm A p (s' 98 (26 * ai s p + k)) (s' 99 (26 * ai s p + k))) (hrt : ∀ k, 0 ≤ k → k < 10 + s' 97 (ai s p) → s' 99 (26 * ai s p + k) = 1 → s' 98 (26 * ai s p + k) ≠ 0 → A p (s' 98 (26 * ai s p + k)) ≠ 0) : RelC T NN al0 hi0 hr0 E A al hi' hr s' ∧ OnP hr s' p t ∧ AllP s' := by
  obtain ⟨⟨⟨t119, k9⟩, ⟨e9, K1, L1⟩, ⟨e10, K2, L2⟩, ⟨e11, K3, L3⟩, ⟨e12, K4, L4⟩, ⟨e13, K5, L5⟩, K6, L6⟩, ⟨⟨N, hNN, e1⟩, ⟨e7, e8⟩, h5, h6, c, e15, hH⟩, tH⟩ := hR.tf hO
  obtain ⟨⟨p0, p1⟩, ht, h89, ⟨a1, a16⟩, ⟨r0, r1⟩, h97, h56⟩ := id hO
  have b4 := hR.2.2.2.2.1
  have ea : ai s' p = ai s p := ai_eq (hT.e (by decide))
  have e94 : s' 94 p = s 94 p := hT.e (by decide)
  have eai : ∀ a, a = s 94 p - 1 → 16 * p + a = ai s p := fun a z => by unfold ai; omega
  have n97 : ∀ x, 16 * p ≤ x → x ≤ ai s p → x ≠ ai s p → s' 97 x = s 97 x := fun x _ _ z => hT _ _ (by omega)
  have H97 : ∀ x, 16 * p ≤ x → x ≤ ai s p → 0 ≤ s' 97 x ∧ s' 97 x ≤ 16 := fun x x0 x1 => by
    by_cases z : x = ai s p
    · subst z; exact hb
    · rw [n97 x x0 x1 z]; exact h97 x x0 x1
  have eo : ∀ b i, ¬ (ownC p b i ∧ 94 ≤ b) → s' b i = s b i := fun b i z => hT b i (fun y => z (by unfold ownC; unfold ai at y; omega))
  refine ⟨hR.tsk hP ⟨p0, p1⟩ ht (fun b i z _ => hw b i (by omega) (by omega) (by omega)) (fun i z => hw t i (by omega) (by omega) (by omega)) eo (fun _ => ?_), hO.mono (hT.e (by decide)) e94 (hT.e (by decide)) (hT.e (by decide)) H97, hP.mono eo ⟨p0, p1⟩ (fun _ => ⟨by rw [e94]; exact ⟨a1, a16⟩, fun x x0 x1 => H97 x x0 (by rw [← ea]; exact x1)⟩)⟩
  refine ⟨⟨N, by rw [hT.e (by decide)]; exact hNN, e1⟩, by rw [e94, hw t 7 (by omega) (by omega) (by omega), hw t 8 (by omega) (by omega) (by omega)]; exact ⟨e7, e8⟩, fun a z0 z1 => ?_, fun a k z0 z1 k0 k1 => ?_, c, e15, ?_⟩
  · rw [e94] at z1
    obtain ⟨w5, w6, w7⟩ := h5 a z0 z1
    rw [hw (t + 1) a (by omega) (by omega) (by omega), hT.e (a := 95) (by decide)]
    by_cases z : a = s 94 p - 1
    · rw [eai a z, z]
      rw [eai a z, z] at w5
      exact ⟨w5, h96, h97'⟩
    · rw [hw (t + 2) a (by omega) (by omega) (by omega), hw (t + 3) a (by omega) (by omega) (by omega), hT 96 _ (by unfold ai; omega), hT 97 _ (by unfold ai; omega)]
      exact ⟨w5, w6, w7⟩
  · rw [e94] at z1
    by_cases z : a = s 94 p - 1
    · rw [eai a z, z]
      rw [eai a z] at k1
      exact hsl k k0 k1
    · have hn : 16 * p + a ≠ ai s p := by unfold ai; omega
      have hle : 16 * p + a ≤ ai s p := by unfold ai; omega
      rw [n97 _ (by omega) hle hn] at k1
      have h16 := h97 (16 * p + a) (by omega) hle
      have sb := slt_b (k := k) ⟨k0, by omega⟩
      rw [hw (t + 4) _ (by omega) (by omega) (by omega), hw (t + 5) _ (by omega) (by omega) (by omega), hT 98 _ (by unfold ai; omega), hT 99 _ (by unfold ai; omega)]
      exact h6 a k z0 z1 k0 k1
  · obtain ⟨-, c', c1', c2', -⟩ := b4.1 p t p0 p1 ht
    rw [e15] at c1'; cases c1'
    have hcn := b4.c c2' p0 p1 ht
    rw [hw t 16 (by omega) (by omega) (by omega)]
    refine hH.fr (fun i => hw c i (by omega) (by omega) (by omega)) (hT.e (by decide)) (fun b b0 b1 => ⟨hT.e (by decide), hT.e (by decide)⟩) (fun b i _ _ _ => ⟨hT.e (by decide), hT.e (by decide)⟩) (fun i hi => ?_)
    obtain ⟨x, k, y1, y2, y3, y4, rfl⟩ := hi
    rw [ea] at y2
    by_cases z : x = ai s p
    · subst z; exact hrt k y3 y4
    · rw [n97 x y1 y2 z] at y4
      have h16 := h97 x y1 y2
      rw [hT 98 _ (by unfold ai at y2 z ⊢; omega), hT 99 _ (by unfold ai at y2 z ⊢; omega)]
      exact hH.2.2.2 _ ⟨x, k, y1, y2, y3, y4, rfl⟩
/-- what is there is in the map -/
theorem RelC.rt (hR : RelC T NN al0 hi0 hr0 E A al hi hr s) (hO : OnP hr s p t) {k : Int} (k0 : 0 ≤ k) (k1 : k < 10 + hg s p) (z : s 99 (26 * ai s p + k) = 1) (z2 : s 98 (26 * ai s p + k) ≠ 0) : A p (s 98 (26 * ai s p + k)) ≠ 0 := by
  obtain ⟨⟨⟨t119, k9⟩, ⟨e9, K1, L1⟩, ⟨e10, K2, L2⟩, ⟨e11, K3, L3⟩, ⟨e12, K4, L4⟩, ⟨e13, K5, L5⟩, K6, L6⟩, ⟨⟨N, hNN, e1⟩, ⟨e7, e8⟩, h5, h6, c, e15, hH⟩, tH⟩ := hR.tf hO
  obtain ⟨⟨p0, p1⟩, ht, h89, ⟨a1, a16⟩, ⟨r0, r1⟩, h97, h56⟩ := id hO
  exact hH.2.2.2 _ ⟨ai s p, k, by unfold ai; omega, Int.le_refl _, k0, k1, rfl⟩ z z2
theorem RelC.rtv (hR : RelC T NN al0 hi0 hr0 E A al hi hr s) (hO : OnP hr s p t) {k : Int} (k0 : 0 ≤ k) (k1 : k < hg s p) (z : ts s p k = 1) (z2 : tv s p k ≠ 0) : A p (tv s p k) ≠ 0 := by
  have e : sk s p (hg s p - 1 - k) = 26 * ai s p + (10 + (hg s p - 1 - k)) := by unfold sk; omega
  unfold ts at z; unfold tv at z2 ⊢
  rw [e] at z z2 ⊢
  exact hR.rt hO (by omega) (by omega) z z2
theorem t_push (hR : RelC T NN al0 hi0 hr0 E A al hi hr s) (hO : OnP hr s p t) (hP : AllP s) (h0 : 0 ≤ hg s p ∧ hg s p < 16) (hr9 : w = 1 → v ≠ 0 → A p v ≠ 0) (q : ∀ hi', RelC T NN al0 hi0 hr0 E A al hi' hr (psh s p v w) → OnP hr (psh s p v w) p t → AllP (psh s p v w) → hi' t 14 = hi t 14 → Q (some none) al hi' hr) : Ev d 127 [vR (some t), vI (kmp w), vI (vm A p v w)] al hi hr Q := by
  have hS := fun k k0 k1 => (hR.tf hO).2.1.sl hO (k := k) k0 k1
  have hRt := fun k k0 k1 => hR.rt hO (k := k) k0 k1
  obtain ⟨⟨⟨t119, k9⟩, ⟨e9, K1, L1⟩, ⟨e10, K2, L2⟩, ⟨e11, K3, L3⟩, ⟨e12, K4, L4⟩, ⟨e13, K5, L5⟩, K6, L6⟩, ⟨⟨N, hNN, e1⟩, ⟨e7, e8⟩, h5, h6, c, e15, hH⟩, tH⟩ := hR.tf hO
  obtain ⟨⟨p0, p1⟩, ht, h89, ⟨a1, a16⟩, ⟨r0, r1⟩, h97, h56⟩ := id hO
  have RR := hR.tp (hi' := upI (upI (upI hi (t + 4) (26 * (s 94 p - 1) + hg s p) (kmp w)) (t + 5) (26 * (s 94 p - 1) + hg s p) (vm A p v w)) (t + 3) (s 94 p - 1) (hg s p + 1)) hO hP (psh_tp (v := v) (w := w) h0)
  obtain ⟨a, ha, aa0, aa1, eai⟩ : ∃ a, s 94 p - 1 = a ∧ 0 ≤ a ∧ a < 16 ∧ 16 * p + a = ai s p := ⟨_, rfl, by omega, by omega, by unfold ai; omega⟩
  obtain ⟨w5, w6, w7⟩ := h5 a aa0 (by omega)
  rw [ha] at e8; rw [eai] at w5 w6 w7
  have w7 : hi (t + 3) a = hg s p := w7
  rw [ha] at hS RR
  obtain ⟨h, hh⟩ : ∃ h, hg s p = h := ⟨_, rfl⟩
  rw [hh] at h0 w7 hS hRt RR
  obtain ⟨k', hk'⟩ : ∃ k', kmp w = k' := ⟨_, rfl⟩
  obtain ⟨x', hx'⟩ : ∃ x', vm A p v w = x' := ⟨_, rfl⟩
  rw [hk', hx'] at RR ⊢
  have i0 : 26 * ai s p + (10 + h) = sk s p (hg s p) := by unfold sk; omega
  have R := RR (fun b i z1 z2 z3 => by unfold upI; rw [if_neg (by omega), if_neg (by omega), if_neg (by omega)]) (by rw [upI_a (by omega), upI_a (by omega), upI_a (by omega), w6, psh_96]) (by rw [upI_eq, psh_97, hh]) (by rw [psh_97, hh]; omega) (fun k k0 k1 => by
    rw [psh_97, hh] at k1
    rw [upI_a (by omega), upI_a (b := t + 5) (by omega), psh_98, psh_99]
    by_cases z : k = 10 + h
    · subst z
      rw [slt_s (by omega), i0, if_pos rfl, if_pos rfl, upI_a (by omega), upI_eq, upI_eq, hk', hx']
      exact ⟨rfl, rfl⟩
    · have hz : 26 * ai s p + k ≠ sk s p (hg s p) := by rw [← i0]; omega
      have sn : slt k ≠ h := by unfold slt; split <;> omega
      rw [if_neg hz, if_neg hz, upI_a (by omega), upI_i (by omega), upI_i (by omega), upI_a (by omega)]
      exact hS k k0 (by omega)) (fun k k0 k1 => by
    rw [psh_97, hh] at k1
    rw [psh_98, psh_99]
    by_cases z : k = 10 + h
    · subst z; rw [i0, if_pos rfl, if_pos rfl]; exact hr9
    · have hz : 26 * ai s p + k ≠ sk s p (hg s p) := by rw [← i0]; omega
      rw [if_neg hz, if_neg hz]; exact hRt k k0 (by omega))
  have E := q _ R.1 R.2.1 R.2.2 (by rw [upI_a (by omega), upI_a (by omega), upI_a (by omega)])
  rw [e127]
  refine s127_0.mpr ?_
  refine (s127_1 (by first | decide | assumption | omega)).mpr ?_
  refine s127_4.mpr ?_
  try simp (disch := first | decide | assumption | omega) only [upI_a, e11, e12, e13, e8, w7, fMul_id, fAdd_id, Int.mul_comm a 26]
  refine (s127_5 (by first | decide | assumption | omega)).mpr ?_
  try simp (disch := first | decide | assumption | omega) only [upI_a, e11, e12, e13, e8, w7, fMul_id, fAdd_id, Int.mul_comm a 26]
  refine (s127_8 (by first | decide | assumption | omega) (by first | decide | assumption | omega) (by first | decide | assumption | omega)).mpr ?_
  refine s127_9.mpr (s127_10.mpr ?_)
  try simp (disch := first | decide | assumption | omega) only [upI_a, e11, e12, e13, e8, w7, fMul_id, fAdd_id, Int.mul_comm a 26]
  refine s127_11.mpr (wif (fun c11 => ?_) (fun c11 => ?_))
  · first
    | (exfalso; omega)
    | skip
      first | (refine s127_62.mpr ?_; exact E) | (exfalso; omega)
  · first
    | (exfalso; omega)
    | skip
      refine s127_14.mpr (s127_15.mpr ?_)
      refine s127_17.mpr (wif (fun c17 => ?_) (fun c17 => ?_))
      · first
        | (exfalso; omega)
        | skip
          refine s127_20.mpr ?_
          refine (s127_21 (by first | decide | assumption | omega)).mpr ?_
          refine s127_24.mpr ?_
          try simp (disch := first | decide | assumption | omega) only [upI_a, e11, e12, e13, e8, w7, fMul_id, fAdd_id, Int.mul_comm a 26]
          refine (s127_25 (by first | decide | assumption | omega)).mpr ?_
          refine s127_28.mpr (s127_30.mpr (s127_31.mpr (s127_32.mpr (s127_33.mpr ?_))))
          try simp (disch := first | decide | assumption | omega) only [upI_a, e11, e12, e13, e8, w7, fMul_id, fAdd_id, Int.mul_comm a 26]
          refine (s127_34 (by first | decide | assumption | omega) (by first | decide | assumption | omega) (by first | decide | assumption | omega)).mpr ?_
          refine s127_35.mpr ?_
          try simp (disch := first | decide | assumption | omega) only [upI_a, e11, e12, e13, e8, w7, fMul_id, fAdd_id, Int.mul_comm a 26]
          refine (s127_36 (by first | decide | assumption | omega)).mpr ?_
          refine s127_39.mpr ?_
          try simp (disch := first | decide | assumption | omega) only [upI_a, e11, e12, e13, e8, w7, fMul_id, fAdd_id, Int.mul_comm a 26]
          refine (s127_40 (by first | decide | assumption | omega)).mpr ?_
          refine s127_43.mpr (s127_45.mpr (s127_46.mpr (s127_47.mpr (s127_48.mpr ?_))))
          try simp (disch := first | decide | assumption | omega) only [upI_a, e11, e12, e13, e8, w7, fMul_id, fAdd_id, Int.mul_comm a 26]
          refine (s127_49 (by first | decide | assumption | omega) (by first | decide | assumption | omega) (by first | decide | assumption | omega)).mpr ?_
          refine s127_50.mpr ?_
          try simp (disch := first | decide | assumption | omega) only [upI_a, e11, e12, e13, e8, w7, fMul_id, fAdd_id, Int.mul_comm a 26]
          refine (s127_51 (by first | decide | assumption | omega)).mpr ?_
          refine s127_54.mpr ?_
          try simp (disch := first | decide | assumption | omega) only [upI_a, e11, e12, e13, e8, w7, fMul_id, fAdd_id, Int.mul_comm a 26]
          refine (s127_55 (by first | decide | assumption | omega)).mpr ?_
          refine s127_58.mpr (s127_59.mpr (s127_60.mpr ?_))
          try simp (disch := first | decide | assumption | omega) only [upI_a, e11, e12, e13, e8, w7, fMul_id, fAdd_id, Int.mul_comm a 26]
          refine (s127_61 (by first | decide | assumption | omega) (by first | decide | assumption | omega) (by first | decide | assumption | omega)).mpr ?_
          try simp (disch := first | decide | assumption | omega) only [upI_a, e11, e12, e13, e8, w7, fMul_id, fAdd_id, Int.mul_comm a 26]
          first | (refine s127_62.mpr ?_; exact E) | (exfalso; omega)
      · first
        | (exfalso; omega)
        | skip
          first | (refine s127_62.mpr ?_; exact E) | (exfalso; omega)
theorem TkL.ge {b i : Int} {a : Nat} (h : ¬ (a = t ∧ i = 14)) : upI hi t 14 b a i = hi a i := if_neg h
theorem t_pop (hR : RelC T NN al0 hi0 hr0 E A al hi hr s) (hO : OnP hr s p t) (hP : AllP s) (h1 : 1 ≤ hg s p) (q : ∀ hi', RelC T NN al0 hi0 hr0 E A al hi' hr (pp s p 1) → OnP hr (pp s p 1) p t → AllP (pp s p 1) → hi' t 14 = kmp (ts s p 0) → Q (some (some (vI (vm A p (tv s p 0) (ts s p 0))))) al hi' hr) : Ev d 128 [vR (some t)] al hi hr Q := by
  have hS := fun k k0 k1 => (hR.tf hO).2.1.sl hO (k := k) k0 k1
  have hRt := fun k k0 k1 => hR.rt hO (k := k) k0 k1
  obtain ⟨⟨⟨t119, k9⟩, ⟨e9, K1, L1⟩, ⟨e10, K2, L2⟩, ⟨e11, K3, L3⟩, ⟨e12, K4, L4⟩, ⟨e13, K5, L5⟩, K6, L6⟩, ⟨⟨N, hNN, e1⟩, ⟨e7, e8⟩, h5, h6, c, e15, hH⟩, tH⟩ := hR.tf hO
  obtain ⟨⟨p0, p1⟩, ht, h89, ⟨a1, a16⟩, ⟨r0, r1⟩, h97, h56⟩ := id hO
  have hg16 := (h97 _ (by unfold ai; omega) (Int.le_refl _)).2
  have hg16 : hg s p ≤ 16 := hg16
  have RR := hR.tp (hi' := upI (upI hi (t + 3) (s 94 p - 1) (hg s p - 1)) t 14 (kmp (ts s p 0))) hO hP (pp_tp (n := 1))
  obtain ⟨a, ha, aa0, aa1, eai⟩ : ∃ a, s 94 p - 1 = a ∧ 0 ≤ a ∧ a < 16 ∧ 16 * p + a = ai s p := ⟨_, rfl, by omega, by omega, by unfold ai; omega⟩
  obtain ⟨w5, w6, w7⟩ := h5 a aa0 (by omega)
  rw [ha] at e8; rw [eai] at w5 w6 w7
  have w7 : hi (t + 3) a = hg s p := w7
  rw [ha] at hS RR
  obtain ⟨h, hh⟩ : ∃ h, hg s p = h := ⟨_, rfl⟩
  have i0 : 26 * ai s p + (10 + (h - 1)) = sk s p (hg s p - 1 - 0) := by unfold sk; omega
  have e97 : pp s p 1 97 (ai s p) = h - 1 := by unfold pp; rw [upI_eq, hh]
  rw [hh] at h1 hg16 w7 hS hRt RR
  have R := RR (fun b i z1 z2 z3 => by unfold upI; rw [if_neg (by omega), if_neg (by omega)]) (by rw [upI_a (by omega), upI_a (by omega), w6, pp_96]) (by rw [upI_a (by omega), upI_eq, e97]) (by rw [e97]; omega) (fun k k0 k1 => by
    rw [e97] at k1
    rw [upI_a (by omega), upI_a (by omega), upI_a (by omega), upI_a (by omega), pp_98, pp_99]
    exact hS k k0 (by omega)) (fun k k0 k1 => by
    rw [e97] at k1
    rw [pp_98, pp_99]; exact hRt k k0 (by omega))
  have S := hS (10 + (h - 1)) (by omega) (by omega)
  rw [slt_s (by omega), i0] at S
  obtain ⟨S1, S2⟩ := S
  have S1 : hi (t + 4) (26 * a + (h - 1)) = kmp (ts s p 0) := S1
  have S2 : hi (t + 5) (26 * a + (h - 1)) = vm A p (tv s p 0) (ts s p 0) := S2
  have E := q _ R.1 R.2.1 R.2.2 upI_eq
  have u4 : upI hi (t + 3) a (h - 1) (t + 4) (26 * a + (h - 1)) = kmp (ts s p 0) := by rw [upI_a (by omega)]; exact S1
  have u5 : ∀ y, upI (upI hi (t + 3) a (h - 1)) t 14 y (t + 5) (26 * a + (h - 1)) = vm A p (tv s p 0) (ts s p 0) := fun y => by rw [upI_a (by omega), upI_a (by omega)]; exact S2
  have u8 : upI hi (t + 3) a (h - 1) t 8 = a := by rw [upI_a (by omega)]; exact e8
  have u8' : ∀ y, upI (upI hi (t + 3) a (h - 1)) t 14 y t 8 = a := fun y => by rw [upI_i (by decide)]; exact u8
  rw [e128]
  refine s128_0.mpr ?_
  refine (s128_1 (by first | decide | assumption | omega)).mpr ?_
  refine s128_4.mpr ?_
  try simp (disch := first | decide | assumption | omega) only [e11, e12, e13, e8, u8, u8', w7, fMul_id, fAdd_id, fSub_id, Int.mul_comm a 26, u4, u5]
  refine (s128_5 (by first | decide | assumption | omega)).mpr ?_
  try simp (disch := first | decide | assumption | omega) only [e11, e12, e13, e8, u8, u8', w7, fMul_id, fAdd_id, fSub_id, Int.mul_comm a 26, u4, u5]
  refine (s128_8 (by first | decide | assumption | omega) (by first | decide | assumption | omega) (by first | decide | assumption | omega)).mpr ?_
  refine s128_9.mpr (s128_10.mpr (s128_11.mpr (s128_12.mpr ?_)))
  try simp (disch := first | decide | assumption | omega) only [e11, e12, e13, e8, u8, u8', w7, fMul_id, fAdd_id, fSub_id, Int.mul_comm a 26, u4, u5]
  refine s128_13.mpr (wif (fun c13 => ?_) (fun c13 => ?_))
  · first
    | (exfalso; omega)
    | skip
      exfalso; omega
  · first
    | (exfalso; omega)
    | skip
      refine s128_24.mpr ?_
      refine (s128_25 (by first | decide | assumption | omega)).mpr ?_
      refine s128_28.mpr ?_
      try simp (disch := first | decide | assumption | omega) only [e11, e12, e13, e8, u8, u8', w7, fMul_id, fAdd_id, fSub_id, Int.mul_comm a 26, u4, u5]
      refine (s128_29 (by first | decide | assumption | omega)).mpr ?_
      refine s128_32.mpr ?_
      try simp (disch := first | decide | assumption | omega) only [e11, e12, e13, e8, u8, u8', w7, fMul_id, fAdd_id, fSub_id, Int.mul_comm a 26, u4, u5]
      refine (s128_33 (by first | decide | assumption | omega) (by first | decide | assumption | omega) (by first | decide | assumption | omega)).mpr ?_
      refine s128_34.mpr (s128_35.mpr ?_)
      try simp (disch := first | decide | assumption | omega) only [e11, e12, e13, e8, u8, u8', w7, fMul_id, fAdd_id, fSub_id, Int.mul_comm a 26, u4, u5]
      refine (s128_36 (by first | decide | assumption | omega)).mpr ?_
      refine s128_39.mpr ?_
      try simp (disch := first | decide | assumption | omega) only [e11, e12, e13, e8, u8, u8', w7, fMul_id, fAdd_id, fSub_id, Int.mul_comm a 26, u4, u5]
      refine (s128_40 (by first | decide | assumption | omega)).mpr ?_
      refine s128_43.mpr (s128_45.mpr (s128_46.mpr (s128_47.mpr ?_)))
      try simp (disch := first | decide | assumption | omega) only [e11, e12, e13, e8, u8, u8', w7, fMul_id, fAdd_id, fSub_id, Int.mul_comm a 26, u4, u5]
      refine (s128_48 (by first | decide | assumption | omega) (by first | decide | assumption | omega) (by first | decide | assumption | omega)).mpr ?_
      try simp (disch := first | decide | assumption | omega) only [e11, e12, e13, e8, u8, u8', w7, fMul_id, fAdd_id, fSub_id, Int.mul_comm a 26, u4, u5]
      refine (s128_49 (by first | decide | assumption | omega)).mpr ?_
      refine s128_52.mpr ?_
      try simp (disch := first | decide | assumption | omega) only [e11, e12, e13, e8, u8, u8', w7, fMul_id, fAdd_id, fSub_id, Int.mul_comm a 26, u4, u5]
      refine (s128_53 (by first | decide | assumption | omega)).mpr ?_
      refine s128_56.mpr ?_
      try simp (disch := first | decide | assumption | omega) only [e11, e12, e13, e8, u8, u8', w7, fMul_id, fAdd_id, fSub_id, Int.mul_comm a 26, u4, u5]
      refine (s128_57 (by first | decide | assumption | omega)).mpr ?_
      refine s128_60.mpr (s128_62.mpr (s128_63.mpr (s128_64.mpr ?_)))
      try simp (disch := first | decide | assumption | omega) only [e11, e12, e13, e8, u8, u8', w7, fMul_id, fAdd_id, fSub_id, Int.mul_comm a 26, u4, u5]
      refine (s128_65 (by first | decide | assumption | omega) (by first | decide | assumption | omega) (by first | decide | assumption | omega)).mpr ?_
      try simp (disch := first | decide | assumption | omega) only [e11, e12, e13, e8, u8, u8', w7, fMul_id, fAdd_id, fSub_id, Int.mul_comm a 26, u4, u5]
      refine (s128_66).mpr ?_
      exact E
theorem t_setLocal {l : Int} (hR : RelC T NN al0 hi0 hr0 E A al hi hr s) (hO : OnP hr s p t) (hP : AllP s) (l0 : 0 ≤ l ∧ l < 10) (hr9 : w = 1 → v ≠ 0 → A p v ≠ 0) (q : ∀ hi', RelC T NN al0 hi0 hr0 E A al hi' hr (st2 s (26 * ai s p + l) v w) → OnP hr (st2 s (26 * ai s p + l) v w) p t → AllP (st2 s (26 * ai s p + l) v w) → hi' t 14 = hi t 14 → Q (some none) al hi' hr) : Ev d 129 [vR (some t), vI l, vI (kmp w), vI (vm A p v w)] al hi hr Q := by
  have hS := fun k k0 k1 => (hR.tf hO).2.1.sl hO (k := k) k0 k1
  have hRt := fun k k0 k1 => hR.rt hO (k := k) k0 k1
  obtain ⟨⟨⟨t119, k9⟩, ⟨e9, K1, L1⟩, ⟨e10, K2, L2⟩, ⟨e11, K3, L3⟩, ⟨e12, K4, L4⟩, ⟨e13, K5, L5⟩, K6, L6⟩, ⟨⟨N, hNN, e1⟩, ⟨e7, e8⟩, h5, h6, c, e15, hH⟩, tH⟩ := hR.tf hO
  obtain ⟨⟨p0, p1⟩, ht, h89, ⟨a1, a16⟩, ⟨r0, r1⟩, h97, h56⟩ := id hO
  have hg16 := (h97 _ (by unfold ai; omega) (Int.le_refl _))
  have hg16 : 0 ≤ hg s p ∧ hg s p ≤ 16 := hg16
  have RR := hR.tp (hi' := upI (upI hi (t + 4) (26 * (s 94 p - 1) + 16 + l) (kmp w)) (t + 5) (26 * (s 94 p - 1) + 16 + l) (vm A p v w)) hO hP (st2_tp (i := 26 * ai s p + l) (v := v) (w := w) (by omega))
  obtain ⟨a, ha, aa0, aa1, eai⟩ : ∃ a, s 94 p - 1 = a ∧ 0 ≤ a ∧ a < 16 ∧ 16 * p + a = ai s p := ⟨_, rfl, by omega, by omega, by unfold ai; omega⟩
  obtain ⟨w5, w6, w7⟩ := h5 a aa0 (by omega)
  rw [ha] at e8; rw [eai] at w5 w6 w7
  have w7 : hi (t + 3) a = hg s p := w7
  rw [ha] at hS RR
  obtain ⟨h, hh⟩ : ∃ h, hg s p = h := ⟨_, rfl⟩
  have e97 : st2 s (26 * ai s p + l) v w 97 (ai s p) = h := by rw [st2_n (by decide) (by decide)]; exact hh
  rw [hh] at hg16 w7 hS hRt
  obtain ⟨k', hk'⟩ : ∃ k', kmp w = k' := ⟨_, rfl⟩
  obtain ⟨x', hx'⟩ : ∃ x', vm A p v w = x' := ⟨_, rfl⟩
  rw [hk', hx'] at RR ⊢
  have R := RR (fun b i z1 z2 z3 => by unfold upI; rw [if_neg (by omega), if_neg (by omega)]) (by rw [upI_a (by omega), upI_a (by omega), w6, st2_n (by decide) (by decide)]) (by rw [upI_a (by omega), upI_a (by omega), w7, e97]) (by rw [e97]; omega) (fun k k0 k1 => by
    rw [e97] at k1
    rw [upI_a (b := t + 4) (by omega), st2_98, st2_99]
    by_cases z : k = l
    · subst z
      rw [slt_l l0.2, if_pos rfl, if_pos rfl, show 26 * a + (16 + k) = 26 * a + 16 + k by omega, upI_eq, upI_eq, hk', hx']
      exact ⟨rfl, rfl⟩
    · have sn : slt k ≠ 16 + l := by unfold slt; split <;> omega
      rw [if_neg (by omega), if_neg (by omega), upI_i (by omega), upI_i (by omega), upI_a (by omega)]
      exact hS k k0 (by omega)) (fun k k0 k1 => by
    rw [e97] at k1
    rw [st2_98, st2_99]
    by_cases z : k = l
    · subst z; rw [if_pos rfl, if_pos rfl]; exact hr9
    · rw [if_neg (by omega), if_neg (by omega)]; exact hRt k k0 (by omega))
  have E := q _ R.1 R.2.1 R.2.2 (by rw [upI_a (by omega), upI_a (by omega)])
  rw [e129]
  refine s129_0.mpr ?_
  refine s129_1.mpr (wif (fun c1 => ?_) (fun c1 => ?_))
  · first
    | (exfalso; omega)
    | skip
      first | (refine s129_46.mpr ?_; exact E) | (exfalso; omega)
  · first
    | (exfalso; omega)
    | skip
      refine s129_4.mpr (s129_5.mpr ?_)
      refine s129_7.mpr (wif (fun c7 => ?_) (fun c7 => ?_))
      · first
        | (exfalso; omega)
        | skip
          refine s129_10.mpr ?_
          refine (s129_11 (by first | decide | assumption | omega)).mpr ?_
          refine s129_14.mpr ?_
          try simp (disch := first | decide | assumption | omega) only [upI_a, e12, e13, e8, fMul_id, fAdd_id, Int.mul_comm a 26]
          refine (s129_15 (by first | decide | assumption | omega)).mpr ?_
          refine s129_18.mpr (s129_20.mpr (s129_21.mpr (s129_23.mpr (s129_24.mpr (s129_25.mpr ?_)))))
          refine s129_26.mpr ?_
          try simp (disch := first | decide | assumption | omega) only [upI_a, e12, e13, e8, fMul_id, fAdd_id, Int.mul_comm a 26]
          refine (s129_27 (by first | decide | assumption | omega) (by first | decide | assumption | omega) (by first | decide | assumption | omega)).mpr ?_
          refine s129_28.mpr ?_
          try simp (disch := first | decide | assumption | omega) only [upI_a, e12, e13, e8, fMul_id, fAdd_id, Int.mul_comm a 26]
          refine (s129_29 (by first | decide | assumption | omega)).mpr ?_
          refine s129_32.mpr ?_
          try simp (disch := first | decide | assumption | omega) only [upI_a, e12, e13, e8, fMul_id, fAdd_id, Int.mul_comm a 26]
          refine (s129_33 (by first | decide | assumption | omega)).mpr ?_
          refine s129_36.mpr (s129_38.mpr (s129_39.mpr (s129_41.mpr (s129_42.mpr (s129_43.mpr ?_)))))
          refine s129_44.mpr ?_
          try simp (disch := first | decide | assumption | omega) only [upI_a, e12, e13, e8, fMul_id, fAdd_id, Int.mul_comm a 26]
          refine (s129_45 (by first | decide | assumption | omega) (by first | decide | assumption | omega) (by first | decide | assumption | omega)).mpr ?_
          try simp (disch := first | decide | assumption | omega) only [upI_a, e12, e13, e8, fMul_id, fAdd_id, Int.mul_comm a 26]
          first | (refine s129_46.mpr ?_; exact E) | (exfalso; omega)
      · first
        | (exfalso; omega)
        | skip
          first | (refine s129_46.mpr ?_; exact E) | (exfalso; omega)
theorem t_goTo {y : Int} (hR : RelC T NN al0 hi0 hr0 E A al hi hr s) (hO : OnP hr s p t) (hP : AllP s) (q : ∀ hi', RelC T NN al0 hi0 hr0 E A al hi' hr (goS s p y) → OnP hr (goS s p y) p t → AllP (goS s p y) → hi' t 14 = hi t 14 → Q (some none) al hi' hr) : Ev d 124 [vR (some t), vI y] al hi hr Q := by
  have hS := fun k k0 k1 => (hR.tf hO).2.1.sl hO (k := k) k0 k1
  have hRt := fun k k0 k1 => hR.rt hO (k := k) k0 k1
  obtain ⟨⟨⟨t119, k9⟩, ⟨e9, K1, L1⟩, ⟨e10, K2, L2⟩, ⟨e11, K3, L3⟩, ⟨e12, K4, L4⟩, ⟨e13, K5, L5⟩, K6, L6⟩, ⟨⟨N, hNN, e1⟩, ⟨e7, e8⟩, h5, h6, c, e15, hH⟩, tH⟩ := hR.tf hO
  obtain ⟨⟨p0, p1⟩, ht, h89, ⟨a1, a16⟩, ⟨r0, r1⟩, h97, h56⟩ := id hO
  have hg16 := (h97 _ (by unfold ai; omega) (Int.le_refl _))
  have n : ∀ {b : Nat} {i : Int}, b ≠ 96 → goS s p y b i = s b i := fun z => goS_n z
  have RR := hR.tp (s' := goS s p y) (hi' := upI hi (t + 2) (s 94 p - 1) y) hO hP (fun b i z => by unfold goS upI; rw [if_neg (by omega)])
  obtain ⟨a, ha, aa0, aa1, eai⟩ : ∃ a, s 94 p - 1 = a ∧ 0 ≤ a ∧ a < 16 ∧ 16 * p + a = ai s p := ⟨_, rfl, by omega, by omega, by unfold ai; omega⟩
  obtain ⟨w5, w6, w7⟩ := h5 a aa0 (by omega)
  rw [ha] at e8; rw [eai] at w5 w6 w7
  rw [ha] at hS RR
  have R := RR (fun b i z1 z2 z3 => by unfold upI; rw [if_neg (by omega)]) (by rw [upI_eq]; unfold goS; rw [upI_eq]) (by rw [upI_a (by omega), w7, n (by decide)]) (by rw [n (by decide)]; exact hg16) (fun k k0 k1 => by
    rw [n (by decide)] at k1
    rw [upI_a (by omega), upI_a (by omega), n (by decide), n (by decide)]
    exact hS k k0 k1) (fun k k0 k1 => by
    rw [n (by decide)] at k1
    rw [n (by decide), n (by decide)]; exact hRt k k0 k1)
  have E := q _ R.1 R.2.1 R.2.2 (by rw [upI_a (by omega)])
  rw [e124]
  refine s124_0.mpr ?_
  refine (s124_1 (by first | decide | assumption | omega)).mpr ?_
  refine s124_4.mpr ?_
  try simp (disch := first | decide | assumption | omega) only [e10, e8]
  refine (s124_5 (by first | decide | assumption | omega)).mpr ?_
  refine s124_8.mpr ?_
  try simp (disch := first | decide | assumption | omega) only [e10, e8]
  refine (s124_9 (by first | decide | assumption | omega) (by first | decide | assumption | omega) (by first | decide | assumption | omega)).mpr ?_
  try simp (disch := first | decide | assumption | omega) only [e10, e8]
  refine (s124_10).mpr ?_
  exact E
end CT1
