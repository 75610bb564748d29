/-! RUNNING, the class: calls -/
section CM7
variable {d : Nat} {Q : QQ} {T : TXs} {al al' : AL} {hi hi' : HI} {hr hr' : HR} {s s' u sx sm : HI} {A A' : Int → Int → Int} {NN : Int → Option Nat} {E E' : Int → Prop} {p m f o q v w x y n k qx cv i r a P b fr : Int} {B : Int → Int} {X Y : Tst} {t t' N M c : Nat} {al0 : AL} {hi0 : HI} {hr0 : HR} {V W : Int → Int}
theorem t_popF (hR : RelC T NN al0 hi0 hr0 E A al hi hr s) (hO : OnP hr s p t) (hP : AllP s) (h1 : 1 ≤ hg s p) (q : ∀ hi', RelC T NN al0 hi0 hr0 E A al hi' hr (pp s p 1) → OnP hr (pp s p 1) p t → AllP (pp s p 1) → hi' t 14 = kmp (ts s p 0) → (∀ (b' : Nat) i, b' < t → hi' b' i = hi b' i) → Q (some (some (vI (vm A p (tv s p 0) (ts s p 0))))) al hi' hr) : Ev d 128 [vR (some t)] al hi hr Q := by
  have hS := fun k k0 k1 => (hR.tf hO).2.1.sl hO (k := k) k0 k1
  have hRt := fun k k0 k1 => hR.rt hO (k := k) k0 k1
  obtain ⟨⟨⟨t119, k9⟩, ⟨e9, K1, L1⟩, ⟨e10, K2, L2⟩, ⟨e11, K3, L3⟩, ⟨e12, K4, L4⟩, ⟨e13, K5, L5⟩, K6, L6⟩, ⟨⟨N, hNN, e1⟩, ⟨e7, e8⟩, h5, h6, c, e15, hH⟩, tH⟩ := hR.tf hO
  obtain ⟨⟨p0, p1⟩, ht, h89, ⟨a1, a16⟩, ⟨r0, r1⟩, h97, h56⟩ := id hO
  have hg16 := (h97 _ (by unfold ai; omega) (Int.le_refl _)).2
  have hg16 : hg s p ≤ 16 := hg16
  have RR := hR.tp (hi' := upI (upI hi (t + 3) (s 94 p - 1) (hg s p - 1)) t 14 (kmp (ts s p 0))) hO hP (pp_tp (n := 1))
  obtain ⟨a, ha, aa0, aa1, eai⟩ : ∃ a, s 94 p - 1 = a ∧ 0 ≤ a ∧ a < 16 ∧ 16 * p + a = ai s p := ⟨_, rfl, by omega, by omega, by unfold ai; omega⟩
  obtain ⟨w5, w6, w7⟩ := h5 a aa0 (by omega)
  rw [ha] at e8; rw [eai] at w5 w6 w7
  have w7 : hi (t + 3) a = hg s p := w7
  rw [ha] at hS RR
  obtain ⟨h, hh⟩ : ∃ h, hg s p = h := ⟨_, rfl⟩
  have i0 : 26 * ai s p + (10 + (h - 1)) = sk s p (hg s p - 1 - 0) := by unfold sk; omega
  have e97 : pp s p 1 97 (ai s p) = h - 1 := by unfold pp; rw [upI_eq, hh]
  rw [hh] at h1 hg16 w7 hS hRt RR
  have R := RR (fun b i z1 z2 z3 => by unfold upI; rw [if_neg (by omega), if_neg (by omega)]) (by rw [upI_a (by omega), upI_a (by omega), w6, pp_96]) (by rw [upI_a (by omega), upI_eq, e97]) (by rw [e97]; omega) (fun k k0 k1 => by
    rw [e97] at k1
    rw [upI_a (by omega), upI_a (by omega), upI_a (by omega), upI_a (by omega), pp_98, pp_99]
    exact hS k k0 (by omega)) (fun k k0 k1 => by
    rw [e97] at k1
    rw [pp_98, pp_99]; exact hRt k k0 (by omega))
  have S := hS (10 + (h - 1)) (by omega) (by omega)
  rw [slt_s (by omega), i0] at S
  obtain ⟨S1, S2⟩ := S
  have S1 : hi (t + 4) (26 * a + (h - 1)) = kmp (ts s p 0) := S1
  have S2 : hi (t + 5) (26 * a + (h - 1)) = vm A p (tv s p 0) (ts s p 0) := S2
  have E := q _ R.1 R.2.1 R.2.2 upI_eq (fun b' i z => by rw [upI_a (by omega), upI_a (by omega)])
  have u4 : upI hi (t + 3) a (h - 1) (t + 4) (26 * a + (h - 1)) = kmp (ts s p 0) := by rw [upI_a (by omega)]; exact S1
  have u5 : ∀ y, upI (upI hi (t + 3) a (h - 1)) t 14 y (t + 5) (26 * a + (h - 1)) = vm A p (tv s p 0) (ts s p 0) := fun y => by rw [upI_a (by omega), upI_a (by omega)]; exact S2
  have u8 : upI hi (t + 3) a (h - 1) t 8 = a := by rw [upI_a (by omega)]; exact e8
  have u8' : ∀ y, upI (upI hi (t + 3) a (h - 1)) t 14 y t 8 = a := fun y => by rw [upI_i (by decide)]; exact u8
  rw [e128]
  refine s128_0.mpr ?_
  refine (s128_1 (by first | decide | assumption | omega)).mpr ?_
  refine s128_4.mpr ?_
  try simp (disch := first | decide | assumption | omega) only [e11, e12, e13, e8, u8, u8', w7, fMul_id, fAdd_id, fSub_id, Int.mul_comm a 26, u4, u5]
  refine (s128_5 (by first | decide | assumption | omega)).mpr ?_
  try simp (disch := first | decide | assumption | omega) only [e11, e12, e13, e8, u8, u8', w7, fMul_id, fAdd_id, fSub_id, Int.mul_comm a 26, u4, u5]
  refine (s128_8 (by first | decide | assumption | omega) (by first | decide | assumption | omega) (by first | decide | assumption | omega)).mpr ?_
  refine s128_9.mpr (s128_10.mpr (s128_11.mpr (s128_12.mpr ?_)))
  try simp (disch := first | decide | assumption | omega) only [e11, e12, e13, e8, u8, u8', w7, fMul_id, fAdd_id, fSub_id, Int.mul_comm a 26, u4, u5]
  refine s128_13.mpr (wif (fun c13 => ?_) (fun c13 => ?_))
  · first
    | (exfalso; omega)
    | skip
      exfalso; omega
  · first
    | (exfalso; omega)
    | skip
      refine s128_24.mpr ?_
      refine (s128_25 (by first | decide | assumption | omega)).mpr ?_
      refine s128_28.mpr ?_
      try simp (disch := first | decide | assumption | omega) only [e11, e12, e13, e8, u8, u8', w7, fMul_id, fAdd_id, fSub_id, Int.mul_comm a 26, u4, u5]
      refine (s128_29 (by first | decide | assumption | omega)).mpr ?_
      refine s128_32.mpr ?_
      try simp (disch := first | decide | assumption | omega) only [e11, e12, e13, e8, u8, u8', w7, fMul_id, fAdd_id, fSub_id, Int.mul_comm a 26, u4, u5]
      refine (s128_33 (by first | decide | assumption | omega) (by first | decide | assumption | omega) (by first | decide | assumption | omega)).mpr ?_
      refine s128_34.mpr (s128_35.mpr ?_)
      try simp (disch := first | decide | assumption | omega) only [e11, e12, e13, e8, u8, u8', w7, fMul_id, fAdd_id, fSub_id, Int.mul_comm a 26, u4, u5]
      refine (s128_36 (by first | decide | assumption | omega)).mpr ?_
      refine s128_39.mpr ?_
      try simp (disch := first | decide | assumption | omega) only [e11, e12, e13, e8, u8, u8', w7, fMul_id, fAdd_id, fSub_id, Int.mul_comm a 26, u4, u5]
      refine (s128_40 (by first | decide | assumption | omega)).mpr ?_
      refine s128_43.mpr (s128_45.mpr (s128_46.mpr (s128_47.mpr ?_)))
      try simp (disch := first | decide | assumption | omega) only [e11, e12, e13, e8, u8, u8', w7, fMul_id, fAdd_id, fSub_id, Int.mul_comm a 26, u4, u5]
      refine (s128_48 (by first | decide | assumption | omega) (by first | decide | assumption | omega) (by first | decide | assumption | omega)).mpr ?_
      try simp (disch := first | decide | assumption | omega) only [e11, e12, e13, e8, u8, u8', w7, fMul_id, fAdd_id, fSub_id, Int.mul_comm a 26, u4, u5]
      refine (s128_49 (by first | decide | assumption | omega)).mpr ?_
      refine s128_52.mpr ?_
      try simp (disch := first | decide | assumption | omega) only [e11, e12, e13, e8, u8, u8', w7, fMul_id, fAdd_id, fSub_id, Int.mul_comm a 26, u4, u5]
      refine (s128_53 (by first | decide | assumption | omega)).mpr ?_
      refine s128_56.mpr ?_
      try simp (disch := first | decide | assumption | omega) only [e11, e12, e13, e8, u8, u8', w7, fMul_id, fAdd_id, fSub_id, Int.mul_comm a 26, u4, u5]
      refine (s128_57 (by first | decide | assumption | omega)).mpr ?_
      refine s128_60.mpr (s128_62.mpr (s128_63.mpr (s128_64.mpr ?_)))
      try simp (disch := first | decide | assumption | omega) only [e11, e12, e13, e8, u8, u8', w7, fMul_id, fAdd_id, fSub_id, Int.mul_comm a 26, u4, u5]
      refine (s128_65 (by first | decide | assumption | omega) (by first | decide | assumption | omega) (by first | decide | assumption | omega)).mpr ?_
      try simp (disch := first | decide | assumption | omega) only [e11, e12, e13, e8, u8, u8', w7, fMul_id, fAdd_id, fSub_id, Int.mul_comm a 26, u4, u5]
      refine (s128_66).mpr ?_
      exact E
theorem t_setLocalF {l : Int} (hR : RelC T NN al0 hi0 hr0 E A al hi hr s) (hO : OnP hr s p t) (hP : AllP s) (l0 : 0 ≤ l ∧ l < 10) (hr9 : w = 1 → v ≠ 0 → A p v ≠ 0) (q : ∀ hi', RelC T NN al0 hi0 hr0 E A al hi' hr (st2 s (26 * ai s p + l) v w) → OnP hr (st2 s (26 * ai s p + l) v w) p t → AllP (st2 s (26 * ai s p + l) v w) → hi' t 14 = hi t 14 → (∀ (b' : Nat) i, b' < t → hi' b' i = hi b' i) → Q (some none) al hi' hr) : Ev d 129 [vR (some t), vI l, vI (kmp w), vI (vm A p v w)] al hi hr Q := by
  have hS := fun k k0 k1 => (hR.tf hO).2.1.sl hO (k := k) k0 k1
  have hRt := fun k k0 k1 => hR.rt hO (k := k) k0 k1
  obtain ⟨⟨⟨t119, k9⟩, ⟨e9, K1, L1⟩, ⟨e10, K2, L2⟩, ⟨e11, K3, L3⟩, ⟨e12, K4, L4⟩, ⟨e13, K5, L5⟩, K6, L6⟩, ⟨⟨N, hNN, e1⟩, ⟨e7, e8⟩, h5, h6, c, e15, hH⟩, tH⟩ := hR.tf hO
  obtain ⟨⟨p0, p1⟩, ht, h89, ⟨a1, a16⟩, ⟨r0, r1⟩, h97, h56⟩ := id hO
  have hg16 := (h97 _ (by unfold ai; omega) (Int.le_refl _))
  have hg16 : 0 ≤ hg s p ∧ hg s p ≤ 16 := hg16
  have RR := hR.tp (hi' := upI (upI hi (t + 4) (26 * (s 94 p - 1) + 16 + l) (kmp w)) (t + 5) (26 * (s 94 p - 1) + 16 + l) (vm A p v w)) hO hP (st2_tp (i := 26 * ai s p + l) (v := v) (w := w) (by omega))
  obtain ⟨a, ha, aa0, aa1, eai⟩ : ∃ a, s 94 p - 1 = a ∧ 0 ≤ a ∧ a < 16 ∧ 16 * p + a = ai s p := ⟨_, rfl, by omega, by omega, by unfold ai; omega⟩
  obtain ⟨w5, w6, w7⟩ := h5 a aa0 (by omega)
  rw [ha] at e8; rw [eai] at w5 w6 w7
  have w7 : hi (t + 3) a = hg s p := w7
  rw [ha] at hS RR
  obtain ⟨h, hh⟩ : ∃ h, hg s p = h := ⟨_, rfl⟩
  have e97 : st2 s (26 * ai s p + l) v w 97 (ai s p) = h := by rw [st2_n (by decide) (by decide)]; exact hh
  rw [hh] at hg16 w7 hS hRt
  obtain ⟨k', hk'⟩ : ∃ k', kmp w = k' := ⟨_, rfl⟩
  obtain ⟨x', hx'⟩ : ∃ x', vm A p v w = x' := ⟨_, rfl⟩
  rw [hk', hx'] at RR ⊢
  have R := RR (fun b i z1 z2 z3 => by unfold upI; rw [if_neg (by omega), if_neg (by omega)]) (by rw [upI_a (by omega), upI_a (by omega), w6, st2_n (by decide) (by decide)]) (by rw [upI_a (by omega), upI_a (by omega), w7, e97]) (by rw [e97]; omega) (fun k k0 k1 => by
    rw [e97] at k1
    rw [upI_a (b := t + 4) (by omega), st2_98, st2_99]
    by_cases z : k = l
    · subst z
      rw [slt_l l0.2, if_pos rfl, if_pos rfl, show 26 * a + (16 + k) = 26 * a + 16 + k by omega, upI_eq, upI_eq, hk', hx']
      exact ⟨rfl, rfl⟩
    · have sn : slt k ≠ 16 + l := by unfold slt; split <;> omega
      rw [if_neg (by omega), if_neg (by omega), upI_i (by omega), upI_i (by omega), upI_a (by omega)]
      exact hS k k0 (by omega)) (fun k k0 k1 => by
    rw [e97] at k1
    rw [st2_98, st2_99]
    by_cases z : k = l
    · subst z; rw [if_pos rfl, if_pos rfl]; exact hr9
    · rw [if_neg (by omega), if_neg (by omega)]; exact hRt k k0 (by omega))
  have E := q _ R.1 R.2.1 R.2.2 (by rw [upI_a (by omega), upI_a (by omega)]) (fun b' i z => by rw [upI_a (by omega), upI_a (by omega)])
  rw [e129]
  refine s129_0.mpr ?_
  refine s129_1.mpr (wif (fun c1 => ?_) (fun c1 => ?_))
  · first
    | (exfalso; omega)
    | skip
      first | (refine s129_46.mpr ?_; exact E) | (exfalso; omega)
  · first
    | (exfalso; omega)
    | skip
      refine s129_4.mpr (s129_5.mpr ?_)
      refine s129_7.mpr (wif (fun c7 => ?_) (fun c7 => ?_))
      · first
        | (exfalso; omega)
        | skip
          refine s129_10.mpr ?_
          refine (s129_11 (by first | decide | assumption | omega)).mpr ?_
          refine s129_14.mpr ?_
          try simp (disch := first | decide | assumption | omega) only [upI_a, e12, e13, e8, fMul_id, fAdd_id, Int.mul_comm a 26]
          refine (s129_15 (by first | decide | assumption | omega)).mpr ?_
          refine s129_18.mpr (s129_20.mpr (s129_21.mpr (s129_23.mpr (s129_24.mpr (s129_25.mpr ?_)))))
          refine s129_26.mpr ?_
          try simp (disch := first | decide | assumption | omega) only [upI_a, e12, e13, e8, fMul_id, fAdd_id, Int.mul_comm a 26]
          refine (s129_27 (by first | decide | assumption | omega) (by first | decide | assumption | omega) (by first | decide | assumption | omega)).mpr ?_
          refine s129_28.mpr ?_
          try simp (disch := first | decide | assumption | omega) only [upI_a, e12, e13, e8, fMul_id, fAdd_id, Int.mul_comm a 26]
          refine (s129_29 (by first | decide | assumption | omega)).mpr ?_
          refine s129_32.mpr ?_
          try simp (disch := first | decide | assumption | omega) only [upI_a, e12, e13, e8, fMul_id, fAdd_id, Int.mul_comm a 26]
          refine (s129_33 (by first | decide | assumption | omega)).mpr ?_
          refine s129_36.mpr (s129_38.mpr (s129_39.mpr (s129_41.mpr (s129_42.mpr (s129_43.mpr ?_)))))
          refine s129_44.mpr ?_
          try simp (disch := first | decide | assumption | omega) only [upI_a, e12, e13, e8, fMul_id, fAdd_id, Int.mul_comm a 26]
          refine (s129_45 (by first | decide | assumption | omega) (by first | decide | assumption | omega) (by first | decide | assumption | omega)).mpr ?_
          try simp (disch := first | decide | assumption | omega) only [upI_a, e12, e13, e8, fMul_id, fAdd_id, Int.mul_comm a 26]
          first | (refine s129_46.mpr ?_; exact E) | (exfalso; omega)
      · first
        | (exfalso; omega)
        | skip
          first | (refine s129_46.mpr ?_; exact E) | (exfalso; omega)
/-- what is held on its way matters to nothing else -/
theorem RelC.held (hR : RelC T NN al0 hi0 hr0 E A al hi hr s) (hO : OnP hr s p t) (hP : AllP s) (hw : ∀ (a : Nat) i, a ≠ 47 → a ≠ 48 → hi' a i = hi a i) : RelC T NN al0 hi0 hr0 E A al hi' hr s := by
  obtain ⟨R1, R2⟩ := hR.rs_
  exact (R1.glo hP (fun a i y => hw a i (by unfold gC at y; omega) (by unfold gC at y; omega)) (fun _ _ _ => rfl) (fun _ _ _ => rfl) rfl (R1.2.1.cg (fun a i y => hw a i (by omega) (by omega)) (fun _ _ _ => rfl)) (R1.2.2.1.cg (fun a i y1 y2 => hw a i (by omega) (by omega)) (fun _ _ _ => rfl) (fun _ _ _ _ => ⟨rfl, fun _ _ _ => rfl⟩)) (R1.2.2.2.1.cg (fun a i y1 y2 => hw a i (by omega) (by omega)) (fun _ => rfl) (fun _ => rfl) (fun _ _ => ⟨rfl, rfl, fun _ _ _ => ⟨rfl, rfl, rfl⟩⟩))).rc_ (R2.cg (fun a i y => hw a i (by omega) (by omega)))
def layS (s : HI) (i : Int) (V W : Int → Int) : Nat → HI
  | 0 => s
  | n + 1 => st2 (layS s i V W n) (i + n) (V n) (W n)
theorem layS_n {a : Nat} {j : Int} (h : a ≠ 98 ∧ a ≠ 99) : ∀ n, layS s i V W n a j = s a j
  | 0 => rfl
  | n + 1 => by unfold layS; rw [st2_n h.1 h.2, layS_n h n]
theorem layS_ai (n : Nat) : ai (layS s i V W n) p = ai s p := by unfold ai; rw [layS_n (by decide)]
theorem mvS_lay : ∀ (n : Nat), (fr + n ≤ i ∨ i + n ≤ fr) → mvS s fr i n = layS s i (fun k => s 98 (fr + k)) (fun k => s 99 (fr + k)) n
  | 0, _ => rfl
  | n + 1, h => by
    have a9 := mv98 (s := s) (fr := fr) (i := i) n (by omega) (fr + n)
    rw [if_neg (by omega), if_neg (by omega)] at a9
    show st2 (mvS s fr i n) (i + n) (mvS s fr i n 98 (fr + n)) (mvS s fr i n 99 (fr + n)) = st2 (layS s i (fun k => s 98 (fr + k)) (fun k => s 99 (fr + k)) n) (i + n) (s 98 (fr + n)) (s 99 (fr + n))
    rw [a9.1, a9.2, mvS_lay n (by omega)]
def hldM (A : Int → Int → Int) (p : Int) (V W : Int → Int) (j n : Int) (hi : HI) : Prop := ∀ k, j ≤ k → k < n → hi 48 k = vm A p (V k) (W k) ∧ hi 47 k = kmp (W k)
theorem x5_takeP (hR : RelC T NN al0 hi0 hr0 E A al hi hr s) (hO : OnP hr s p t) (hP : AllP s) (n0 : 0 ≤ n ∧ n ≤ 4) (hn : n ≤ hg s p) (hd : 1 ≤ d) (q : ∀ hi', RelC T NN al0 hi0 hr0 E A al hi' hr (pp s p n) → OnP hr (pp s p n) p t → AllP (pp s p n) → hldM A p (fun k => tv s p (n - 1 - k)) (fun k => ts s p (n - 1 - k)) 0 n hi' → Q (some none) al hi' hr) : Ev d 85 [vR (some 26), vR (some t), vI n] al hi hr Q := by
  have hA := hR.1.1
  have hC := hR.1.2.1
  have R47 : isR al 47 = true := hA.r (by decide) (by decide) (by decide); have R48 : isR al 48 = true := hA.r (by decide) (by decide) (by decide); have K47 : isK al 47 15 := hA.k (by decide) (by decide) rfl; have K48 : isK al 48 15 := hA.k (by decide) (by decide) rfl; have k26 : isK al 26 6 := hA.k (by decide) (by decide) rfl; have g47 := cr_26_13 hC; have g48 := cr_26_14 hC
  have l47 := SA.len (a := 47) (n := 4) hA (by decide) (by decide) rfl
  have l48 := SA.len (a := 48) (n := 4) hA (by decide) (by decide) rfl
  have t119 := (hR.tf hO).1.1.1
  have k9 := (hR.tf hO).1.1.2
  have T4 : Wp d 85 4 [vR (some 26), vR (some t), vI n, vI (n - 1)] [] al hi hr Q := by
    refine wp_cnt (N := n.toNat) (fun j ls h => ls = [vR (some 26), vR (some t), vI n, vI (n - 1 - j)] ∧ RelC T NN al0 hi0 hr0 E A al h hr (pp s p j) ∧ OnP hr (pp s p j) p t ∧ AllP (pp s p j) ∧ hldM A p (fun k => tv s p (n - 1 - k)) (fun k => ts s p (n - 1 - k)) (n - j) n h) ?_ ?_ _ _ ⟨by rw [show n - 1 - ((0 : Nat) : Int) = n - 1 by omega], ?_⟩
    · rintro j ls h hj ⟨rfl, w1, w2, w3, w4⟩ nx
      have PO := t_popF (d := d - 1) (Q := kon d 85 14 17 [vR (some 26), vR (some t), vI n, vI (n - 1 - j)] [vI (n - 1 - j), vR (some 48)] Q) w1 w2 w3 (by rw [ppz_hg]; omega) (fun h3 y1 y2 y3 y4 y5 => by
        rw [pp_pp] at y1 y2 y3
        rw [ts_pp, show (0 : Int) + (j : Int) = j by omega] at y4
        have R := y1.held y2 y3 (hi' := upI (upI h3 48 (n - 1 - j) (vm A p (tv s p j) (ts s p j))) 47 (n - 1 - j) (kmp (ts s p j))) (fun a i z1 z2 => by rw [upI_a z1, upI_a z2])
        have N := nx [vR (some 26), vR (some t), vI n, vI (n - 1 - ((j : Int) + 1))] _ ⟨by rw [cast1], by rw [cast1]; exact R, by rw [cast1]; exact y2, by rw [cast1]; exact y3, fun k k0 k1 => by
          rw [cast1] at k0
          by_cases z : k = n - 1 - j
          · subst z
            rw [upI_a (by decide), upI_eq, upI_eq]
            simp only [show n - 1 - (n - 1 - (j : Int)) = j by omega]
            exact ⟨trivial, trivial⟩
          · rw [upI_a (by decide), upI_i z, upI_i z, upI_a (by decide), y5 _ _ (by omega), y5 _ _ (by omega)]
            exact w4 k (by omega) k1⟩
        rw [show n - 1 - ((j : Int) + 1) = n - 1 - j + -1 by omega] at N
        simp only [kon, knt_some, knt_none, Option.toList_some, Option.toList_none, List.cons_append, List.nil_append, tv_pp, ts_pp, show (0 : Int) + (j : Int) = j by omega]
        refine (s85_17 (by first | decide | assumption | omega) (by first | decide | assumption | omega) (by first | decide | assumption | omega)).mpr ?_
        refine s85_18.mpr ?_
        try simp (disch := first | decide | assumption | omega) only [upI_a, g47, g48, y4, fAdd_id]
        refine (s85_19 (by first | decide | assumption | omega)).mpr ?_
        refine s85_22.mpr (s85_23.mpr ?_)
        try simp (disch := first | decide | assumption | omega) only [upI_a, g47, g48, y4, fAdd_id]
        refine (s85_24 (by first | decide | assumption | omega)).mpr ?_
        try simp (disch := first | decide | assumption | omega) only [upI_a, g47, g48, y4, fAdd_id]
        refine (s85_27 (by first | decide | assumption | omega) (by first | decide | assumption | omega) (by first | decide | assumption | omega)).mpr ?_
        refine s85_28.mpr (s85_31.mpr ?_)
        try simp (disch := first | decide | assumption | omega) only [upI_a, g47, g48, y4, fAdd_id]
        exact N
        )
      refine s85_4.mpr ?_
      refine s85_5.mpr (wif (fun c5 => ?_) (fun c5 => ?_))
      · skip
        exfalso; omega
      · skip
        refine s85_8.mpr ?_
        refine (s85_9 (by first | decide | assumption | omega)).mpr ?_
        refine s85_12.mpr (s85_13.mpr ?_)
        try simp (disch := first | decide | assumption | omega) only [g47, g48]
        refine (s85_14 (by first | decide | assumption | omega) (by first | decide | assumption | omega)).mpr ?_
        exact PO
    · rintro ls h ⟨rfl, w1, w2, w3, w4⟩
      rw [Int.toNat_of_nonneg n0.1] at w1 w2 w3 w4 ⊢
      have E0 := q h w1 w2 w3 (by rw [Int.sub_self] at w4; exact w4)
      refine s85_4.mpr ?_
      refine s85_5.mpr (wif (fun c5 => ?_) (fun c5 => ?_))
      · skip
        refine (s85_34).mpr ?_
        exact E0
      · skip
        exfalso; omega
    · have e0 : pp s p ((0 : Nat) : Int) = s := by unfold pp; exact upI_same (by rw [show ((0 : Nat) : Int) = 0 by rfl, Int.sub_zero]; rfl)
      rw [e0]
      exact ⟨hR, hO, hP, fun k k0 k1 => by exfalso; omega⟩
  rw [e85]
  refine s85_0.mpr (s85_1.mpr (s85_2.mpr (s85_3.mpr ?_)))
  try simp (disch := first | decide | assumption | omega) only [fSub_id]
  exact T4
theorem x5_layP (hR : RelC T NN al0 hi0 hr0 E A al hi hr s) (hO : OnP hr s p t) (hP : AllP s) (n0 : 0 ≤ n ∧ n ≤ 4) (hh : hldM A p V W 0 n hi) (hc : ∀ k, 0 ≤ k → k < n → W k = 1 → V k ≠ 0 → A p (V k) ≠ 0) (hd : 1 ≤ d) (q : ∀ hi', RelC T NN al0 hi0 hr0 E A al hi' hr (layS s (26 * ai s p) V W n.toNat) → OnP hr (layS s (26 * ai s p) V W n.toNat) p t → AllP (layS s (26 * ai s p) V W n.toNat) → (∀ (a : Nat) i, a = 47 ∨ a = 48 → hi' a i = hi a i) → Q (some none) al hi' hr) : Ev d 86 [vR (some 26), vR (some t), vI n] al hi hr Q := by
  have hA := hR.1.1
  have hC := hR.1.2.1
  have R47 : isR al 47 = true := hA.r (by decide) (by decide) (by decide); have R48 : isR al 48 = true := hA.r (by decide) (by decide) (by decide); have K47 : isK al 47 15 := hA.k (by decide) (by decide) rfl; have K48 : isK al 48 15 := hA.k (by decide) (by decide) rfl; have k26 : isK al 26 6 := hA.k (by decide) (by decide) rfl; have g47 := cr_26_13 hC; have g48 := cr_26_14 hC
  have l47 := SA.len (a := 47) (n := 4) hA (by decide) (by decide) rfl
  have l48 := SA.len (a := 48) (n := 4) hA (by decide) (by decide) rfl
  have t119 := (hR.tf hO).1.1.1
  have k9 := (hR.tf hO).1.1.2
  have T2 : Wp d 86 2 [vR (some 26), vR (some t), vI n, vI 0] [] al hi hr Q := by
    refine wp_cnt (N := n.toNat) (fun j ls h => ls = [vR (some 26), vR (some t), vI n, vI j] ∧ RelC T NN al0 hi0 hr0 E A al h hr (layS s (26 * ai s p) V W j) ∧ OnP hr (layS s (26 * ai s p) V W j) p t ∧ AllP (layS s (26 * ai s p) V W j) ∧ ∀ (a : Nat) i, a = 47 ∨ a = 48 → h a i = hi a i) ?_ ?_ _ _ ⟨rfl, hR, hO, hP, fun _ _ _ => rfl⟩
    · rintro j ls h hj ⟨rfl, w1, w2, w3, w4⟩ nx
      obtain ⟨z1, z2⟩ := hh j (by omega) (by omega)
      rw [← w4 _ _ (Or.inr rfl)] at z1
      rw [← w4 _ _ (Or.inl rfl)] at z2
      have SL := t_setLocalF (d := d - 1) (Q := kon d 86 21 24 [vR (some 26), vR (some t), vI n, vI j] [] Q) (l := j) (v := V j) (w := W j) w1 w2 w3 (by omega) (hc j (by omega) (by omega)) (fun h3 y1 y2 y3 y4 y5 => by
        rw [layS_ai] at y1 y2 y3
        have N := nx [vR (some 26), vR (some t), vI n, vI ((j : Int) + 1)] h3 ⟨by rw [cast1], y1, y2, y3, fun a i z => (y5 a i (by omega)).trans (w4 a i z)⟩
        simp only [kon, knt_some, knt_none, Option.toList_some, Option.toList_none, List.cons_append, List.nil_append]
        refine s86_24.mpr (s86_27.mpr ?_)
        try simp (disch := first | decide | assumption | omega) only [fAdd_id]
        exact N
        )
      refine s86_2.mpr (s86_3.mpr ?_)
      refine s86_4.mpr (wif (fun c4 => ?_) (fun c4 => ?_))
      · skip
        refine s86_7.mpr (s86_8.mpr (s86_9.mpr ?_))
        refine (s86_10 (by first | decide | assumption | omega)).mpr ?_
        refine s86_13.mpr ?_
        try simp (disch := first | decide | assumption | omega) only [g47, g48, z1, z2]
        refine (s86_14 (by first | decide | assumption | omega) (by first | decide | assumption | omega) (by first | decide | assumption | omega)).mpr ?_
        refine s86_15.mpr ?_
        try simp (disch := first | decide | assumption | omega) only [g47, g48, z1, z2]
        refine (s86_16 (by first | decide | assumption | omega)).mpr ?_
        refine s86_19.mpr ?_
        try simp (disch := first | decide | assumption | omega) only [g47, g48, z1, z2]
        refine (s86_20 (by first | decide | assumption | omega) (by first | decide | assumption | omega) (by first | decide | assumption | omega)).mpr ?_
        try simp (disch := first | decide | assumption | omega) only [g47, g48, z1, z2]
        refine (s86_21 (by first | decide | assumption | omega) (by first | decide | assumption | omega)).mpr ?_
        exact SL
      · skip
        exfalso; omega
    · rintro ls h ⟨rfl, w1, w2, w3, w4⟩
      have E0 := q h w1 w2 w3 w4
      have en : ((n.toNat : Nat) : Int) = n := Int.toNat_of_nonneg n0.1
      refine s86_2.mpr (s86_3.mpr ?_)
      refine s86_4.mpr (wif (fun c4 => ?_) (fun c4 => ?_))
      · skip
        exfalso; omega
      · skip
        refine (s86_30).mpr ?_
        exact E0
  rw [e86]
  refine s86_0.mpr (s86_1.mpr ?_)
  exact T2
/-- a new activation, in the memory -/
def enM (hi : HI) (t : Nat) (n f : Int) (hi' : HI) : Prop := hi' t 7 = n + 1 ∧ hi' t 8 = n ∧ hi' (t + 1) n = f ∧ hi' (t + 2) n = 0 ∧ hi' (t + 3) n = 0 ∧ (∀ k, 0 ≤ k → k < 10 → hi' (t + 4) (26 * n + 16 + k) = 7 ∧ hi' (t + 5) (26 * n + 16 + k) = 0) ∧ ∀ (b : Nat) i, ¬ (b = t ∧ (i = 7 ∨ i = 8)) → ¬ ((b = t + 1 ∨ b = t + 2 ∨ b = t + 3) ∧ i = n) → ¬ ((b = t + 4 ∨ b = t + 5) ∧ 26 * n + 16 ≤ i ∧ i < 26 * n + 26) → hi' b i = hi b i
theorem c_enter (tS : TkS al hr t) (h7 : hi t 7 = n) (n0 : 0 ≤ n ∧ n ≤ 16) (no : n = 16 → Q (some (some (vI 0))) al hi hr) (yes : ∀ hi', n < 16 → enM hi t n f hi' → Q (some (some (vI 1))) al hi' hr) : Ev d 118 [vR (some t), vI f] al hi hr Q := by
  obtain ⟨⟨t119, k9⟩, ⟨e9, K1, L1⟩, ⟨e10, K2, L2⟩, ⟨e11, K3, L3⟩, ⟨e12, K4, L4⟩, ⟨e13, K5, L5⟩, K6, L6⟩ := tS
  rw [e118]
  by_cases c : n = 16
  · have E0 := no c
    refine s118_0.mpr ?_
    refine (s118_1 (by first | decide | assumption | omega)).mpr ?_
    refine s118_4.mpr ?_
    try simp (disch := first | decide | assumption | omega) only [h7]
    refine s118_6.mpr (wif (fun c6 => ?_) (fun c6 => ?_))
    · skip
      exfalso; omega
    · skip
      refine s118_9.mpr ?_
      refine (s118_10 (by first | assumption | omega)).mpr ?_
      exact E0
  · obtain ⟨h1, hh1⟩ : ∃ h1, upI (upI (upI (upI (upI hi t 8 n) t 7 (n + 1)) (t + 1) n f) (t + 2) n 0) (t + 3) n 0 = h1 := ⟨_, rfl⟩
    have r7 : h1 t 7 = n + 1 := by rw [← hh1, upI_a (by omega), upI_a (by omega), upI_a (by omega), upI_eq]
    have r8 : h1 t 8 = n := by rw [← hh1, upI_a (by omega), upI_a (by omega), upI_a (by omega), upI_i (by decide), upI_eq]
    have r1 : h1 (t + 1) n = f := by rw [← hh1, upI_a (by omega), upI_a (by omega), upI_eq]
    have r2 : h1 (t + 2) n = 0 := by rw [← hh1, upI_a (by omega), upI_eq]
    have r3 : h1 (t + 3) n = 0 := by rw [← hh1, upI_eq]
    have rf : ∀ (b : Nat) i, ¬ (b = t ∧ (i = 7 ∨ i = 8)) → ¬ ((b = t + 1 ∨ b = t + 2 ∨ b = t + 3) ∧ i = n) → h1 b i = hi b i := fun b i z1 z2 => by
      rw [← hh1, upI_ne (by omega), upI_ne (by omega), upI_ne (by omega), upI_ne (by omega), upI_ne (by omega)]
    have T70 : Wp d 118 70 [vR (some t), vI f, vI (26 * n + 16)] [] al h1 hr Q := by
      refine wp_cnt (N := 10) (fun j ls h => ls = [vR (some t), vI f, vI (26 * n + 16 + j)] ∧ (∀ k, 0 ≤ k → k < (j : Int) → h (t + 4) (26 * n + 16 + k) = 7 ∧ h (t + 5) (26 * n + 16 + k) = 0) ∧ ∀ (b : Nat) i, ¬ ((b = t + 4 ∨ b = t + 5) ∧ 26 * n + 16 ≤ i ∧ i < 26 * n + 26) → h b i = h1 b i) ?_ ?_ _ _ ⟨by rw [show 26 * n + 16 + ((0 : Nat) : Int) = 26 * n + 16 by omega], fun k k0 k1 => by exfalso; omega, fun _ _ _ => rfl⟩
      · rintro j ls h hj ⟨rfl, w1, w2⟩ nx
        have q8 : h t 8 = n := (w2 _ _ (by omega)).trans r8
        have N := nx [vR (some t), vI f, vI (26 * n + 16 + ((j : Int) + 1))] (upI (upI h (t + 4) (26 * n + 16 + j) 7) (t + 5) (26 * n + 16 + j) 0) ⟨by rw [cast1], fun k k0 k1 => by
          rw [cast1] at k1
          by_cases z : k = j
          · subst z; rw [upI_a (by omega), upI_eq, upI_eq]; exact ⟨rfl, rfl⟩
          · rw [upI_a (by omega), upI_i (by omega), upI_i (by omega), upI_a (by omega)]; exact w1 k k0 (by omega), fun b i z => by
          rw [upI_ne (by omega), upI_ne (by omega)]; exact w2 b i z⟩
        rw [show 26 * n + 16 + ((j : Int) + 1) = 26 * n + 16 + j + 1 by omega] at N
        refine s118_70.mpr (s118_71.mpr ?_)
        refine (s118_72 (by first | decide | assumption | omega)).mpr ?_
        refine s118_75.mpr (s118_76.mpr (s118_77.mpr (s118_79.mpr ?_)))
        try simp (disch := first | decide | assumption | omega) only [q8, e12, e13, fAdd_id, fMul_id, Int.mul_comm (n + 1) 26]
        refine s118_80.mpr (wif (fun c80 => ?_) (fun c80 => ?_))
        · skip
          refine s118_83.mpr ?_
          refine (s118_84 (by first | decide | assumption | omega)).mpr ?_
          refine s118_87.mpr (s118_88.mpr ?_)
          try simp (disch := first | decide | assumption | omega) only [q8, e12, e13, fAdd_id, fMul_id, Int.mul_comm (n + 1) 26]
          refine (s118_90 (by first | decide | assumption | omega) (by first | decide | assumption | omega) (by first | decide | assumption | omega)).mpr ?_
          refine s118_91.mpr ?_
          try simp (disch := first | decide | assumption | omega) only [q8, e12, e13, fAdd_id, fMul_id, Int.mul_comm (n + 1) 26]
          refine (s118_92 (by first | decide | assumption | omega)).mpr ?_
          refine s118_95.mpr (s118_96.mpr ?_)
          try simp (disch := first | decide | assumption | omega) only [q8, e12, e13, fAdd_id, fMul_id, Int.mul_comm (n + 1) 26]
          refine (s118_97 (by first | decide | assumption | omega) (by first | decide | assumption | omega) (by first | decide | assumption | omega)).mpr ?_
          refine s118_98.mpr (s118_101.mpr ?_)
          try simp (disch := first | decide | assumption | omega) only [q8, e12, e13, fAdd_id, fMul_id, Int.mul_comm (n + 1) 26]
          exact N
        · skip
          exfalso; omega
      · rintro ls h ⟨rfl, w1, w2⟩
        have q8 : h t 8 = n := (w2 _ _ (by omega)).trans r8
        have E0 := yes h (by omega) ⟨(w2 _ _ (by omega)).trans r7, q8, (w2 _ _ (by omega)).trans r1, (w2 _ _ (by omega)).trans r2, (w2 _ _ (by omega)).trans r3, w1, fun b i z1 z2 z3 => (w2 b i z3).trans (rf b i z1 z2)⟩
        refine s118_70.mpr (s118_71.mpr ?_)
        refine (s118_72 (by first | decide | assumption | omega)).mpr ?_
        refine s118_75.mpr (s118_76.mpr (s118_77.mpr (s118_79.mpr ?_)))
        try simp (disch := first | decide | assumption | omega) only [q8, fAdd_id, fMul_id, Int.mul_comm (n + 1) 26]
        refine s118_80.mpr (wif (fun c80 => ?_) (fun c80 => ?_))
        · skip
          exfalso; omega
        · skip
          refine s118_104.mpr ?_
          refine (s118_105 (by first | assumption | omega)).mpr ?_
          exact E0
    rw [← hh1] at T70
    refine s118_0.mpr ?_
    refine (s118_1 (by first | decide | assumption | omega)).mpr ?_
    refine s118_4.mpr ?_
    try simp (disch := first | decide | assumption | omega) only [h7, upI_a, upI_i, upI_eq, e9, e10, e11, fAdd_id, fMul_id, Int.mul_comm n 26]
    refine s118_6.mpr (wif (fun c6 => ?_) (fun c6 => ?_))
    · skip
      refine s118_11.mpr (s118_12.mpr ?_)
      refine (s118_13 (by first | decide | assumption | omega)).mpr ?_
      try simp (disch := first | decide | assumption | omega) only [h7, upI_a, upI_i, upI_eq, e9, e10, e11, fAdd_id, fMul_id, Int.mul_comm n 26]
      refine (s118_16 (by first | decide | assumption | omega)).mpr ?_
      refine s118_19.mpr (s118_20.mpr ?_)
      try simp (disch := first | decide | assumption | omega) only [h7, upI_a, upI_i, upI_eq, e9, e10, e11, fAdd_id, fMul_id, Int.mul_comm n 26]
      refine (s118_21 (by first | decide | assumption | omega)).mpr ?_
      refine s118_24.mpr (s118_25.mpr ?_)
      try simp (disch := first | decide | assumption | omega) only [h7, upI_a, upI_i, upI_eq, e9, e10, e11, fAdd_id, fMul_id, Int.mul_comm n 26]
      refine (s118_26 (by first | decide | assumption | omega)).mpr ?_
      refine s118_29.mpr ?_
      try simp (disch := first | decide | assumption | omega) only [h7, upI_a, upI_i, upI_eq, e9, e10, e11, fAdd_id, fMul_id, Int.mul_comm n 26]
      refine (s118_30 (by first | decide | assumption | omega)).mpr ?_
      refine s118_33.mpr ?_
      try simp (disch := first | decide | assumption | omega) only [h7, upI_a, upI_i, upI_eq, e9, e10, e11, fAdd_id, fMul_id, Int.mul_comm n 26]
      refine (s118_34 (by first | decide | assumption | omega)).mpr ?_
      refine s118_37.mpr ?_
      try simp (disch := first | decide | assumption | omega) only [h7, upI_a, upI_i, upI_eq, e9, e10, e11, fAdd_id, fMul_id, Int.mul_comm n 26]
      refine (s118_38 (by first | decide | assumption | omega) (by first | decide | assumption | omega) (by first | decide | assumption | omega)).mpr ?_
      refine s118_39.mpr ?_
      try simp (disch := first | decide | assumption | omega) only [h7, upI_a, upI_i, upI_eq, e9, e10, e11, fAdd_id, fMul_id, Int.mul_comm n 26]
      refine (s118_40 (by first | decide | assumption | omega)).mpr ?_
      refine s118_43.mpr ?_
      try simp (disch := first | decide | assumption | omega) only [h7, upI_a, upI_i, upI_eq, e9, e10, e11, fAdd_id, fMul_id, Int.mul_comm n 26]
      refine (s118_44 (by first | decide | assumption | omega)).mpr ?_
      refine s118_47.mpr ?_
      try simp (disch := first | decide | assumption | omega) only [h7, upI_a, upI_i, upI_eq, e9, e10, e11, fAdd_id, fMul_id, Int.mul_comm n 26]
      refine (s118_48 (by first | decide | assumption | omega) (by first | decide | assumption | omega) (by first | decide | assumption | omega)).mpr ?_
      refine s118_49.mpr ?_
      try simp (disch := first | decide | assumption | omega) only [h7, upI_a, upI_i, upI_eq, e9, e10, e11, fAdd_id, fMul_id, Int.mul_comm n 26]
      refine (s118_50 (by first | decide | assumption | omega)).mpr ?_
      refine s118_53.mpr ?_
      try simp (disch := first | decide | assumption | omega) only [h7, upI_a, upI_i, upI_eq, e9, e10, e11, fAdd_id, fMul_id, Int.mul_comm n 26]
      refine (s118_54 (by first | decide | assumption | omega)).mpr ?_
      refine s118_57.mpr ?_
      try simp (disch := first | decide | assumption | omega) only [h7, upI_a, upI_i, upI_eq, e9, e10, e11, fAdd_id, fMul_id, Int.mul_comm n 26]
      refine (s118_58 (by first | decide | assumption | omega) (by first | decide | assumption | omega) (by first | decide | assumption | omega)).mpr ?_
      refine s118_59.mpr ?_
      try simp (disch := first | decide | assumption | omega) only [h7, upI_a, upI_i, upI_eq, e9, e10, e11, fAdd_id, fMul_id, Int.mul_comm n 26]
      refine (s118_60 (by first | decide | assumption | omega)).mpr ?_
      refine s118_63.mpr (s118_65.mpr (s118_66.mpr (s118_68.mpr (s118_69.mpr ?_))))
      try simp (disch := first | decide | assumption | omega) only [h7, upI_a, upI_i, upI_eq, e9, e10, e11, fAdd_id, fMul_id, Int.mul_comm n 26]
      exact T70
    · skip
      exfalso; omega
theorem actS_f (h : x ≠ 16 * p + s 94 p) : actS s p f 95 x = s 95 x ∧ actS s p f 96 x = s 96 x ∧ actS s p f 97 x = s 97 x := by
  unfold actS
  rw [if_neg (by omega), if_neg (by omega), if_neg (by omega), if_neg (by omega), if_neg (by omega), if_neg (by omega), if_neg (by omega), if_neg (by omega), if_neg (by omega), if_neg (by omega), if_neg (by omega), if_neg (by omega), if_neg (by omega), if_neg (by omega), if_neg (by omega)]
  exact ⟨rfl, rfl, rfl⟩
theorem actS_t : actS s p f 95 (16 * p + s 94 p) = f ∧ actS s p f 96 (16 * p + s 94 p) = 0 ∧ actS s p f 97 (16 * p + s 94 p) = 0 := by
  unfold actS
  rw [if_pos ⟨rfl, rfl⟩, if_neg (by omega), if_pos (by omega), if_neg (by omega), if_pos (by omega)]
  exact ⟨rfl, rfl, rfl⟩
theorem actS_v (h : ¬ (26 * (16 * p + s 94 p) ≤ x ∧ x < 26 * (16 * p + s 94 p) + 26)) : actS s p f 98 x = s 98 x ∧ actS s p f 99 x = s 99 x := by
  unfold actS
  rw [if_neg (by omega), if_neg (by omega), if_neg (by omega), if_neg (by omega), if_neg (by omega), if_neg (by omega), if_neg (by omega), if_neg (by omega), if_neg (by omega), if_neg (by omega)]
  exact ⟨rfl, rfl⟩
theorem actS_w (h : 26 * (16 * p + s 94 p) ≤ x ∧ x < 26 * (16 * p + s 94 p) + 26) : actS s p f 98 x = 0 ∧ actS s p f 99 x = 4 := by
  unfold actS
  rw [if_neg (by omega), if_neg (by omega), if_pos ⟨rfl, h⟩, if_neg (by omega), if_neg (by omega), if_neg (by omega), if_pos ⟨rfl, h⟩]
  exact ⟨rfl, rfl⟩
theorem actS_own {a' : Nat} (h : 0 ≤ s 94 p ∧ s 94 p < 16) (z : ¬ (ownC p a' i ∧ 94 ≤ a')) : actS s p f a' i = s a' i := by
  unfold ownC at z
  unfold actS
  rw [if_neg (by omega), if_neg (by omega), if_neg (by omega), if_neg (by omega), if_neg (by omega)]
theorem RelC.act (hR : RelC T NN al0 hi0 hr0 E A al hi hr s) (hO : OnP hr s p t) (hP : AllP s) (h16 : s 94 p < 16) (hE : enM hi t (s 94 p) f hi') : RelC T NN al0 hi0 hr0 E A al hi' hr (actS s p f) ∧ OnP hr (actS s p f) p t ∧ AllP (actS s p f) := by
  have hL := (hR.tf hO).2.1
  obtain ⟨⟨p0, p1⟩, ht, h89, ⟨a1, a16⟩, ⟨r0, r1⟩, h97, h56⟩ := id hO
  have hg16 := h97 _ (by unfold ai; omega) (Int.le_refl _); have hg16 : 0 ≤ hg s p ∧ hg s p ≤ 16 := hg16
  obtain ⟨m1, m2, m3, m4, m5, m6, m7⟩ := hE
  have z119 := (hR.tf hO).1.1.1
  have own : ∀ a i, ¬ (ownC p a i ∧ 94 ≤ a) → actS s p f a i = s a i := fun a i z => actS_own (by omega) z
  have e94 : actS s p f 94 p = s 94 p + 1 := actS_94
  have eai : ai (actS s p f) p = ai s p + 1 := by unfold ai; rw [e94]; omega
  have exa : 16 * p + s 94 p = ai s p + 1 := by unfold ai; omega
  have H97 : ∀ x, 16 * p ≤ x → x ≤ ai s p + 1 → 0 ≤ actS s p f 97 x ∧ actS s p f 97 x ≤ 16 := fun x x0 x1 => by
    by_cases z : x = 16 * p + s 94 p
    · rw [z, actS_t.2.2]; decide
    · rw [(actS_f z).2.2]; exact h97 x x0 (by omega)
  refine ⟨hR.tsk hP ⟨p0, p1⟩ ht (fun a i z1 z2 => m7 a i (by omega) (by omega) (by omega)) (fun i z => m7 t i (by omega) (by omega) (by omega)) own (fun _ => ?_), ⟨⟨p0, p1⟩, ht, by rw [actS_n (by decide)]; exact h89, by rw [e94]; omega, by rw [actS_n (by decide)]; exact ⟨r0, r1⟩, fun x x0 x1 => H97 x x0 (by rw [← eai]; exact x1), by rw [actS_n (by decide)]; exact h56⟩, hP.mono own ⟨p0, p1⟩ (fun _ => ⟨by rw [e94]; omega, fun x x0 x1 => H97 x x0 (by rw [← eai]; exact x1)⟩)⟩
  obtain ⟨⟨N, hNN, e1⟩, ⟨e7, e8⟩, h5, h6, c, e15, hH⟩ := hL
  have nc : ∀ i, hi' c i = hi c i := fun i => by
    obtain ⟨-, c', v1, v2, -⟩ := hR.2.2.2.2.1.1 p t p0 p1 ht
    rw [e15] at v1; cases v1
    have := hR.2.2.2.2.1.c v2 p0 p1 ht
    exact m7 c i (by omega) (by omega) (by omega)
  refine ⟨⟨N, by rw [actS_n (by decide)]; exact hNN, e1⟩, by rw [e94, m1, m2]; exact ⟨rfl, by omega⟩, fun a a0 a1' => ?_, fun a k a0 a1' k0 k1 => ?_, c, e15, ?_⟩
  · rw [e94] at a1'
    by_cases z : a = s 94 p
    · subst z
      rw [actS_t.1, actS_t.2.1, actS_t.2.2]
      exact ⟨m3, m4, m5⟩
    · obtain ⟨x1, x2, x3⟩ := actS_f (s := s) (p := p) (f := f) (x := 16 * p + a) (by omega)
      rw [x1, x2, x3, m7 _ _ (by omega) (by omega) (by omega), m7 _ _ (by omega) (by omega) (by omega), m7 _ _ (by omega) (by omega) (by omega)]
      exact h5 a a0 (by omega)
  · rw [e94] at a1'
    by_cases z : a = s 94 p
    · subst z
      rw [actS_t.2.2] at k1
      obtain ⟨x1, x2⟩ := actS_w (s := s) (p := p) (f := f) (x := 26 * (16 * p + s 94 p) + k) (by omega)
      obtain ⟨y1, y2⟩ := m6 k k0 (by omega)
      rw [x1, x2, slt_l (by omega), show 26 * s 94 p + (16 + k) = 26 * s 94 p + 16 + k by omega, y1, y2]
      exact ⟨rfl, rfl⟩
    · have x3 := (actS_f (s := s) (p := p) (f := f) (x := 16 * p + a) (by omega)).2.2
      rw [x3] at k1
      have hk := h97 (16 * p + a) (by omega) (by unfold ai; omega)
      obtain ⟨x1, x2⟩ := actS_v (s := s) (p := p) (f := f) (x := 26 * (16 * p + a) + k) (by omega)
      have hsl : 0 ≤ slt k ∧ slt k < 26 := slt_b (by omega)
      rw [x1, x2, m7 _ _ (by omega) (by omega) (by omega), m7 _ _ (by omega) (by omega) (by omega)]
      exact h6 a k a0 (by omega) k0 k1
  · rw [m7 t 16 (by omega) (by omega) (by omega)]
    refine hH.fr nc (actS_n (by decide)) (fun b _ _ => ⟨actS_n (by decide), actS_n (by decide)⟩) (fun b i _ _ _ => ⟨actS_n (by decide), actS_n (by decide)⟩) (fun i hi => ?_)
    obtain ⟨x, k, x0, x1, k0, k1, rfl⟩ := hi
    rw [eai] at x1
    by_cases z : x = 16 * p + s 94 p
    · subst z
      rw [actS_t.2.2] at k1
      rw [(actS_w (s := s) (p := p) (f := f) (x := 26 * (16 * p + s 94 p) + k) (by omega)).2]
      exact fun y => absurd y (by decide)
    · rw [(actS_f z).2.2] at k1
      have hk := h97 x x0 (by omega)
      obtain ⟨y1, y2⟩ := actS_v (s := s) (p := p) (f := f) (x := 26 * x + k) (by omega)
      rw [y1, y2]
      exact hH.2.2.2 _ ⟨x, k, x0, by omega, k0, k1, rfl⟩
theorem c_parametersOf (hR : RelC T NN al0 hi0 hr0 E A al hi hr s) (hO : OnP hr s p t) (hP : AllP s) (hBs : Bs T NN al0 hi0 hr0) (hm : s 91 p = m) (v0 : 0 ≤ v ∧ v < nFn (T m)) (np4 : 0 ≤ nPar (T m) v ∧ nPar (T m) v ≤ 4) (hd : 1 ≤ d) (q : Q (some (some (vI (nPar (T m) v)))) al hi hr) : Ev d 84 [vR (some t), vI v] al hi hr Q := by
  obtain ⟨tS, ⟨⟨N, hNN, e1⟩, -⟩, -⟩ := hR.tf hO
  have k9 := tS.1.2
  rw [hm] at hNN
  obtain ⟨⟨n, L, hG, -⟩, -⟩ := hR.gm hBs hNN
  obtain ⟨u, H, C, A9, ero, -, -, hro, -⟩ := (hG.ro (f := v)).resolve_left (fun z => z.1 v0) |>.2
  have ms := hG
  obtain ⟨M, hM, -⟩ := hG
  have kN := hM.1.1.1
  have kT := hro.1.1
  have e0 : hi (u + 1) 0 = nPar (T m) v := hro.2.2.2.1
  have em : fMin (nPar (T m) v) 4 = nPar (T m) v := by unfold fMin; split <;> omega
  rw [e84]
  refine s84_0.mpr ?_
  refine (s84_1 (by first | decide | assumption | omega)).mpr ?_
  refine s84_4.mpr ?_
  try simp (disch := first | decide | assumption | omega) only [e1, e0, em, kon, knt_some, knt_none, Option.toList_some, Option.toList_none, List.cons_append, List.nil_append]
  refine (s84_5 (by first | decide | assumption | omega) (by first | decide | assumption | omega)).mpr ?_
  refine t_routineAt hM.1.1 ?_
  simp only [kon, knt_some, knt_none, Option.toList_some, Option.toList_none, List.cons_append, List.nil_append, ero]
  refine s84_8.mpr (s84_9.mpr ?_)
  refine s84_10.mpr (wif (fun c10 => ?_) (fun c10 => ?_))
  · skip
    refine s84_13.mpr (s84_14.mpr ?_)
    refine (s84_25).mpr ?_
    first | exact q | (exfalso; simp at c10)
  · skip
    refine s84_17.mpr ?_
    refine (s84_18 (by first | decide | assumption | omega)).mpr ?_
    refine s84_21.mpr (s84_22.mpr ?_)
    try simp (disch := first | decide | assumption | omega) only [e1, e0, em, kon, knt_some, knt_none, Option.toList_some, Option.toList_none, List.cons_append, List.nil_append]
    refine (s84_25).mpr ?_
    first | exact q | (exfalso; simp at c10)
theorem x5_call (hR : RelC T NN al0 hi0 hr0 (fun _ => False) A al hi hr s) (hO : OnP hr s p t) (hP : AllP s) (hBQ : BQ s) (hBs : Bs T NN al0 hi0 hr0) (hm : s 91 p = m) (ho : o = 30) (hcv : cv = v) (v0 : 0 ≤ v ∧ v < nFn (T m)) (np4 : 0 ≤ nPar (T m) v ∧ nPar (T m) v ≤ 4) (hn : nPar (T m) v ≤ hg s p) (hd : 3 ≤ d) (q : ∀ v' al' hi' hr', Pf T NN al0 hi0 hr0 p t (exS (T m) f s p o v qx) v' al' hi' hr' → Q (some (some (vI v'))) al' hi' hr') : Ev d 83 [vR (some 26), vR (some t), vI cv] al hi hr Q := by
  obtain ⟨⟨p0, p1⟩, ht, h89, ⟨a1, a16⟩, ⟨r0, r1⟩, h97, h56⟩ := id hO
  have hg16 := h97 _ (by unfold ai; omega) (Int.le_refl _); have hg16 : 0 ≤ hg s p ∧ hg s p ≤ 16 := hg16
  subst hcv
  rw [exq_30 ho] at q
  unfold calS at q
  have k26 : isK al 26 6 := hR.1.1.k (by decide) (by decide) rfl
  have k9 := (hR.tf hO).1.1.2
  obtain ⟨n, hn9⟩ : ∃ n, nPar (T m) cv = n := ⟨_, rfl⟩
  have CP := fun Q' z => c_parametersOf (d := d - 1) (Q := Q') hR hO hP hBs hm v0 np4 (by omega) z
  rw [hn9] at q np4 hn CP
  have hrt := fun k k0 k1 z1 z2 => hR.rtv hO (k := k) k0 k1 z1 z2
  have T12 : ∀ h3, RelC T NN al0 hi0 hr0 (fun _ => False) A al h3 hr (pp s p n) → OnP hr (pp s p n) p t → AllP (pp s p n) → hldM A p (fun k => tv s p (n - 1 - k)) (fun k => ts s p (n - 1 - k)) 0 n h3 → Wp d 83 12 [vR (some 26), vR (some t), vI cv, vI n] [] al h3 hr Q := by
    intro h3 w1 w2 w3 w4
    have tS := (w1.tf w2).1
    have h7 : h3 t 7 = s 94 p := by
      have : h3 t 7 = pp s p n 94 p := (w1.tf w2).2.1.2.1.1
      rw [this]; exact ppz_n (by decide)
    have EN := c_enter (d := d - 1) (f := cv) (Q := kon d 83 14 17 [vR (some 26), vR (some t), vI cv, vI n] [] Q) tS h7 (by omega) (fun c => by
      rw [if_pos c] at q
      have E0 := q 9 _ _ _ (Pf.tr2 w1 w2 w3 hBQ.pp_ (by decide) (fun a i z => by
        unfold pp; exact (upI_ne (fun y => z (by obtain ⟨rfl, rfl⟩ := y; unfold ownC ai; omega))).symm) rfl)
      simp only [kon, knt_some, knt_none, Option.toList_some, Option.toList_none, List.cons_append, List.nil_append]
      refine s83_17.mpr (wif (fun c17 => ?_) (fun c17 => ?_))
      · skip
        refine s83_20.mpr ?_
        refine (s83_22).mpr ?_
        exact E0
      · skip
        exfalso; omega
      ) (fun h4 c hE => by
      rw [if_neg (by omega)] at q
      have e94 : pp s p n 94 p = s 94 p := ppz_n (by decide)
      rw [← e94] at hE
      obtain ⟨y1, y2, y3⟩ := w1.act w2 w3 (by rw [e94]; exact c) hE
      have m7 := hE.2.2.2.2.2.2
      have hld4 : hldM A p (fun k => tv s p (n - 1 - k)) (fun k => ts s p (n - 1 - k)) 0 n h4 := fun k k0 k1 => by
        have := tS.1.1
        rw [m7 _ _ (by omega) (by omega) (by omega), m7 _ _ (by omega) (by omega) (by omega)]
        exact w4 k k0 k1
      have efr : 26 * ai (actS (pp s p n) p cv) p = 26 * (16 * p + s 94 p) := by unfold ai; rw [actS_94, e94]; omega
      have LP := x5_layP (d := d - 1) (Q := kon d 83 26 29 [vR (some 26), vR (some t), vI cv, vI n] [] Q) y1 y2 y3 np4 hld4 (fun k k0 k1 z1 z2 => hrt (n - 1 - k) (by omega) (by omega) z1 z2) (by omega) (fun h5 u1 u2 u3 u4 => by
        rw [efr] at u1 u2 u3
        have es : layS (actS (pp s p n) p cv) (26 * (16 * p + s 94 p)) (fun k => tv s p (n - 1 - k)) (fun k => ts s p (n - 1 - k)) n.toNat = mvS (actS (pp s p n) p cv) (sk s p (hg s p - n)) (26 * (16 * p + s 94 p)) n.toNat := by
          rw [mvS_lay n.toNat (by unfold sk ai; omega)]
          have e1 : ∀ k : Nat, k < n.toNat → actS (pp s p n) p cv 98 (sk s p (hg s p - n) + k) = tv s p (n - 1 - k) ∧ actS (pp s p n) p cv 99 (sk s p (hg s p - n) + k) = ts s p (n - 1 - k) := fun k hk => by
            have := actS_v (s := pp s p n) (p := p) (f := cv) (x := sk s p (hg s p - n) + k) (by rw [e94]; unfold sk ai; omega)
            rw [this.1, this.2, pp_98, pp_99]
            unfold tv ts sk
            rw [show 26 * ai s p + 10 + (hg s p - n) + (k : Int) = 26 * ai s p + 10 + (hg s p - 1 - (n - 1 - k)) by omega]
            exact ⟨rfl, rfl⟩
          have key : ∀ j : Nat, j ≤ n.toNat → layS (actS (pp s p n) p cv) (26 * (16 * p + s 94 p)) (fun k => tv s p (n - 1 - k)) (fun k => ts s p (n - 1 - k)) j = layS (actS (pp s p n) p cv) (26 * (16 * p + s 94 p)) (fun k => actS (pp s p n) p cv 98 (sk s p (hg s p - n) + k)) (fun k => actS (pp s p n) p cv 99 (sk s p (hg s p - n) + k)) j := fun j => by
            induction j with
            | zero => intro _; rfl
            | succ j ih =>
              intro hj
              obtain ⟨z1, z2⟩ := e1 j (by omega)
              show st2 _ _ _ _ = st2 _ _ _ _
              rw [ih (by omega)]
              show st2 _ _ (tv s p (n - 1 - j)) (ts s p (n - 1 - j)) = st2 _ _ (actS (pp s p n) p cv 98 (sk s p (hg s p - n) + j)) (actS (pp s p n) p cv 99 (sk s p (hg s p - n) + j))
              rw [z1, z2]
          exact key _ (Nat.le_refl _)
        rw [es] at u1 u2 u3
        have E0 := q 0 _ _ _ (Pf.ok u1 u2 u3 (hBQ.eq (fun a i z => by rw [mvS_n (by omega), actS_n (by omega), ppz_n (by omega)])))
        simp only [kon, knt_some, knt_none, Option.toList_some, Option.toList_none, List.cons_append, List.nil_append]
        refine s83_29.mpr ?_
        refine (s83_30).mpr ?_
        exact E0
        )
      simp only [kon, knt_some, knt_none, Option.toList_some, Option.toList_none, List.cons_append, List.nil_append]
      refine s83_17.mpr (wif (fun c17 => ?_) (fun c17 => ?_))
      · skip
        exfalso; omega
      · skip
        refine s83_23.mpr (s83_24.mpr (s83_25.mpr ?_))
        refine (s83_26 (by first | decide | assumption | omega) (by first | decide | assumption | omega)).mpr ?_
        exact LP
      )
    refine s83_12.mpr (s83_13.mpr ?_)
    refine (s83_14 (by first | decide | assumption | omega) (by first | decide | assumption | omega)).mpr ?_
    exact EN
  have TP := x5_takeP (d := d - 1) (Q := kon d 83 9 12 [vR (some 26), vR (some t), vI cv, vI n] [] Q) hR hO hP np4 hn (by omega) (fun h3 w1 w2 w3 w4 => by
    have Z := T12 h3 w1 w2 w3 w4
    simp only [kon, knt_some, knt_none, Option.toList_some, Option.toList_none, List.cons_append, List.nil_append]
    exact Z)
  rw [e83]
  refine s83_0.mpr (s83_1.mpr ?_)
  refine (s83_2 (by omega)).mpr ?_
  refine CP _ ?_
  simp only [kon, knt_some, knt_none, Option.toList_some, Option.toList_none, List.cons_append, List.nil_append]
  refine s83_5.mpr (s83_6.mpr (s83_7.mpr (s83_8.mpr ?_)))
  refine (s83_9 (by first | decide | assumption | omega) (by first | decide | assumption | omega)).mpr ?_
  exact TP
end CM7
