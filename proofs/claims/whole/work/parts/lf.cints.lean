/-! RUNNING, the class: numbers, and where it goes on -/
section CM4
variable {d : Nat} {Q : QQ} {T : TXs} {al al' : AL} {hi hi' : HI} {hr hr' : HR} {s s' s2 sx sm : HI} {A A' : Int → Int → Int} {NN : Int → Option Nat} {E E' : Int → Prop} {p m f o q v w x y n k qx cv : Int} {b B : Int → Int} {X Y : Tst} {t t' N M : Nat} {al0 : AL} {hi0 : HI} {hr0 : HR}
theorem vm_0 (h : w ≠ 1) : vm A p v w = v := if_neg h
theorem vm_z (h : w = 1 → v ≠ 0 → A p v ≠ 0) : vm A p v w = 0 ↔ v = 0 := by
  unfold vm
  by_cases c : w = 1
  · rw [if_pos c]
    by_cases z : v = 0
    · rw [if_pos z]; exact ⟨fun _ => z, fun _ => rfl⟩
    · rw [if_neg z]; exact ⟨fun y => absurd y (h c z), fun y => absurd y z⟩
  · rw [if_neg c]
theorem BQ.pp_ {n : Int} (h : BQ s) : BQ (pp s p n) := h.eq (fun a i z => ppz_n (by omega))
theorem BQ.psh_ (h : BQ s) : BQ (psh s p v w) := h.eq (fun a i z => psh_n (by omega))
theorem BQ.goS_ (h : BQ s) : BQ (goS s p v) := h.eq (fun a i z => goS_n (by omega))
theorem cls_op (h : ∀ x, opn s x → (E x ↔ E' x)) : clsS s E = clsS s E' := by
  have e : ∀ x, clo s E x ↔ clo s E' x := fun x => ⟨fun z => clo_mn z (fun y y1 y2 => clo_s ((h y y2).mp y1) y2), fun z => clo_mn z (fun y y1 y2 => clo_s ((h y y2).mpr y1) y2)⟩
  have e1 : clo s E = clo s E' := funext (fun x => propext (e x))
  show clG s (clo s E) (blo s (clo s E)) = clG s (clo s E') (blo s (clo s E'))
  rw [e1]
theorem c_reckon (ho : 7 ≤ o ∧ o ≤ 18) (hb : o = 10 ∨ o = 11 → y ≠ 0) (q : Q (some (some (vI (rek o x y)))) al hi hr) : Ev d 81 [vI o, vI x, vI y] al hi hr Q := by
  have q7 : o = 7 → Q (some (some (vI (fAdd x y)))) al hi hr := fun h => by subst h; exact q
  have q8 : o = 8 → Q (some (some (vI (fSub x y)))) al hi hr := fun h => by subst h; exact q
  have q9 : o = 9 → Q (some (some (vI (fMul x y)))) al hi hr := fun h => by subst h; exact q
  have q10 : o = 10 → Q (some (some (vI (fDiv x y)))) al hi hr := fun h => by subst h; exact q
  have q11 : o = 11 → Q (some (some (vI (fRem x y)))) al hi hr := fun h => by subst h; exact q
  have q12 : o = 12 → Q (some (some (vI (fAnd x y)))) al hi hr := fun h => by subst h; exact q
  have q13 : o = 13 → Q (some (some (vI (fOr x y)))) al hi hr := fun h => by subst h; exact q
  have q14 : o = 14 → Q (some (some (vI (fXor x y)))) al hi hr := fun h => by subst h; exact q
  have q15 : o = 15 → Q (some (some (vI (fShl x (fAnd y 31))))) al hi hr := fun h => by subst h; exact q
  have q16 : o = 16 → Q (some (some (vI (fShr x (fAnd y 31))))) al hi hr := fun h => by subst h; exact q
  have q17 : o = 17 → Q (some (some (vI (if x < y then 1 else 0)))) al hi hr := fun h => by subst h; exact q
  have q18 : o = 18 → Q (some (some (vI (if x = y then 1 else 0)))) al hi hr := fun h => by subst h; exact q
  clear q
  have r17 : o = 17 → x < y → Q (some (some (vI 1))) al hi hr := fun h z => by have := q17 h; rw [if_pos z] at this; exact this
  have n17 : o = 17 → ¬ x < y → Q (some (some (vI 0))) al hi hr := fun h z => by have := q17 h; rw [if_neg z] at this; exact this
  have r18 : o = 18 → x = y → Q (some (some (vI 1))) al hi hr := fun h z => by have := q18 h; rw [if_pos z] at this; exact this
  have n18 : o = 18 → ¬ x = y → Q (some (some (vI 0))) al hi hr := fun h z => by have := q18 h; rw [if_neg z] at this; exact this
  clear q17 q18
  rw [e81]
  refine s81_0.mpr ?_
  refine g81_1 (fun c1 => ?_) (fun c1 => ?_) (fun c1 => ?_) (fun c1 => ?_) (fun c1 => ?_) (fun c1 => ?_) (fun c1 => ?_) (fun c1 => ?_) (fun c1 => ?_) (fun c1 => ?_) (fun c1 => ?_) (fun c1 => ?_)
  · skip
    have c1 := List.mem_singleton.mp c1
    refine s81_60.mpr (s81_61.mpr (s81_62.mpr ?_))
    refine (s81_63).mpr ?_
    first | exact q7 c1 | exact q8 c1 | exact q9 c1 | exact q10 c1 | exact q11 c1 | exact q12 c1 | exact q13 c1 | exact q14 c1 | exact q15 c1 | exact q16 c1 | exact r17 c1 (by omega) | exact n17 c1 (by omega) | (simp only [List.mem_cons, List.not_mem_nil, or_false, not_or] at c1; first | exact r18 (by omega) (by omega) | exact n18 (by omega) (by omega))
  · skip
    have c1 := List.mem_singleton.mp c1
    refine s81_64.mpr (s81_65.mpr (s81_66.mpr ?_))
    refine (s81_67).mpr ?_
    first | exact q7 c1 | exact q8 c1 | exact q9 c1 | exact q10 c1 | exact q11 c1 | exact q12 c1 | exact q13 c1 | exact q14 c1 | exact q15 c1 | exact q16 c1 | exact r17 c1 (by omega) | exact n17 c1 (by omega) | (simp only [List.mem_cons, List.not_mem_nil, or_false, not_or] at c1; first | exact r18 (by omega) (by omega) | exact n18 (by omega) (by omega))
  · skip
    have c1 := List.mem_singleton.mp c1
    refine s81_68.mpr (s81_69.mpr (s81_70.mpr ?_))
    refine (s81_71).mpr ?_
    first | exact q7 c1 | exact q8 c1 | exact q9 c1 | exact q10 c1 | exact q11 c1 | exact q12 c1 | exact q13 c1 | exact q14 c1 | exact q15 c1 | exact q16 c1 | exact r17 c1 (by omega) | exact n17 c1 (by omega) | (simp only [List.mem_cons, List.not_mem_nil, or_false, not_or] at c1; first | exact r18 (by omega) (by omega) | exact n18 (by omega) (by omega))
  · skip
    have c1 := List.mem_singleton.mp c1
    refine s81_72.mpr ?_
    refine s81_73.mpr (wif (fun c73 => ?_) (fun c73 => ?_))
    · skip
      exact absurd (by omega) (hb (by omega))
    · skip
      refine s81_80.mpr (s81_81.mpr ?_)
      refine (s81_82 (by first | assumption | omega)).mpr ?_
      refine (s81_83).mpr ?_
      first | exact q7 c1 | exact q8 c1 | exact q9 c1 | exact q10 c1 | exact q11 c1 | exact q12 c1 | exact q13 c1 | exact q14 c1 | exact q15 c1 | exact q16 c1 | exact r17 c1 (by omega) | exact n17 c1 (by omega) | (simp only [List.mem_cons, List.not_mem_nil, or_false, not_or] at c1; first | exact r18 (by omega) (by omega) | exact n18 (by omega) (by omega))
  · skip
    have c1 := List.mem_singleton.mp c1
    refine s81_84.mpr ?_
    refine s81_85.mpr (wif (fun c85 => ?_) (fun c85 => ?_))
    · skip
      exact absurd (by omega) (hb (by omega))
    · skip
      refine s81_92.mpr (s81_93.mpr ?_)
      refine (s81_94 (by first | assumption | omega)).mpr ?_
      refine (s81_95).mpr ?_
      first | exact q7 c1 | exact q8 c1 | exact q9 c1 | exact q10 c1 | exact q11 c1 | exact q12 c1 | exact q13 c1 | exact q14 c1 | exact q15 c1 | exact q16 c1 | exact r17 c1 (by omega) | exact n17 c1 (by omega) | (simp only [List.mem_cons, List.not_mem_nil, or_false, not_or] at c1; first | exact r18 (by omega) (by omega) | exact n18 (by omega) (by omega))
  · skip
    have c1 := List.mem_singleton.mp c1
    refine s81_96.mpr (s81_97.mpr (s81_98.mpr ?_))
    refine (s81_99).mpr ?_
    first | exact q7 c1 | exact q8 c1 | exact q9 c1 | exact q10 c1 | exact q11 c1 | exact q12 c1 | exact q13 c1 | exact q14 c1 | exact q15 c1 | exact q16 c1 | exact r17 c1 (by omega) | exact n17 c1 (by omega) | (simp only [List.mem_cons, List.not_mem_nil, or_false, not_or] at c1; first | exact r18 (by omega) (by omega) | exact n18 (by omega) (by omega))
  · skip
    have c1 := List.mem_singleton.mp c1
    refine s81_100.mpr (s81_101.mpr (s81_102.mpr ?_))
    refine (s81_103).mpr ?_
    first | exact q7 c1 | exact q8 c1 | exact q9 c1 | exact q10 c1 | exact q11 c1 | exact q12 c1 | exact q13 c1 | exact q14 c1 | exact q15 c1 | exact q16 c1 | exact r17 c1 (by omega) | exact n17 c1 (by omega) | (simp only [List.mem_cons, List.not_mem_nil, or_false, not_or] at c1; first | exact r18 (by omega) (by omega) | exact n18 (by omega) (by omega))
  · skip
    have c1 := List.mem_singleton.mp c1
    refine s81_104.mpr (s81_105.mpr (s81_106.mpr ?_))
    refine (s81_107).mpr ?_
    first | exact q7 c1 | exact q8 c1 | exact q9 c1 | exact q10 c1 | exact q11 c1 | exact q12 c1 | exact q13 c1 | exact q14 c1 | exact q15 c1 | exact q16 c1 | exact r17 c1 (by omega) | exact n17 c1 (by omega) | (simp only [List.mem_cons, List.not_mem_nil, or_false, not_or] at c1; first | exact r18 (by omega) (by omega) | exact n18 (by omega) (by omega))
  · skip
    have c1 := List.mem_singleton.mp c1
    refine s81_108.mpr (s81_109.mpr (s81_110.mpr (s81_112.mpr (s81_113.mpr ?_))))
    refine (s81_114).mpr ?_
    first | exact q7 c1 | exact q8 c1 | exact q9 c1 | exact q10 c1 | exact q11 c1 | exact q12 c1 | exact q13 c1 | exact q14 c1 | exact q15 c1 | exact q16 c1 | exact r17 c1 (by omega) | exact n17 c1 (by omega) | (simp only [List.mem_cons, List.not_mem_nil, or_false, not_or] at c1; first | exact r18 (by omega) (by omega) | exact n18 (by omega) (by omega))
  · skip
    have c1 := List.mem_singleton.mp c1
    refine s81_115.mpr (s81_116.mpr (s81_117.mpr (s81_119.mpr (s81_120.mpr ?_))))
    refine (s81_121).mpr ?_
    first | exact q7 c1 | exact q8 c1 | exact q9 c1 | exact q10 c1 | exact q11 c1 | exact q12 c1 | exact q13 c1 | exact q14 c1 | exact q15 c1 | exact q16 c1 | exact r17 c1 (by omega) | exact n17 c1 (by omega) | (simp only [List.mem_cons, List.not_mem_nil, or_false, not_or] at c1; first | exact r18 (by omega) (by omega) | exact n18 (by omega) (by omega))
  · skip
    have c1 := List.mem_singleton.mp c1
    refine s81_122.mpr (s81_123.mpr ?_)
    refine s81_124.mpr (wif (fun c124 => ?_) (fun c124 => ?_))
    · skip
      refine s81_127.mpr (s81_128.mpr ?_)
      refine (s81_132).mpr ?_
      first | exact q7 c1 | exact q8 c1 | exact q9 c1 | exact q10 c1 | exact q11 c1 | exact q12 c1 | exact q13 c1 | exact q14 c1 | exact q15 c1 | exact q16 c1 | exact r17 c1 (by omega) | exact n17 c1 (by omega) | (simp only [List.mem_cons, List.not_mem_nil, or_false, not_or] at c1; first | exact r18 (by omega) (by omega) | exact n18 (by omega) (by omega))
    · skip
      refine s81_131.mpr ?_
      refine (s81_132).mpr ?_
      first | exact q7 c1 | exact q8 c1 | exact q9 c1 | exact q10 c1 | exact q11 c1 | exact q12 c1 | exact q13 c1 | exact q14 c1 | exact q15 c1 | exact q16 c1 | exact r17 c1 (by omega) | exact n17 c1 (by omega) | (simp only [List.mem_cons, List.not_mem_nil, or_false, not_or] at c1; first | exact r18 (by omega) (by omega) | exact n18 (by omega) (by omega))
  · skip
    refine s81_133.mpr (s81_134.mpr ?_)
    refine s81_135.mpr (wif (fun c135 => ?_) (fun c135 => ?_))
    · skip
      refine s81_138.mpr (s81_139.mpr ?_)
      refine (s81_143).mpr ?_
      first | exact q7 c1 | exact q8 c1 | exact q9 c1 | exact q10 c1 | exact q11 c1 | exact q12 c1 | exact q13 c1 | exact q14 c1 | exact q15 c1 | exact q16 c1 | exact r17 c1 (by omega) | exact n17 c1 (by omega) | (simp only [List.mem_cons, List.not_mem_nil, or_false, not_or] at c1; first | exact r18 (by omega) (by omega) | exact n18 (by omega) (by omega))
    · skip
      refine s81_142.mpr ?_
      refine (s81_143).mpr ?_
      first | exact q7 c1 | exact q8 c1 | exact q9 c1 | exact q10 c1 | exact q11 c1 | exact q12 c1 | exact q13 c1 | exact q14 c1 | exact q15 c1 | exact q16 c1 | exact r17 c1 (by omega) | exact n17 c1 (by omega) | (simp only [List.mem_cons, List.not_mem_nil, or_false, not_or] at c1; first | exact r18 (by omega) (by omega) | exact n18 (by omega) (by omega))
theorem x5_ints (hR : RelC T NN al0 hi0 hr0 (fun _ => False) A al hi hr s) (hO : OnP hr s p t) (hP : AllP s) (hBQ : BQ s) (ho : 7 ≤ o ∧ o ≤ 18) (k0 : ts s p 0 = 0) (k1 : ts s p 1 = 0) (h2 : 2 ≤ hg s p) (hd : 2 ≤ d) (q : ∀ v' al' hi' hr', Pf T NN al0 hi0 hr0 p t (exS (T m) f s p o v qx) v' al' hi' hr' → Q (some (some (vI v'))) al' hi' hr') : Ev d 80 [vR (some 26), vR (some t), vI o] al hi hr Q := by
  have k9 := (hR.tf hO).1.1.2
  obtain ⟨⟨p0, p1⟩, ht, h89, ⟨a1, a16⟩, ⟨r0, r1⟩, h97, h56⟩ := id hO
  have hg16 := h97 _ (by unfold ai; omega) (Int.le_refl _); have hg16 : 0 ≤ hg s p ∧ hg s p ≤ 16 := hg16
  rw [exq_7 ho] at q
  have T9 : ∀ h3 l4, RelC T NN al0 hi0 hr0 (fun _ => False) A al h3 hr (pp s p 2) → OnP hr (pp s p 2) p t → AllP (pp s p 2) → Wp d 80 9 [vR (some 26), vR (some t), vI o, vI (tv s p 0), l4] [vI (tv s p 1)] al h3 hr Q := by
    intro h3 l4 w1 w2 w3
    by_cases c : (o = 10 ∨ o = 11) ∧ tv s p 0 = 0
    · rw [if_pos c] at q
      have E0 := q 3 _ _ _ (Pf.tr w1 w2 w3 hBQ.pp_ (by decide) rfl)
      refine s80_9.mpr (s80_11.mpr (s80_12.mpr ?_))
      refine s80_14.mpr (wif (fun c14 => ?_) (fun c14 => ?_))
      · skip
        refine s80_23.mpr ?_
        refine s80_24.mpr (wif (fun c24 => ?_) (fun c24 => ?_))
        · skip
          refine s80_27.mpr ?_
          refine (s80_28).mpr ?_
          exact E0
        · skip
          exfalso; omega
      · skip
        refine s80_17.mpr (s80_18.mpr ?_)
        refine s80_20.mpr (wif (fun c20 => ?_) (fun c20 => ?_))
        · skip
          refine s80_23.mpr ?_
          refine s80_24.mpr (wif (fun c24 => ?_) (fun c24 => ?_))
          · skip
            refine s80_27.mpr ?_
            refine (s80_28).mpr ?_
            exact E0
          · skip
            exfalso; omega
        · skip
          exfalso; omega
    · rw [if_neg c] at q
      have PU := t_push0 (d := d - 1) (Q := kon d 80 38 41 [vR (some 26), vR (some t), vI o, vI (tv s p 0), vI (tv s p 1)] [] Q) (v := rek o (tv s p 1) (tv s p 0)) w1 w2 w3 (by rw [ppz_hg]; omega) (fun h4 y1 y2 y3 _ => by
        have E0 := q 0 _ _ _ (Pf.ok y1 y2 y3 hBQ.pp_.psh_)
        simp only [kon, knt_some, knt_none, Option.toList_some, Option.toList_none, List.cons_append, List.nil_append]
        refine s80_41.mpr ?_
        refine (s80_42).mpr ?_
        exact E0
        )
      have T29 : Wp d 80 29 [vR (some 26), vR (some t), vI o, vI (tv s p 0), vI (tv s p 1)] [] al h3 hr Q := by
        refine s80_29.mpr (s80_30.mpr (s80_31.mpr (s80_32.mpr (s80_34.mpr ?_))))
        refine (s80_35 (by omega)).mpr ?_
        refine c_reckon ho (fun z => fun y => c ⟨z, y⟩) ?_
        simp only [kon, knt_some, knt_none, Option.toList_some, Option.toList_none, List.cons_append, List.nil_append]
        refine (s80_38 (by first | decide | assumption | omega) (by first | decide | assumption | omega)).mpr ?_
        exact PU
      refine s80_9.mpr (s80_11.mpr (s80_12.mpr ?_))
      refine s80_14.mpr (wif (fun c14 => ?_) (fun c14 => ?_))
      · skip
        refine s80_23.mpr ?_
        refine s80_24.mpr (wif (fun c24 => ?_) (fun c24 => ?_))
        · skip
          exfalso; omega
        · skip
          exact T29
      · skip
        refine s80_17.mpr (s80_18.mpr ?_)
        refine s80_20.mpr (wif (fun c20 => ?_) (fun c20 => ?_))
        · skip
          refine s80_23.mpr ?_
          refine s80_24.mpr (wif (fun c24 => ?_) (fun c24 => ?_))
          · skip
            exfalso; omega
          · skip
            exact T29
        · skip
          exact T29
  have T4 : ∀ h3 l3 l4, RelC T NN al0 hi0 hr0 (fun _ => False) A al h3 hr (pp s p 1) → OnP hr (pp s p 1) p t → AllP (pp s p 1) → Wp d 80 4 [vR (some 26), vR (some t), vI o, l3, l4] [vI (tv s p 0)] al h3 hr Q := by
    intro h3 l3 l4 w1 w2 w3
    refine s80_4.mpr (s80_5.mpr ?_)
    refine (s80_6 (by first | decide | assumption | omega) (by first | decide | assumption | omega)).mpr ?_
    refine t_pop w1 w2 w3 (by rw [ppz_hg]; omega) (fun h4 y1 y2 y3 y4 => ?_)
    rw [pp_pp] at y1 y2 y3; simp only [kon, knt_some, knt_none, Option.toList_some, Option.toList_none, List.cons_append, List.nil_append, tv_pp, ts_pp]; rw [show (0 : Int) + 1 = 1 by rfl, vm_0 (show ts s p 1 ≠ 1 by omega)]
    exact T9 _ _ y1 y2 y3
  rw [e80]
  refine s80_0.mpr ?_
  refine (s80_1 (by first | decide | assumption | omega) (by first | decide | assumption | omega)).mpr ?_
  refine t_pop hR hO hP (by omega) (fun h4 y1 y2 y3 y4 => ?_)
  simp only [kon, knt_some, knt_none, Option.toList_some, Option.toList_none, List.cons_append, List.nil_append]; rw [vm_0 (show ts s p 0 ≠ 1 by omega)]
  exact T4 _ _ _ y1 y2 y3
theorem x5_out (hR : RelC T NN al0 hi0 hr0 (fun _ => False) A al hi hr s) (hO : OnP hr s p t) (hP : AllP s) (hBQ : BQ s) (ho : o = 43) (k0 : ts s p 0 = 0) (h1 : 1 ≤ hg s p) (h5 : 0 ≤ s 49 55 ∧ s 49 55 ≤ 500) (hd : 2 ≤ d) (q : ∀ v' al' hi' hr', Pf T NN al0 hi0 hr0 p t (exS (T m) f s p o v qx) v' al' hi' hr' → Q (some (some (vI v'))) al' hi' hr') : Ev d 89 [vR (some 26), vR (some t)] al hi hr Q := by
  have k9 := (hR.tf hO).1.1.2
  rw [exq_43 ho] at q
  have hA := hR.1.1
  have hC := hR.1.2.1
  have k26 : isK al 26 6 := hA.k (by decide) (by decide) rfl
  have R44 : isR al 44 = true := hA.r (by decide) (by decide) (by decide)
  have R45 : isR al 45 = true := hA.r (by decide) (by decide) (by decide)
  have K44 : isK al 44 15 := hA.k (by decide) (by decide) rfl
  have K45 : isK al 45 15 := hA.k (by decide) (by decide) rfl
  have l44 := SA.len (a := 44) (n := 500) hA (by decide) (by decide) rfl
  have l45 := SA.len (a := 45) (n := 500) hA (by decide) (by decide) rfl
  have g44 := cr_26_6 hC
  have g45 := cr_26_7 hC
  unfold outS at q
  have T4 : ∀ h3 l2, RelC T NN al0 hi0 hr0 (fun _ => False) A al h3 hr (pp s p 1) → OnP hr (pp s p 1) p t → AllP (pp s p 1) → Wp d 89 4 [vR (some 26), vR (some t), l2] [vI (tv s p 0)] al h3 hr Q := by
    intro h3 l2 w1 w2 w3
    have m1 := w1.2.1
    have e8 : h3 26 8 = s 49 55 := by rw [m1.2.1, ppz_n (by decide)]
    have k9 := (w1.tf w2).1.1.2
    have e0 : h3 t 0 = p := (w1.tf w2).2.2.1
    by_cases c : s 49 55 = 500
    · rw [if_pos c] at q
      have E0 := q 10 _ _ _ (Pf.tr w1 w2 w3 hBQ.pp_ (by decide) rfl)
      refine s89_4.mpr (s89_5.mpr ?_)
      refine (s89_6 (by first | decide | assumption | omega)).mpr ?_
      refine s89_9.mpr ?_
      try simp (disch := first | decide | assumption | omega) only [e8]
      refine s89_12.mpr (wif (fun c12 => ?_) (fun c12 => ?_))
      · skip
        exfalso; omega
      · skip
        refine s89_15.mpr ?_
        refine (s89_17).mpr ?_
        exact E0
    · rw [if_neg c] at q
      obtain ⟨z, hz⟩ : ∃ z, s 49 55 = z := ⟨_, rfl⟩
      rw [hz] at e8 q h5 c
      obtain ⟨h9, hh9⟩ : ∃ h9, upI (upI (upI h3 44 z p) 45 z (tv s p 0)) 26 8 (z + 1) = h9 := ⟨_, rfl⟩
      obtain ⟨s9, hs9⟩ : ∃ s9, upI (upI (upI (pp s p 1) 87 z p) 88 z (tv s p 0)) 49 55 (z + 1) = s9 := ⟨_, rfl⟩
      have n9 : ∀ (a : Nat) i, a ≠ 44 → a ≠ 45 → a ≠ 26 → h9 a i = h3 a i := fun a i y1 y2 y3 => by rw [← hh9, upI_a y3, upI_a y2, upI_a y1]
      have n92 : ∀ i, i ≠ 8 → h9 26 i = h3 26 i := fun i y => by rw [← hh9, upI_i y, upI_a (by decide), upI_a (by decide)]
      have ns : ∀ (a : Nat) i, a ≠ 87 → a ≠ 88 → a ≠ 49 → s9 a i = pp s p 1 a i := fun a i y1 y2 y3 => by rw [← hs9, upI_a y3, upI_a y2, upI_a y1]
      have ns2 : ∀ i, i ≠ 55 → s9 49 i = pp s p 1 49 i := fun i y => by rw [← hs9, upI_i y, upI_a (by decide), upI_a (by decide)]
      have mz : pp s p 1 49 55 = z := by rw [ppz_n (by decide)]; exact hz
      rw [hs9] at q
      have hM : MaC h9 s9 := by
        obtain ⟨m1, m2, m3, m4, m5, m6, m7⟩ := m1
        refine ⟨(n92 _ (by decide)).trans m1, ?_, by rw [n92 _ (by decide), ns2 _ (by decide)]; exact m3, by rw [n92 _ (by decide), ns2 _ (by decide)]; exact m4, by rw [n92 _ (by decide), ns2 _ (by decide)]; exact m5, fun q q0 q1 => by rw [n9 _ _ (by decide) (by decide) (by decide), ns2 _ (by decide)]; exact m6 q q0 q1, fun i i0 i1 => ?_⟩
        · rw [← hh9, ← hs9, upI_eq, upI_eq]
        · have e55 : s9 49 55 = z + 1 := by rw [← hs9, upI_eq]
          rw [e55] at i1
          rw [← hh9, ← hs9]
          by_cases u : i = z
          · subst u
            rw [upI_a (by decide), upI_a (by decide), upI_eq, upI_a (by decide), upI_a (by decide), upI_eq, upI_a (by decide), upI_eq, upI_a (by decide), upI_eq]
            exact ⟨rfl, rfl⟩
          · rw [upI_a (by decide), upI_a (by decide), upI_i u, upI_a (by decide), upI_a (by decide), upI_i u, upI_a (by decide), upI_i u, upI_a (by decide), upI_a (by decide), upI_i u, upI_a (by decide)]
            exact m7 i i0 (by rw [mz]; omega)
      obtain ⟨R1, R2⟩ := w1.rs_
      have R := R1.glo (hi' := h9) (s' := s9) w3 (fun a i y => n9 a i (by unfold gC at y; omega) (by unfold gC at y; omega) (by unfold gC at y; omega)) (fun _ _ _ => rfl) (fun a i y => ns a i (by unfold gS at y; omega) (by unfold gS at y; omega) (by unfold gS at y; omega)) (ns2 _ (by decide)) hM (R1.2.2.1.cg (fun a i y1 y2 => n9 a i (by omega) (by omega) (by omega)) (fun b _ _ => ns _ _ (by decide) (by decide) (by decide)) (fun b _ _ _ => ⟨ns _ _ (by decide) (by decide) (by decide), fun j _ _ => ns _ _ (by decide) (by decide) (by decide)⟩)) (R1.2.2.2.1.cg (fun a i y1 y2 => n9 a i (by omega) (by omega) (by omega)) (fun e => ns _ _ (by decide) (by decide) (by decide)) (fun e => ns _ _ (by decide) (by decide) (by decide)) (fun e _ => ⟨ns _ _ (by decide) (by decide) (by decide), ns _ _ (by decide) (by decide) (by decide), fun k _ _ => ⟨ns _ _ (by decide) (by decide) (by decide), ns _ _ (by decide) (by decide) (by decide), ns _ _ (by decide) (by decide) (by decide)⟩⟩))
      have hO9 : OnP hr s9 p t := w2.glo (fun _ _ _ => rfl) (fun a i y => ns a i (by unfold gS at y; omega) (by unfold gS at y; omega) (by unfold gS at y; omega)) (ns2 _ (by decide))
      have hP9 : AllP s9 := w3.glo (fun a i y => ns a i (by unfold gS at y; omega) (by unfold gS at y; omega) (by unfold gS at y; omega)) (ns2 _ (by decide))
      have E0 := q 0 _ _ _ (Pf.ok (R.rc_ (R2.cg (fun a i y => n9 a i (by omega) (by omega) (by omega)))) hO9 hP9 ((hBQ.pp_ (p := p) (n := 1)).eq (fun a i y => ns a i (by omega) (by omega) (by omega))))
      rw [← hh9] at E0
      have u8 : ∀ a b, upI (upI h3 44 z a) 45 z b 26 8 = z := fun a b => by rw [upI_a (by decide), upI_a (by decide)]; exact e8
      have u8' : ∀ a, upI h3 44 z a 26 8 = z := fun a => by rw [upI_a (by decide)]; exact e8
      refine s89_4.mpr (s89_5.mpr ?_)
      refine (s89_6 (by first | decide | assumption | omega)).mpr ?_
      refine s89_9.mpr ?_
      try simp (disch := first | decide | assumption | omega) only [e8, e0, g44, g45, u8, u8', fAdd_id]
      refine s89_12.mpr (wif (fun c12 => ?_) (fun c12 => ?_))
      · skip
        refine s89_18.mpr ?_
        refine (s89_19 (by first | decide | assumption | omega)).mpr ?_
        refine s89_22.mpr ?_
        try simp (disch := first | decide | assumption | omega) only [e8, e0, g44, g45, u8, u8', fAdd_id]
        refine (s89_23 (by first | decide | assumption | omega)).mpr ?_
        refine s89_26.mpr ?_
        try simp (disch := first | decide | assumption | omega) only [e8, e0, g44, g45, u8, u8', fAdd_id]
        refine (s89_27 (by first | decide | assumption | omega)).mpr ?_
        try simp (disch := first | decide | assumption | omega) only [e8, e0, g44, g45, u8, u8', fAdd_id]
        refine (s89_30 (by first | decide | assumption | omega) (by first | decide | assumption | omega) (by first | decide | assumption | omega)).mpr ?_
        refine s89_31.mpr ?_
        try simp (disch := first | decide | assumption | omega) only [e8, e0, g44, g45, u8, u8', fAdd_id]
        refine (s89_32 (by first | decide | assumption | omega)).mpr ?_
        refine s89_35.mpr ?_
        try simp (disch := first | decide | assumption | omega) only [e8, e0, g44, g45, u8, u8', fAdd_id]
        refine (s89_36 (by first | decide | assumption | omega)).mpr ?_
        refine s89_39.mpr ?_
        try simp (disch := first | decide | assumption | omega) only [e8, e0, g44, g45, u8, u8', fAdd_id]
        refine (s89_40 (by first | decide | assumption | omega) (by first | decide | assumption | omega) (by first | decide | assumption | omega)).mpr ?_
        refine s89_41.mpr (s89_42.mpr ?_)
        try simp (disch := first | decide | assumption | omega) only [e8, e0, g44, g45, u8, u8', fAdd_id]
        refine (s89_43 (by first | decide | assumption | omega)).mpr ?_
        refine s89_46.mpr (s89_47.mpr ?_)
        try simp (disch := first | decide | assumption | omega) only [e8, e0, g44, g45, u8, u8', fAdd_id]
        refine (s89_48 (by first | decide | assumption | omega)).mpr ?_
        refine s89_51.mpr ?_
        try simp (disch := first | decide | assumption | omega) only [e8, e0, g44, g45, u8, u8', fAdd_id]
        refine (s89_52).mpr ?_
        exact E0
      · skip
        exfalso; omega
  rw [e89]
  refine s89_0.mpr ?_
  refine (s89_1 (by first | decide | assumption | omega) (by first | decide | assumption | omega)).mpr ?_
  refine t_pop hR hO hP (by omega) (fun h4 y1 y2 y3 y4 => ?_)
  simp only [kon, knt_some, knt_none, Option.toList_some, Option.toList_none, List.cons_append, List.nil_append]; rw [vm_0 (show ts s p 0 ≠ 1 by omega)]
  exact T4 _ _ y1 y2 y3
theorem fl_19 (hR : RelC T NN al0 hi0 hr0 (fun _ => False) A al hi hr s) (hO : OnP hr s p t) (hP : AllP s) (hBQ : BQ s) (ho : o = 19) (h1 : 1 ≤ hg s p) (hd : 2 ≤ d) (q : ∀ v' al' hi' hr', Pf T NN al0 hi0 hr0 p t (exS (T m) f s p o v qx) v' al' hi' hr' → Q (some (some (vI v'))) al' hi' hr') : Wp d 82 116 [vR (some 26), vR (some t), vI o, vI cv] [] al hi hr Q := by
  have k9 := (hR.tf hO).1.1.2
  obtain ⟨⟨p0, p1⟩, ht, h89, ⟨a1, a16⟩, ⟨r0, r1⟩, h97, h56⟩ := id hO
  have hg16 := h97 _ (by unfold ai; omega) (Int.le_refl _); have hg16 : 0 ≤ hg s p ∧ hg s p ≤ 16 := hg16
  rw [exq_19 ho] at q
  have hz := vm_z (fun z1 z2 => hR.rtv hO (k := 0) (by decide) (by omega) z1 z2)
  have T130 : ∀ h3 z, z = (if tv s p 0 = 0 then (1 : Int) else 0) → RelC T NN al0 hi0 hr0 (fun _ => False) A al h3 hr (pp s p 1) → OnP hr (pp s p 1) p t → AllP (pp s p 1) → Wp d 82 130 [vR (some 26), vR (some t), vI o, vI cv] [vI z, vI 0, vR (some t)] al h3 hr Q := by
    intro h3 z hz9 w1 w2 w3
    rw [← hz9] at q
    have PU := t_push0 (d := d - 1) (Q := kon d 82 130 133 [vR (some 26), vR (some t), vI o, vI cv] [] Q) (v := z) w1 w2 w3 (by rw [ppz_hg]; omega) (fun h4 y1 y2 y3 _ => by
      have E0 := q 0 _ _ _ (Pf.ok y1 y2 y3 hBQ.pp_.psh_)
      simp only [kon, knt_some, knt_none, Option.toList_some, Option.toList_none, List.cons_append, List.nil_append]
      refine s82_133.mpr ?_
      refine (s82_134).mpr ?_
      exact E0
      )
    refine (s82_130 (by first | decide | assumption | omega) (by first | decide | assumption | omega)).mpr ?_
    exact PU
  by_cases c : tv s p 0 = 0
  · have c2 := hz.mpr c
    rw [if_pos c] at T130
    refine s82_116.mpr (s82_117.mpr (s82_118.mpr ?_))
    refine (s82_119 (by first | decide | assumption | omega) (by first | decide | assumption | omega)).mpr ?_
    refine t_pop hR hO hP h1 (fun h4 y1 y2 y3 y4 => ?_)
    simp only [kon, knt_some, knt_none, Option.toList_some, Option.toList_none, List.cons_append, List.nil_append]
    refine s82_122.mpr (wif (fun c122 => ?_) (fun c122 => ?_))
    · skip
      refine s82_125.mpr (s82_126.mpr ?_)
      exact T130 _ _ rfl y1 y2 y3
    · skip
      exact absurd c2 (by assumption)
  · have c2 : vm A p (tv s p 0) (ts s p 0) ≠ 0 := fun y => c (hz.mp y)
    rw [if_neg c] at T130
    refine s82_116.mpr (s82_117.mpr (s82_118.mpr ?_))
    refine (s82_119 (by first | decide | assumption | omega) (by first | decide | assumption | omega)).mpr ?_
    refine t_pop hR hO hP h1 (fun h4 y1 y2 y3 y4 => ?_)
    simp only [kon, knt_some, knt_none, Option.toList_some, Option.toList_none, List.cons_append, List.nil_append]
    refine s82_122.mpr (wif (fun c122 => ?_) (fun c122 => ?_))
    · skip
      exact absurd (by assumption) c2
    · skip
      refine s82_129.mpr ?_
      exact T130 _ _ rfl y1 y2 y3
theorem fl_20 (hR : RelC T NN al0 hi0 hr0 (fun _ => False) A al hi hr s) (hO : OnP hr s p t) (hP : AllP s) (hBQ : BQ s) (ho : o = 20) (hcv : cv = v) (hd : 2 ≤ d) (q : ∀ v' al' hi' hr', Pf T NN al0 hi0 hr0 p t (exS (T m) f s p o v qx) v' al' hi' hr' → Q (some (some (vI v'))) al' hi' hr') : Wp d 82 135 [vR (some 26), vR (some t), vI o, vI cv] [] al hi hr Q := by
  have k9 := (hR.tf hO).1.1.2
  rw [exq_20 ho] at q
  subst hcv
  refine s82_135.mpr (s82_136.mpr ?_)
  refine (s82_137 (by first | decide | assumption | omega) (by first | decide | assumption | omega)).mpr ?_
  refine t_goTo hR hO hP (fun h4 y1 y2 y3 _ => ?_)
  simp only [kon, knt_some, knt_none, Option.toList_some, Option.toList_none, List.cons_append, List.nil_append]
  refine s82_140.mpr ?_
  refine (s82_141).mpr ?_
  exact q 0 _ _ _ (Pf.ok y1 y2 y3 hBQ.goS_)
theorem fl_21 (hR : RelC T NN al0 hi0 hr0 (fun _ => False) A al hi hr s) (hO : OnP hr s p t) (hP : AllP s) (hBQ : BQ s) (ho : o = 21) (hcv : cv = v) (hd : 2 ≤ d) (h1 : 1 ≤ hg s p) (q : ∀ v' al' hi' hr', Pf T NN al0 hi0 hr0 p t (exS (T m) f s p o v qx) v' al' hi' hr' → Q (some (some (vI v'))) al' hi' hr') : Wp d 82 142 [vR (some 26), vR (some t), vI o, vI cv] [] al hi hr Q := by
  have k9 := (hR.tf hO).1.1.2
  obtain ⟨⟨p0, p1⟩, ht, h89, ⟨a1, a16⟩, ⟨r0, r1⟩, h97, h56⟩ := id hO
  have hg16 := h97 _ (by unfold ai; omega) (Int.le_refl _); have hg16 : 0 ≤ hg s p ∧ hg s p ≤ 16 := hg16
  rw [exq_21 ho] at q
  subst hcv
  have hz := vm_z (fun z1 z2 => hR.rtv hO (k := 0) (by decide) (by omega) z1 z2)
  by_cases c : tv s p 0 = 0
  · have c2 := hz.mpr c
    rw [if_pos c] at q
    refine s82_142.mpr ?_
    refine (s82_143 (by first | decide | assumption | omega) (by first | decide | assumption | omega)).mpr ?_
    refine t_pop hR hO hP h1 (fun h4 y1 y2 y3 y4 => ?_)
    simp only [kon, knt_some, knt_none, Option.toList_some, Option.toList_none, List.cons_append, List.nil_append]
    refine s82_146.mpr (wif (fun c146 => ?_) (fun c146 => ?_))
    · skip
      refine s82_149.mpr (s82_150.mpr ?_)
      refine (s82_151 (by first | decide | assumption | omega) (by first | decide | assumption | omega)).mpr ?_
      refine t_goTo y1 y2 y3 (fun h4 y1 y2 y3 _ => ?_)
      simp only [kon, knt_some, knt_none, Option.toList_some, Option.toList_none, List.cons_append, List.nil_append]
      refine s82_154.mpr ?_
      refine (s82_155).mpr ?_
      first | exact absurd c2 (by assumption) | exact q 0 _ _ _ (Pf.ok y1 y2 y3 hBQ.pp_.goS_)
    · skip
      refine s82_154.mpr ?_
      refine (s82_155).mpr ?_
      first | exact absurd c2 (by assumption) | exact q 0 _ _ _ (Pf.ok y1 y2 y3 hBQ.pp_.goS_)
  · have c2 : vm A p (tv s p 0) (ts s p 0) ≠ 0 := fun y => c (hz.mp y)
    rw [if_neg c] at q
    refine s82_142.mpr ?_
    refine (s82_143 (by first | decide | assumption | omega) (by first | decide | assumption | omega)).mpr ?_
    refine t_pop hR hO hP h1 (fun h4 y1 y2 y3 y4 => ?_)
    simp only [kon, knt_some, knt_none, Option.toList_some, Option.toList_none, List.cons_append, List.nil_append]
    refine s82_146.mpr (wif (fun c146 => ?_) (fun c146 => ?_))
    · skip
      exact absurd (by assumption) c2
    · skip
      refine s82_154.mpr ?_
      refine (s82_155).mpr ?_
      exact q 0 _ _ _ (Pf.ok y1 y2 y3 hBQ.pp_)
theorem fl_39 (hR : RelC T NN al0 hi0 hr0 (fun _ => False) A al hi hr s) (hO : OnP hr s p t) (hP : AllP s) (hBQ : BQ s) (ho : o = 39) (k0 : ts s p 0 = 3) (h1 : 1 ≤ hg s p) (hd : 2 ≤ d) (q : ∀ v' al' hi' hr', Pf T NN al0 hi0 hr0 p t (exS (T m) f s p o v qx) v' al' hi' hr' → Q (some (some (vI v'))) al' hi' hr') : Wp d 82 169 [vR (some 26), vR (some t), vI o, vI cv] [] al hi hr Q := by
  have k9 := (hR.tf hO).1.1.2
  have k26 : isK al 26 6 := hR.1.1.k (by decide) (by decide) rfl
  have g4 := cr_26_4 hR.1.2.1
  have k33 : isK al 33 5 := hR.1.1.k (by decide) (by decide) rfl
  rw [exq_39 ho] at q
  have T177 : ∀ h3, RelC T NN al0 hi0 hr0 (fun _ => False) A al h3 hr (pp s p 1) → OnP hr (pp s p 1) p t → AllP (pp s p 1) → Wp d 82 177 [vR (some 26), vR (some t), vI o, vI cv] [vI (tv s p 0), vR (some 33)] al h3 hr Q := by
    intro h3 w1 w2 w3
    obtain ⟨R1, R2⟩ := w1.rs_
    have CL := x_close (d := d - 1) (Q := kon d 82 177 180 [vR (some 26), vR (some t), vI o, vI cv] [] Q) (e := tv s p 0) R1 w3 R2 R2.1.1 (by omega) (fun h4 E' y1 y2 y3 _ _ _ _ _ => by
      have E0 := q 0 _ _ _ ⟨A, pp s p 1, E', y1.rc_ y2, w2, w3, hBQ.pp_, Or.inl ⟨rfl, DD.of (cls_op (fun x ho => (y3 x).trans ⟨fun z => z.elim False.elim (fun z => z.1), fun z => Or.inr ⟨z, by rw [← z]; exact ho⟩⟩))⟩⟩
      simp only [kon, knt_some, knt_none, Option.toList_some, Option.toList_none, List.cons_append, List.nil_append]
      refine s82_180.mpr ?_
      refine (s82_181).mpr ?_
      exact E0
      )
    refine (s82_177 (by first | decide | assumption | omega) (by first | decide | assumption | omega)).mpr ?_
    exact CL
  refine s82_169.mpr ?_
  refine (s82_170 (by first | decide | assumption | omega)).mpr ?_
  refine s82_173.mpr ?_
  try simp (disch := first | decide | assumption | omega) only [g4]
  refine (s82_174 (by first | decide | assumption | omega) (by first | decide | assumption | omega)).mpr ?_
  refine t_pop hR hO hP h1 (fun h4 y1 y2 y3 y4 => ?_)
  simp only [kon, knt_some, knt_none, Option.toList_some, Option.toList_none, List.cons_append, List.nil_append]; rw [vm_0 (show ts s p 0 ≠ 1 by omega)]
  exact T177 _ y1 y2 y3
theorem fl_41 (hR : RelC T NN al0 hi0 hr0 (fun _ => False) A al hi hr s) (hO : OnP hr s p t) (hP : AllP s) (hBQ : BQ s) (ho : o = 41) (q : ∀ v' al' hi' hr', Pf T NN al0 hi0 hr0 p t (exS (T m) f s p o v qx) v' al' hi' hr' → Q (some (some (vI v'))) al' hi' hr') : Wp d 82 190 [vR (some 26), vR (some t), vI o, vI cv] [] al hi hr Q := by
  have k9 := (hR.tf hO).1.1.2
  rw [exq_41 ho] at q
  have E0 := q 0 _ _ _ (Pf.ok hR hO hP hBQ)
  refine s82_190.mpr ?_
  refine (s82_191).mpr ?_
  exact E0
theorem fl_42 (hR : RelC T NN al0 hi0 hr0 (fun _ => False) A al hi hr s) (hO : OnP hr s p t) (hP : AllP s) (hBQ : BQ s) (ho : o = 42) (q : ∀ v' al' hi' hr', Pf T NN al0 hi0 hr0 p t (exS (T m) f s p o v qx) v' al' hi' hr' → Q (some (some (vI v'))) al' hi' hr') : Wp d 82 182 [vR (some 26), vR (some t), vI o, vI cv] [] al hi hr Q := by
  have k9 := (hR.tf hO).1.1.2
  rw [exq_42 ho] at q
  have E0 := q (-1) _ _ _ (Pf.ov hR hO hP hBQ rfl)
  refine s82_182.mpr ?_
  refine (s82_183).mpr ?_
  exact E0
end CM4
