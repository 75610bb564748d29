/-! RUNNING, the class: can it go on; a step -/
section CQ2
variable {d : Nat} {Q : QQ} {T : TXs} {al al' : AL} {hi hi' h1 : HI} {hr hr' r1 : HR} {s s' s1 s2 u u' sx sm S : HI} {A A' : Int → Int → Int} {NN : Int → Option Nat} {E E' : Int → Prop} {p m f q v w x y n k g qx i P e fr ty kd tt cvv o c9 z9 a : Int} {B : Int → Int} {X Y : Tst} {t t' N M c b : Nat} {al0 : AL} {hi0 : HI} {hr0 : HR} {V W ws : Int → Int} {pc : Int} {fl : List (Int × Tst)}
theorem ty_send0 (h : JJ T s p m f X) (ts9 : tstep (T m) f pc X = some fl) (ho : opA (T m) f pc = o) (hv : agA (T m) f pc = v) (z : o = 37) (v0 : 0 ≤ v) : (1 ≤ hg s p ∧ (depS s p v = 1 → 2 ≤ hg s p)) ∧ (ts s p 0 = 3 → opn s (tv s p 0) ∧ QO T s (tv s p 0)) ∧ ts s p (depS s p v) = 3 ∧ opn s (tv s p (depS s p v)) := by
  obtain ⟨hJ, hP⟩ := id h
  have hh := hP.hg_
  have tp : ∀ k, 0 ≤ k → k < X.1 → vOk T s p m (tv s p k) (ts s p k) (X.2.1 (X.1 - 1 - k)) := fun k a b => h.top a b
  unfold tstep at ts9; rw [ho, hv] at ts9
  rw [if_neg (by omega), if_neg (by omega)] at ts9
  unfold tsL at ts9
  rw [if_neg (by omega), if_neg (by omega), if_neg (by omega), if_neg (by omega), if_neg (by omega), if_pos z] at ts9
  have X1 : 1 ≤ X.1 := by
    by_cases cb : 0 < X.1 ∧ endT (T m) (X.2.1 (X.1 - 1)) v ∧ ldT (T m) (X.2.1 (X.1 - 1)) v = -1
    · omega
    · rw [if_neg cb] at ts9
      have := (onw_s ts9).1.1; omega
  have hd := dep_c (t := v) h X1 v0
  have en : ∀ e a, enT T s m e a → opn s e ∧ QO T s e := fun e a he => ⟨(JJ.en hJ he).1, hJ.2.1 e (JJ.en hJ he).1⟩
  have t0 := tp 0 (by decide) (by omega)
  rw [Int.sub_zero] at t0
  by_cases cb : endT (T m) (X.2.1 (X.1 - 1)) v ∧ ldT (T m) (X.2.1 (X.1 - 1)) v = -1
  · rw [if_pos cb] at hd
    have he := t0.k5 cb.1.1
    exact ⟨⟨by omega, fun y => by omega⟩, fun y => en _ _ (t0.w3 y).2, by rw [hd]; exact he.1, by rw [hd]; exact (en _ _ he.2).1⟩
  · rw [if_neg cb] at hd
    rw [if_neg (fun u => cb u.2)] at ts9
    obtain ⟨⟨y1, y2, y3, y4⟩, -⟩ := onw_s ts9
    have t1 := tp 1 (by decide) (by omega)
    rw [show X.1 - 1 - 1 = X.1 - 2 by omega] at t1
    have he := t1.k5 y2.1
    exact ⟨⟨by omega, fun _ => by omega⟩, fun y => en _ _ (t0.w3 y).2, by rw [hd]; exact he.1, by rw [hd]; exact (en _ _ he.2).1⟩
theorem ty_recv0 (h : JJ T s p m f X) (ts9 : tstep (T m) f pc X = some fl) (ho : opA (T m) f pc = o) (hv : agA (T m) f pc = v) (z : o = 38) : 1 ≤ hg s p ∧ ts s p 0 = 3 ∧ opn s (tv s p 0) := by
  obtain ⟨hJ, hP⟩ := id h
  have hh := hP.hg_
  unfold tstep at ts9; rw [ho, hv] at ts9
  rw [if_neg (by omega), if_neg (by omega)] at ts9
  unfold tsL at ts9
  rw [if_neg (by omega), if_neg (by omega), if_neg (by omega), if_neg (by omega), if_neg (by omega), if_neg (by omega), if_pos z] at ts9
  obtain ⟨⟨y1, y2, -⟩, -⟩ := onw_s ts9
  have t0 := h.top (k := 0) (by decide) y1
  rw [Int.sub_zero] at t0
  obtain ⟨w3, hen⟩ := t0.k5 y2
  exact ⟨by omega, w3, (JJ.en hJ hen).1⟩
theorem e_isFull (hA : SA al) (hC : CR hr) (hd : 2 ≤ d) (q1 : 4 ≤ (if 0 ≤ e ∧ e < 24 ∧ hi 34 e ≠ 0 then hi 38 e else 0) → Q (some (some (vI 1))) al hi hr) (q0 : (if 0 ≤ e ∧ e < 24 ∧ hi 34 e ≠ 0 then hi 38 e else 0) < 4 → Q (some (some (vI 0))) al hi hr) : Ev d 50 [vR (some 33), vI e] al hi hr Q := by
  have k33 : isK al 33 5 := hA.k (by decide) (by decide) rfl
  obtain ⟨w, hw⟩ : ∃ w, (if 0 ≤ e ∧ e < 24 ∧ hi 34 e ≠ 0 then hi 38 e else 0) = w := ⟨_, rfl⟩
  rw [hw] at q1 q0
  rw [e50]
  refine s50_0.mpr (s50_1.mpr ?_)
  refine (s50_2 (by first | decide | assumption | omega) (by first | decide | assumption | omega)).mpr ?_
  refine e_waitingFor hA hC ?_ (by omega)
  rw [hw]; simp only [kon, knt_some, knt_none, Option.toList_some, Option.toList_none, List.cons_append, List.nil_append]
  refine s50_5.mpr ?_
  refine s50_6.mpr (wif (fun c6 => ?_) (fun c6 => ?_))
  · skip
    refine s50_13.mpr ?_
    refine (s50_14 (by first | assumption | omega)).mpr ?_
    first | exact q1 (by omega) | exact q0 (by omega)
  · skip
    refine s50_9.mpr (s50_10.mpr ?_)
    refine (s50_14 (by first | assumption | omega)).mpr ?_
    first | exact q1 (by omega) | exact q0 (by omega)
theorem x5_outlook (hR : RelC T NN al0 hi0 hr0 (fun _ => False) A al hi hr s) (hO : OnP hr s p t) (hP : AllP s) (hBs : Bs T NN al0 hi0 hr0) (L : Lk T s p m f X pc fl o v) (hd : 6 ≤ d) (q1 : cgO s p o v → Q (some (some (vI 1))) al hi hr) (q2 : ¬ cgO s p o v → o = 38 → Q (some (some (vI 2))) al hi hr) (q3 : ¬ cgO s p o v → o = 37 → Q (some (some (vI 3))) al hi hr) : Ev d 74 [vR (some 26), vR (some t)] al hi hr Q := by
  obtain ⟨hJ, hpc, pc0, ts9, hvX, ⟨ho, hv⟩, hF, h16, hfl, c0, c1⟩ := id L
  obtain ⟨F1, F2, F3, F4, F5, F6, F7, F8, F9⟩ := hF
  have hA := hR.1.1
  have hC := hR.1.2.1
  have k26 : isK al 26 6 := hA.k (by decide) (by decide) rfl
  have k33 : isK al 33 5 := hA.k (by decide) (by decide) rfl
  have g4 := cr_26_4 hC
  have k9 := (hR.tf hO).1.1.2
  have hm : s 91 p = m := hJ.2.1.2.2.1
  obtain ⟨N, n, M, e1, -, hM, hT, -, kN⟩ := hR.cod hO hBs
  rw [hm] at hM hT
  have n0 := hR.2.2.2.1.1
  have W : ∀ x, 0 ≤ x → x < 24 → (if 0 ≤ x ∧ x < 24 ∧ hi 34 x ≠ 0 then hi 38 x else 0) = if s 112 x ≠ -1 then s 114 x else 0 := fun x x0 x1 => by
    obtain ⟨z1, z2, z3, -⟩ := n0.2.1 x x0 x1
    by_cases c : s 112 x ≠ -1
    · have : hi 34 x = 1 := z2.mpr ⟨⟨x0, x1, c⟩, id⟩
      rw [if_pos ⟨x0, x1, by omega⟩, if_pos c, z3]
    · rw [if_neg (fun y => by
        rcases z1 with z1 | z1
        · exact y.2.2 z1
        · exact c (z2.mp z1).1.2.2), if_neg c]
  have eo : (T m) (cAt (T m) f + pc) = o := ho
  have ev : (T m) (cAt (T m) f + pc + 1) = v := hv
  have bo : bZ (T m) (cAt (T m) f + pc) = o := by rw [bZ_p (by rw [eo]; exact F1.1)]; exact eo
  obtain ⟨qx, hqx⟩ : ∃ qx, cAt (T m) f + pc = qx := ⟨_, rfl⟩
  have qr : 0 ≤ qx ∧ qx < 2000 := by omega
  have AD := fun Q' z => t_addressOfNext (d := d - 1) (Q := Q') hR hO hP hBs L (by omega) z
  rw [hqx] at bo AD ev
  unfold cgO at q1 q2 q3
  rw [e74]
  by_cases c38 : o = 38
  · rw [if_pos c38] at q1 q2 q3
    obtain ⟨y1, y2, y3⟩ := ty_recv0 hJ ts9 ho hv c38
    have WF : Ev (d - 1) 48 [vR (some 33), vI (tv s p 0)] al hi hr (kon d 74 32 35 [vR (some 26), vR (some t), vI qx, vI o, vI (tv s p 0)] [] Q) := by
      refine e_waitingFor hA hC ?_ (by omega)
      rw [W _ y3.1 y3.2.1, if_pos y3.2.2]
      simp only [kon, knt_some, knt_none, Option.toList_some, Option.toList_none, List.cons_append, List.nil_append]
      refine s74_35.mpr (wif (fun c35 => ?_) (fun c35 => ?_))
      · skip
        refine s74_38.mpr (s74_39.mpr ?_)
        refine (s74_43).mpr ?_
        first | exact q1 (by omega) | exact q2 (by omega) c38
      · skip
        refine s74_42.mpr ?_
        refine (s74_43).mpr ?_
        first | exact q1 (by omega) | exact q2 (by omega) c38
    refine s74_0.mpr ?_
    refine (s74_1 (by first | decide | assumption | omega) (by first | decide | assumption | omega)).mpr ?_
    refine AD _ ?_
    simp only [kon, knt_some, knt_none, Option.toList_some, Option.toList_none, List.cons_append, List.nil_append]
    refine s74_4.mpr (s74_5.mpr ?_)
    refine (s74_6 (by first | decide | assumption | omega)).mpr ?_
    refine s74_9.mpr ?_
    try simp (disch := first | decide | assumption | omega) only [e1, g4]
    refine (s74_10 (by first | decide | assumption | omega) (by first | decide | assumption | omega)).mpr ?_
    refine t_byteAt hM hT ?_
    simp only [kon, knt_some, knt_none, Option.toList_some, Option.toList_none, List.cons_append, List.nil_append, bo]
    refine s74_13.mpr (s74_14.mpr (s74_15.mpr ?_))
    refine s74_17.mpr (wif (fun c17 => ?_) (fun c17 => ?_))
    · skip
      refine s74_20.mpr ?_
      refine (s74_21 (by first | decide | assumption | omega) (by first | decide | assumption | omega)).mpr ?_
      refine t_highest hR hO (by omega) y1 ?_
      simp only [kon, knt_some, knt_none, Option.toList_some, Option.toList_none, List.cons_append, List.nil_append]; rw [vm_0 (show ts s p 0 ≠ 1 by omega)]
      refine s74_24.mpr (s74_26.mpr ?_)
      refine (s74_27 (by first | decide | assumption | omega)).mpr ?_
      refine s74_30.mpr ?_
      try simp (disch := first | decide | assumption | omega) only [e1, g4]
      refine (s74_32 (by first | decide | assumption | omega) (by first | decide | assumption | omega)).mpr ?_
      exact WF
    · skip
      exact absurd c38 (by assumption)
  · rw [if_neg c38] at q1 q2 q3
    by_cases c37 : o = 37
    · rw [if_pos c37] at q1 q2 q3
      have v0 : 0 ≤ v := F4 (by omega)
      have bv : bZ (T m) (qx + 1) = v := by rw [bZ_p (by rw [ev]; exact v0)]; exact ev
      obtain ⟨⟨y1, y2⟩, y3, y4, y5⟩ := ty_send0 hJ ts9 ho hv c37 v0
      obtain ⟨e, he⟩ : ∃ e, tv s p (depS s p v) = e := ⟨_, rfl⟩
      rw [he] at y5 q1 q2 q3
      have ex := fXor_1 ⟨y5.1, y5.2.1⟩
      have ob := oth_b ⟨y5.1, y5.2.1⟩
      have FU : Ev (d - 1) 50 [vR (some 33), vI (oth e)] al hi hr (kon d 74 75 78 [vR (some 26), vR (some t), vI qx, vI o, vI e] [] Q) := by
        refine e_isFull hA hC (by omega) (fun z => ?_) (fun z => ?_)
        · rw [W _ ob.1.1 ob.1.2] at z
          have co : s 112 (oth e) ≠ -1 := by
            apply Classical.byContradiction
            intro y; rw [if_neg y] at z; omega
          rw [if_pos co] at z
          have E0 := q3 (fun y => by
            rcases y with y | y
            · exact co y
            · omega) c37
          simp only [kon, knt_some, knt_none, Option.toList_some, Option.toList_none, List.cons_append, List.nil_append]
          refine s74_78.mpr (wif (fun c78 => ?_) (fun c78 => ?_))
          · skip
            exfalso; omega
          · skip
            refine s74_81.mpr (s74_82.mpr ?_)
            refine (s74_86).mpr ?_
            exact E0
        · rw [W _ ob.1.1 ob.1.2] at z
          have E0 := q1 (by
            by_cases co : s 112 (oth e) ≠ -1
            · rw [if_pos co] at z; exact Or.inr z
            · left
              apply Classical.byContradiction
              intro y; exact co y)
          simp only [kon, knt_some, knt_none, Option.toList_some, Option.toList_none, List.cons_append, List.nil_append]
          refine s74_78.mpr (wif (fun c78 => ?_) (fun c78 => ?_))
          · skip
            refine s74_85.mpr ?_
            refine (s74_86).mpr ?_
            exact E0
          · skip
            exfalso; omega
      have SE : Ev (d - 1) 76 [vR (some 26), vR (some t), vI v] al hi hr (kon d 74 62 65 [vR (some 26), vR (some t), vI qx, vI o, none] [] Q) := by
        refine x5_sendingEnd hR hO hP hBs y1 v0 y3 y2 y4 (by omega) ?_
        rw [he]
        simp only [kon, knt_some, knt_none, Option.toList_some, Option.toList_none, List.cons_append, List.nil_append]
        refine s74_65.mpr (s74_67.mpr ?_)
        refine (s74_68 (by first | decide | assumption | omega)).mpr ?_
        refine s74_71.mpr (s74_73.mpr (s74_74.mpr ?_))
        try simp (disch := first | decide | assumption | omega) only [g4, ex]
        refine (s74_75 (by first | decide | assumption | omega) (by first | decide | assumption | omega)).mpr ?_
        exact FU
      refine s74_0.mpr ?_
      refine (s74_1 (by first | decide | assumption | omega) (by first | decide | assumption | omega)).mpr ?_
      refine AD _ ?_
      simp only [kon, knt_some, knt_none, Option.toList_some, Option.toList_none, List.cons_append, List.nil_append]
      refine s74_4.mpr (s74_5.mpr ?_)
      refine (s74_6 (by first | decide | assumption | omega)).mpr ?_
      refine s74_9.mpr ?_
      try simp (disch := first | decide | assumption | omega) only [e1, g4, fAdd_id]
      refine (s74_10 (by first | decide | assumption | omega) (by first | decide | assumption | omega)).mpr ?_
      refine t_byteAt hM hT ?_
      simp only [kon, knt_some, knt_none, Option.toList_some, Option.toList_none, List.cons_append, List.nil_append, bo, bv]
      refine s74_13.mpr (s74_14.mpr (s74_15.mpr ?_))
      refine s74_17.mpr (wif (fun c17 => ?_) (fun c17 => ?_))
      · skip
        exact absurd (by assumption) c38
      · skip
        refine s74_44.mpr (s74_45.mpr ?_)
        refine s74_47.mpr (wif (fun c47 => ?_) (fun c47 => ?_))
        · skip
          refine s74_50.mpr (s74_51.mpr (s74_52.mpr ?_))
          refine (s74_53 (by first | decide | assumption | omega)).mpr ?_
          refine s74_56.mpr (s74_57.mpr (s74_58.mpr ?_))
          try simp (disch := first | decide | assumption | omega) only [e1, g4, fAdd_id]
          refine (s74_59 (by first | decide | assumption | omega) (by first | decide | assumption | omega)).mpr ?_
          refine t_byteAt hM hT ?_
          simp only [kon, knt_some, knt_none, Option.toList_some, Option.toList_none, List.cons_append, List.nil_append, bo, bv]
          refine (s74_62 (by first | decide | assumption | omega) (by first | decide | assumption | omega)).mpr ?_
          exact SE
        · skip
          exact absurd c37 (by assumption)
    · rw [if_neg c37] at q1
      have E0 := q1 trivial
      refine s74_0.mpr ?_
      refine (s74_1 (by first | decide | assumption | omega) (by first | decide | assumption | omega)).mpr ?_
      refine AD _ ?_
      simp only [kon, knt_some, knt_none, Option.toList_some, Option.toList_none, List.cons_append, List.nil_append]
      refine s74_4.mpr (s74_5.mpr ?_)
      refine (s74_6 (by first | decide | assumption | omega)).mpr ?_
      refine s74_9.mpr ?_
      try simp (disch := first | decide | assumption | omega) only [e1, g4, fAdd_id]
      refine (s74_10 (by first | decide | assumption | omega) (by first | decide | assumption | omega)).mpr ?_
      refine t_byteAt hM hT ?_
      simp only [kon, knt_some, knt_none, Option.toList_some, Option.toList_none, List.cons_append, List.nil_append, bo]
      refine s74_13.mpr (s74_14.mpr (s74_15.mpr ?_))
      refine s74_17.mpr (wif (fun c17 => ?_) (fun c17 => ?_))
      · skip
        exact absurd (by assumption) c38
      · skip
        refine s74_44.mpr (s74_45.mpr ?_)
        refine s74_47.mpr (wif (fun c47 => ?_) (fun c47 => ?_))
        · skip
          exact absurd (by assumption) c37
        · skip
          refine s74_87.mpr ?_
          refine (s74_88).mpr ?_
          exact E0
end CQ2
