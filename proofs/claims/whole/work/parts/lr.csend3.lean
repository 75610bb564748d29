/-! RUNNING, the class: the instruction that sends -/
section CN7
variable {d : Nat} {Q : QQ} {T : TXs} {al al' : AL} {hi hi' : HI} {hr hr' : HR} {s s' s1 s2 u sx sm : HI} {A A' : Int → Int → Int} {NN : Int → Option Nat} {E E' : Int → Prop} {p m f q v w x y n k g qx i r P e fr ty o kd tt cv : Int} {B : Int → Int} {X Y : Tst} {t t' N M c b : Nat} {al0 : AL} {hi0 : HI} {hr0 : HR} {V W ws : Int → Int}
theorem kmp5 : kmp w = 5 ↔ w = 3 := by unfold kmp; split <;> (try split) <;> (try split) <;> (try split) <;> omega
theorem x5_isBare (hR : RelC T NN al0 hi0 hr0 (fun _ => False) A al hi hr s) (hO : OnP hr s p t) (hP : AllP s) (hBs : Bs T NN al0 hi0 hr0) (h1 : 1 ≤ hg s p) (v0 : 0 ≤ v) (hE : ts s p 0 = 3 → opn s (tv s p 0) ∧ QO T s (tv s p 0)) (hd : 3 ≤ d) (qb : depS s p v = 0 → Q (some (some (vI 1))) al hi hr) (qn : depS s p v = 1 → Q (some (some (vI 0))) al hi hr) : Ev d 75 [vR (some 26), vR (some t), vI v] al hi hr Q := by
  obtain ⟨⟨p0, p1⟩, ht, h89, ⟨a1, a16⟩, ⟨r0, r1⟩, h97, h56⟩ := id hO
  have hg16 := h97 _ (by unfold ai; omega) (Int.le_refl _); have hg16 : 0 ≤ hg s p ∧ hg s p ≤ 16 := hg16
  have hA := hR.1.1
  have hC := hR.1.2.1
  have k26 : isK al 26 6 := hA.k (by decide) (by decide) rfl
  have k33 : isK al 33 5 := hA.k (by decide) (by decide) rfl
  have g4 := cr_26_4 hC
  have k9 := (hR.tf hO).1.1.2
  rw [e75]
  by_cases c : ts s p 0 = 3
  · obtain ⟨ho, hQ⟩ := hE c
    obtain ⟨e0, e1, e2⟩ := id ho
    obtain ⟨o, c1, c2, c3, c4, -⟩ := hR.ctr hBs ho hQ
    obtain ⟨z1, z2, z3, z4⟩ := hR.2.2.2.1.1.2.1 _ e0 e1
    have h34 : hi 34 (tv s p 0) = 1 := z2.mpr ⟨ho, id⟩
    have h35 := ((z4 ho).1 id).1
    have c4 := c4 v
    have k5 : kmp (ts s p 0) = 5 := kmp5.mpr c
    have qb' : sbA hi o (hi 35 (tv s p 0)) (tv s p 0 % 2) v → Q (some (some (vI 1))) al hi hr := fun z => by
      rw [h35] at z
      refine qb ?_
      unfold depS
      rw [if_neg (fun y => y c)]
      simp only []
      rw [if_pos (c4.mp z).2]
    have qn' : ¬ sbA hi o (hi 35 (tv s p 0)) (tv s p 0 % 2) v → Q (some (some (vI 0))) al hi hr := fun z => by
      rw [h35] at z
      refine qn ?_
      unfold depS
      rw [if_neg (fun y => y c)]
      simp only []
      rw [if_neg (fun y => z (c4.mpr ⟨v0, y⟩))]
    have SB : Ev (d - 1) 49 [vR (some 33), vI (tv s p 0), vI v] al hi hr (kon d 75 26 29 [vR (some 26), vR (some t), vI v, vI (hg s p - 1)] [] Q) := by
      refine e_sendsBare hA hC ⟨e0, e1⟩ (by omega) c1 c2 (by omega) (fun z => ?_) (fun z => ?_)
      · have E0 := qb' z
        simp only [kon, knt_some, knt_none, Option.toList_some, Option.toList_none, List.cons_append, List.nil_append]
        refine s75_29.mpr (wif (fun c29 => ?_) (fun c29 => ?_))
        · skip
          exfalso; omega
        · skip
          refine s75_32.mpr (s75_33.mpr ?_)
          refine (s75_37 (by first | assumption | omega)).mpr ?_
          exact E0
      · have E0 := qn' z
        simp only [kon, knt_some, knt_none, Option.toList_some, Option.toList_none, List.cons_append, List.nil_append]
        refine s75_29.mpr (wif (fun c29 => ?_) (fun c29 => ?_))
        · skip
          refine s75_36.mpr ?_
          refine (s75_37 (by first | assumption | omega)).mpr ?_
          exact E0
        · skip
          exfalso; omega
    refine s75_0.mpr ?_
    refine (s75_1 (by first | decide | assumption | omega) (by first | decide | assumption | omega)).mpr ?_
    refine t_height hR hO ?_
    simp only [kon, knt_some, knt_none, Option.toList_some, Option.toList_none, List.cons_append, List.nil_append]
    refine s75_4.mpr (s75_5.mpr (s75_6.mpr (s75_7.mpr (s75_8.mpr ?_))))
    try simp (disch := first | decide | assumption | omega) only [fSub_id, g4, kon, knt_some, knt_none, Option.toList_some, Option.toList_none, List.cons_append, List.nil_append]
    refine (s75_9 (by first | decide | assumption | omega) (by first | decide | assumption | omega)).mpr ?_
    refine t_kindAt (k := 0) hR hO hP (by omega) (by omega) ?_
    simp only [kon, knt_some, knt_none, Option.toList_some, Option.toList_none, List.cons_append, List.nil_append, k5]
    refine s75_12.mpr ?_
    refine s75_13.mpr (wif (fun c13 => ?_) (fun c13 => ?_))
    · skip
      refine s75_16.mpr ?_
      refine (s75_17 (by first | decide | assumption | omega)).mpr ?_
      refine s75_20.mpr (s75_21.mpr ?_)
      try simp (disch := first | decide | assumption | omega) only [fSub_id, g4, kon, knt_some, knt_none, Option.toList_some, Option.toList_none, List.cons_append, List.nil_append]
      refine (s75_22 (by first | decide | assumption | omega) (by first | decide | assumption | omega)).mpr ?_
      refine t_numAt (k := 0) hR hO hP (by omega) (by omega) ?_
      simp only [kon, knt_some, knt_none, Option.toList_some, Option.toList_none, List.cons_append, List.nil_append]; rw [vm_0 (show ts s p 0 ≠ 1 by omega)]
      refine s75_25.mpr ?_
      refine (s75_26 (by first | decide | assumption | omega) (by first | decide | assumption | omega)).mpr ?_
      exact SB
    · skip
      exfalso; omega
  · have k5 : kmp (ts s p 0) ≠ 5 := fun z => c (kmp5.mp z)
    have E0 := qn (by unfold depS; rw [if_pos c])
    refine s75_0.mpr ?_
    refine (s75_1 (by first | decide | assumption | omega) (by first | decide | assumption | omega)).mpr ?_
    refine t_height hR hO ?_
    simp only [kon, knt_some, knt_none, Option.toList_some, Option.toList_none, List.cons_append, List.nil_append]
    refine s75_4.mpr (s75_5.mpr (s75_6.mpr (s75_7.mpr (s75_8.mpr ?_))))
    try simp (disch := first | decide | assumption | omega) only [fSub_id, g4, kon, knt_some, knt_none, Option.toList_some, Option.toList_none, List.cons_append, List.nil_append]
    refine (s75_9 (by first | decide | assumption | omega) (by first | decide | assumption | omega)).mpr ?_
    refine t_kindAt (k := 0) hR hO hP (by omega) (by omega) ?_
    simp only [kon, knt_some, knt_none, Option.toList_some, Option.toList_none, List.cons_append, List.nil_append]
    refine s75_12.mpr ?_
    refine s75_13.mpr (wif (fun c13 => ?_) (fun c13 => ?_))
    · skip
      exact absurd (by assumption) k5
    · skip
      refine s75_36.mpr ?_
      refine (s75_37 (by first | assumption | omega)).mpr ?_
      exact E0
theorem dep01 : depS s p v = 0 ∨ depS s p v = 1 := by
  unfold depS
  split
  · exact Or.inr rfl
  · simp only []
    split
    · exact Or.inl rfl
    · exact Or.inr rfl
theorem x5_sendingEnd (hR : RelC T NN al0 hi0 hr0 (fun _ => False) A al hi hr s) (hO : OnP hr s p t) (hP : AllP s) (hBs : Bs T NN al0 hi0 hr0) (h1 : 1 ≤ hg s p) (v0 : 0 ≤ v) (hE : ts s p 0 = 3 → opn s (tv s p 0) ∧ QO T s (tv s p 0)) (h2 : depS s p v = 1 → 2 ≤ hg s p) (h3 : ts s p (depS s p v) = 3) (hd : 4 ≤ d) (q : Q (some (some (vI (tv s p (depS s p v))))) al hi hr) : Ev d 76 [vR (some 26), vR (some t), vI v] al hi hr Q := by
  obtain ⟨⟨p0, p1⟩, ht, h89, ⟨a1, a16⟩, ⟨r0, r1⟩, h97, h56⟩ := id hO
  have hg16 := h97 _ (by unfold ai; omega) (Int.le_refl _); have hg16 : 0 ≤ hg s p ∧ hg s p ≤ 16 := hg16
  have hA := hR.1.1
  have k26 : isK al 26 6 := hA.k (by decide) (by decide) rfl
  have k9 := (hR.tf hO).1.1.2
  rcases dep01 (s := s) (p := p) (v := v) with c | c
  · rw [c] at q h3
    have T24 : Wp d 76 24 [vR (some 26), vR (some t), vI v, vI (hg s p - 1)] [vI (hg s p - 1), vR (some t)] al hi hr Q := by
      refine (s76_24 (by first | decide | assumption | omega) (by first | decide | assumption | omega)).mpr ?_
      refine t_numAt (k := 0) hR hO hP (by omega) (by omega) ?_
      simp only [kon, knt_some, knt_none, Option.toList_some, Option.toList_none, List.cons_append, List.nil_append]; rw [vm_0 (show ts s p 0 ≠ 1 by omega)]
      refine (s76_27).mpr ?_
      exact q
    have IB : Ev (d - 1) 75 [vR (some 26), vR (some t), vI v] al hi hr (kon d 76 11 14 [vR (some 26), vR (some t), vI v, vI (hg s p - 1)] [vR (some t)] Q) := by
      refine x5_isBare hR hO hP hBs h1 v0 hE (by omega) (fun _ => ?_) (fun z => by exfalso; omega)
      simp only [kon, knt_some, knt_none, Option.toList_some, Option.toList_none, List.cons_append, List.nil_append]
      refine s76_14.mpr (wif (fun c14 => ?_) (fun c14 => ?_))
      · skip
        exfalso; omega
      · skip
        refine s76_17.mpr (s76_18.mpr ?_)
        exact T24
    rw [e76]
    refine s76_0.mpr ?_
    refine (s76_1 (by first | decide | assumption | omega) (by first | decide | assumption | omega)).mpr ?_
    refine t_height hR hO ?_
    simp only [kon, knt_some, knt_none, Option.toList_some, Option.toList_none, List.cons_append, List.nil_append]
    refine s76_4.mpr (s76_5.mpr (s76_6.mpr (s76_7.mpr (s76_8.mpr (s76_9.mpr ?_)))))
    refine s76_10.mpr ?_
    try simp (disch := first | decide | assumption | omega) only [fSub_id, kon, knt_some, knt_none, Option.toList_some, Option.toList_none, List.cons_append, List.nil_append]
    refine (s76_11 (by first | decide | assumption | omega) (by first | decide | assumption | omega)).mpr ?_
    exact IB
  · rw [c] at q h3
    have h2 := h2 c
    have T24 : Wp d 76 24 [vR (some 26), vR (some t), vI v, vI (hg s p - 1)] [vI (hg s p - 1 - 1), vR (some t)] al hi hr Q := by
      refine (s76_24 (by first | decide | assumption | omega) (by first | decide | assumption | omega)).mpr ?_
      refine t_numAt (k := 1) hR hO hP (by omega) (by omega) ?_
      simp only [kon, knt_some, knt_none, Option.toList_some, Option.toList_none, List.cons_append, List.nil_append]; rw [vm_0 (show ts s p 1 ≠ 1 by omega)]
      refine (s76_27).mpr ?_
      exact q
    have IB : Ev (d - 1) 75 [vR (some 26), vR (some t), vI v] al hi hr (kon d 76 11 14 [vR (some 26), vR (some t), vI v, vI (hg s p - 1)] [vR (some t)] Q) := by
      refine x5_isBare hR hO hP hBs h1 v0 hE (by omega) (fun z => by exfalso; omega) (fun _ => ?_)
      simp only [kon, knt_some, knt_none, Option.toList_some, Option.toList_none, List.cons_append, List.nil_append]
      refine s76_14.mpr (wif (fun c14 => ?_) (fun c14 => ?_))
      · skip
        refine s76_21.mpr (s76_22.mpr (s76_23.mpr ?_))
        try simp (disch := first | decide | assumption | omega) only [fSub_id]
        exact T24
      · skip
        exfalso; omega
    rw [e76]
    refine s76_0.mpr ?_
    refine (s76_1 (by first | decide | assumption | omega) (by first | decide | assumption | omega)).mpr ?_
    refine t_height hR hO ?_
    simp only [kon, knt_some, knt_none, Option.toList_some, Option.toList_none, List.cons_append, List.nil_append]
    refine s76_4.mpr (s76_5.mpr (s76_6.mpr (s76_7.mpr (s76_8.mpr (s76_9.mpr ?_)))))
    refine s76_10.mpr ?_
    try simp (disch := first | decide | assumption | omega) only [fSub_id, kon, knt_some, knt_none, Option.toList_some, Option.toList_none, List.cons_append, List.nil_append]
    refine (s76_11 (by first | decide | assumption | omega) (by first | decide | assumption | omega)).mpr ?_
    exact IB
/-- what is sent, once it is off the stack -/
noncomputable def sndT (s1 : HI) (p v w t : Int) : HI :=
  if upI s1 112 (tv s1 p 0) (s1 63 (4 * (8 * s1 118 (tv s1 p 0) + s1 112 (tv s1 p 0)) + t)) 112 (oth (tv s1 p 0)) = -1 then losS (upI s1 112 (tv s1 p 0) (s1 63 (4 * (8 * s1 118 (tv s1 p 0) + s1 112 (tv s1 p 0)) + t))) v w else
  ownS (putS (upI s1 112 (tv s1 p 0) (s1 63 (4 * (8 * s1 118 (tv s1 p 0) + s1 112 (tv s1 p 0)) + t))) (oth (tv s1 p 0)) (4 * oth (tv s1 p 0) + upI s1 112 (tv s1 p 0) (s1 63 (4 * (8 * s1 118 (tv s1 p 0) + s1 112 (tv s1 p 0)) + t)) 114 (oth (tv s1 p 0))) t v w (upI s1 112 (tv s1 p 0) (s1 63 (4 * (8 * s1 118 (tv s1 p 0) + s1 112 (tv s1 p 0)) + t)) 114 (oth (tv s1 p 0)) + 1)) v w (100 + oth (tv s1 p 0))
theorem snd_1 (h : depS s p v = 1) : sndS s p v = sndT (pp s p 1) p (tv s p 0) (ts s p 0) v := by
  unfold sndS sndT putS
  simp only [h, if_true]
theorem snd_0 (h : depS s p v = 0) : sndS s p v = sndT s p 0 4 v := by
  have z : ¬ ((0 : Int) = 1) := by decide
  unfold sndS sndT putS
  simp only [h, z, if_false]
theorem QB.mv (h : QB s) (ho : opn s e) (hx : x ≠ -1) : QB (upI s 112 e x) := fun y hy => by
  have oy : opn s y := by
    by_cases z : y = e
    · subst z; exact ho
    · obtain ⟨y0, y1, y2⟩ := hy
      rw [upI_i z] at y2
      exact ⟨y0, y1, y2⟩
  obtain ⟨w1, w2⟩ := h y oy
  refine ⟨by rw [upI_a (by decide)]; exact w1, fun j j0 j1 => ?_⟩
  rw [upI_a (by decide)] at j1
  rw [upI_a (by decide), upI_a (by decide)]
  exact w2 j j0 j1
/-- from the stack on -/
theorem x5_sendT {l5} (hR : RelC T NN al0 hi0 hr0 (fun _ => False) A al hi hr s1) (hO : OnP hr s1 p t) (hP : AllP s1) (hBQ : BQ s1) (hBs : Bs T NN al0 hi0 hr0) (h1 : 1 ≤ hg s1 p) (h3 : ts s1 p 0 = 3) (ho : opn s1 (tv s1 p 0)) (hQ : QO T s1 (tv s1 p 0)) (v0 : 0 ≤ tt ∧ tt < s1 61 (8 * s1 118 (tv s1 p 0) + s1 112 (tv s1 p 0))) (hx : 0 ≤ s1 63 (4 * (8 * s1 118 (tv s1 p 0) + s1 112 (tv s1 p 0)) + tt)) (h4 : 0 ≤ s1 114 (oth (tv s1 p 0)) ∧ s1 114 (oth (tv s1 p 0)) < 4) (h0 : s1 112 (oth (tv s1 p 0)) = -1 → s1 114 (oth (tv s1 p 0)) = 0) (hk : kd = kmq w) (hw2 : w = 2 → 0 ≤ v ∧ v < 128) (hw3 : w = 3 → opn s1 v) (hd : 4 ≤ d) (q : ∀ v' al' hi' hr', Pf T NN al0 hi0 hr0 p t (sndT s1 p v w tt) v' al' hi' hr' → Q (some (some (vI v'))) al' hi' hr') : Wp d 95 25 [vR (some 26), vR (some t), vI tt, vI kd, vI v, l5] [] al hi hr Q := by
  have hA := hR.1.1
  have hC := hR.1.2.1
  have k26 : isK al 26 6 := hA.k (by decide) (by decide) rfl
  have k33 : isK al 33 5 := hA.k (by decide) (by decide) rfl
  have g4 := cr_26_4 hC
  have k9 := (hR.tf hO).1.1.2
  obtain ⟨R1, R2⟩ := hR.rs_
  obtain ⟨e, he⟩ : ∃ e, tv s1 p 0 = e := ⟨_, rfl⟩
  unfold sndT at q
  rw [he] at ho hQ v0 hx h4 h0 q
  obtain ⟨e0, e1, e2⟩ := id ho
  obtain ⟨o, c1, c2, c3, -, c5⟩ := hR.ctr hBs ho hQ
  obtain ⟨z1, z2, z3, z4⟩ := R1.2.2.2.1.2.1 _ e0 e1
  have h34 : hi 34 e = 1 := z2.mpr ⟨ho, id⟩
  have h35 := ((z4 ho).1 id).1
  have cx := c5 tt v0.1 v0.2
  rw [← h35] at cx
  obtain ⟨x, hx9⟩ : ∃ x, s1 63 (4 * (8 * s1 118 e + s1 112 e) + tt) = x := ⟨_, rfl⟩
  rw [h35, hx9] at cx
  rw [hx9] at hx q
  rw [← h35] at cx
  obtain ⟨s2, hs2⟩ : ∃ s2, upI s1 112 e x = s2 := ⟨_, rfl⟩
  have R := R1.mv hP ho (show x ≠ -1 by omega)
  have hq2 := hBQ.2.mv ho (show x ≠ -1 by omega)
  have one := (oth_b ⟨e0, e1⟩)
  have e12 : s2 112 (oth e) = s1 112 (oth e) := by rw [← hs2, upI_i one.2]
  have en : ∀ (a : Nat) i, a ≠ 112 → s2 a i = s1 a i := fun a i z => by rw [← hs2, upI_a z]
  have op2 : ∀ y, opn s1 y → opn s2 y := fun y hy => by
    obtain ⟨y0, y1, y2⟩ := hy
    refine ⟨y0, y1, ?_⟩
    rw [← hs2]
    by_cases z : y = e
    · subst z; rw [upI_eq]; omega
    · rw [upI_i z]; exact y2
  rw [hs2] at R hq2 q
  have gs : ∀ a i, ¬ gS a → s2 a i = s1 a i := fun a i z => en a i (by unfold gS at z; omega)
  have hP2 : AllP s2 := hP.glo gs (en _ _ (by decide))
  have hO2 : OnP hr s2 p t := hO.glo (fun _ _ _ => rfl) gs (en _ _ (by decide))
  have ohs : opn s2 e := op2 e ho
  have SN := x_send (d := d - 1) (tt := tt) (kd := kd) (v := v) (w := w) (Q := kon d 95 51 54 [vR (some 26), vR (some t), vI tt, vI kd, vI v, vI e] [] Q) R hP2 (R2.cg (hi' := upI hi 35 e x) (fun a i z => upI_a (by omega))) hq2 ohs (by rw [en _ _ (by decide)]; exact h4) (fun z => by rw [en _ _ (by decide)]; exact h0 (by rw [← e12]; exact z)) hk hw2 (fun z => ⟨(hw3 z).1, (hw3 z).2.1⟩) (by omega) (fun oo h5 y1 => by
    rw [if_neg oo.2.2] at q
    have gs9 : ∀ a i, ¬ gS a → ownS (putS s2 (oth e) (4 * oth e + s2 114 (oth e)) tt v w (s2 114 (oth e) + 1)) v w (100 + oth e) a i = s2 a i := fun a i z => by rw [ownS_n (by unfold gS at z; omega), putS_n (by unfold gS at z; omega)]
    have E0 := q 0 _ _ _ (Pf.ok y1 (hO2.glo (fun _ _ _ => rfl) gs9 (by rw [ownS_n (by decide), putS_n (by decide)])) (hP2.glo gs9 (by rw [ownS_n (by decide), putS_n (by decide)])) ⟨fun b b0 b1 => by rw [ownS_n (by decide), putS_n (by decide), en _ _ (by decide)]; exact hBQ.1 b b0 b1, fun y hy => by
      have oy : opn s2 y := by
        obtain ⟨y0, y1, y2⟩ := hy
        rw [ownS_n (by decide), putS_n (by decide)] at y2
        exact ⟨y0, y1, y2⟩
      have hh := h4
      rw [← en 114 _ (by decide)] at hh
      obtain ⟨w1, w2⟩ := hq2 y oy
      rw [ownS_n (by decide), putS_14]
      refine ⟨by split <;> omega, fun j j0 j1 => ?_⟩
      rw [ownS_n (by decide), ownS_n (by decide)]
      by_cases c : 4 * y + j = 4 * oth e + s2 114 (oth e)
      · obtain ⟨b1, b2, b3⟩ := putS_k (s := s2) (o := oth e) (k := 4 * oth e + s2 114 (oth e)) (tt := tt) (w := w) (v := v) (n := s2 114 (oth e) + 1)
        rw [c, b2, b3]
        exact ⟨hw2, fun z => ⟨(hw3 z).1, (hw3 z).2.1⟩⟩
      · rw [putS_i c (by decide), putS_i c (by decide)]
        refine w2 j j0 ?_
        by_cases yo : y = oth e
        · rw [if_pos yo] at j1
          have : j ≠ s2 114 (oth e) := fun z => c (by rw [z, yo])
          rw [yo]; omega
        · rw [if_neg yo] at j1; exact j1⟩)
    simp only [kon, knt_some, knt_none, Option.toList_some, Option.toList_none, List.cons_append, List.nil_append]
    refine s95_54.mpr ?_
    refine (s95_55).mpr ?_
    exact E0
    ) (fun oc h5 y1 => by
    rw [if_pos oc] at q
    have h14 : s2 114 (oth e) = 0 := by rw [en _ _ (by decide)]; exact h0 (by rw [← e12]; exact oc)
    have gs9 : ∀ a i, ¬ gS a → mupS s2 (oth e) v w (s2 118 e) tt a i = s2 a i := fun a i z => mup_n (by unfold gS at z; omega) (by unfold gS at z; omega) (by unfold gS at z; omega)
    have E0 := q 0 _ _ _ ⟨A, mupS s2 (oth e) v w (s2 118 e) tt, fun x => x = oth e, y1, hO2.glo (fun _ _ _ => rfl) gs9 (mup_n (by decide) (by omega) (by omega)), hP2.glo gs9 (mup_n (by decide) (by omega) (by omega)), ⟨fun b b0 b1 => by rw [mup_n (by decide) (by omega) (by omega), en _ _ (by decide)]; exact hBQ.1 b b0 b1, fun y hy => by
      obtain ⟨o1, o2, o3, o4, o5, o6⟩ := mup_o (s := s2) (o := oth e) (v := v) (w := w) (c := s2 118 e) (y := tt)
      by_cases c : y = oth e
      · subst c
        rw [o3]
        refine ⟨by decide, fun j j0 j1 => ?_⟩
        rw [show j = 0 by omega, Int.add_zero, o5, o6]
        exact ⟨hw2, fun z => ⟨(hw3 z).1, (hw3 z).2.1⟩⟩
      · have oy : opn s2 y := by
          obtain ⟨y0, y1, y2⟩ := hy
          rw [mup_n (by decide) (Or.inl c) (by omega)] at y2
          exact ⟨y0, y1, y2⟩
        obtain ⟨w1, w2⟩ := hq2 y oy
        rw [mup_n (by decide) (Or.inl c) (by omega)]
        refine ⟨w1, fun j j0 j1 => ?_⟩
        rw [mup_n (by decide) (by omega) (by omega), mup_n (by decide) (by omega) (by omega)]
        exact w2 j j0 j1⟩, Or.inl ⟨rfl, mup_DD one.1 oc h14 hq2 (fun z => op2 _ (hw3 z))⟩⟩
    simp only [kon, knt_some, knt_none, Option.toList_some, Option.toList_none, List.cons_append, List.nil_append]
    refine s95_54.mpr ?_
    refine (s95_55).mpr ?_
    exact E0
    )
  refine s95_25.mpr ?_
  refine (s95_26 (by first | decide | assumption | omega) (by first | decide | assumption | omega)).mpr ?_
  refine t_highest hR hO (by omega) h1 ?_
  simp only [kon, knt_some, knt_none, Option.toList_some, Option.toList_none, List.cons_append, List.nil_append]; rw [vm_0 (show ts s1 p 0 ≠ 1 by omega), he]
  refine s95_29.mpr (s95_31.mpr ?_)
  refine (s95_32 (by first | decide | assumption | omega)).mpr ?_
  refine s95_35.mpr (s95_37.mpr ?_)
  try simp (disch := first | decide | assumption | omega) only [g4, kon, knt_some, knt_none, Option.toList_some, Option.toList_none, List.cons_append, List.nil_append]
  refine (s95_38 (by first | decide | assumption | omega) (by first | decide | assumption | omega)).mpr ?_
  refine e_moveOn hA hC ⟨e0, e1⟩ (by omega) c1 c2 (by omega) cx ?_
  simp only [kon, knt_some, knt_none, Option.toList_some, Option.toList_none, List.cons_append, List.nil_append]
  refine s95_41.mpr ?_
  refine (s95_42 (by first | decide | assumption | omega)).mpr ?_
  refine s95_45.mpr (s95_47.mpr (s95_48.mpr (s95_49.mpr ?_)))
  try simp (disch := first | decide | assumption | omega) only [g4, kon, knt_some, knt_none, Option.toList_some, Option.toList_none, List.cons_append, List.nil_append]
  refine (s95_51 (by first | decide | assumption | omega) (by first | decide | assumption | omega)).mpr ?_
  exact SN
theorem x5_send (hR : RelC T NN al0 hi0 hr0 (fun _ => False) A al hi hr s) (hO : OnP hr s p t) (hP : AllP s) (hBQ : BQ s) (hBs : Bs T NN al0 hi0 hr0) (ho : o = 37) (hcv : cv = v) (h1 : 1 ≤ hg s p) (h2 : depS s p v = 1 → 2 ≤ hg s p) (hE : ts s p 0 = 3 → opn s (tv s p 0) ∧ QO T s (tv s p 0)) (h3 : ts s p (depS s p v) = 3) (hS : ∀ s1 e, s1 = (if depS s p v = 1 then pp s p 1 else s) → e = tv s1 p 0 → opn s1 e ∧ QO T s1 e ∧ (0 ≤ v ∧ v < s1 61 (8 * s1 118 e + s1 112 e)) ∧ 0 ≤ s1 63 (4 * (8 * s1 118 e + s1 112 e) + v) ∧ (0 ≤ s1 114 (oth e) ∧ s1 114 (oth e) < 4) ∧ (s1 112 (oth e) = -1 → s1 114 (oth e) = 0)) (hw : depS s p v = 1 → ts s p 0 = 0 ∨ (ts s p 0 = 2 ∧ 0 ≤ tv s p 0 ∧ tv s p 0 < 128) ∨ (ts s p 0 = 3 ∧ opn s (tv s p 0))) (v0 : 0 ≤ v) (hd : 5 ≤ d) (q : ∀ v' al' hi' hr', Pf T NN al0 hi0 hr0 p t (exS (T m) f s p o v qx) v' al' hi' hr' → Q (some (some (vI v'))) al' hi' hr') : Ev d 95 [vR (some 26), vR (some t), vI cv] al hi hr Q := by
  subst hcv
  have hA := hR.1.1
  have k26 : isK al 26 6 := hA.k (by decide) (by decide) rfl
  have k9 := (hR.tf hO).1.1.2
  rw [exq_37 ho] at q
  rcases dep01 (s := s) (p := p) (v := cv) with c | c
  · rw [snd_0 c] at q
    rw [c] at h3
    obtain ⟨g1, g2, g3, g4, g5, g6⟩ := hS s _ (by rw [if_neg (by omega)]) rfl
    have ST := fun l5 => x5_sendT (d := d) (l5 := l5) (kd := -1) (v := 0) (w := 4) hR hO hP hBQ hBs h1 h3 g1 g2 g3 g4 g5 g6 rfl (fun z => absurd z (by decide)) (fun z => absurd z (by decide)) (by omega) q
    have IB : Ev (d - 1) 75 [vR (some 26), vR (some t), vI cv] al hi hr (kon d 95 8 11 [vR (some 26), vR (some t), vI cv, vI (-1), vI 0, none] [] Q) := by
      refine x5_isBare hR hO hP hBs h1 v0 hE (by omega) (fun _ => ?_) (fun z => by exfalso; omega)
      simp only [kon, knt_some, knt_none, Option.toList_some, Option.toList_none, List.cons_append, List.nil_append]
      refine s95_11.mpr (wif (fun c11 => ?_) (fun c11 => ?_))
      · skip
        exfalso; omega
      · skip
        exact ST _
    rw [e95]
    refine s95_0.mpr (s95_1.mpr (s95_2.mpr (s95_3.mpr (s95_5.mpr (s95_6.mpr ?_)))))
    refine s95_7.mpr ?_
    refine (s95_8 (by first | decide | assumption | omega) (by first | decide | assumption | omega)).mpr ?_
    exact IB
  · rw [snd_1 c] at q
    rw [c] at h3
    have h2 := h2 c
    have hw := hw c
    obtain ⟨g1, g2, g3, g4, g5, g6⟩ := hS (pp s p 1) _ (by rw [if_pos c]) rfl
    have hkk : kmp (ts s p 0) = kmq (ts s p 0) := by unfold kmq; rw [if_neg (by omega)]
    have T18 : ∀ h3, RelC T NN al0 hi0 hr0 (fun _ => False) A al h3 hr (pp s p 1) → OnP hr (pp s p 1) p t → AllP (pp s p 1) → h3 t 14 = kmp (ts s p 0) → Wp d 95 18 [vR (some 26), vR (some t), vI cv, vI (-1), vI 0, none] [vI (tv s p 0)] al h3 hr Q := by
      intro h3 w1 w2 w3 w4
      have ST := fun l5 => x5_sendT (d := d) (l5 := l5) (kd := kmp (ts s p 0)) (v := tv s p 0) (w := ts s p 0) w1 w2 w3 hBQ.pp_ hBs (by rw [ppz_hg]; omega) (by rw [ts_pp]; assumption) g1 g2 g3 g4 g5 g6 hkk (fun z => by omega) (fun z => by
        have ho9 := (hw.resolve_left (by omega)).resolve_left (by omega)
        obtain ⟨y0, y1, y2⟩ := ho9.2
        exact ⟨y0, y1, by rw [ppz_n (by decide)]; exact y2⟩) (by omega) q
      refine s95_18.mpr (s95_20.mpr ?_)
      refine (s95_21 (by first | decide | assumption | omega)).mpr ?_
      refine s95_24.mpr ?_
      try simp (disch := first | decide | assumption | omega) only [w4]
      exact ST _
    have IB : Ev (d - 1) 75 [vR (some 26), vR (some t), vI cv] al hi hr (kon d 95 8 11 [vR (some 26), vR (some t), vI cv, vI (-1), vI 0, none] [] Q) := by
      refine x5_isBare hR hO hP hBs h1 v0 hE (by omega) (fun z => by exfalso; omega) (fun _ => ?_)
      simp only [kon, knt_some, knt_none, Option.toList_some, Option.toList_none, List.cons_append, List.nil_append]
      refine s95_11.mpr (wif (fun c11 => ?_) (fun c11 => ?_))
      · skip
        refine s95_14.mpr ?_
        refine (s95_15 (by first | decide | assumption | omega) (by first | decide | assumption | omega)).mpr ?_
        refine t_pop hR hO hP h1 (fun h4 y1 y2 y3 y4 => ?_)
        simp only [kon, knt_some, knt_none, Option.toList_some, Option.toList_none, List.cons_append, List.nil_append]; rw [vm_0 (show ts s p 0 ≠ 1 by omega)]
        exact T18 _ y1 y2 y3 y4
      · skip
        exfalso; omega
    rw [e95]
    refine s95_0.mpr (s95_1.mpr (s95_2.mpr (s95_3.mpr (s95_5.mpr (s95_6.mpr ?_)))))
    refine s95_7.mpr ?_
    refine (s95_8 (by first | decide | assumption | omega) (by first | decide | assumption | omega)).mpr ?_
    exact IB
end CN7
