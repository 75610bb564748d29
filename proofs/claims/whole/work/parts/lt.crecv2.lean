/-! RUNNING, the class: the instruction that receives -/
section CN9
variable {d : Nat} {Q : QQ} {T : TXs} {al al' : AL} {hi hi' : HI} {hr hr' : HR} {s s' s1 s2 u sx sm : HI} {A A' : Int → Int → Int} {NN : Int → Option Nat} {E E' : Int → Prop} {p m f q v w x y n k g qx i r P e fr ty kd tt cv o : Int} {B : Int → Int} {X Y : Tst} {t t' N M c b : Nat} {al0 : AL} {hi0 : HI} {hr0 : HR} {V W ws : Int → Int}
theorem shf_sm {a : Nat} {i : Int} (h : a = 115 ∨ a = 116 ∨ a = 117) : shfS s e a i = if 4 * e ≤ i ∧ i < 4 * e + s 114 e - 1 then s a (i + 1) else s a i := by
  unfold shfS
  rw [if_neg (by omega)]
  by_cases y : 4 * e ≤ i ∧ i < 4 * e + s 114 e - 1
  · rw [if_pos ⟨h, y⟩, if_pos y]
  · rw [if_neg (by omega), if_neg y]
theorem shf_14 : shfS s e 114 x = if x = e then s 114 e - 1 else s 114 x := by
  unfold shfS
  by_cases z : x = e
  · rw [if_pos ⟨rfl, z⟩, if_pos z]
  · rw [if_neg (by omega), if_neg (by omega), if_neg z]
theorem QB.shf (h : QB s) (ho : opn s e) (h1 : 1 ≤ s 114 e) : QB (shfS s e) := fun y hy => by
  have oy : opn s y := by
    obtain ⟨y0, y1, y2⟩ := hy
    rw [shfS_n (by decide)] at y2
    exact ⟨y0, y1, y2⟩
  obtain ⟨w1, w2⟩ := h y oy
  have we := (h e ho).1
  rw [shf_14]
  refine ⟨by split <;> omega, fun j j0 j1 => ?_⟩
  rw [shf_sm (by decide), shf_sm (by decide)]
  by_cases c : y = e
  · subst c
    rw [if_pos rfl] at j1
    rw [if_pos (by omega), if_pos (by omega), show 4 * y + j + 1 = 4 * y + (j + 1) by omega]
    exact w2 (j + 1) (by omega) (by omega)
  · rw [if_neg c] at j1
    rw [if_neg (by omega), if_neg (by omega)]
    exact w2 j j0 j1
theorem kmq_4 : kmq 4 = -1 := rfl
set_option maxRecDepth 8000 in
theorem x5_recv (hR : RelC T NN al0 hi0 hr0 (fun _ => False) A al hi hr s) (hO : OnP hr s p t) (hP : AllP s) (hBQ : BQ s) (hBs : Bs T NN al0 hi0 hr0) (hm : s 91 p = m) (ho : o = 38) (h1 : 1 ≤ hg s p) (hgw : s 117 (4 * tv s p 0) ≠ 4 → hg s p < 16) (k0 : ts s p 0 = 3) (hE : opn s (tv s p 0) ∧ QO T s (tv s p 0)) (h14 : 1 ≤ s 114 (tv s p 0)) (hv : 0 ≤ s 115 (4 * tv s p 0) ∧ s 115 (4 * tv s p 0) < s 61 (8 * s 118 (tv s p 0) + s 112 (tv s p 0)) ∧ s 115 (4 * tv s p 0) < 4) (hx : 0 ≤ s 63 (4 * (8 * s 118 (tv s p 0) + s 112 (tv s p 0)) + s 115 (4 * tv s p 0))) (hw : s 117 (4 * tv s p 0) = 0 ∨ s 117 (4 * tv s p 0) = 2 ∨ s 117 (4 * tv s p 0) = 3 ∨ s 117 (4 * tv s p 0) = 4) (q0 : 0 ≤ qx ∧ qx < 3000) (hb : 0 ≤ T m (qx + 2 + s 115 (4 * tv s p 0))) (hd : 5 ≤ d) (q : ∀ v' al' hi' hr', Pf T NN al0 hi0 hr0 p t (exS (T m) f s p o v qx) v' al' hi' hr' → Q (some (some (vI v'))) al' hi' hr') : Ev d 96 [vR (some 26), vR (some t), vI qx] al hi hr Q := by
  obtain ⟨⟨p0, p1⟩, ht, h89, ⟨a1, a16⟩, ⟨r0, r1⟩, h97, h56⟩ := id hO
  have hg16 := h97 _ (by unfold ai; omega) (Int.le_refl _); have hg16 : 0 ≤ hg s p ∧ hg s p ≤ 16 := hg16
  have hA := hR.1.1
  have hC := hR.1.2.1
  have k26 : isK al 26 6 := hA.k (by decide) (by decide) rfl
  have k33 : isK al 33 5 := hA.k (by decide) (by decide) rfl
  have g4 := cr_26_4 hC
  have k9 := (hR.tf hO).1.1.2
  have t119 := (hR.tf hO).1.1.1
  have n0 : hi t 0 = p := (hR.tf hO).2.2.1
  rw [exq_38 ho] at q
  unfold rcvS at q
  simp only [] at q
  obtain ⟨R1, R2⟩ := hR.rs_
  obtain ⟨e, he⟩ : ∃ e, tv s p 0 = e := ⟨_, rfl⟩
  rw [he] at hE h14 hv hx hw hb hgw q
  obtain ⟨oe, hQ⟩ := hE
  obtain ⟨e0, e1, e2⟩ := id oe
  obtain ⟨oc, c1, c2, c3, -, c5⟩ := hR.ctr hBs oe hQ
  obtain ⟨z1, z2, z3, z4⟩ := R1.2.2.2.1.2.1 _ e0 e1
  have h34 : hi 34 e = 1 := z2.mpr ⟨oe, id⟩
  have h35 := ((z4 oe).1 id).1
  have hq4 := (hBQ.2 e oe).1
  obtain ⟨m9, m10, m11⟩ := (z4 oe).2 0 (Int.le_refl _) (by omega)
  rw [Int.add_zero] at m9 m10 m11
  have cx := c5 _ hv.1 hv.2.1
  obtain ⟨tt, htt⟩ : ∃ tt, s 115 (4 * e) = tt := ⟨_, rfl⟩
  obtain ⟨v9, hv9⟩ : ∃ v9, s 116 (4 * e) = v9 := ⟨_, rfl⟩
  obtain ⟨w, hw9⟩ : ∃ w, s 117 (4 * e) = w := ⟨_, rfl⟩
  obtain ⟨x, hx9⟩ : ∃ x, s 63 (4 * (8 * s 118 e + s 112 e) + s 115 (4 * e)) = x := ⟨_, rfl⟩
  rw [htt] at hx9
  rw [htt, hx9] at hx cx
  rw [htt] at hv hb m9
  rw [hw9] at hw hgw m10
  rw [hv9] at m11
  rw [htt, hv9, hw9, hx9] at q
  have q2 := (hBQ.2 e oe).2 0 (Int.le_refl _) (by omega)
  rw [Int.add_zero, hv9, hw9] at q2
  -- the end moves on
  obtain ⟨s1, hs1⟩ : ∃ s1, upI (shfS s e) 112 e x = s1 := ⟨_, rfl⟩
  rw [hs1] at q
  have en : ∀ (a : Nat) i, a ≠ 112 → a ≠ 114 → a ≠ 115 → a ≠ 116 → a ≠ 117 → s1 a i = s a i := fun a i y1 y2 y3 y4 y5 => by rw [← hs1, upI_a y1, shfS_n ⟨y2, y3, y4, y5⟩]
  have gs : ∀ a i, ¬ gS a → s1 a i = s a i := fun a i z => en a i (by unfold gS at z; omega) (by unfold gS at z; omega) (by unfold gS at z; omega) (by unfold gS at z; omega) (by unfold gS at z; omega)
  have hP1 : AllP s1 := hP.glo gs (en _ _ (by decide) (by decide) (by decide) (by decide) (by decide))
  have hO1 : OnP hr s1 p t := hO.glo (fun _ _ _ => rfl) gs (en _ _ (by decide) (by decide) (by decide) (by decide) (by decide))
  have eh : hg s1 p = hg s p := hg_n (en _ _ (by decide) (by decide) (by decide) (by decide) (by decide)) (fun i => en _ _ (by decide) (by decide) (by decide) (by decide) (by decide))
  have oes : opn (shfS s e) e := ⟨e0, e1, by rw [shfS_n (by decide)]; exact e2⟩
  have hB1 : BQ s1 := ⟨fun b b0 b1 => by rw [en _ _ (by decide) (by decide) (by decide) (by decide) (by decide)]; exact hBQ.1 b b0 b1, by rw [← hs1]; exact (hBQ.2.shf oe h14).mv oes (by omega)⟩
  -- where it goes on
  have T90 : ∀ h5 s5, RelC T NN al0 hi0 hr0 (fun _ => False) A al h5 hr s5 → OnP hr s5 p t → AllP s5 → BQ s5 → s5 91 p = m → (∀ v' al' hi' hr', Pf T NN al0 hi0 hr0 p t (goS s5 p (T m (qx + 2 + tt))) v' al' hi' hr' → Q (some (some (vI v'))) al' hi' hr') → Wp d 96 90 [vR (some 26), vR (some t), vI qx, vI e, vI tt, vI (kmq w), vI v9] [] al h5 hr Q := by
    intro h5 s5 w1 w2 w3 w4 e91 qq
    obtain ⟨N, n, M, u1, -, hM, hT, -, kN⟩ := w1.cod w2 hBs
    rw [e91] at hM hT
    have eb := bZ_p hb
    have GT : Ev (d - 1) 124 [vR (some t), vI (T m (qx + 2 + tt))] al h5 hr (kon d 96 104 107 [vR (some 26), vR (some t), vI qx, vI e, vI tt, vI (kmq w), vI v9] [] Q) := by
      refine t_goTo w1 w2 w3 (fun h6 y1 y2 y3 _ => ?_)
      have E0 := qq 0 _ _ _ (Pf.ok y1 y2 y3 w4.goS_)
      simp only [kon, knt_some, knt_none, Option.toList_some, Option.toList_none, List.cons_append, List.nil_append]
      refine s96_107.mpr ?_
      refine (s96_108).mpr ?_
      exact E0
    refine s96_90.mpr (s96_91.mpr ?_)
    refine (s96_92 (by first | decide | assumption | omega)).mpr ?_
    refine s96_95.mpr (s96_96.mpr (s96_97.mpr (s96_98.mpr (s96_100.mpr ?_))))
    try simp (disch := first | decide | assumption | omega) only [u1, fAdd_id]
    refine (s96_101 (by first | decide | assumption | omega) (by first | decide | assumption | omega)).mpr ?_
    refine t_byteAt hM hT ?_
    simp only [kon, knt_some, knt_none, Option.toList_some, Option.toList_none, List.cons_append, List.nil_append, eb]
    refine (s96_104 (by first | decide | assumption | omega) (by first | decide | assumption | omega)).mpr ?_
    exact GT
  have T61 : ∀ h5, RelC T NN al0 hi0 hr0 (fun _ => False) A al h5 hr s1 → Wp d 96 61 [vR (some 26), vR (some t), vI qx, vI e, vI tt, vI (kmq w), vI v9] [] al h5 hr Q := by
    intro h5 w1
    have r0 : h5 t 0 = p := (w1.tf hO1).2.2.1
    by_cases c : w = 4
    · rw [if_neg (fun z => z c)] at q
      have Z := T90 h5 s1 w1 hO1 hP1 hB1 ((en _ _ (by decide) (by decide) (by decide) (by decide) (by decide)).trans hm) q
      rw [c, kmq_4] at Z ⊢
      refine s96_61.mpr (s96_63.mpr ?_)
      refine s96_64.mpr (wif (fun c64 => ?_) (fun c64 => ?_))
      · skip
        exact Z
      · skip
        exact absurd rfl (by assumption)
    · rw [if_pos c] at q
      have ek : kmq w = kmp w := by unfold kmq; rw [if_neg c]
      have nk : kmq w ≠ -1 := by rw [ek]; unfold kmp; split <;> (try split) <;> (try split) <;> (try split) <;> omega
      have nv : vm A p v9 w = v9 := vm_0 (by omega)
      have hkk := kmq4 (w := w)
      have PU : Ev (d - 1) 127 [vR (some t), vI (kmq w), vI v9] al h5 hr (kon d 96 72 75 [vR (some 26), vR (some t), vI qx, vI e, vI tt, vI (kmq w), vI v9] [] Q) := by
        have := t_push (d := d - 1) (Q := kon d 96 72 75 [vR (some 26), vR (some t), vI qx, vI e, vI tt, vI (kmq w), vI v9] [] Q) (v := v9) (w := w) w1 hO1 hP1 (by rw [eh]; have := hgw c; omega) (fun z => by exfalso; omega) (fun h6 y1 y2 y3 _ => by
          obtain ⟨Y1, Y2⟩ := y1.rs_
          have r06 : h6 t 0 = p := (y1.tf y2).2.2.1
          have go : ∀ a i, ¬ gS a → ownS (psh s1 p v9 w) v9 w p a i = psh s1 p v9 w a i := fun a i z => ownS_n (by unfold gS at z; omega)
          have HD := x_hand (d := d - 1) (kd := kmq w) (o := p) (v := v9) (Q := kon d 96 87 90 [vR (some 26), vR (some t), vI qx, vI e, vI tt, vI (kmq w), vI v9] [] Q) Y1 y3 hkk (by omega) q2.1 q2.2 (fun h7 x1 x2 => by
            have Z := T90 h7 _ (x1.rc_ (Y2.cg (fun a i z => x2 a i (by omega) (by omega)))) (y2.glo (fun _ _ _ => rfl) go (ownS_n (by decide))) (y3.glo go (ownS_n (by decide))) (hB1.psh_.eq (fun a i z => ownS_n (by omega))) (by rw [ownS_n (by decide), psh_n (by decide)]; exact (en _ _ (by decide) (by decide) (by decide) (by decide) (by decide)).trans hm) q
            simp only [kon, knt_some, knt_none, Option.toList_some, Option.toList_none, List.cons_append, List.nil_append]
            exact Z)
          simp only [kon, knt_some, knt_none, Option.toList_some, Option.toList_none, List.cons_append, List.nil_append]
          refine s96_75.mpr ?_
          refine (s96_76 (by first | decide | assumption | omega)).mpr ?_
          refine s96_79.mpr (s96_81.mpr (s96_83.mpr ?_))
          try simp (disch := first | decide | assumption | omega) only [g4, r06]
          refine (s96_84 (by first | decide | assumption | omega)).mpr ?_
          try simp (disch := first | decide | assumption | omega) only [g4, r06]
          refine (s96_87 (by first | decide | assumption | omega) (by first | decide | assumption | omega)).mpr ?_
          exact HD
          )
        rw [← ek, nv] at this
        exact this
      refine s96_61.mpr (s96_63.mpr ?_)
      refine s96_64.mpr (wif (fun c64 => ?_) (fun c64 => ?_))
      · skip
        exact absurd (by assumption) nk
      · skip
        refine s96_67.mpr (s96_68.mpr (s96_70.mpr ?_))
        refine (s96_72 (by first | decide | assumption | omega) (by first | decide | assumption | omega)).mpr ?_
        exact PU
  -- the first message goes
  have ne : oc ≠ 36 ∧ oc ≠ 37 ∧ oc ≠ 38 ∧ oc ≠ 39 ∧ oc ≠ 34 ∧ oc ≠ 35 := by
    have k3 : isK al oc 3 := c2.1
    exact ⟨isK_ne k3 (hA.k (c := 15) (by decide) (by decide) rfl) (by decide), isK_ne k3 (hA.k (c := 17) (by decide) (by decide) rfl) (by decide), isK_ne k3 (hA.k (c := 15) (by decide) (by decide) rfl) (by decide), isK_ne k3 (hA.k (c := 15) (by decide) (by decide) rfl) (by decide), isK_ne k3 (hA.k (c := 16) (by decide) (by decide) rfl) (by decide), isK_ne k3 (hA.k (c := 15) (by decide) (by decide) rfl) (by decide)⟩
  have RM : Ev (d - 1) 56 [vR (some 33), vI e] al hi hr (kon d 96 48 51 [vR (some 26), vR (some t), vI qx, vI e, vI tt, vI (kmq w), vI v9] [] Q) := by
    refine e_removeNext hA hC ⟨e0, e1⟩ (by omega) (by omega) (by omega) ⟨z3, hq4.2⟩ (fun h3 hM3 => ?_)
    have RS := R1.shf hP hBQ.2 oe hM3
    obtain ⟨m1, m2, m3⟩ := hM3
    have hPs : AllP (shfS s e) := hP.glo (fun a i z => shfS_n (by unfold gS at z; omega)) (shfS_n (by decide))
    have RV := RS.mv hPs oes (show x ≠ -1 by omega)
    rw [hs1] at RV
    have r35 : h3 35 e = s 112 e := (m3 _ _ (by omega) (by omega)).trans h35
    have r34 : h3 34 e = 1 := (m3 _ _ (by omega) (by omega)).trans h34
    have ix : ixA h3 oc (s 112 e) tt = ixA hi oc (s 112 e) tt := by unfold ixA; rw [m3 _ _ (by omega) (by omega)]
    have cx3 : (if ixA h3 oc (h3 35 e) tt < 0 then 0 else h3 (oc + 4) (ixA h3 oc (h3 35 e) tt)) = x := by
      rw [r35, ix, m3 (oc + 4) _ (by omega) (by omega)]; exact cx
    have Z := T61 _ (RV.rc_ ((R2.cg (hi' := h3) (fun a i z => m3 a i (by omega) (by omega))).cg (fun a i z => upI_a (by omega))))
    simp only [kon, knt_some, knt_none, Option.toList_some, Option.toList_none, List.cons_append, List.nil_append]
    refine s96_51.mpr ?_
    refine (s96_52 (by first | decide | assumption | omega)).mpr ?_
    refine s96_55.mpr (s96_56.mpr ?_)
    try simp (disch := first | decide | assumption | omega) only [g4]
    refine (s96_58 (by first | decide | assumption | omega) (by first | decide | assumption | omega)).mpr ?_
    refine e_moveOn hA hC ⟨e0, e1⟩ (by omega) c1 c2 (by omega) cx3 ?_
    simp only [kon, knt_some, knt_none, Option.toList_some, Option.toList_none, List.cons_append, List.nil_append]
    exact Z
  have T43 : Wp d 96 43 [vR (some 26), vR (some t), vI qx, vI e, vI tt, vI (kmq w), vI v9] [] al hi hr Q := by
    refine s96_43.mpr ?_
    refine (s96_44 (by first | decide | assumption | omega)).mpr ?_
    refine s96_47.mpr ?_
    try simp (disch := first | decide | assumption | omega) only [g4]
    refine (s96_48 (by first | decide | assumption | omega) (by first | decide | assumption | omega)).mpr ?_
    exact RM
  have hn1 : 1 ≤ hi 38 e := by omega
  rw [e96]
  refine s96_0.mpr ?_
  refine (s96_1 (by first | decide | assumption | omega) (by first | decide | assumption | omega)).mpr ?_
  refine t_highest hR hO (by omega) h1 ?_
  simp only [kon, knt_some, knt_none, Option.toList_some, Option.toList_none, List.cons_append, List.nil_append]; rw [vm_0 (show ts s p 0 ≠ 1 by omega), he]
  refine s96_4.mpr (s96_5.mpr ?_)
  refine (s96_6 (by first | decide | assumption | omega)).mpr ?_
  refine s96_9.mpr ?_
  try simp (disch := first | decide | assumption | omega) only [g4, kon, knt_some, knt_none, Option.toList_some, Option.toList_none, List.cons_append, List.nil_append]
  refine (s96_10 (by first | decide | assumption | omega) (by first | decide | assumption | omega)).mpr ?_
  refine e_nextMessage hA hC ⟨e0, e1⟩ (by omega) hn1 (by omega) ?_
  simp only [kon, knt_some, knt_none, Option.toList_some, Option.toList_none, List.cons_append, List.nil_append, m9]
  refine s96_13.mpr (s96_15.mpr ?_)
  refine (s96_16 (by first | decide | assumption | omega)).mpr ?_
  refine s96_19.mpr ?_
  try simp (disch := first | decide | assumption | omega) only [g4, kon, knt_some, knt_none, Option.toList_some, Option.toList_none, List.cons_append, List.nil_append]
  refine (s96_20 (by first | decide | assumption | omega) (by first | decide | assumption | omega)).mpr ?_
  refine e_nextLoadKind hA hC ⟨e0, e1⟩ (by omega) hn1 (by omega) ?_
  simp only [kon, knt_some, knt_none, Option.toList_some, Option.toList_none, List.cons_append, List.nil_append, m10]
  refine s96_23.mpr (s96_25.mpr ?_)
  refine (s96_26 (by first | decide | assumption | omega)).mpr ?_
  refine s96_29.mpr ?_
  try simp (disch := first | decide | assumption | omega) only [g4, kon, knt_some, knt_none, Option.toList_some, Option.toList_none, List.cons_append, List.nil_append]
  refine (s96_30 (by first | decide | assumption | omega) (by first | decide | assumption | omega)).mpr ?_
  refine e_nextLoad hA hC ⟨e0, e1⟩ (by omega) hn1 (by omega) ?_
  simp only [kon, knt_some, knt_none, Option.toList_some, Option.toList_none, List.cons_append, List.nil_append, m11]
  refine s96_33.mpr (s96_35.mpr (s96_37.mpr ?_))
  refine s96_38.mpr (wif (fun c38 => ?_) (fun c38 => ?_))
  · skip
    exfalso; omega
  · skip
    exact T43
end CN9
