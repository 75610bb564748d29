/-! RUNNING, the class: a function ends -/
section CM8
variable {d : Nat} {Q : QQ} {T : TXs} {al al' : AL} {hi hi' : HI} {hr hr' : HR} {s s' u sx sm : HI} {A A' : Int → Int → Int} {NN : Int → Option Nat} {E E' : Int → Prop} {p m f o q v w x y n k g qx cv i r a P b fr : Int} {B : Int → Int} {X Y : Tst} {t t' N M c : Nat} {al0 : AL} {hi0 : HI} {hr0 : HR} {V W : Int → Int}
theorem RelC.rou (hR : RelC T NN al0 hi0 hr0 E A al hi hr s) (hO : OnP hr s p t) (hBs : Bs T NN al0 hi0 hr0) (hm : s 91 p = m) (g0 : 0 ≤ g ∧ g < nFn (T m)) : ∃ N n M u, hr t 1 = some N ∧ MS al hr N ∧ isK al N 10 ∧ roA hi hr N g = some (u + 1) ∧ RoutOK al hi hr (T m) g u ∧ isK al (u + 1) 8 ∧ ModV al hi hr N n (T m) M ∧ TxV (T m) n := by
  obtain ⟨tS, ⟨⟨N, hNN, e1⟩, -⟩, -⟩ := hR.tf hO
  rw [hm] at hNN
  obtain ⟨⟨n, L, hG, -⟩, -⟩ := hR.gm hBs hNN
  obtain ⟨u, H, C, A9, ero, -, -, hro, -⟩ := (hG.ro (f := g)).resolve_left (fun z => z.1 g0) |>.2
  obtain ⟨M, hM, hT, -⟩ := hG
  exact ⟨N, n, M, u, e1, hM.1.1, hM.1.1.1, ero, hro, hro.1.1, hM, hT⟩
theorem RelC.lv (hR : RelC T NN al0 hi0 hr0 E A al hi hr s) (hO : OnP hr s p t) (hP : AllP s) (h2 : 2 ≤ s 94 p) : RelC T NN al0 hi0 hr0 E A al (upI (upI hi t 7 (s 94 p - 1)) t 8 (s 94 p - 2)) hr (upI s 94 p (s 94 p - 1)) ∧ OnP hr (upI s 94 p (s 94 p - 1)) p t ∧ AllP (upI s 94 p (s 94 p - 1)) := by
  have hL := (hR.tf hO).2.1
  obtain ⟨⟨p0, p1⟩, ht, h89, ⟨a1, a16⟩, ⟨r0, r1⟩, h97, h56⟩ := id hO
  obtain ⟨hi', hh⟩ : ∃ hi', upI (upI hi t 7 (s 94 p - 1)) t 8 (s 94 p - 2) = hi' := ⟨_, rfl⟩
  obtain ⟨s', hs⟩ : ∃ s', upI s 94 p (s 94 p - 1) = s' := ⟨_, rfl⟩
  have n1 : ∀ (b : Nat) i, ¬ (b = t ∧ (i = 7 ∨ i = 8)) → hi' b i = hi b i := fun b i z => by rw [← hh, upI_ne (by omega), upI_ne (by omega)]
  have e7 : hi' t 7 = s 94 p - 1 := by rw [← hh, upI_i (by decide), upI_eq]
  have e8 : hi' t 8 = s 94 p - 2 := by rw [← hh, upI_eq]
  have n2 : ∀ (a : Nat) i, ¬ (a = 94 ∧ i = p) → s' a i = s a i := fun a i z => by rw [← hs, upI_ne z]
  have e94 : s' 94 p = s 94 p - 1 := by rw [← hs, upI_eq]
  rw [hh, hs]
  have eai : ai s' p = ai s p - 1 := by unfold ai; rw [e94]; omega
  have own : ∀ a i, ¬ (ownC p a i ∧ 94 ≤ a) → s' a i = s a i := fun a i z => n2 a i (fun y => z (by unfold ownC; omega))
  have H97 : ∀ x, 16 * p ≤ x → x ≤ ai s' p → 0 ≤ s' 97 x ∧ s' 97 x ≤ 16 := fun x x0 x1 => by
    rw [n2 _ _ (by omega)]; exact h97 x x0 (by omega)
  refine ⟨hR.tsk hP ⟨p0, p1⟩ ht (fun a i z1 z2 => n1 a i (by omega)) (fun i z => n1 t i (by omega)) own (fun _ => ?_), ⟨⟨p0, p1⟩, ht, by rw [n2 _ _ (by omega)]; exact h89, by rw [e94]; omega, by rw [n2 _ _ (by omega)]; exact ⟨r0, r1⟩, H97, by rw [n2 _ _ (by omega)]; exact h56⟩, hP.mono own ⟨p0, p1⟩ (fun _ => ⟨by rw [e94]; omega, H97⟩)⟩
  obtain ⟨⟨N, hNN, e1⟩, -, h5, h6, c, e15, hH⟩ := hL
  have nc : ∀ i, hi' c i = hi c i := fun i => by
    obtain ⟨-, c', v1, v2, -⟩ := hR.2.2.2.2.1.1 p t p0 p1 ht
    rw [e15] at v1; cases v1
    have := hR.2.2.2.2.1.c v2 p0 p1 ht
    exact n1 c i (by omega)
  refine ⟨⟨N, by rw [n2 _ _ (by omega)]; exact hNN, e1⟩, by rw [e94, e7, e8]; exact ⟨rfl, by omega⟩, fun a a0 a1' => ?_, fun a k a0 a1' k0 k1 => ?_, c, e15, ?_⟩
  · rw [e94] at a1'
    rw [n1 _ _ (by omega), n1 _ _ (by omega), n1 _ _ (by omega), n2 _ _ (by omega), n2 _ _ (by omega), n2 _ _ (by omega)]
    exact h5 a a0 (by omega)
  · rw [e94] at a1'
    rw [n2 _ _ (by omega)] at k1
    rw [n1 _ _ (by omega), n1 _ _ (by omega), n2 _ _ (by omega), n2 _ _ (by omega)]
    exact h6 a k a0 (by omega) k0 k1
  · rw [n1 t 16 (by omega)]
    refine hH.fr nc (n2 _ _ (by omega)) (fun b _ _ => ⟨n2 _ _ (by omega), n2 _ _ (by omega)⟩) (fun b i _ _ _ => ⟨n2 _ _ (by omega), n2 _ _ (by omega)⟩) (fun i hi => ?_)
    obtain ⟨x, k, x0, x1, k0, k1, rfl⟩ := hi
    rw [n2 _ _ (by omega)] at k1
    rw [n2 _ _ (by omega), n2 _ _ (by omega)]
    exact hH.2.2.2 _ ⟨x, k, x0, by omega, k0, k1, rfl⟩
theorem c_leave (k9 : isK al t 9) (h7 : hi t 7 = n) (n2 : 2 ≤ n ∧ n ≤ 16) (q : Q (some none) al (upI (upI hi t 7 (n - 1)) t 8 (n - 2)) hr) : Ev d 119 [vR (some t)] al hi hr Q := by
  rw [show n - 2 = n - 1 - 1 by omega] at q
  rw [e119]
  refine s119_0.mpr ?_
  refine (s119_1 (by first | decide | assumption | omega)).mpr ?_
  refine s119_4.mpr ?_
  try simp (disch := first | decide | assumption | omega) only [h7, upI_eq, fSub_id]
  refine s119_5.mpr (wif (fun c5 => ?_) (fun c5 => ?_))
  · skip
    refine s119_8.mpr (s119_9.mpr ?_)
    refine (s119_10 (by first | decide | assumption | omega)).mpr ?_
    refine s119_13.mpr (s119_14.mpr ?_)
    try simp (disch := first | decide | assumption | omega) only [h7, upI_eq, fSub_id]
    refine (s119_15 (by first | decide | assumption | omega)).mpr ?_
    refine s119_18.mpr (s119_19.mpr ?_)
    try simp (disch := first | decide | assumption | omega) only [h7, upI_eq, fSub_id]
    refine (s119_20 (by first | decide | assumption | omega)).mpr ?_
    refine s119_23.mpr (s119_24.mpr ?_)
    try simp (disch := first | decide | assumption | omega) only [h7, upI_eq, fSub_id]
    refine (s119_25 (by first | decide | assumption | omega)).mpr ?_
    try simp (disch := first | decide | assumption | omega) only [h7, upI_eq, fSub_id]
    first | (refine s119_28.mpr ?_; exact q) | (exfalso; omega)
  · skip
    first | (refine s119_28.mpr ?_; exact q) | (exfalso; omega)
theorem t_routine (hR : RelC T NN al0 hi0 hr0 E A al hi hr s) (hO : OnP hr s p t) (hP : AllP s) (hBs : Bs T NN al0 hi0 hr0) (hm : s 91 p = m) (hf : s 95 (ai s p) = f) (g0 : 0 ≤ f ∧ f < nFn (T m)) (hd : 1 ≤ d) (q : ∀ N n M u, hr t 1 = some N → roA hi hr N f = some (u + 1) → RoutOK al hi hr (T m) f u → isK al (u + 1) 8 → ModV al hi hr N n (T m) M → TxV (T m) n → Q (some (some (vR (some (u + 1))))) al hi hr) : Ev d 121 [vR (some t)] al hi hr Q := by
  obtain ⟨N, n, M, u, e1, ms, kN, ero, hro, ku, hM, hT⟩ := hR.rou hO hBs hm g0
  obtain ⟨⟨p0, p1⟩, ht, h89, ⟨a1, a16⟩, ⟨r0, r1⟩, h97, h56⟩ := id hO
  obtain ⟨⟨⟨t119, k9⟩, ⟨e9, K1, L1⟩, -⟩, ⟨-, ⟨e7, e8⟩, h5, -⟩, -⟩ := hR.tf hO
  have w5 := (h5 (s 94 p - 1) (by omega) (by omega)).1
  have ea : 16 * p + (s 94 p - 1) = ai s p := by unfold ai; omega
  rw [ea, hf] at w5
  have E0 := q N n M u e1 ero hro ku hM hT
  rw [e121]
  refine s121_0.mpr ?_
  refine (s121_1 (by first | decide | assumption | omega)).mpr ?_
  refine s121_4.mpr ?_
  try simp (disch := first | decide | assumption | omega) only [e1, e9, e8, w5]
  refine (s121_5 (by first | decide | assumption | omega)).mpr ?_
  refine s121_8.mpr ?_
  try simp (disch := first | decide | assumption | omega) only [e1, e9, e8, w5]
  refine (s121_9 (by first | decide | assumption | omega)).mpr ?_
  try simp (disch := first | decide | assumption | omega) only [e1, e9, e8, w5]
  refine (s121_12 (by first | decide | assumption | omega) (by first | decide | assumption | omega) (by first | decide | assumption | omega)).mpr ?_
  try simp (disch := first | decide | assumption | omega) only [e1, e9, e8, w5]
  refine (s121_13 (by first | decide | assumption | omega) (by first | decide | assumption | omega)).mpr ?_
  refine t_routineAt ms ?_
  simp only [kon, knt_some, knt_none, Option.toList_some, Option.toList_none, List.cons_append, List.nil_append, ero]
  refine (s121_16).mpr ?_
  exact E0
theorem x5_back (hR : RelC T NN al0 hi0 hr0 (fun _ => False) A al hi hr s) (hO : OnP hr s p t) (hP : AllP s) (hBQ : BQ s) (hBs : Bs T NN al0 hi0 hr0) (hm : s 91 p = m) (hf : s 95 (ai s p) = f) (g0 : 0 ≤ f ∧ f < nFn (T m)) (ho : o = 31) (h1 : rTy (T m) f ≠ -1 → 1 ≤ hg s p) (h2 : rTy (T m) f ≠ -1 → 2 ≤ s 94 p → 0 ≤ s 97 (ai s p - 1) ∧ s 97 (ai s p - 1) < 16) (hN : NV (T m)) (hd : 3 ≤ d) (q : ∀ v' al' hi' hr', Pf T NN al0 hi0 hr0 p t (exS (T m) f s p o v qx) v' al' hi' hr' → Q (some (some (vI v'))) al' hi' hr') : Ev d 87 [vR (some 26), vR (some t)] al hi hr Q := by
  have k9 := (hR.tf hO).1.1.2
  have t119 := (hR.tf hO).1.1.1
  obtain ⟨⟨p0, p1⟩, ht, h89, ⟨a1, a16⟩, ⟨r0, r1⟩, h97, h56⟩ := id hO
  rw [exq_31 ho] at q
  unfold bckS at q
  simp only [] at q
  have hrt := fun z z1 z2 => hR.rtv hO (k := 0) (by decide) z z1 z2
  have hne := (hN.2.2 f g0.1 g0.2).2.1
  -- the result is there
  have T47 : ∀ h3 s3 u, rTy (T m) f ≠ -1 → s3 = pp s p 1 → RelC T NN al0 hi0 hr0 (fun _ => False) A al h3 hr s3 → OnP hr s3 p t → AllP s3 → h3 t 14 = kmp (ts s p 0) → s 94 p ≠ 1 → (∀ v' al' hi' hr', Pf T NN al0 hi0 hr0 p t (psh (upI s3 94 p (s 94 p - 1)) p (tv s p 0) (ts s p 0)) v' al' hi' hr' → Q (some (some (vI v'))) al' hi' hr') → Wp d 87 47 [vR (some 26), vR (some t), vR u, vI 1, vI (vm A p (tv s p 0) (ts s p 0))] [] al h3 hr Q := by
    intro h3 s3 u hh e3 w1 w2 w3 w4 n1 qq
    have h7 : h3 t 7 = s 94 p := by
      rw [(w1.tf w2).2.1.2.1.1, e3]; exact ppz_n (by decide)
    have e94 : s3 94 p = s 94 p := by rw [e3]; exact ppz_n (by decide)
    have L := w1.lv w2 w3 (by omega)
    rw [e94] at L
    obtain ⟨y1, y2, y3⟩ := L
    have eh : hg (upI s3 94 p (s 94 p - 1)) p = s 97 (ai s p - 1) := by
      unfold hg ai
      rw [upI_eq, upI_a (by decide), e3, show 16 * p + (s 94 p - 1) - 1 = 16 * p + s 94 p - 1 - 1 by omega]
      unfold pp ai
      exact upI_i (by omega)
    have PU := t_push (d := d - 1) (Q := kon d 87 62 65 [vR (some 26), vR (some t), vR u, vI 1, vI (vm A p (tv s p 0) (ts s p 0))] [] Q) (v := tv s p 0) (w := ts s p 0) y1 y2 y3 (by rw [eh]; exact h2 hh (by omega)) (fun z1 z2 => hrt (by have := h1 hh; omega) z1 z2) (fun h4 x1 x2 x3 _ => by
      have E0 := qq 0 _ _ _ (Pf.ok x1 x2 x3 (by rw [e3]; exact ((hBQ.pp_ (p := p) (n := 1)).eq (fun a i z => upI_a (by omega))).psh_))
      simp only [kon, knt_some, knt_none, Option.toList_some, Option.toList_none, List.cons_append, List.nil_append]
      refine s87_65.mpr ?_
      refine (s87_66).mpr ?_
      exact E0
      )
    have r14 : upI (upI h3 t 7 (s 94 p - 1)) t 8 (s 94 p - 2) t 14 = kmp (ts s p 0) := by rw [upI_i (by decide), upI_i (by decide)]; exact w4
    refine s87_47.mpr ?_
    refine (s87_48 (by first | decide | assumption | omega) (by first | decide | assumption | omega)).mpr ?_
    refine c_leave k9 h7 (by omega) ?_
    simp only [kon, knt_some, knt_none, Option.toList_some, Option.toList_none, List.cons_append, List.nil_append]
    refine s87_51.mpr ?_
    refine s87_52.mpr (wif (fun c52 => ?_) (fun c52 => ?_))
    · skip
      exact absurd (by assumption) (by decide)
    · skip
      refine s87_55.mpr (s87_56.mpr ?_)
      refine (s87_57 (by first | decide | assumption | omega)).mpr ?_
      refine s87_60.mpr ?_
      try simp (disch := first | decide | assumption | omega) only [r14]
      refine (s87_62 (by first | decide | assumption | omega) (by first | decide | assumption | omega)).mpr ?_
      exact PU
  by_cases has : rTy (T m) f ≠ -1
  · rw [cif_y has, cif_y has] at q
    have h1' := h1 has
    have hr2 : ∀ {x}, x = cv (rTy (T m) f) → x ≠ -1 := fun e => by rw [e]; exact cv_m (hne.resolve_left has).1.r
    have T31 : ∀ h3 u l4, RelC T NN al0 hi0 hr0 (fun _ => False) A al h3 hr (pp s p 1) → OnP hr (pp s p 1) p t → AllP (pp s p 1) → h3 t 14 = kmp (ts s p 0) → Wp d 87 31 [vR (some 26), vR (some t), vR u, vI 1, l4] [vI (vm A p (tv s p 0) (ts s p 0))] al h3 hr Q := by
      intro h3 u l4 w1 w2 w3 w4
      have h7 : h3 t 7 = s 94 p := by
        rw [(w1.tf w2).2.1.2.1.1]; exact ppz_n (by decide)
      by_cases c : s 94 p = 1
      · rw [if_pos c] at q
        have E0 := q (-1) _ _ _ (Pf.ov w1 w2 w3 hBQ.pp_ rfl)
        refine s87_31.mpr (s87_35.mpr (s87_37.mpr ?_))
        refine (s87_38 (by first | decide | assumption | omega)).mpr ?_
        refine s87_41.mpr ?_
        try simp (disch := first | decide | assumption | omega) only [h7]
        refine s87_42.mpr (wif (fun c42 => ?_) (fun c42 => ?_))
        · skip
          exfalso; omega
        · skip
          refine s87_45.mpr ?_
          refine (s87_46).mpr ?_
          exact E0
      · rw [if_neg c] at q
        have Z := T47 h3 _ u has rfl w1 w2 w3 w4 c q
        refine s87_31.mpr (s87_35.mpr (s87_37.mpr ?_))
        refine (s87_38 (by first | decide | assumption | omega)).mpr ?_
        refine s87_41.mpr ?_
        try simp (disch := first | decide | assumption | omega) only [h7]
        refine s87_42.mpr (wif (fun c42 => ?_) (fun c42 => ?_))
        · skip
          exact Z
        · skip
          exfalso; omega
    have RT := fun Q' qq => t_routine (d := d - 1) (Q := Q') hR hO hP hBs hm hf g0 (by omega) qq
    rw [e87]
    refine s87_0.mpr ?_
    refine (s87_1 (by first | decide | assumption | omega) (by first | decide | assumption | omega)).mpr ?_
    refine RT _ (fun N n M u e1 ero hro ku hM hT => ?_)
    simp only [kon, knt_some, knt_none, Option.toList_some, Option.toList_none, List.cons_append, List.nil_append]; have hx2 := hr2 (hro.res hT g0.1 g0.2)
    refine s87_4.mpr (s87_5.mpr ?_)
    refine s87_6.mpr (wif (fun c6 => ?_) (fun c6 => ?_))
    · skip
      first | exact absurd (by assumption) hx2 | (exfalso; simp at c6)
    · skip
      refine s87_9.mpr ?_
      refine (s87_10 (by first | decide | assumption | omega)).mpr ?_
      refine s87_13.mpr ?_
      refine s87_14.mpr (wif (fun c14 => ?_) (fun c14 => ?_))
      · skip
        first | exact absurd (by assumption) hx2 | (exfalso; simp at c6)
      · skip
        refine s87_17.mpr (s87_18.mpr (s87_22.mpr (s87_23.mpr ?_)))
        refine s87_24.mpr (wif (fun c24 => ?_) (fun c24 => ?_))
        · skip
          exact absurd (by assumption) (by decide)
        · skip
          refine s87_27.mpr ?_
          refine (s87_28 (by first | decide | assumption | omega) (by first | decide | assumption | omega)).mpr ?_
          refine t_pop hR hO hP h1' (fun h4 y1 y2 y3 y4 => ?_)
          simp only [kon, knt_some, knt_none, Option.toList_some, Option.toList_none, List.cons_append, List.nil_append]
          exact T31 _ _ _ y1 y2 y3 y4
  · rw [cif_n has, cif_n has] at q
    have h0 : rTy (T m) f = -1 := Classical.byContradiction has
    have T37 : ∀ u, Wp d 87 37 [vR (some 26), vR (some t), vR u, vI 0, vI 0] [] al hi hr Q := by
      intro u
      have h7 : hi t 7 = s 94 p := (hR.tf hO).2.1.2.1.1
      by_cases c : s 94 p = 1
      · rw [if_pos c] at q
        have E0 := q (-1) _ _ _ (Pf.ov hR hO hP hBQ rfl)
        refine s87_37.mpr ?_
        refine (s87_38 (by first | decide | assumption | omega)).mpr ?_
        refine s87_41.mpr ?_
        try simp (disch := first | decide | assumption | omega) only [h7]
        refine s87_42.mpr (wif (fun c42 => ?_) (fun c42 => ?_))
        · skip
          exfalso; omega
        · skip
          refine s87_45.mpr ?_
          refine (s87_46).mpr ?_
          exact E0
      · rw [if_neg c] at q
        obtain ⟨y1, y2, y3⟩ := hR.lv hO hP (by omega)
        have E0 := q 0 _ _ _ (Pf.ok y1 y2 y3 (hBQ.eq (fun a i z => upI_a (by omega))))
        refine s87_37.mpr ?_
        refine (s87_38 (by first | decide | assumption | omega)).mpr ?_
        refine s87_41.mpr ?_
        try simp (disch := first | decide | assumption | omega) only [h7]
        refine s87_42.mpr (wif (fun c42 => ?_) (fun c42 => ?_))
        · skip
          refine s87_47.mpr ?_
          refine (s87_48 (by first | decide | assumption | omega) (by first | decide | assumption | omega)).mpr ?_
          refine c_leave k9 h7 (by omega) ?_
          simp only [kon, knt_some, knt_none, Option.toList_some, Option.toList_none, List.cons_append, List.nil_append]
          refine s87_51.mpr ?_
          refine s87_52.mpr (wif (fun c52 => ?_) (fun c52 => ?_))
          · skip
            refine s87_65.mpr ?_
            refine (s87_66).mpr ?_
            exact E0
          · skip
            exact absurd (by assumption) (by decide)
        · skip
          exfalso; omega
    have RT := fun Q' qq => t_routine (d := d - 1) (Q := Q') hR hO hP hBs hm hf g0 (by omega) qq
    rw [e87]
    refine s87_0.mpr ?_
    refine (s87_1 (by first | decide | assumption | omega) (by first | decide | assumption | omega)).mpr ?_
    refine RT _ (fun N n M u e1 ero hro ku hM hT => ?_)
    simp only [kon, knt_some, knt_none, Option.toList_some, Option.toList_none, List.cons_append, List.nil_append]; have hx2 : hi (u + 1) 2 = -1 := (hro.res hT g0.1 g0.2).trans (by rw [h0]; rfl)
    refine s87_4.mpr (s87_5.mpr ?_)
    refine s87_6.mpr (wif (fun c6 => ?_) (fun c6 => ?_))
    · skip
      refine s87_21.mpr (s87_22.mpr (s87_23.mpr ?_))
      refine s87_24.mpr (wif (fun c24 => ?_) (fun c24 => ?_))
      · skip
        refine s87_34.mpr (s87_35.mpr ?_)
        exact T37 _
      · skip
        exact absurd (by assumption) (by decide)
    · skip
      refine s87_9.mpr ?_
      refine (s87_10 (by first | decide | assumption | omega)).mpr ?_
      refine s87_13.mpr ?_
      try simp (disch := first | decide | assumption | omega) only [hx2]
      refine s87_14.mpr (wif (fun c14 => ?_) (fun c14 => ?_))
      · skip
        refine s87_21.mpr (s87_22.mpr (s87_23.mpr ?_))
        refine s87_24.mpr (wif (fun c24 => ?_) (fun c24 => ?_))
        · skip
          refine s87_34.mpr (s87_35.mpr ?_)
          exact T37 _
        · skip
          exact absurd (by assumption) (by decide)
      · skip
        exact absurd (by assumption) (by decide)
end CM8
