/-! SOUNDNESS: what holds, holds behind a look -/
section SK7
variable {T : TXs} {s s' : HI} {p q m f v w t o x n k g e a : Int} {B : Int → Int} {X Y : Tst}
theorem cls49 {E : Int → Prop} {i : Int} : clsS s E 49 i = s 49 i := cls_n (by decide) (by decide) (by decide)
theorem ovr49 {i : Int} : ovrS s p w 49 i = s 49 i := by unfold ovrS; rw [cls49, frb_n (by decide), upI_a (by decide)]
theorem trp49 {i : Int} : trpS s p w 49 i = s 49 i := by unfold trpS; rw [ovr49, upI_a (by decide)]
theorem los49 {i : Int} : losS s v w 49 i = s 49 i := by
  unfold losS
  split
  · exact upI_a (by decide)
  · split
    · exact cls49
    · rfl
theorem mk49 {ws : Int → Int} {i : Int} : mkS s p n t ws 49 i = s 49 i := by
  unfold mkS
  by_cases c : mkF s p n
  · rw [cif_y c, psh_n (by decide), newB_o (by decide), gcS_CE (by decide)]
  · rw [cif_n c]; exact trp49
theorem ex_49 {i : Int} (h : i < 55) : exS B f s p o v q 49 i = s 49 i := by
  have P : ∀ s v w, psh s p v w 49 i = s 49 i := fun s v w => psh_n (by decide)
  have PP : ∀ s n, pp s p n 49 i = s 49 i := fun s n => ppz_n (by decide)
  have G : ∀ s y, goS s p y 49 i = s 49 i := fun s y => goS_n (by decide)
  have S2 : ∀ s x v w, st2 s x v w 49 i = s 49 i := fun s x v w => st2_n (by decide) (by decide)
  unfold exS
  by_cases c9 : o = 0
  · rw [if_pos c9]; exact P _ _ _
  rw [if_neg c9]
  by_cases c9 : o = 1
  · rw [if_pos c9]; exact P _ _ _
  rw [if_neg c9]
  by_cases c9 : o = 2
  · rw [if_pos c9]
    try simp only []
    split
    · rw [S2, P]
    · exact P _ _ _
  rw [if_neg c9]
  by_cases c9 : o = 3
  · rw [if_pos c9]; rw [S2, PP]
  rw [if_neg c9]
  by_cases c9 : o = 4
  · rw [if_pos c9]; exact PP _ _
  rw [if_neg c9]
  by_cases c9 : o = 5
  · rw [if_pos c9]; exact P _ _ _
  rw [if_neg c9]
  by_cases c9 : o = 6
  · rw [if_pos c9]; rw [S2, S2]
  rw [if_neg c9]
  by_cases c9 : o = 19
  · rw [if_pos c9]; rw [P, PP]
  rw [if_neg c9]
  by_cases c9 : o < 20
  · rw [if_pos c9]
    split
    · rw [trp49, PP]
    · rw [P, PP]
  rw [if_neg c9]
  by_cases c9 : o = 20
  · rw [if_pos c9]; exact G _ _
  rw [if_neg c9]
  by_cases c9 : o = 21
  · rw [if_pos c9]
    split
    · rw [G, PP]
    · exact PP _ _
  rw [if_neg c9]
  by_cases c9 : o = 22
  · rw [if_pos c9]; exact mk49
  rw [if_neg c9]
  by_cases c9 : o = 23
  · rw [if_pos c9]
    split
    · rw [trp49, PP]
    · rw [P, PP]
  rw [if_neg c9]
  by_cases c9 : o = 24
  · rw [if_pos c9]
    split
    · rw [trp49, PP]
    · rw [upI_a (by decide), PP]
  rw [if_neg c9]
  by_cases c9 : o = 25
  · rw [if_pos c9]
    split
    · rw [trp49, PP]
    · rw [mk49, PP]
  rw [if_neg c9]
  by_cases c9 : o = 26
  · rw [if_pos c9]
    split
    · rw [trp49, PP]
    · rw [mk49, PP]
  rw [if_neg c9]
  by_cases c9 : o = 27
  · rw [if_pos c9]
    split
    · rw [trp49, PP]
    · rw [P, PP]
  rw [if_neg c9]
  by_cases c9 : o = 28
  · rw [if_pos c9]
    split
    · rw [trp49, PP]
    · split
      · rw [P, PP]
      · rw [trp49, PP]
  rw [if_neg c9]
  by_cases c9 : o = 29
  · rw [if_pos c9]
    split
    · rw [trp49, PP]
    · split
      · rw [upI_a (by decide), PP]
      · rw [trp49, PP]
  rw [if_neg c9]
  by_cases c9 : o = 30
  · rw [if_pos c9]
    unfold calS
    split
    · exact trp49
    · rw [mvS_n (by decide), actS_n (by decide), PP]
  rw [if_neg c9]
  by_cases c9 : o = 31
  · rw [if_pos c9]
    unfold bckS
    try simp only []
    by_cases c : rTy B f ≠ -1
    · rw [cif_y c, cif_y c]
      split
      · rw [ovr49, PP]
      · rw [P, upI_a (by decide), PP]
    · rw [cif_n c, cif_n c]
      split
      · exact ovr49
      · exact upI_a (by decide)
  rw [if_neg c9]
  by_cases c9 : o = 32
  · rw [if_pos c9]
    split
    · exact trp49
    · unfold mkbS
      try simp only []
      rw [P, if_neg (by omega), if_neg (by omega), if_neg (by omega)]
  rw [if_neg c9]
  by_cases c9 : o = 33
  · rw [if_pos c9]; exact P _ _ _
  rw [if_neg c9]
  by_cases c9 : o = 34
  · rw [if_pos c9]; rw [upI_a (by decide), PP]
  rw [if_neg c9]
  by_cases c9 : o = 35
  · rw [if_pos c9]; rw [upI_a (by decide), PP]
  rw [if_neg c9]
  by_cases c9 : o = 36
  · rw [if_pos c9]
    unfold chnS
    try simp only []
    split
    · exact trp49
    · rw [opE_n (by decide), opE_n (by decide)]
  rw [if_neg c9]
  by_cases c9 : o = 37
  · rw [if_pos c9]
    unfold sndS
    try simp only []
    have Z : ∀ s1 : HI, s1 49 i = s 49 i → ∀ (v w e t' : Int), (if upI s1 112 e (s1 63 (4 * (8 * s1 118 e + s1 112 e) + t')) 112 (oth e) = -1 then losS (upI s1 112 e (s1 63 (4 * (8 * s1 118 e + s1 112 e) + t'))) v w else ownS (upI (upI (upI (upI (upI s1 112 e (s1 63 (4 * (8 * s1 118 e + s1 112 e) + t'))) 115 (4 * oth e + (upI s1 112 e (s1 63 (4 * (8 * s1 118 e + s1 112 e) + t'))) 114 (oth e)) t') 116 (4 * oth e + (upI s1 112 e (s1 63 (4 * (8 * s1 118 e + s1 112 e) + t'))) 114 (oth e)) v) 117 (4 * oth e + (upI s1 112 e (s1 63 (4 * (8 * s1 118 e + s1 112 e) + t'))) 114 (oth e)) w) 114 (oth e) ((upI s1 112 e (s1 63 (4 * (8 * s1 118 e + s1 112 e) + t'))) 114 (oth e) + 1)) v w (100 + oth e)) 49 i = s 49 i := fun s1 h1 v w e t' => by
      split
      · rw [los49, upI_a (by decide)]; exact h1
      · rw [ownS_n (by decide), upI_a (by decide), upI_a (by decide), upI_a (by decide), upI_a (by decide), upI_a (by decide)]; exact h1
    refine Z _ ?_ _ _ _ _
    split
    · exact PP _ _
    · rfl
  rw [if_neg c9]
  by_cases c9 : o = 38
  · rw [if_pos c9]
    unfold rcvS
    try simp only []
    rw [G]
    have S : ∀ e x, upI (shfS s e) 112 e x 49 i = s 49 i := fun e x => by
      rw [upI_a (by decide)]; unfold shfS; rw [if_neg (by omega), if_neg (by omega)]
    split
    · rw [ownS_n (by decide), P]; exact S _ _
    · exact S _ _
  rw [if_neg c9]
  by_cases c9 : o = 39
  · rw [if_pos c9]; rw [cls49, PP]
  rw [if_neg c9]
  by_cases c9 : o = 40
  · rw [if_pos c9]
    unfold spnS
    try simp only []
    split
    · exact trp49
    · rw [upI_i (by omega), hndS_n (Or.inl (by decide)) (by decide), staS_n (by decide), PP]
  rw [if_neg c9]
  by_cases c9 : o = 41
  · rw [if_pos c9]
  rw [if_neg c9]
  by_cases c9 : o = 42
  · rw [if_pos c9]; exact ovr49
  rw [if_neg c9]
  unfold outS
  split
  · rw [trp49, PP]
  · rw [upI_i (by omega), upI_a (by decide), upI_a (by decide), PP]
theorem JO.nx_ (h : JO T s (-1)) : INV T (nxS s) := by
  have n : ∀ {a : Nat} {i : Int}, ¬ (a = 49 ∧ (i = 53 ∨ i = 54)) → nxS s a i = s a i := fun z => by
    unfold nxS upI; rw [if_neg (by omega), if_neg (by omega)]
  have e53 : nxS s 49 53 = (s 49 53 + 1) % 12 := by unfold nxS; rw [upI_i (by decide), upI_eq]
  have e54 : nxS s 49 54 = 0 := by unfold nxS; rw [upI_eq]
  refine ⟨by rw [e54]; decide, h.lc (fun a i z _ _ _ z4 => n (fun y => z4 y.1)) ?_⟩
  obtain ⟨g1, g2, g3, g4, g5, g6, g7, g8, g9⟩ := h.1
  exact ⟨by rw [e53]; omega, by rw [e54]; decide, by rw [n (by omega)]; exact g3, by rw [n (by omega)]; exact g4, by rw [n (by omega)]; exact g5, fun q q0 q1 => by rw [n (by omega), n (by omega), n (by omega), n (by omega)]; exact g6 q q0 q1, fun b b0 b1 => by rw [n (by omega)]; exact g7 b b0 b1, fun b j b0 b1 => by rw [n (by omega), n (by omega)]; exact g8 b j b0 b1, fun e e0 e1 => by rw [n (by omega), n (by omega)]; exact g9 e e0 e1⟩
theorem nx52 : nxS s 49 52 = s 49 52 := by unfold nxS; rw [upI_i (by decide), upI_i (by decide)]
/-- how it is, while it goes on -/
theorem JJ.h89 (h : JJ T s p m f X) {y : Int} (hy : 1 ≤ y ∧ y < 4) : JJ T (upI s 89 p y) p m f X := by
  obtain ⟨hJ, h1, h2, h3, h4, h5, h6, h7⟩ := id h
  have n : ∀ {b : Nat} {i : Int}, ¬ (b = 89 ∧ i = p) → upI s 89 p y b i = s b i := fun z => if_neg z
  obtain ⟨g1, g2, g3, g4, g5, g6, g7, g8, g9⟩ := hJ.1
  have hG : Gl (upI s 89 p y) := ⟨by rw [n (by omega)]; exact g1, by rw [n (by omega)]; exact g2, by rw [n (by omega)]; exact g3, by rw [n (by omega)]; exact g4, by rw [n (by omega)]; exact g5, fun q q0 q1 => by
    have := g6 q q0 q1
    rw [n (b := 93) (by omega), n (b := 49) (by omega), n (b := 49) (by omega)]
    by_cases c : q = p
    · subst c
      have := h1.2.2.2.2.2
      rw [upI_eq]; omega
    · rw [n (by omega)]; exact this, fun b b0 b1 => by rw [n (by omega)]; exact g7 b b0 b1, fun b j b0 b1 => by rw [n (by omega), n (by omega)]; exact g8 b j b0 b1, fun e e0 e1 => by rw [n (by omega), n (by omega)]; exact g9 e e0 e1⟩
  refine ⟨hJ.lc (fun b i z _ _ _ _ => n (fun u => z (by unfold ownC; omega))) hG, h.2.go (fun b i b1 b2 => n (by omega)) (by rw [upI_eq]; exact hy.2) (n (by omega)) (n (by omega)) (n (by omega)) (fun x _ _ => n (by omega)) (fun x _ _ => ⟨n (by omega), n (by omega)⟩) (fun i _ _ => ⟨n (by omega), n (by omega)⟩) (fun i _ _ => Vt.rf (fun _ => n (by omega)) (fun _ => n (by omega)) (fun _ => n (by omega)) (fun _ => n (by omega)) (fun _ => n (by omega))) ?_ h5 ?_ ?_⟩
  · exact h2.tr h1.2.2.2.1 (fun b _ _ => ⟨n (by omega), n (by omega)⟩) (fun b i _ _ _ _ => ⟨n (by omega), n (by omega)⟩)
  · exact h6.tr (n (by omega)) (fun i _ _ => ⟨n (by omega), n (by omega)⟩) h5.1 (fun i _ _ => Vt.rf (fun _ => n (by omega)) (fun _ => n (by omega)) (fun _ => n (by omega)) (fun _ => n (by omega)) (fun _ => n (by omega)))
  · exact h7.tr (fun i hi => ⟨(pl_eq (ai_eq (n (by omega))) (fun x _ _ => n (by omega))).mp hi, n (by omega), n (by omega)⟩) (fun v z => (n (by omega)).trans z) (fun v z => (n (by omega)).trans z)
theorem code_at {pc : Int} (hM : MB s m B) (hS : Sh B) (f0 : 0 ≤ f ∧ f < nFn B) (hb : bgn B (cAt B f) (cLen B f) pc) : 0 ≤ cAt B f ∧ cAt B f + pc < 2000 ∧ s 69 (10 * m + f) = cAt B f ∧ s 52 m ≤ 2000 ∧ bAt s m = B := by
  obtain ⟨hm0, hm1, h52, hB, hMD⟩ := id hM
  obtain ⟨s1, s2, s3, s4, s5, s6, s7, s8, s9, s10, s11, s12, s13, s14⟩ := hS.2.2.2.2.2.2.2.2.2.2 f f0.1 f0.2
  obtain ⟨d1, d2, d3, d4, d5, d6⟩ := hMD.2.2.2.2.2 f f0.1 f0.2
  have d6 : s 69 (10 * m + f) = cAt B f := d6
  have hcn : cAt B f + cLen B f ≤ 2000 := by
    have hx := (cd_end _ _ _ (by omega) (by omega) s13).2 (by omega)
    have : bAt s m (cAt B f + cLen B f - 1) ≠ -1 := by rw [hB]; omega
    have := bAt_lt this
    omega
  exact ⟨by omega, by have := hb.2.1; omega, d6, h52, hB⟩
theorem so_lkg {fl : List (Int × Tst)} {pc : Int} (h : JJ T s p m f X) (ts9 : tstep (T m) f pc X = some fl) (hF : InsF (T m) (opA (T m) f pc) (agA (T m) f pc)) : LkG (T m) s p (cAt (T m) f) pc := by
  obtain ⟨hJ, hP⟩ := id h
  obtain ⟨h1, h2, h3, h4, h5, h6, h7⟩ := id hP
  have hh := hP.hg_
  rw [hh.symm] at h5
  have e1 : (T m) (cAt (T m) f + pc) = opA (T m) f pc := rfl
  have e2 : (T m) (cAt (T m) f + pc + 1) = agA (T m) f pc := rfl
  unfold LkG
  rw [e1, e2]
  obtain ⟨o, ho⟩ : ∃ o, opA (T m) f pc = o := ⟨_, rfl⟩
  obtain ⟨v, hv⟩ : ∃ v, agA (T m) f pc = v := ⟨_, rfl⟩
  unfold tstep at ts9
  rw [ho, hv] at ts9 hF ⊢
  obtain ⟨F1, F2, F3, F4, F5, F6, F7, F8, F9⟩ := hF
  refine ⟨fun z => ?_, fun z => ?_⟩
  · rw [if_neg (by omega), if_neg (by omega)] at ts9
    unfold tsL at ts9
    rw [if_neg (by omega), if_neg (by omega), if_neg (by omega), if_neg (by omega), if_neg (by omega), if_neg (by omega), if_pos z] at ts9
    obtain ⟨⟨y1, y2, -⟩, e⟩ := onw_s ts9
    have t0 := h.top (k := 0) (by decide) (by omega)
    rw [Int.sub_zero] at t0
    exact ⟨by omega, (t0.k5 y2).2.1⟩
  · rw [if_neg (by omega), if_neg (by omega)] at ts9
    unfold tsL at ts9
    rw [if_neg (by omega), if_neg (by omega), if_neg (by omega), if_neg (by omega), if_neg (by omega), if_pos z] at ts9
    have v0 := F4 (by omega)
    have X1 : 1 ≤ X.1 := by
      by_cases cb : 0 < X.1 ∧ endT (T m) (X.2.1 (X.1 - 1)) v ∧ ldT (T m) (X.2.1 (X.1 - 1)) v = -1
      · omega
      · rw [if_neg cb] at ts9
        have := (onw_s ts9).1.1; omega
    have hd := dep_c (t := v) h X1 v0
    have t0 := h.top (k := 0) (by decide) (by omega)
    refine ⟨by omega, ⟨v0, F8 z⟩, fun y => enO_of hJ (t0.w3 y).2, ?_⟩
    by_cases cb : endT (T m) (X.2.1 (X.1 - 1)) v ∧ ldT (T m) (X.2.1 (X.1 - 1)) v = -1
    · rw [if_pos cb] at hd
      rw [hd]
      rw [Int.sub_zero] at t0
      exact (t0.k5 cb.1.1).2.1
    · rw [if_neg cb] at hd
      rw [if_neg (fun u => cb u.2)] at ts9
      have y := (onw_s ts9).1
      have t1 := h.top (k := 1) (by decide) (by omega)
      rw [show X.1 - 1 - 1 = X.1 - 2 by omega] at t1
      rw [hd]
      exact (t1.k5 y.2.1.1).2.1
theorem cgO_eq (e : ∀ a i, (51 ≤ a ∧ a ≤ 69) ∨ a = 94 ∨ (97 ≤ a ∧ a ≤ 99) ∨ (109 ≤ a ∧ a ≤ 118) → s' a i = s a i) : cgO s' p o t ↔ cgO s p o t := by
  have ea : ai s' p = ai s p := ai_eq (e _ _ (by omega))
  have eh : hg s' p = hg s p := by unfold hg; rw [ea, e _ _ (by omega)]
  have es : ∀ k, sk s' p k = sk s p k := fun k => by unfold sk; rw [ea]
  have et : ∀ k, tv s' p k = tv s p k := fun k => by unfold tv; rw [eh, es, e _ _ (by omega)]
  have ets : ∀ k, ts s' p k = ts s p k := fun k => by unfold ts; rw [eh, es, e _ _ (by omega)]
  have ed : depS s' p t = depS s p t := by
    unfold depS
    simp only [et, ets, e 60 _ (by omega), e 61 _ (by omega), e 62 _ (by omega), e 118 _ (by omega), e 112 _ (by omega)]
  unfold cgO
  simp only [et, ed, e 112 _ (by omega), e 114 _ (by omega)]
theorem inv_look (h : INV T s) : LkO T s ∧ INV T (lkS T s).1 ∧ (lkS T s).1 49 52 ≤ s 49 52 + 1 := by
  obtain ⟨h54, hJ⟩ := h
  have hGl := hJ.1
  obtain ⟨g1, g2, g3, g4, g5, g6, g7, g8, g9⟩ := id hGl
  obtain ⟨p, hp⟩ : ∃ p, s 49 53 = p := ⟨_, rfl⟩
  rw [hp] at g1
  have g6p := g6 p g1.1 g1.2
  unfold LkO lkS
  simp only []
  rw [hp]
  by_cases c : s 89 p < 4
  case neg =>
    rw [cif_n (fun y => c y.1), if_neg c]
    exact ⟨⟨g1, ⟨g2.1, h54⟩, g6p.2.1, fun z => absurd z c⟩, hJ.nx_, by show nxS s 49 52 ≤ _; rw [nx52]; omega⟩
  obtain ⟨m, A, X, hP, hL, pc0, hA⟩ := hJ.start g1 c
  obtain ⟨f, hf⟩ : ∃ f, s 95 (ai s p) = f := ⟨_, rfl⟩
  obtain ⟨pc, hpc⟩ : ∃ pc, s 96 (ai s p) = pc := ⟨_, rfl⟩
  rw [hf] at hP hL
  rw [hpc] at pc0 hA
  have hmg := hP.mg
  have hS := hmg.2.1.2.1
  have hN := hmg.2.1.2.2.1
  have hMB := hmg.2.1.1
  have f0 := hP.2.2.2.2.1.1
  obtain ⟨x16, hbg⟩ := hL.2.2.1 pc X pc0 hA
  have hvX := hL.2.2.2 pc X pc0 hA
  obtain ⟨k1, k2, k3, k4, k5⟩ := code_at hMB hS f0 hbg
  have hrg : ∀ k, -1 ≤ (T m) k ∧ (T m) k ≤ 255 := fun k => by rw [← k5]; exact bAt_rng m k
  have hF := insF hS hN hrg f0 hbg
  obtain ⟨fl, ts9, hfl⟩ := hL.1.2 pc X pc0 hA
  have hop := opk_of hS hN hrg f0.1 f0.2 hbg
  have h16 : ∀ q ∈ fl, q.2.1 ≤ 16 := fun q hq => (hfl q hq).2.1
  have hap := hP.2.ap
  have n10 : nFn (T m) ≤ 10 := hS.2.2.2.2.2.2.2.2.2.1
  have hm := hmg.1
  have m91 := hP.2.1.2.2.1
  have hlkp : LkP (T m) s p m f (cAt (T m) f) pc := ⟨hap, m91, ⟨by omega, by omega⟩, hf, ⟨f0.1, by omega⟩, hpc, pc0, rfl, k3, k1, k2, k4, k5⟩
  have hlkg := so_lkg hP ts9 hF
  -- the step
  have e1 : (T m) (cAt (T m) f + pc) = opA (T m) f pc := rfl
  have e2 : (T m) (cAt (T m) f + pc + 1) = agA (T m) f pc := rfl
  have il := ilen_b hrg (cAt (T m) f + pc)
  obtain ⟨s1, hs1⟩ : ∃ s1, goS (ups s p) p (pc + ilen (T m) (cAt (T m) f + pc)) = s1 := ⟨_, rfl⟩
  have J1 : JJ T s1 p m f X := by rw [← hs1]; exact (hP.ups_ h54).gos
  have ea : ai s1 p = ai s p := by rw [← hs1]; exact (ai_eq (goS_n (by decide))).trans ups_ai
  have s196 : s1 96 (ai s1 p) = pc + ilen (T m) (cAt (T m) f + pc) := by
    rw [ea, ← hs1]; unfold goS; rw [ups_ai, upI_eq]
  have s1n : ∀ a i, (51 ≤ a ∧ a ≤ 69) ∨ a = 94 ∨ (97 ≤ a ∧ a ≤ 99) ∨ (109 ≤ a ∧ a ≤ 118) → s1 a i = s a i := fun a i z => by
    rw [← hs1, goS_n (by omega), ups_n (by omega) (by omega) (by omega)]
  have a1 : a1S T (ups s p) p = exS (T m) f s1 p (opA (T m) f pc) (agA (T m) f pc) (cAt (T m) f + pc) := by
    unfold a1S op9 ag9 qq9 fn9 pc9
    rw [ups_n (a := 91) (by decide) (by decide) (by decide), ups_ai, ups_n (a := 95) (by decide) (by decide) (by decide), ups_n (a := 96) (by decide) (by decide) (by decide), m91, hf, hpc, hs1]
    rfl
  obtain ⟨o, ho⟩ : ∃ o, opA (T m) f pc = o := ⟨_, rfl⟩
  obtain ⟨v, hv⟩ : ∃ v, agA (T m) f pc = v := ⟨_, rfl⟩
  have F9 := hF
  rw [ho, hv] at F9 a1
  obtain ⟨F1, F2, F3, F4, F5, F6, F7, F8, F10⟩ := F9
  have ilo : ilen (T m) (cAt (T m) f + pc) = if o = 0 then 5 else if (o = 2 ∨ o = 3 ∨ (20 ≤ o ∧ o ≤ 24) ∨ o = 26 ∨ o = 30 ∨ (32 ≤ o ∧ o ≤ 34) ∨ o = 36 ∨ o = 37 ∨ o = 40) then 2 else if o = 38 then 2 + v else 1 := by
    unfold ilen
    rw [e1, e2, ho, hv]
    by_cases d : o = 0
    · rw [if_pos (oprn_1 (x := o) (by simp only [List.mem_cons, List.not_mem_nil, or_false]; omega)), if_pos d]
    rw [if_neg d]
    by_cases d2 : o = 38
    · have := oprn_10 d2
      rw [if_neg (by omega), if_neg (by omega), if_pos this, if_neg (by omega), if_pos d2]
    by_cases d3 : (o = 2 ∨ o = 3 ∨ (20 ≤ o ∧ o ≤ 24) ∨ o = 26 ∨ o = 30 ∨ (32 ≤ o ∧ o ≤ 34) ∨ o = 36 ∨ o = 37 ∨ o = 40)
    · rw [if_pos d3]
      have : oprn o = 2 ∨ oprn o = 3 ∨ oprn o = 5 ∨ oprn o = 9 := by
        by_cases y : o = 2 ∨ o = 3
        · exact Or.inl (oprn_2 (x := o) (by simp only [List.mem_cons, List.not_mem_nil, or_false]; omega))
        · by_cases y2 : o = 23 ∨ o = 24 ∨ o = 33 ∨ o = 34
          · exact Or.inr (Or.inr (Or.inl (oprn_5 (x := o) (by simp only [List.mem_cons, List.not_mem_nil, or_false]; omega))))
          · by_cases y3 : o = 37
            · exact Or.inr (Or.inr (Or.inr (oprn_9 y3)))
            · exact Or.inr (Or.inl (oprn_3 (x := o) (by simp only [List.mem_cons, List.not_mem_nil, or_false]; omega)))
      rw [if_neg (by omega), if_neg (by omega), if_neg (by omega)]
    · rw [if_neg d3, if_neg d2]
      have := oprn_0 (x := o) (by simp only [List.mem_cons, List.not_mem_nil, or_false]; omega)
      rw [if_neg (by omega), if_pos this]
  have hcg : cgO s p o v → cgO s1 p o v := (cgO_eq s1n).mpr
  have K : KF T p m f s1 fl := fun s' q hq q16 hy ey e96 => by
    obtain ⟨w1, w2, Z, w3, w4⟩ := hfl q hq
    have q0 := (hop.2.2 X fl hvX ts9 q hq).1
    exact hy.land hL (by rw [ey, e96]; exact q0) (by rw [ey, e96]; exact w3) w4
  have ts8 := ts9
  unfold tstep at ts8
  rw [ho, hv] at ts8
  have STEP : cgO s p o v → JO T (a1S T (ups s p) p) (-1) := fun cg => by
    have cg1 := hcg cg
    rw [a1]
    by_cases d1 : o < 20
    · rw [if_pos d1] at ts8
      refine so_P J1 ts8 ⟨F1.1, d1⟩ F3 h16 ?_ K
      rw [s196, ilo]
      by_cases y : o = 0
      · rw [if_pos y, if_pos y]
      · rw [if_neg y, if_neg y]
        by_cases y2 : o = 2 ∨ o = 3
        · rw [if_pos (by omega), if_pos y2]
        · rw [if_neg (by omega), if_neg (by omega), if_neg y2]
    · rw [if_neg d1] at ts8
      by_cases d2 : o < 32
      · rw [if_pos d2] at ts8
        by_cases d3 : o ≤ 29
        · refine so_H J1 ts8 ⟨by omega, d3⟩ (fun y => F4 (by omega)) (fun y => F5 (by omega)) h16 ?_ K
          rw [s196, ilo, if_neg (by omega)]
          by_cases y : o = 25 ∨ o = 27 ∨ o = 28 ∨ o = 29
          · rw [if_neg (by omega), if_neg (by omega), if_pos y]
          · rw [if_pos (by omega), if_neg y]
        · by_cases d4 : o = 30
          · unfold tsH at ts8
            rw [if_neg (by omega), if_neg (by omega), if_neg (by omega), if_neg (by omega), if_neg (by omega), if_neg (by omega), if_neg (by omega), if_neg (by omega), if_neg (by omega), if_neg (by omega), if_pos d4] at ts8
            obtain ⟨hpar, e⟩ := onw_s ts8
            subst e
            obtain ⟨w1, w2, Z, w3, w4⟩ := hfl _ (List.mem_singleton.mpr rfl)
            have s1p : s1 96 (ai s1 p) = pc + 2 := by rw [s196, ilo, if_neg (by omega), if_pos (by omega)]
            have := so_call J1 hpar ⟨F4 (by omega), F7 (by omega)⟩ hL (by rw [s1p]; omega) (by rw [s1p]; exact w3) w4
            unfold exS
            rw [if_neg (by omega), if_neg (by omega), if_neg (by omega), if_neg (by omega), if_neg (by omega), if_neg (by omega), if_neg (by omega), if_neg (by omega), if_neg (by omega), if_neg (by omega), if_neg (by omega), if_neg (by omega), if_neg (by omega), if_neg (by omega), if_neg (by omega), if_neg (by omega), if_neg (by omega), if_neg (by omega), if_neg (by omega), if_pos d4]
            exact this
          · unfold tsH at ts8
            rw [if_neg (by omega), if_neg (by omega), if_neg (by omega), if_neg (by omega), if_neg (by omega), if_neg (by omega), if_neg (by omega), if_neg (by omega), if_neg (by omega), if_neg (by omega), if_neg d4] at ts8
            have := so_back J1 (onw_s ts8).1.1
            unfold exS
            rw [if_neg (by omega), if_neg (by omega), if_neg (by omega), if_neg (by omega), if_neg (by omega), if_neg (by omega), if_neg (by omega), if_neg (by omega), if_neg (by omega), if_neg (by omega), if_neg (by omega), if_neg (by omega), if_neg (by omega), if_neg (by omega), if_neg (by omega), if_neg (by omega), if_neg (by omega), if_neg (by omega), if_neg (by omega), if_neg (by omega), if_pos (by omega)]
            exact this
      · rw [if_neg d2] at ts8
        refine so_L J1 ts8 ⟨by omega, F1.2⟩ hvX (fun y => F4 (by omega)) (fun y => F5 (by omega)) F6 (fun y => F7 (by omega)) rfl cg1 h16 ?_ K
        by_cases y : o = 38 ∨ o = 42
        · exact Or.inr y
        · left
          rw [s196, ilo, if_neg (by omega)]
          by_cases y2 : o = 35 ∨ o = 39 ∨ o = 41 ∨ o = 43
          · rw [if_neg (by omega), if_neg (by omega), if_pos y2]
          · rw [if_pos (by omega), if_neg y2]
  refine ⟨⟨g1, ⟨g2.1, h54⟩, g6p.2.1, fun _ => ⟨m, f, cAt (T m) f, pc, hlkp, hlkg, fun cg => ?_⟩⟩, ?_⟩
  · rw [e1, e2, ho, hv] at cg ⊢
    have := (STEP cg).1.1
    refine ⟨F1, ⟨by omega, by omega⟩, ?_, this.1, this.2⟩
    rw [hs1]
    exact so_ok J1 ts9 ho hv hvX ⟨F1, F2, F3, F4, F5, F6, F7, F8, F10⟩ h16 (hcg cg)
  · have eop : op9 T s p = o := by unfold op9 qq9 fn9 pc9; rw [m91, hf, hpc]; exact ho
    have eag : ag9 T s p = v := by unfold ag9 qq9 fn9 pc9; rw [m91, hf, hpc]; exact hv
    rw [cgO_S, eop, eag]
    by_cases cg : cgO s p o v
    · rw [cif_y ⟨c, cg⟩]
      have J2 := STEP cg
      obtain ⟨r, hr⟩ : ∃ r, a1S T (ups s p) p = r := ⟨_, rfl⟩
      have e52 : r 49 52 = s 49 52 + 1 := by
        rw [← hr, a1, ex_49 (by decide), ← hs1, goS_n (by decide)]
        unfold ups; rw [upI_i (by decide), upI_eq]
      have hr2 : a1S T (upI (upI (upI (upI s 89 p 1) 93 p (s 93 p + 1)) 49 52 (s 49 52 + 1)) 49 54 (s 49 54 + 1)) p = r := hr
      rw [hr2]
      rw [hr] at J2
      by_cases y : r 49 54 = 8 ∨ o = 41 ∨ 4 ≤ r 89 p
      · rw [if_pos y]
        exact ⟨J2.nx_, by show nxS r 49 52 ≤ _; rw [nx52]; omega⟩
      · rw [if_neg y]
        have := J2.1.2.1
        exact ⟨⟨by show r 49 54 < 8; omega, J2⟩, by show r 49 52 ≤ _; omega⟩
    · rw [cif_n (fun y => cg y.2), if_pos c]
      obtain ⟨z, hz⟩ : ∃ z : Int, (if o = 38 then 2 else 3) = z := ⟨_, rfl⟩
      rw [hz]
      have hz3 : 1 ≤ z ∧ z < 4 := by rw [← hz]; split <;> decide
      have J2 := hP.h89 hz3
      have ea2 : ai (upI s 89 p z) p = ai s p := ai_eq (upI_a (by decide))
      have J3 := J2.land hL (by rw [ea2, upI_a (by decide), hpc]; exact pc0) (by rw [ea2, upI_a (by decide), hpc]; exact hA) leX.rf
      exact ⟨J3.nx_, by show nxS (upI s 89 p z) 49 52 ≤ _; rw [nx52, upI_a (by decide)]; omega⟩
end SK7
