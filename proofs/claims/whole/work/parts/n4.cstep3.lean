/-! RUNNING, the class: a step, whole -/
section CQ3
variable {d : Nat} {Q : QQ} {T : TXs} {al al' : AL} {hi hi' h1 : HI} {hr hr' r1 : HR} {s s' s1 s2 u u' sx sm S : HI} {A A' : Int → Int → Int} {NN : Int → Option Nat} {E E' : Int → Prop} {p m f q v w x y n k g qx i P e fr ty kd tt cvv o c9 z9 a : Int} {B : Int → Int} {X Y : Tst} {t t' N M c b : Nat} {al0 : AL} {hi0 : HI} {hr0 : HR} {V W ws : Int → Int} {pc : Int} {fl : List (Int × Tst)}
theorem clo_cg9 (e : ∀ (a : Nat) i, 109 ≤ a → a ≤ 118 → u' a i = u a i) (hE : ∀ x, E' x ↔ E x) : clo u' E' x ↔ clo u E x := by
  have eE : E' = E := funext (fun x => propext (hE x))
  subst eE
  unfold clo opn
  simp only [e 112 _ (by decide) (by decide), e 114 _ (by decide) (by decide), e 116 _ (by decide) (by decide), e 117 _ (by decide) (by decide)]
theorem cls_cg (e : ∀ (a : Nat) i, 109 ≤ a → a ≤ 118 → u' a i = u a i) (hE : ∀ x, E' x ↔ E x) {b : Nat} (hb : u' b i = u b i) : clsS u' E' b i = clsS u E b i := by
  have e1 : clo u' E' = clo u E := funext (fun x => propext (clo_cg9 e hE))
  have e2 : blo u' (clo u E) = blo u (clo u E) := funext (fun y => propext (by
    unfold blo
    simp only [e 114 _ (by decide) (by decide), e 116 _ (by decide) (by decide), e 117 _ (by decide) (by decide)]))
  unfold clsS
  rw [e1, e2, hb]
theorem ovr_cg (h : ∀ (a : Nat) i, ¬ (ownC p a i ∧ 94 ≤ a) → s2 a i = sm a i) : ∀ (a : Nat) i, ¬ (ownC p a i ∧ 94 ≤ a) → ovrS s2 p w a i = ovrS sm p w a i := fun a i z => by
  have u1 : ∀ (b : Nat) j, ¬ (ownC p b j ∧ 94 ≤ b) → frbS (upI s2 89 p w) p b j = frbS (upI sm 89 p w) p b j := fun b j y => by
    unfold frbS
    rw [upI_a (a := 89) (b := 109) (by decide), upI_a (a := 89) (b := 109) (by decide), upI_a (a := 89) (b := 110) (by decide), upI_a (a := 89) (b := 110) (by decide), h 109 _ (by unfold ownC; omega), h 110 _ (by unfold ownC; omega)]
    have : upI s2 89 p w b j = upI sm 89 p w b j := by
      by_cases c : b = 89 ∧ j = p
      · rw [c.1, c.2, upI_eq, upI_eq]
      · rw [upI_ne c, upI_ne c]; exact h b j y
    rw [this]
  unfold ovrS
  exact cls_cg (fun b j y1 y2 => u1 b j (by unfold ownC; omega)) (fun x => by rw [h 113 x (by unfold ownC; omega)]) (u1 a i z)
theorem trp_cg (h : ∀ (a : Nat) i, ¬ (ownC p a i ∧ 94 ≤ a) → s2 a i = sm a i) : ∀ (a : Nat) i, ¬ (ownC p a i ∧ 94 ≤ a) → trpS s2 p w a i = trpS sm p w a i := by
  unfold trpS
  refine ovr_cg (fun a i z => ?_)
  by_cases c : a = 90 ∧ i = p
  · rw [c.1, c.2, upI_eq, upI_eq]
  · rw [upI_ne c, upI_ne c]; exact h a i z
theorem ovr_89 : ovrS s p w 89 p = w := by
  unfold ovrS
  rw [cls_n (by decide) (by decide) (by decide), frb_n (by decide), upI_eq]
theorem ovr_90 : ovrS s p w 90 i = s 90 i := by
  unfold ovrS
  rw [cls_n (by decide) (by decide) (by decide), frb_n (by decide), upI_a (by decide)]
theorem lk_step (hp : s 49 53 = p) (c : s 89 p < 4) (cg : cgS T s p) : lkS T s = (if a1S T (ups s p) p 49 54 = 8 ∨ op9 T s p = 41 ∨ 4 ≤ a1S T (ups s p) p 89 p then nxS (a1S T (ups s p) p) else a1S T (ups s p) p, true) := by
  unfold lkS
  simp only []
  rw [hp, cif_y ⟨c, cg⟩]
  rfl
theorem lk_wait (hp : s 49 53 = p) (h : ¬ (s 89 p < 4 ∧ cgS T s p)) : lkS T s = (nxS (if s 89 p < 4 then upI s 89 p (if op9 T s p = 38 then 2 else 3) else s), false) := by
  unfold lkS
  simp only []
  rw [hp, cif_n h]
theorem lk_a1 (L : Lk T s p m f X pc fl o v) : a1S T (ups s p) p = exS (T m) f (goS (ups s p) p (pc + ilen (T m) (cAt (T m) f + pc))) p o v (cAt (T m) f + pc) := by
  obtain ⟨hJ, hpc, pc0, ts9, hvX, ⟨ho, hv⟩, -⟩ := L
  have m91 : s 91 p = m := hJ.2.1.2.2.1
  have hf : s 95 (ai s p) = f := hJ.2.2.2.2.1.2
  unfold a1S op9 ag9 qq9 fn9 pc9
  rw [ups_n (a := 91) (by decide) (by decide) (by decide), ups_ai, ups_n (a := 95) (by decide) (by decide) (by decide), ups_n (a := 96) (by decide) (by decide) (by decide), m91, hf, hpc, ← ho, ← hv]
  rfl
set_option maxRecDepth 8000 in
theorem x5_step (hR : RelC T NN al0 hi0 hr0 (fun _ => False) A al hi hr (upI s 89 p 1)) (hP : AllP s) (ht : hr 27 p = some t) (hBs : Bs T NN al0 hi0 hr0) (hI : INV T s) (hp : s 49 53 = p) (c : s 89 p < 4) (hZ : Z90 s) (L : Lk T s p m f X pc fl o v) (cg : cgO s p o v) (h52 : 0 ≤ s 49 52 ∧ s 49 52 < 2000000000) (hd : 9 ≤ d) (q : ∀ A' al' hi' hr', RelC T NN al0 hi0 hr0 (fun _ => False) A' al' hi' hr' (lkS T s).1 → AllP (lkS T s).1 → Z90 (lkS T s).1 → Q (some none) al' hi' hr') : Ev d 77 [vR (some 26), vR (some t)] al hi hr Q := by
  have cgs : cgS T s p := L.cg.mpr cg
  have ea1 := lk_a1 L
  obtain ⟨hJ, hpc, pc0, ts9, hvX, ⟨ho, hv⟩, hF, h16, hfl, c0, c1⟩ := id L
  have F9 := hF
  obtain ⟨F1, F2, F3, F4, F5, F6, F7, F8, F10⟩ := F9
  obtain ⟨h54, hJO⟩ := hI
  have hGl := hJO.1
  have p0 : 0 ≤ p ∧ p < 12 := by rw [← hp]; exact hGl.1
  have g93 := (hGl.2.2.2.2.2.1 p p0.1 p0.2).2.1 c
  have g54 := hGl.2.1.1
  have hA := hR.1.1
  have hC := hR.1.2.1
  have k26 : isK al 26 6 := hA.k (by decide) (by decide) rfl
  have hm : s 91 p = m := hJ.2.1.2.2.1
  obtain ⟨w1, w2, w3, w4⟩ := hP p p0.1 p0.2 c
  -- the state with its status
  obtain ⟨sA, hsA⟩ : ∃ sA, upI s 89 p 1 = sA := ⟨_, rfl⟩
  have nA : ∀ (a : Nat) i, a ≠ 89 → sA a i = s a i := fun a i z => by rw [← hsA, upI_a z]
  have A89 : sA 89 p = 1 := by rw [← hsA, upI_eq]
  have oA : ∀ q, q ≠ p → sA 89 q = s 89 q := fun q z => by rw [← hsA, upI_i z]
  have eaA : ai sA p = ai s p := ai_eq (nA _ _ (by decide))
  rw [hsA] at hR
  have PA : AllP sA := fun q q0 q1 q2 => by
    have q3 : s 89 q < 4 := by
      by_cases z : q = p
      · rw [z]; exact c
      · rw [← oA q z]; exact q2
    obtain ⟨y1, y2, y3, y4⟩ := hP q q0 q1 q3
    rw [nA 94 _ (by decide), nA 92 _ (by decide), nA 49 _ (by decide)]
    refine ⟨y1, y2, fun x x0 x1 => ?_, y4⟩
    rw [nA 97 _ (by decide)]
    exact y3 x x0 (by rw [← ai_eq (nA 94 q (by decide))]; exact x1)
  have OA : OnP hr sA p t := ⟨p0, ht, by rw [A89]; decide, by rw [nA 94 _ (by decide)]; exact w1, by rw [nA 92 _ (by decide)]; exact w2, fun x x0 x1 => by rw [nA 97 _ (by decide)]; exact w3 x x0 (by rw [← eaA]; exact x1), by rw [nA 49 _ (by decide)]; exact w4⟩
  have k9 := (hR.tf OA).1.1.2
  have t119 := (hR.tf OA).1.1.1
  have jA : JJ T sA p m f X := by rw [← hsA]; exact hJ.h89 (by decide)
  have LA : Lk T sA p m f X pc fl o v := ⟨jA, by rw [eaA, nA 96 _ (by decide)]; exact hpc, pc0, ts9, hvX, ⟨ho, hv⟩, hF, h16, hfl, c0, c1⟩
  obtain ⟨N, n, M, e1, -, hM, hT, -, kN⟩ := hR.cod OA hBs
  rw [nA 91 _ (by decide), hm] at hM hT
  obtain ⟨qx, hqx⟩ : ∃ qx, cAt (T m) f + pc = qx := ⟨_, rfl⟩
  have qr : 0 ≤ qx ∧ qx < 2000 := by omega
  have eo : (T m) qx = o := by rw [← hqx]; exact ho
  have ev : (T m) (qx + 1) = v := by rw [← hqx]; exact hv
  have bo : bZ (T m) qx = o := by rw [bZ_p (by rw [eo]; exact F1.1)]; exact eo
  have AD := fun Q' z => t_addressOfNext (d := d - 1) (Q := Q') hR OA PA hBs LA (by omega) z
  rw [hqx] at AD ea1
  have hrg : ∀ k, -1 ≤ (T m) k ∧ (T m) k ≤ 255 := fun k => hT.rg k
  have il := ilen_b hrg qx
  -- the counts
  obtain ⟨m1, m2, m3, m4, m5, m6, m7⟩ := hR.2.1
  rw [nA 49 _ (by decide)] at m3 m5
  have h6 : hi t 6 = s 93 p := by rw [(hR.tf OA).2.2.2.2.2.2.2, nA 93 _ (by decide)]
  obtain ⟨h2, hh2⟩ : ∃ h2, upI (upI (upI hi 26 9 (s 49 52 + 1)) t 6 (s 93 p + 1)) 26 11 (s 49 54 + 1) = h2 := ⟨_, rfl⟩
  have R1 := hR.st (hi' := upI hi t 6 (s 93 p + 1)) (s' := upI sA 93 p (s 93 p + 1)) p0 ht (fun a i z => upI_ne (by omega)) (fun a i z => upI_ne (by omega)) (by rw [upI_i (by decide), upI_a (by decide)]; exact (hR.tf OA).2.2.2.2.2.1) (by rw [upI_i (by decide), upI_a (by decide)]; exact (hR.tf OA).2.2.2.2.2.2.1) (by rw [upI_eq, upI_eq]) (fun z => by rw [upI_a (by decide)] at z; exact z)
  have P1 : AllP (upI sA 93 p (s 93 p + 1)) := fun q q0 q1 q2 => by
    rw [upI_a (by decide)] at q2
    obtain ⟨y1, y2, y3, y4⟩ := PA q q0 q1 q2
    rw [upI_a (by decide), upI_a (by decide), upI_a (by decide)]
    refine ⟨y1, y2, fun x x0 x1 => ?_, y4⟩
    rw [upI_a (by decide)]
    exact y3 x x0 (by rw [← ai_eq (show upI sA 93 p (s 93 p + 1) 94 q = sA 94 q from upI_a (by decide))]; exact x1)
  have eU : ups s p = upI (upI (upI sA 93 p (s 93 p + 1)) 49 52 (s 49 52 + 1)) 49 54 (s 49 54 + 1) := by rw [← hsA]; rfl
  have R2 := R1.tn (hi' := h2) (s' := ups s p) P1 (fun a i z => by
    rw [← hh2, upI_ne (by omega)]
    by_cases y : a = t ∧ i = 6
    · rw [y.1, y.2, upI_eq, upI_eq]
    · rw [upI_ne y, upI_ne y, upI_ne (by omega)]) (fun a i z => by rw [eU, upI_ne (by omega), upI_ne (by omega)]) (by rw [← hh2, upI_i (by decide), upI_a (by omega), upI_eq, eU, upI_i (by decide), upI_eq]) (by rw [← hh2, upI_i (by decide), upI_a (by omega), upI_i (by decide), eU, upI_i (by decide), upI_i (by decide), upI_a (by decide), nA 49 _ (by decide), m4, nA 49 _ (by decide)]) (by rw [← hh2, upI_eq, eU, upI_eq])
  have nU : ∀ (a : Nat) i, a ≠ 89 → a ≠ 93 → a ≠ 49 → ups s p a i = s a i := fun a i z1 z2 z3 => ups_n z1 z2 z3
  have U56 : ups s p 49 56 = s 49 56 := by rw [eU, upI_i (by decide), upI_i (by decide), upI_a (by decide), nA 49 _ (by decide)]
  have U89 : ∀ q, ups s p 89 q = sA 89 q := fun q => by rw [eU, upI_a (by decide), upI_a (by decide), upI_a (by decide)]
  have P2 : AllP (ups s p) := fun q q0 q1 q2 => by
    rw [U89] at q2
    obtain ⟨y1, y2, y3, y4⟩ := PA q q0 q1 q2
    rw [nA 94 _ (by decide)] at y1
    rw [nA 92 _ (by decide)] at y2
    rw [nA 49 _ (by decide)] at y4
    rw [nU 94 _ (by decide) (by decide) (by decide), nU 92 _ (by decide) (by decide) (by decide), U56]
    refine ⟨y1, y2, fun x x0 x1 => ?_, y4⟩
    rw [nU 97 _ (by decide) (by decide) (by decide)]
    have := y3 x x0 (by rw [ai_eq (nA 94 q (by decide)), ← ups_ai (s := s) (p := p) (q := q)]; exact x1)
    rw [nA 97 _ (by decide)] at this
    exact this
  have O2 : OnP hr (ups s p) p t := ⟨p0, ht, by rw [U89, A89]; decide, by rw [nU 94 _ (by decide) (by decide) (by decide)]; exact w1, by rw [nU 92 _ (by decide) (by decide) (by decide)]; exact w2, fun x x0 x1 => by rw [nU 97 _ (by decide) (by decide) (by decide)]; exact w3 x x0 (by rw [← ups_ai (s := s) (p := p) (q := p)]; exact x1), by rw [U56]; exact w4⟩
  have hBQ2 : BQ (ups s p) := (show BQ s from ⟨hGl.2.2.2.2.2.2.1, JJ.qb hJO⟩).eq (fun a i z => nU a i (by omega) (by omega) (by omega))
  -- what it ends with
  obtain ⟨sx, hsx⟩ : ∃ sx, a1S T (ups s p) p = sx := ⟨_, rfl⟩
  have eLk := lk_step hp c cgs
  have eop : op9 T s p = o := by
    unfold op9 qq9 fn9 pc9
    rw [hm, hJ.2.2.2.2.1.2, hpc]; exact ho
  rw [hsx, eop] at eLk
  rw [hsx] at ea1
  have x54 : sx 49 54 = s 49 54 + 1 := by rw [ea1, ex_49 (by decide), goS_n (by decide), eU, upI_eq]
  have x53 : sx 49 53 = p := by rw [ea1, ex_49 (by decide), goS_n (by decide), eU, upI_i (by decide), upI_i (by decide), upI_a (by decide), nA 49 _ (by decide)]; exact hp
  have ZU : Z90 (ups s p) := fun q hq => by
    rw [nU 90 _ (by decide) (by decide) (by decide)]
    rw [U89] at hq
    by_cases z : q = p
    · rw [z]; exact hZ p c
    · exact hZ q (by rw [← oA q z]; exact hq)
  have RN : Rn (goS (ups s p) p (pc + ilen (T m) qx)) sx := by rw [ea1]; exact ex_9 p0 F1
  have ZG : Z90 (goS (ups s p) p (pc + ilen (T m) qx)) := fun q hq => by rw [goS_n (by decide)] at hq ⊢; exact ZU q hq
  have ZX : Z90 sx := ZG.rn RN
  have ZL : Z90 (lkS T s).1 := by
    rw [eLk]
    show Z90 (if _ then nxS sx else sx)
    split
    · intro q hq; unfold nxS at hq ⊢; rw [upI_a (by decide), upI_a (by decide)] at hq ⊢; exact ZX q hq
    · exact ZX
  -- at the end
  have T135 : ∀ A' al' h5 hr' l4, RelC T NN al0 hi0 hr0 (fun _ => False) A' al' h5 hr' sx → AllP sx → hr' 27 p = some t → p < sx 49 56 → Wp d 77 135 [vR (some 26), vR (some t), vI qx, vI o, l4] [] al' h5 hr' Q := by
    intro A' al' h5 hr' l4 y1 y2 y3 q56
    have k26' : isK al' 26 6 := y1.1.1.k (by decide) (by decide) rfl
    have k9' : isK al' t 9 := (y1.2.2.2.2.1.1 p t p0.1 p0.2 y3).1.1.2
    have e11 : h5 26 11 = s 49 54 + 1 := by rw [y1.2.1.2.2.2.2.1]; exact x54
    have PASS : (sx 49 54 = 8 ∨ o = 41 ∨ 4 ≤ sx 89 p) → Ev (d - 1) 73 [vR (some 26)] al' h5 hr' (kon d 77 158 161 [vR (some 26), vR (some t), vI qx, vI o, l4] [] Q) := fun z => by
      refine x5_passOn y1 y2 (by rw [x53]; exact p0) (fun h6 z1 z2 => ?_)
      have E0 := q A' al' h6 hr' (by rw [eLk]; show RelC T NN al0 hi0 hr0 _ A' al' h6 hr' (if _ then nxS sx else sx); rw [if_pos z]; exact z1) (by rw [eLk]; show AllP (if _ then nxS sx else sx); rw [if_pos z]; exact z2) ZL
      simp only [kon, knt_some, knt_none, Option.toList_some, Option.toList_none, List.cons_append, List.nil_append]
      refine (s77_161).mpr ?_
      exact E0
    have T157 : (sx 49 54 = 8 ∨ o = 41 ∨ 4 ≤ sx 89 p) → Wp d 77 157 [vR (some 26), vR (some t), vI qx, vI o, l4] [] al' h5 hr' Q := fun z => by
      have Z := PASS z
      refine s77_157.mpr ?_
      refine (s77_158 (by first | decide | assumption | omega) (by first | decide | assumption | omega)).mpr ?_
      exact Z
    have T161 : ¬ (sx 49 54 = 8 ∨ o = 41 ∨ 4 ≤ sx 89 p) → Wp d 77 161 [vR (some 26), vR (some t), vI qx, vI o, l4] [] al' h5 hr' Q := fun z => by
      have E0 := q A' al' h5 hr' (by rw [eLk]; show RelC T NN al0 hi0 hr0 _ A' al' h5 hr' (if _ then nxS sx else sx); rw [if_neg z]; exact y1) (by rw [eLk]; show AllP (if _ then nxS sx else sx); rw [if_neg z]; exact y2) ZL
      refine (s77_161).mpr ?_
      exact E0
    by_cases c4 : sx 89 p < 4
    · obtain ⟨u1, u2, u3, u4⟩ := y2 p p0.1 p0.2 c4
      have O5 : OnP hr' sx p t := ⟨p0, y3, c4, u1, u2, u3, u4⟩
      refine s77_135.mpr ?_
      refine (s77_136 (by first | decide | assumption | omega) (by first | decide | assumption | omega)).mpr ?_
      refine t_isOver y1 O5 ?_
      simp only [kon, knt_some, knt_none, Option.toList_some, Option.toList_none, List.cons_append, List.nil_append]
      refine s77_139.mpr (wif (fun c139 => ?_) (fun c139 => ?_))
      · skip
        refine s77_142.mpr (s77_143.mpr ?_)
        refine s77_145.mpr (wif (fun c145 => ?_) (fun c145 => ?_))
        · skip
          first | exact T157 (by omega) | (exfalso; omega)
        · skip
          refine s77_148.mpr ?_
          refine (s77_149 (by first | decide | assumption | omega)).mpr ?_
          refine s77_152.mpr ?_
          try simp (disch := first | decide | assumption | omega) only [e11]
          refine s77_154.mpr (wif (fun c154 => ?_) (fun c154 => ?_))
          · skip
            exact T161 (by omega)
          · skip
            first | exact T157 (by omega) | (exfalso; omega)
      · skip
        first | exact T157 (by omega) | (exfalso; omega)
    · obtain ⟨u1, u2, u3⟩ := y1.rs_.1.2.2.2.2
      have h4 : 4 ≤ h5 t 4 := by
        obtain ⟨t', e', tH⟩ := u2 p p0.1 p0.2 q56
        rw [y3] at e'; cases e'
        rw [tH.2.2.2.1]; omega
      have IO : ∀ (Q' : QQ), Q' (some (some (vI 1))) al' h5 hr' → Ev (d - 1) 117 [vR (some t)] al' h5 hr' Q' := fun Q' z => by
        rw [e117]
        refine s117_0.mpr ?_
        refine (s117_1 (by first | decide | assumption | omega)).mpr ?_
        refine s117_4.mpr ?_
        refine s117_5.mpr (wif (fun c5 => ?_) (fun c5 => ?_))
        · skip
          refine s117_8.mpr ?_
          refine (s117_9 (by first | decide | assumption | omega)).mpr ?_
          refine s117_12.mpr ?_
          refine s117_13.mpr (wif (fun c13 => ?_) (fun c13 => ?_))
          · skip
            refine s117_16.mpr (s117_17.mpr ?_)
            refine (s117_21 (by first | assumption | omega)).mpr ?_
            first | exact z | (exfalso; omega)
          · skip
            refine s117_20.mpr ?_
            refine (s117_21 (by first | assumption | omega)).mpr ?_
            first | exact z | (exfalso; omega)
        · skip
          refine s117_16.mpr (s117_17.mpr ?_)
          refine (s117_21 (by first | assumption | omega)).mpr ?_
          first | exact z | (exfalso; omega)
      refine s77_135.mpr ?_
      refine (s77_136 (by first | decide | assumption | omega) (by first | decide | assumption | omega)).mpr ?_
      refine IO _ ?_
      simp only [kon, knt_some, knt_none, Option.toList_some, Option.toList_none, List.cons_append, List.nil_append]
      refine s77_139.mpr (wif (fun c139 => ?_) (fun c139 => ?_))
      · skip
        exfalso; omega
      · skip
        exact T157 (by omega)
  have T128 : ∀ A' al' h3 hr' sm E' l4, RelC T NN al0 hi0 hr0 E' A' al' h3 hr' sm → AllP sm → BQ sm → hr' 27 p = some t → (∀ h5, RelC T NN al0 hi0 hr0 (fun _ => False) A' al' h5 hr' (clsS sm E') → RelC T NN al0 hi0 hr0 (fun _ => False) A' al' h5 hr' sx ∧ AllP sx ∧ p < sx 49 56) → Wp d 77 128 [vR (some 26), vR (some t), vI qx, vI o, l4] [] al' h3 hr' Q := by
    intro A' al' h3 hr' sm E' l4 y1 y2 y3 y4 y5
    obtain ⟨Y1, Y2⟩ := y1.rs_
    have k26' : isK al' 26 6 := y1.1.1.k (by decide) (by decide) rfl
    have k33' : isK al' 33 5 := y1.1.1.k (by decide) (by decide) rfl
    have f4 := cr_26_4 y1.1.2.1
    have ST := x_settle (d := d - 1) (Q := kon d 77 132 135 [vR (some 26), vR (some t), vI qx, vI o, l4] [] Q) Y1 y2 Y2 y3.1 y3.2 (by omega) (fun h5 z1 _ => by
      obtain ⟨u1, u2, u3⟩ := y5 h5 z1
      have Z := T135 A' al' h5 hr' l4 u1 u2 y4 u3
      simp only [kon, knt_some, knt_none, Option.toList_some, Option.toList_none, List.cons_append, List.nil_append]
      exact Z)
    refine s77_128.mpr ?_
    refine (s77_129 (by first | decide | assumption | omega)).mpr ?_
    try simp (disch := first | decide | assumption | omega) only [f4]
    refine (s77_132 (by first | decide | assumption | omega) (by first | decide | assumption | omega)).mpr ?_
    exact ST
  have T106 : ∀ A' al' h3 hr' sy s2y st l4, RelC T NN al0 hi0 hr0 (fun _ => False) A' al' h3 hr' (upI sy 89 p st) → AllP (upI sy 89 p st) → BQ sy → hr' 27 p = some t → p < sy 49 56 → 4 ≤ st → (∀ (a : Nat) i, ¬ (ownC p a i ∧ 94 ≤ a) → s2y a i = sy a i) → sx = ovrS s2y p st → Wp d 77 106 [vR (some 26), vR (some t), vI qx, vI o, l4] [] al' h3 hr' Q := by
    intro A' al' h3 hr' sy s2y st l4 y1 y2 y3 y4 y5 y6 y7 y8
    obtain ⟨Y1, Y2⟩ := y1.rs_
    have k26' : isK al' 26 6 := y1.1.1.k (by decide) (by decide) rfl
    have k33' : isK al' 33 5 := y1.1.1.k (by decide) (by decide) rfl
    have k29' : isK al' 29 1 := y1.1.1.k (by decide) (by decide) rfl
    have k9' : isK al' t 9 := (y1.2.2.2.2.1.1 p t p0.1 p0.2 y4).1.1.2
    have f3 := cr_26_3 y1.1.2.1
    have f4 := cr_26_4 y1.1.2.1
    have e0 : h3 t 0 = p := y1.1.2.2.1.2.2.2.2 p t p0.1 p0.2 y4
    obtain ⟨sm1, hsm1⟩ : ∃ sm1, upI sy 89 p st = sm1 := ⟨_, rfl⟩
    have n1 : ∀ (a : Nat) i, a ≠ 89 → sm1 a i = sy a i := fun a i z => by rw [← hsm1, upI_a z]
    rw [hsm1] at Y1 y2
    have b1 : BQ sm1 := y3.eq (fun a i z => n1 a i (by omega))
    have P9 : AllP (frbS sm1 p) := y2.glo (fun a i z => frb_n (by unfold gS at z; omega)) (frb_n (by decide))
    have b9 : BQ (frbS sm1 p) := ⟨by have := b1.1.g (p := p) (b := 128); rw [frG_1] at this; exact this, b1.2.eq (fun _ => frb_n (by decide)) (fun _ => frb_n (by decide)) (fun _ => frb_n (by decide)) (fun _ => frb_n (by decide))⟩
    have T117 : ∀ h4, RelS T NN al0 hi0 hr0 (fun _ => False) A' al' h4 hr' (frbS sm1 p) → ClL 0 h4 (fun _ => False) → h4 t 0 = p → Wp d 77 117 [vR (some 26), vR (some t), vI qx, vI o, l4] [] al' h4 hr' Q := by
      intro h4 z1 z2 z3
      have CA := x_closeAllOf (d := d - 1) (p := p) (Q := kon d 77 125 128 [vR (some 26), vR (some t), vI qx, vI o, l4] [] Q) z1 P9 z2 (fun _ => id) (by omega) (fun h5 u1 u2 u3 => by
        have eE : clsS (frbS sm1 p) (fun x => opn (frbS sm1 p) x ∧ frbS sm1 p 113 x = p) = ovrS sy p st := by
          unfold ovrS
          rw [hsm1]
          exact cls_op (fun x ox => by rw [frb_n (by decide), n1 _ _ (by decide)]; exact ⟨fun z => z.2, fun z => ⟨ox, z⟩⟩)
        have Z := T128 A' al' h5 hr' (frbS sm1 p) _ l4 (u1.rc_ u2) P9 b9 y4 (fun h6 w => by
          rw [eE] at w
          have Pv : AllP (ovrS sy p st) := by rw [← eE]; exact clG_P P9
          have o89 : 4 ≤ ovrS sy p st 89 p := by rw [ovr_89]; exact y6
          have og := ovr_cg (p := p) (w := st) y7
          rw [y8]
          refine ⟨w.dead Pv p0 y4 o89 og, Pv.mono og p0 (fun z => by exfalso; omega), ?_⟩
          rw [ovr49, y7 49 56 (by unfold ownC; omega)]
          exact y5)
        simp only [kon, knt_some, knt_none, Option.toList_some, Option.toList_none, List.cons_append, List.nil_append]
        exact Z)
      refine s77_117.mpr ?_
      refine (s77_118 (by first | decide | assumption | omega)).mpr ?_
      refine s77_121.mpr ?_
      try simp (disch := first | decide | assumption | omega) only [f4, z3]
      refine (s77_122 (by first | decide | assumption | omega)).mpr ?_
      try simp (disch := first | decide | assumption | omega) only [f4, z3]
      refine (s77_125 (by first | decide | assumption | omega) (by first | decide | assumption | omega)).mpr ?_
      exact CA
    have FA := x_freeAllOf (d := d - 1) (p := p) (Q := kon d 77 114 117 [vR (some 26), vR (some t), vI qx, vI o, l4] [] Q) Y1 y2 b1.1 (by omega) (fun h4 z1 z2 => by
      have t1 : 119 ≤ t := t119
      have Z := T117 h4 z1 (Y2.cg (fun a i z => z2 a i (by omega) (by omega))) (by rw [z2 _ _ (by omega) (by omega)]; exact e0)
      simp only [kon, knt_some, knt_none, Option.toList_some, Option.toList_none, List.cons_append, List.nil_append]
      exact Z)
    refine s77_106.mpr ?_
    refine (s77_107 (by first | decide | assumption | omega)).mpr ?_
    refine s77_110.mpr ?_
    try simp (disch := first | decide | assumption | omega) only [f3, e0]
    refine (s77_111 (by first | decide | assumption | omega)).mpr ?_
    try simp (disch := first | decide | assumption | omega) only [f3, e0]
    refine (s77_114 (by first | decide | assumption | omega) (by first | decide | assumption | omega)).mpr ?_
    exact FA
  have T68 : ∀ v' al' h3 hr' l4, Pf T NN al0 hi0 hr0 p t sx v' al' h3 hr' → Wp d 77 68 [vR (some 26), vR (some t), vI qx, vI o, l4] [vI v'] al' h3 hr' Q := by
    rintro v' al' h3 hr' l4 ⟨A', sm, E', R, oO, oP, oB, cs⟩
    have y4 : hr' 27 p = some t := oO.2.1
    have k9' := (R.tf oO).1.1.2
    have s56 : p < sm 49 56 := oO.2.2.2.2.2.2
    rcases cs with ⟨v0, hDD⟩ | ⟨⟨vn, nE⟩, s2, hs2, cs⟩
    · subst v0
      have Z := T128 A' al' h3 hr' sm E' (vI 0) R oP oB y4 (fun h5 w => by
        obtain ⟨W1, W2⟩ := w.rs_
        have PC : AllP (clsS sm E') := clG_P oP
        refine ⟨(W1.dd PC hDD.1 hDD.2.1 hDD.2.2.1 hDD.2.2.2.1 hDD.2.2.2.2).rc_ W2, PC.glo (fun a i z => hDD.1 a i (by unfold gS at z; omega)) (hDD.1 49 56 (by omega)), ?_⟩
        rw [hDD.1 49 56 (by omega), cls49]
        exact s56)
      refine s77_68.mpr (s77_70.mpr ?_)
      refine s77_72.mpr (wif (fun c72 => ?_) (fun c72 => ?_))
      · skip
        exact Z
      · skip
        exfalso; omega
    · have eE : E' = fun _ => False := funext (fun x => propext ⟨nE x, False.elim⟩)
      subst eE
      have GEN : ∀ st tr, 4 ≤ st → (sx = ovrS (upI s2 90 p tr) p st) → Wp d 77 106 [vR (some 26), vR (some t), vI qx, vI o, vI v'] [] al' (upI (upI h3 t 4 st) t 5 tr) hr' Q := fun st tr z1 z2 => by
        have R9 := R.st (hi' := upI (upI h3 t 4 st) t 5 tr) (s' := upI (upI sm 90 p tr) 89 p st) p0 y4 (fun a i z => by rw [upI_ne (by omega), upI_ne (by omega)]) (fun a i z => by rw [upI_ne (by omega), upI_ne (by omega)]) (by rw [upI_i (by decide), upI_eq, upI_eq]) (by rw [upI_eq, upI_a (by decide), upI_eq]) (by rw [upI_i (by decide), upI_i (by decide), upI_a (by decide), upI_a (by decide)]; exact (R.tf oO).2.2.2.2.2.2.2) (fun z => by rw [upI_eq] at z; exfalso; omega)
        refine T106 A' al' _ hr' (upI sm 90 p tr) (upI s2 90 p tr) st (vI v') R9 (fun q q0 q1 q2 => ?_) (oB.eq (fun a i z => upI_a (by omega))) y4 (by rw [upI_a (by decide)]; exact s56) z1 (fun a i z => ?_) z2
        · have qp : q ≠ p := fun y => by rw [y, upI_eq] at q2; omega
          rw [upI_i qp, upI_a (by decide)] at q2
          obtain ⟨y1, y2, y3, y5⟩ := oP q q0 q1 q2
          have nn : ∀ (a : Nat) i, a ≠ 89 → a ≠ 90 → upI (upI sm 90 p tr) 89 p st a i = sm a i := fun a i w1 w2 => by rw [upI_a w1, upI_a w2]
          rw [nn _ _ (by decide) (by decide), nn _ _ (by decide) (by decide), nn _ _ (by decide) (by decide)]
          refine ⟨y1, y2, fun x x0 x1 => ?_, y5⟩
          rw [nn _ _ (by decide) (by decide)]
          exact y3 x x0 (by rw [← ai_eq (nn 94 q (by decide) (by decide))]; exact x1)
        · by_cases y : a = 90 ∧ i = p
          · rw [y.1, y.2, upI_eq, upI_eq]
          · rw [upI_ne y, upI_ne y]; exact hs2 a i z
      rcases cs with ⟨c9, e9⟩ | ⟨c9, e9⟩
      · have z90 : s2 90 p = 0 := by
          have hz : ovrS s2 p 4 90 p = 0 := by
            rw [← e9]
            rcases RN p with ⟨u1, -⟩ | u1 | u1
            · rw [u1, goS_n (by decide), nU _ _ (by decide) (by decide) (by decide)]; exact hZ p c
            · exfalso; rw [e9, ovr_89] at u1; omega
            · exact u1
          rw [ovr_90] at hz; exact hz
        have Z := GEN 4 0 (by decide) (by rw [upI_same z90]; exact e9)
        subst c9
        refine s77_68.mpr (s77_70.mpr ?_)
        refine s77_72.mpr (wif (fun c72 => ?_) (fun c72 => ?_))
        · skip
          exfalso; omega
        · skip
          refine s77_75.mpr (s77_76.mpr (s77_78.mpr ?_))
          refine s77_79.mpr (wif (fun c79 => ?_) (fun c79 => ?_))
          · skip
            refine s77_82.mpr (s77_83.mpr ?_)
            refine (s77_87 (by first | decide | assumption | omega)).mpr ?_
            refine s77_90.mpr (s77_91.mpr (s77_93.mpr ?_))
            refine s77_94.mpr (wif (fun c94 => ?_) (fun c94 => ?_))
            · skip
              refine s77_97.mpr (s77_98.mpr ?_)
              refine (s77_103 (by first | decide | assumption | omega)).mpr ?_
              exact Z
            · skip
              exact absurd rfl (by assumption)
          · skip
            exact absurd rfl (by assumption)
      · have Z := GEN 5 v' (by decide) e9
        refine s77_68.mpr (s77_70.mpr ?_)
        refine s77_72.mpr (wif (fun c72 => ?_) (fun c72 => ?_))
        · skip
          exfalso; omega
        · skip
          refine s77_75.mpr (s77_76.mpr (s77_78.mpr ?_))
          refine s77_79.mpr (wif (fun c79 => ?_) (fun c79 => ?_))
          · skip
            exfalso; omega
          · skip
            refine s77_86.mpr ?_
            refine (s77_87 (by first | decide | assumption | omega)).mpr ?_
            refine s77_90.mpr (s77_91.mpr (s77_93.mpr ?_))
            refine s77_94.mpr (wif (fun c94 => ?_) (fun c94 => ?_))
            · skip
              exfalso; omega
            · skip
              refine s77_101.mpr ?_
              refine (s77_103 (by first | decide | assumption | omega)).mpr ?_
              exact Z
  -- the instruction
  have T44 : Wp d 77 44 [vR (some 26), vR (some t), vI qx, vI o, none] [] al h2 hr Q := by
    have PL : ∀ Q' : QQ, Q' (some (some (vI pc))) al h2 hr → Ev (d - 1) 123 [vR (some t)] al h2 hr Q' := fun Q' z => t_place R2 O2 (by rw [ups_ai, nU _ _ (by decide) (by decide) (by decide), hpc]; exact z)
    obtain ⟨N2, n2, M2, f1, -, hM2, hT2, -, kN2⟩ := R2.cod O2 hBs
    rw [nU 91 _ (by decide) (by decide) (by decide), hm] at hM2 hT2
    have PF := fun h4 z1 z2 z3 => x5_perform (d := d - 1) (A := A) (hi := h4) (hr := hr) (al := al) (s := goS (ups s p) p (pc + ilen (T m) qx)) (t := t) (T := T) (NN := NN) (al0 := al0) (hi0 := hi0) (hr0 := hr0) (Q := kon d 77 65 68 [vR (some 26), vR (some t), vI qx, vI o, none] [] Q) z1 z2 z3 hBQ2.goS_ hBs ((hJ.ups_ h54).gos) ts9 ho hv hvX hF h16 hfl ((cgO_eq (fun a i z => by rw [goS_n (by omega), nU a i (by omega) (by omega) (by omega)])).mpr cg) hqx.symm ⟨c0, c1⟩ pc0 (by omega) (fun v' al' hi' hr' w => by
      rw [← ea1] at w
      have Z := T68 v' al' hi' hr' none w
      simp only [kon, knt_some, knt_none, Option.toList_some, Option.toList_none, List.cons_append, List.nil_append]
      exact Z)
    have GT : Ev (d - 1) 124 [vR (some t), vI (pc + ilen (T m) qx)] al h2 hr (kon d 77 58 61 [vR (some 26), vR (some t), vI qx, vI o, none] [] Q) := by
      refine t_goTo R2 O2 P2 (fun h4 z1 z2 z3 _ => ?_)
      have Z := PF h4 z1 z2 z3
      simp only [kon, knt_some, knt_none, Option.toList_some, Option.toList_none, List.cons_append, List.nil_append]
      refine s77_61.mpr (s77_62.mpr (s77_63.mpr (s77_64.mpr ?_)))
      refine (s77_65 (by first | decide | assumption | omega) (by first | decide | assumption | omega)).mpr ?_
      exact Z
    refine s77_44.mpr (s77_45.mpr ?_)
    refine (s77_46 (by first | decide | assumption | omega) (by first | decide | assumption | omega)).mpr ?_
    refine PL _ ?_
    simp only [kon, knt_some, knt_none, Option.toList_some, Option.toList_none, List.cons_append, List.nil_append]
    refine s77_49.mpr ?_
    refine (s77_50 (by first | decide | assumption | omega)).mpr ?_
    refine s77_53.mpr ?_
    try simp (disch := first | decide | assumption | omega) only [f1, fAdd_id]
    refine (s77_54 (by first | decide | assumption | omega) (by first | decide | assumption | omega)).mpr ?_
    refine t_lengthOf hM2 hT2 (by omega) (by omega) (by rw [eo]; exact F1) (fun z => by rw [ev]; exact F4 (by omega)) ?_
    simp only [kon, knt_some, knt_none, Option.toList_some, Option.toList_none, List.cons_append, List.nil_append]
    refine s77_57.mpr ?_
    try simp (disch := first | decide | assumption | omega) only [f1, fAdd_id]
    refine (s77_58 (by first | decide | assumption | omega) (by first | decide | assumption | omega)).mpr ?_
    exact GT
  rw [← hh2] at T44
  have u9 : ∀ x, upI hi 26 9 x t 6 = s 93 p := fun x => by rw [upI_a (by omega)]; exact h6
  have u11 : ∀ x y, upI (upI hi 26 9 x) t 6 y 26 11 = s 49 54 := fun x y => by rw [upI_a (by omega), upI_i (by decide)]; exact m5
  rw [e77]
  refine s77_0.mpr ?_
  refine (s77_1 (by first | decide | assumption | omega) (by first | decide | assumption | omega)).mpr ?_
  refine AD _ ?_
  simp only [kon, knt_some, knt_none, Option.toList_some, Option.toList_none, List.cons_append, List.nil_append]
  refine s77_4.mpr (s77_5.mpr ?_)
  refine (s77_6 (by first | decide | assumption | omega)).mpr ?_
  refine s77_9.mpr ?_
  try simp (disch := first | decide | assumption | omega) only [e1, m3, u9, u11, fAdd_id]
  refine (s77_10 (by first | decide | assumption | omega) (by first | decide | assumption | omega)).mpr ?_
  refine t_byteAt hM hT ?_
  simp only [kon, knt_some, knt_none, Option.toList_some, Option.toList_none, List.cons_append, List.nil_append, bo]
  refine s77_13.mpr (s77_14.mpr (s77_15.mpr ?_))
  refine (s77_16 (by first | decide | assumption | omega)).mpr ?_
  refine s77_19.mpr (s77_20.mpr ?_)
  try simp (disch := first | decide | assumption | omega) only [e1, m3, u9, u11, fAdd_id]
  refine (s77_21 (by first | decide | assumption | omega)).mpr ?_
  refine s77_24.mpr (s77_25.mpr ?_)
  try simp (disch := first | decide | assumption | omega) only [e1, m3, u9, u11, fAdd_id]
  refine (s77_26 (by first | decide | assumption | omega)).mpr ?_
  refine s77_29.mpr (s77_30.mpr ?_)
  try simp (disch := first | decide | assumption | omega) only [e1, m3, u9, u11, fAdd_id]
  refine (s77_31 (by first | decide | assumption | omega)).mpr ?_
  refine s77_34.mpr (s77_35.mpr ?_)
  try simp (disch := first | decide | assumption | omega) only [e1, m3, u9, u11, fAdd_id]
  refine (s77_36 (by first | decide | assumption | omega)).mpr ?_
  refine s77_39.mpr (s77_40.mpr ?_)
  try simp (disch := first | decide | assumption | omega) only [e1, m3, u9, u11, fAdd_id]
  refine (s77_41 (by first | decide | assumption | omega)).mpr ?_
  try simp (disch := first | decide | assumption | omega) only [e1, m3, u9, u11, fAdd_id]
  exact T44
end CQ3
