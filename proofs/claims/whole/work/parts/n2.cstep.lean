/-! RUNNING, the class: a step -/
section CQ1
variable {d : Nat} {Q : QQ} {T : TXs} {al al' : AL} {hi hi' h1 : HI} {hr hr' r1 : HR} {s s' s1 s2 u sx sm S : HI} {A A' : Int → Int → Int} {NN : Int → Option Nat} {E E' : Int → Prop} {p m f q v w x y n k g qx i P e fr ty kd tt cvv o c9 z9 a : Int} {B : Int → Int} {X Y : Tst} {t t' N M c b : Nat} {al0 : AL} {hi0 : HI} {hr0 : HR} {V W ws : Int → Int} {pc : Int} {fl : List (Int × Tst)}
/-- status, trap and steps of a process change -/
theorem RelC.st (hR : RelC T NN al0 hi0 hr0 E A al hi hr s) (p0 : 0 ≤ p ∧ p < 12) (ht : hr 27 p = some t) (hw : ∀ (a : Nat) i, ¬ (a = t ∧ (i = 4 ∨ i = 5 ∨ i = 6)) → hi' a i = hi a i) (hs : ∀ (a : Nat) i, ¬ ((a = 89 ∨ a = 90 ∨ a = 93) ∧ i = p) → s' a i = s a i) (e4 : hi' t 4 = s' 89 p) (e5 : hi' t 5 = s' 90 p) (e6 : hi' t 6 = s' 93 p) (h4 : s' 89 p < 4 → s 89 p < 4) : RelC T NN al0 hi0 hr0 E A al hi' hr s' := by
  obtain ⟨⟨a1, a2, a3, a4⟩, b1, b2, b3, b4, b5, b6⟩ := hR
  have t119 := (b4.1 p t p0.1 p0.2 ht).1.1.1
  have low : ∀ (a : Nat) i, a < 119 → hi' a i = hi a i := fun a i z => hw a i (by omega)
  have sg : ∀ (a : Nat) i, a ≠ 89 → a ≠ 90 → a ≠ 93 → s' a i = s a i := fun a i z1 z2 z3 => hs a i (by omega)
  have other : ∀ q t', 0 ≤ q → q < 12 → hr 27 q = some t' → q ≠ p → t' ≠ t := fun q t' q0 q1 e y => by
    have := b4.ne ⟨q0, q1⟩ p0 e ht y; omega
  have ncell : ∀ {c}, pool hr c → c ≠ t := fun hc y => by
    have := b4.c hc p0.1 p0.2 ht; omega
  refine ⟨⟨a1, a2, ⟨a3.1, fun a i z => by rw [low a i (by omega)]; exact a3.2.1 a i z, fun a i y1 y2 y3 => by rw [hw a i (fun z => y3 ⟨p, t, p0.1, p0.2, ht, by omega, by omega⟩)]; exact a3.2.2.1 a i y1 y2 y3, a3.2.2.2.1, fun q t' q0 q1 e => by rw [hw t' 0 (by omega)]; exact a3.2.2.2.2 q t' q0 q1 e⟩, a4⟩, b1.cg (fun a i z => low a i (by omega)) (fun a i z => sg a i (by omega) (by omega) (by omega)), b2.cg (fun a i y1 y2 => low a i (by omega)) (fun b _ _ => sg _ _ (by decide) (by decide) (by decide)) (fun b _ _ _ => ⟨sg _ _ (by decide) (by decide) (by decide), fun j _ _ => sg _ _ (by decide) (by decide) (by decide)⟩), ⟨b3.1.cg (fun a i y1 y2 => low a i (by omega)) (fun e => sg _ _ (by decide) (by decide) (by decide)) (fun e => sg _ _ (by decide) (by decide) (by decide)) (fun e _ => ⟨sg _ _ (by decide) (by decide) (by decide), sg _ _ (by decide) (by decide) (by decide), fun k _ _ => ⟨sg _ _ (by decide) (by decide) (by decide), sg _ _ (by decide) (by decide) (by decide), sg _ _ (by decide) (by decide) (by decide)⟩⟩), b3.2.cg (fun a i y => low a i (by omega))⟩, b4, fun q q0 q1 q2 => ?_, fun q t' q0 q1 e' q2 => ?_⟩
  · rw [sg 49 _ (by decide) (by decide) (by decide)] at q2
    obtain ⟨t', e', k1, k2, k3, k4, k5, k6⟩ := b5 q q0 q1 q2
    refine ⟨t', e', ?_⟩
    unfold TkH
    by_cases y : q = p
    · subst y
      rw [ht] at e'; cases e'
      rw [hw t 0 (by omega), hw t 2 (by omega), hw t 3 (by omega), sg 91 _ (by decide) (by decide) (by decide), sg 92 _ (by decide) (by decide) (by decide)]
      exact ⟨k1, k2, k3, e4, e5, e6⟩
    · have hd := other q t' q0 q1 e' y
      rw [hw t' 0 (by omega), hw t' 2 (by omega), hw t' 3 (by omega), hw t' 4 (by omega), hw t' 5 (by omega), hw t' 6 (by omega), sg 91 _ (by decide) (by decide) (by decide), sg 92 _ (by decide) (by decide) (by decide), hs 89 q (by omega), hs 90 q (by omega), hs 93 q (by omega)]
      exact ⟨k1, k2, k3, k4, k5, k6⟩
  · have q3 : s 89 q < 4 := by
      by_cases y : q = p
      · subst y; exact h4 q2
      · rw [hs 89 q (by omega)] at q2; exact q2
    obtain ⟨⟨N, x1, x2⟩, ⟨x3, x4⟩, x5, x6, c, x7, x8⟩ := b6 q t' q0 q1 e' q3
    have t'119 := (b4.1 q t' q0 q1 e').1.1.1
    have nt : ∀ (b : Nat) i, (t' + 1 ≤ b ∧ b ≤ t' + 5) → hi' b i = hi b i := fun b i z => by
      by_cases y : q = p
      · subst y; rw [ht] at e'; cases e'; exact hw b i (by omega)
      · have := b4.ne ⟨q0, q1⟩ p0 e' ht y; exact hw b i (by omega)
    have n7 : ∀ i, i ≠ 4 → i ≠ 5 → i ≠ 6 → hi' t' i = hi t' i := fun i z1 z2 z3 => hw t' i (by omega)
    obtain ⟨-, c', v1, v2, -⟩ := b4.1 q t' q0 q1 e'
    rw [x7] at v1; cases v1
    have nc : ∀ i, hi' c i = hi c i := fun i => hw c i (fun y => ncell v2 y.1)
    have ea : ∀ q, ai s' q = ai s q := fun q => ai_eq (sg _ _ (by decide) (by decide) (by decide))
    refine ⟨⟨N, by rw [sg 91 _ (by decide) (by decide) (by decide)]; exact x1, x2⟩, by rw [n7 7 (by decide) (by decide) (by decide), n7 8 (by decide) (by decide) (by decide), sg 94 _ (by decide) (by decide) (by decide)]; exact ⟨x3, x4⟩, fun a a0 a1' => ?_, fun a k a0 a1' k0 k1 => ?_, c, x7, ?_⟩
    · rw [sg 94 _ (by decide) (by decide) (by decide)] at a1'
      rw [nt _ _ (by omega), nt _ _ (by omega), nt _ _ (by omega), sg 95 _ (by decide) (by decide) (by decide), sg 96 _ (by decide) (by decide) (by decide), sg 97 _ (by decide) (by decide) (by decide)]
      exact x5 a a0 a1'
    · rw [sg 94 _ (by decide) (by decide) (by decide)] at a1'
      rw [sg 97 _ (by decide) (by decide) (by decide)] at k1
      rw [nt _ _ (by omega), nt _ _ (by omega), sg 98 _ (by decide) (by decide) (by decide), sg 99 _ (by decide) (by decide) (by decide)]
      exact x6 a k a0 a1' k0 k1
    · rw [n7 16 (by decide) (by decide) (by decide)]
      refine x8.fr nc (sg _ _ (by decide) (by decide) (by decide)) (fun b _ _ => ⟨sg _ _ (by decide) (by decide) (by decide), sg _ _ (by decide) (by decide) (by decide)⟩) (fun b i _ _ _ => ⟨sg _ _ (by decide) (by decide) (by decide), sg _ _ (by decide) (by decide) (by decide)⟩) (fun i hi => ?_)
      obtain ⟨y, k, y0, y1, k0, k1, rfl⟩ := hi
      rw [ea] at y1
      rw [sg 97 _ (by decide) (by decide) (by decide)] at k1
      rw [sg 99 _ (by decide) (by decide) (by decide), sg 98 _ (by decide) (by decide) (by decide)]
      exact x8.2.2.2 _ ⟨y, k, y0, y1, k0, k1, rfl⟩
/-- the machine's turn -/
theorem RelC.tn (hR : RelC T NN al0 hi0 hr0 E A al hi hr s) (hP : AllP s) (hw : ∀ (a : Nat) i, ¬ (a = 26 ∧ (i = 9 ∨ i = 10 ∨ i = 11)) → hi' a i = hi a i) (hs : ∀ (a : Nat) i, ¬ (a = 49 ∧ (i = 52 ∨ i = 53 ∨ i = 54)) → s' a i = s a i) (e9 : hi' 26 9 = s' 49 52) (e10 : hi' 26 10 = s' 49 53) (e11 : hi' 26 11 = s' 49 54) : RelC T NN al0 hi0 hr0 E A al hi' hr s' := by
  obtain ⟨R1, R2⟩ := hR.rs_
  obtain ⟨m1, m2, m3, m4, m5, m6, m7⟩ := R1.2.1
  refine (R1.glo hP (fun a i z => hw a i (by unfold gC at z; omega)) (fun _ _ _ => rfl) (fun a i z => hs a i (by unfold gS at z; omega)) (hs _ _ (by omega)) ⟨(hw _ _ (by omega)).trans m1, by rw [hw _ _ (by omega), hs _ _ (by omega)]; exact m2, e9, e10, e11, fun q q0 q1 => by rw [hw _ _ (by omega), hs _ _ (by omega)]; exact m6 q q0 q1, fun i i0 i1 => ?_⟩ (R1.2.2.1.cg (fun a i y1 y2 => hw a i (by omega)) (fun b _ _ => hs _ _ (by omega)) (fun b _ _ _ => ⟨hs _ _ (by omega), fun j _ _ => hs _ _ (by omega)⟩)) (R1.2.2.2.1.cg (fun a i y1 y2 => hw a i (by omega)) (fun e => hs _ _ (by omega)) (fun e => hs _ _ (by omega)) (fun e _ => ⟨hs _ _ (by omega), hs _ _ (by omega), fun k _ _ => ⟨hs _ _ (by omega), hs _ _ (by omega), hs _ _ (by omega)⟩⟩))).rc_ (R2.cg (fun a i y => hw a i (by omega)))
  rw [hs 49 55 (by omega)] at i1
  rw [hw _ _ (by omega), hw _ _ (by omega), hs _ _ (by omega), hs _ _ (by omega)]
  exact m7 i i0 i1
theorem x5_passOn (hR : RelC T NN al0 hi0 hr0 E A al hi hr s) (hP : AllP s) (h53 : 0 ≤ s 49 53 ∧ s 49 53 < 12) (q : ∀ hi', RelC T NN al0 hi0 hr0 E A al hi' hr (nxS s) → AllP (nxS s) → Q (some none) al hi' hr) : Ev d 73 [vR (some 26)] al hi hr Q := by
  have k26 : isK al 26 6 := hR.1.1.k (by decide) (by decide) rfl
  have m10 : hi 26 10 = s 49 53 := hR.2.1.2.2.2.1
  have m9 : hi 26 9 = s 49 52 := hR.2.1.2.2.1
  have er : fRem (s 49 53 + 1) 12 = (s 49 53 + 1) % 12 := by
    have : ∀ k : Fin 13, fRem (k.val : Int) 12 = (k.val : Int) % 12 := by decide +kernel
    have z := this ⟨(s 49 53 + 1).toNat, by omega⟩
    rw [show ((⟨(s 49 53 + 1).toNat, by omega⟩ : Fin 13).val : Int) = s 49 53 + 1 from Int.toNat_of_nonneg (by omega)] at z
    exact z
  have R := hR.tn (hi' := upI (upI hi 26 10 ((s 49 53 + 1) % 12)) 26 11 0) (s' := nxS s) hP (fun a i z => by rw [upI_ne (by omega), upI_ne (by omega)]) (fun a i z => by unfold nxS; rw [upI_ne (by omega), upI_ne (by omega)]) (by unfold nxS; rw [upI_i (by decide), upI_i (by decide), upI_i (by decide), upI_i (by decide)]; exact m9) (by unfold nxS; rw [upI_i (by decide), upI_eq, upI_i (by decide), upI_eq]) (by unfold nxS; rw [upI_eq, upI_eq])
  have E0 := q _ R (hP.glo (fun a i z => by unfold nxS; unfold gS at z; rw [upI_a (by omega), upI_a (by omega)]) (by unfold nxS; rw [upI_i (by decide), upI_i (by decide)]))
  rw [e73]
  refine s73_0.mpr (s73_1.mpr ?_)
  refine (s73_2 (by first | decide | assumption | omega)).mpr ?_
  refine s73_5.mpr (s73_6.mpr (s73_7.mpr ?_))
  try simp (disch := first | decide | assumption | omega) only [m10, fAdd_id, er]
  refine (s73_9 (by first | assumption | omega)).mpr ?_
  try simp (disch := first | decide | assumption | omega) only [m10, fAdd_id, er]
  refine (s73_10 (by first | decide | assumption | omega)).mpr ?_
  refine s73_13.mpr (s73_14.mpr ?_)
  try simp (disch := first | decide | assumption | omega) only [m10, fAdd_id, er]
  refine (s73_15 (by first | decide | assumption | omega)).mpr ?_
  try simp (disch := first | decide | assumption | omega) only [m10, fAdd_id, er]
  refine (s73_18).mpr ?_
  exact E0
/-- what is so of the process that is looked at -/
def Lk (T : TXs) (s : HI) (p m f : Int) (X : Tst) (pc : Int) (fl : List (Int × Tst)) (o v : Int) : Prop := JJ T s p m f X ∧ s 96 (ai s p) = pc ∧ 0 ≤ pc ∧ tstep (T m) f pc X = some fl ∧ vX (T m) X ∧ (opA (T m) f pc = o ∧ agA (T m) f pc = v) ∧ InsF (T m) o v ∧ (∀ q ∈ fl, q.2.1 ≤ 16) ∧ (∀ q ∈ fl, 0 ≤ q.1 ∧ q.1 < cLen (T m) f) ∧ 0 ≤ cAt (T m) f ∧ cAt (T m) f + pc < 2000
theorem lk_of (h : INV T s) (hp : s 49 53 = p) (c : s 89 p < 4) : ∃ m f X pc fl o v, Lk T s p m f X pc fl o v := by
  obtain ⟨h54, hJ⟩ := h
  have hGl := hJ.1
  obtain ⟨g1, g2, g3, g4, g5, g6, g7, g8, g9⟩ := id hGl
  rw [hp] at g1
  obtain ⟨m, A, X, hP, hL, pc0, hA⟩ := hJ.start g1 c
  obtain ⟨f, hf⟩ : ∃ f, s 95 (ai s p) = f := ⟨_, rfl⟩
  obtain ⟨pc, hpc⟩ : ∃ pc, s 96 (ai s p) = pc := ⟨_, rfl⟩
  rw [hf] at hP hL
  rw [hpc] at pc0 hA
  have hmg := hP.mg
  have hS := hmg.2.1.2.1
  have hN := hmg.2.1.2.2.1
  have hMB := hmg.2.1.1
  have f0 := hP.2.2.2.2.1.1
  obtain ⟨x16, hbg⟩ := hL.2.2.1 pc X pc0 hA
  have hvX := hL.2.2.2 pc X pc0 hA
  obtain ⟨k1, k2, k3, k4, k5⟩ := code_at hMB hS f0 hbg
  have hrg : ∀ k, -1 ≤ (T m) k ∧ (T m) k ≤ 255 := fun k => by rw [← k5]; exact bAt_rng m k
  have hF := insF hS hN hrg f0 hbg
  obtain ⟨fl, ts9, hfl⟩ := hL.1.2 pc X pc0 hA
  have hop := opk_of hS hN hrg f0.1 f0.2 hbg
  exact ⟨m, f, X, pc, fl, _, _, hP, hpc, pc0, ts9, hvX, ⟨rfl, rfl⟩, hF, fun q hq => (hfl q hq).2.1, fun q hq => ⟨(hop.2.2 X fl hvX ts9 q hq).1, (hfl q hq).1⟩, k1, k2⟩
theorem Lk.cg (L : Lk T s p m f X pc fl o v) : cgS T s p ↔ cgO s p o v := by
  obtain ⟨hJ, hpc, pc0, ts9, hvX, ⟨ho, hv⟩, -⟩ := L
  have hm : s 91 p = m := hJ.2.1.2.2.1
  have hf : s 95 (ai s p) = f := hJ.2.2.2.2.1.2
  have e1 : op9 T s p = o := by unfold op9 qq9 fn9 pc9; rw [hm, hf, hpc]; exact ho
  have e2 : ag9 T s p = v := by unfold ag9 qq9 fn9 pc9; rw [hm, hf, hpc]; exact hv
  unfold cgS cgO
  rw [e1, e2]
theorem t_addressOfNext (hR : RelC T NN al0 hi0 hr0 (fun _ => False) A al hi hr s) (hO : OnP hr s p t) (hP : AllP s) (hBs : Bs T NN al0 hi0 hr0) (L : Lk T s p m f X pc fl o v) (hd : 2 ≤ d) (q : Q (some (some (vI (cAt (T m) f + pc)))) al hi hr) : Ev d 126 [vR (some t)] al hi hr Q := by
  obtain ⟨hJ, hpc, pc0, ts9, hvX, ⟨ho, hv⟩, hF, h16, hfl, c0, c1⟩ := L
  have hm : s 91 p = m := hJ.2.1.2.2.1
  have hf := hJ.2.2.2.2.1
  obtain ⟨⟨p0, p1⟩, ht, h89, ⟨a1, a16⟩, ⟨r0, r1⟩, h97, h56⟩ := id hO
  obtain ⟨⟨⟨t119, k9⟩, -, ⟨e10, K2, L2⟩, -⟩, ⟨-, ⟨e7, e8⟩, h5, -⟩, -⟩ := hR.tf hO
  have w6 := (h5 (s 94 p - 1) (by omega) (by omega)).2.1
  have ea : 16 * p + (s 94 p - 1) = ai s p := by unfold ai; omega
  rw [ea, hpc] at w6
  have RT := fun Q' qq => t_routine (d := d - 1) (Q := Q') hR hO hP hBs hm hf.2 hf.1 (by omega) qq
  rw [e126]
  refine s126_0.mpr ?_
  refine (s126_1 (by first | decide | assumption | omega) (by first | decide | assumption | omega)).mpr ?_
  refine RT _ (fun N n M u e1 ero hro ku hM hT => ?_)
  simp only [kon, knt_some, knt_none, Option.toList_some, Option.toList_none, List.cons_append, List.nil_append]; have hx2 : hi (u + 1) 5 = cAt (T m) f := hro.2.2.2.2.2.2.2.1
  refine s126_4.mpr (s126_5.mpr ?_)
  refine s126_6.mpr (wif (fun c6 => ?_) (fun c6 => ?_))
  · skip
    exfalso; simp at c6
  · skip
    refine s126_13.mpr ?_
    refine (s126_14 (by first | decide | assumption | omega)).mpr ?_
    refine s126_17.mpr ?_
    try simp (disch := first | decide | assumption | omega) only [e10, e8, w6, fAdd_id]
    refine (s126_18 (by first | decide | assumption | omega)).mpr ?_
    refine s126_21.mpr ?_
    try simp (disch := first | decide | assumption | omega) only [e10, e8, w6, fAdd_id]
    refine (s126_22 (by first | decide | assumption | omega)).mpr ?_
    try simp (disch := first | decide | assumption | omega) only [e10, e8, w6, fAdd_id]
    refine (s126_25 (by first | decide | assumption | omega) (by first | decide | assumption | omega) (by first | decide | assumption | omega)).mpr ?_
    refine s126_26.mpr ?_
    try simp (disch := first | decide | assumption | omega) only [e10, e8, w6, fAdd_id]
    refine (s126_27).mpr ?_
    first | exact q | (rw [hx2]; exact q) | (rw [hx2, fAdd_id (by omega) (by omega)]; exact q)
end CQ1
