/-! MANIFESTS: the class's ends and processes -/
section CN1
variable {d : Nat} {al : AL} {hi : HI} {hr : HR} {Q : QQ} {B Bm : Int → Int} {S : Int → Option (Int → Int)} {G : HI} {N : Nat} {n : Int}
/-- the shelf of the class -/
def CSh (al : AL) (hi : HI) (hr : HR) (S : Int → Option (Int → Int)) : Prop := (∀ m b, S m = some b → (0 ≤ m ∧ m < 6) ∧ ∃ N n L, hr 4 m = some N ∧ GC al hi hr N n b L) ∧ ∀ m, 0 ≤ m → m < 6 → S m = none → hr 4 m = none
theorem GC.n119 {L : Nat} {b : Int → Int} (h : GC al hi hr N n b L) : 119 ≤ N := by obtain ⟨M, h1, -⟩ := h; exact h1.1.2.1
/-- .. over changes of the class's own cells -/
theorem CSh.own {al' : AL} {hi' : HI} {hr' : HR} {x s : Nat} (h : CSh al hi hr S) (hG : GA al al' x s) (h0 : ∀ i, hi' 0 i = hi 0 i) (hf : ∀ a i, 119 ≤ a → a < al.1 → hi' a i = hi a i) (hR : ∀ a i, 119 ≤ a → a < al.1 → hr' a i = hr a i) (h4 : ∀ m, hr' 4 m = hr 4 m) : CSh al' hi' hr' S := by
  refine ⟨fun m b e => ?_, fun m m0 m1 e => (h4 m).trans (h.2 m m0 m1 e)⟩
  obtain ⟨hm, N, n, L, e1, e2⟩ := h.1 m b e
  have h119 := e2.n119
  obtain ⟨M, h1, h2, h3, h4', h5⟩ := id e2
  exact ⟨hm, N, n, L, (h4 m).trans e1, e2.fr hG h0 (fun a i z1 z2 => hf a i (by omega) (by omega)) (fun a i z1 z2 => hR a i (by omega) (by omega))⟩
/-- what reading a manifest writes -/
def wCm (a : Nat) (i : Int) : Prop := (a = 14 ∧ (i = 1 ∨ i = 11)) ∨ (a = 15 ∧ i ≠ 0) ∨ (18 ≤ a ∧ a ≤ 22) ∨ a = 24 ∨ a = 25
def rCm (a : Nat) (i : Int) : Prop := (a = 15 ∧ i = 0) ∨ a = 17 ∨ a = 23
theorem CSh.cm {hi' : HI} {hr' : HR} (h : CSh al hi hr S) (hf : FW wCm hi hi') (hR : RW rCm hr hr') : CSh al hi' hr' S := h.own GA.rf (fun i => hf 0 i (by unfold wCm; omega)) (fun a i z _ => hf a i (by unfold wCm; omega)) (fun a i z _ => hR a i (by unfold rCm; omega)) (fun m => hR 4 m (by unfold rCm; omega))
theorem CR.rcm {hr' : HR} (h : CR hr) (hR : RW (fun a _ => a = 17 ∨ a = 23) hr hr') : CR hr' := fun p hp => by
  have key : ∀ p ∈ crl, p.1 ≠ 17 ∧ p.1 ≠ 23 := by decide
  have := key p hp
  exact (hR p.1 p.2.1 (by omega)).trans (h p hp)
/-- the uses so far, in the class -/
def GCr (hi : HI) (hr : HR) (G : HI) : Prop := ∀ e, 0 ≤ e → e < 8 → hi 22 e = G 81 e ∧ (0 ≤ G 81 e ∧ G 81 e ≤ 2) ∧ (1 ≤ G 81 e → hr 23 e = hr 4 (G 82 (2 * e) / 4) ∧ hi 24 e = 5 + 16 * (G 82 (2 * e) % 4) + 1048576 * G 83 (2 * e))
def wRe (a : Nat) (i : Int) : Prop := (a = 15 ∧ (i = 3 ∨ i = 4 ∨ i = 5)) ∨ a = 22 ∨ a = 24 ∨ a = 25 ∨ (a = 14 ∧ i = 11)
theorem h_readEnd {m t q e : Int} (hA : SA al) (hc : CR hr) (hd : 5 ≤ d) (hB : BM al hi hr n B) (h4 : hi 15 4 = 0) (hq : hi 15 3 = q) (hBe : B q = e) (hS : CSh al hi hr S) (hSm : S m = some Bm) (hN : hr 4 m = some N) (vt : vT Bm t) (k5 : kindM t = 5) (s0 : stateM t = 0) (hG : GCr hi hr G) (hV : GV S G)
    (bad : ¬ (0 ≤ e ∧ e ≤ 7) → ∀ x hi', FW (wY 15) hi hi' → hi' 15 4 = 1 → hi' 15 5 = q → 0 ≤ hi' 15 3 → Q (some (some (vI x))) al hi' hr)
    (unf : 0 ≤ e ∧ e ≤ 7 → ¬ fitG S G e (4 * m + whichM t) (sideM t) → ∀ hi', FW wRe hi hi' → hi' 15 4 = 5 → hi' 15 5 = q → 0 ≤ hi' 15 3 → Q (some (some (vI e))) al hi' hr)
    (fit : 0 ≤ e ∧ e ≤ 7 → fitG S G e (4 * m + whichM t) (sideM t) → ∀ hi' hr', FW wRe hi hi' → RW (fun a _ => a = 23) hr hr' → hi' 15 4 = 0 → hi' 15 3 = q + 1 → hi' 15 5 = hi 15 5 → (∀ i, hi' 22 i = if i = e then hi 22 e + 1 else hi 22 i) → (∀ i, hi' 24 i = if G 81 e = 0 ∧ i = e then 5 + 16 * whichM t + 1048576 * sideM t else hi 24 i) → (∀ i, hr' 23 i = if G 81 e = 0 ∧ i = e then some N else hr 23 i) → Q (some (some (vI e))) al hi' hr') : Ev d 101 [vR (some 14), vR (some N), vI (cv t)] al hi hr Q := by
  have k14 : isK al 14 7 := hA.k (by decide) (by decide) rfl
  have k15 := hB.1.1
  have k22 : isK al 22 15 := hA.k (by decide) (by decide) rfl
  have l22 : aln al 22 = 8 := hA.len (by decide) (by decide) rfl
  have k23 : isK al 23 20 := hA.k (by decide) (by decide) rfl
  have q23 : isQ al 23 = true := hA.q (by decide) (by decide) (by decide)
  have l23 : aln al 23 = 8 := hA.len (by decide) (by decide) rfl
  have k24 : isK al 24 15 := hA.k (by decide) (by decide) rfl
  have l24 : aln al 24 = 8 := hA.len (by decide) (by decide) rfl
  have e0 := cr_14_0 hc
  have e7 := cr_14_7 hc
  have e8 := cr_14_8 hc
  have e9 := cr_14_9 hc
  obtain ⟨hm, N1, n1, L1, hN1, hGC⟩ := hS.1 m Bm hSm
  rw [hN] at hN1; cases hN1
  obtain ⟨M, hM, hT, -⟩ := id hGC
  have kN := hM.1.1.1
  have N119 := hGC.n119
  have w4 : whichM t < nCtr Bm := (vt.2.2.2.2.2.2.2 k5).1
  have w0 : 0 ≤ whichM t := by unfold whichM; omega
  have n4' : nCtr Bm ≤ 4 := hT.2.1.2.2.2.2.2.1
  have sd : 0 ≤ sideM t ∧ sideM t ≤ 1 := by unfold sideM; omega
  have ct : cv t = 5 + 16 * whichM t + 1048576 * sideM t := by
    have h0 := vt.1
    have h1 := vt.2.1
    have e1 : kindM t = t % 8 := kM_p h0
    unfold stateM at s0
    rw [cv_p h0]; unfold whichM sideM; omega
  rw [e101]
  by_cases ce : 0 ≤ e ∧ e ≤ 7
  case neg =>
    refine s101_0.mpr ?_
    refine (s101_1 (by first | decide | assumption | omega)).mpr ?_
    try simp (disch := first | decide | assumption | omega) only [kon, knt_some, knt_none, Option.toList_some, Option.toList_none, List.cons_append, List.nil_append, e0, hq]
    refine (s101_4 (by first | decide | assumption | omega)).mpr ?_
    refine s101_7.mpr (s101_8.mpr ?_)
    try simp (disch := first | decide | assumption | omega) only [kon, knt_some, knt_none, Option.toList_some, Option.toList_none, List.cons_append, List.nil_append, e0, hq]
    refine (s101_9 (by first | decide | assumption | omega)).mpr ?_
    refine s101_12.mpr (s101_13.mpr ?_)
    try simp (disch := first | decide | assumption | omega) only [kon, knt_some, knt_none, Option.toList_some, Option.toList_none, List.cons_append, List.nil_append, e0, hq]
    refine (s101_15 (by first | decide | assumption | omega) (by first | decide | assumption | omega)).mpr ?_
    refine h_within hB (by omega) h4 (by decide) (by decide) (fun _ x h1 x0 x1 f1 f4 f5 f3 => ?_) (fun z => absurd z (by rw [hq, hBe]; exact ce))
    refine s101_18.mpr (s101_20.mpr ?_)
    refine (s101_21 (by first | decide | assumption | omega)).mpr ?_
    try simp (disch := first | decide | assumption | omega) only [kon, knt_some, knt_none, Option.toList_some, Option.toList_none, List.cons_append, List.nil_append, e0, hq]
    refine (s101_24 (by first | decide | assumption | omega) (by first | decide | assumption | omega)).mpr ?_
    refine b_isRight k15 (fun z => by rw [f4] at z; cases z) (fun _ => ?_)
    refine s101_27.mpr (wif (fun c27 => ?_) (fun c27 => ?_))
    · skip
      refine s101_30.mpr ?_
      refine (s101_32).mpr ?_
      exact bad ce _ h1 f1 f4 (f5.trans hq) f3
    · skip
      exact absurd rfl ‹¬ (0 : Int) = 0›
  have hq0 : 0 ≤ q := by rw [← hq]; exact hB.2.2
  have n2 : n ≤ 2000 := hB.1.2.2.2.2.2.2.2.2
  have hql := hB.lt (k := q) (by omega)
  obtain ⟨g22, ⟨g0, g2⟩, g1⟩ := hG e ce.1 (by omega)
  let h1 := upI hi 15 3 (q + 1)
  let h2 := upI h1 22 e (G 81 e + 1)
  have u2 : ∀ a i, a ≠ 22 → (a = 15 → i ≠ 3) → h2 a i = hi a i := fun a i z1 z2 => by
    show upI (upI hi 15 3 (q + 1)) 22 e _ a i = _
    rw [upI_a z1]
    by_cases c : a = 15
    · subst c; rw [upI_i (z2 rfl)]
    · rw [upI_a c]
  have u22 : ∀ i, h2 22 i = if i = e then hi 22 e + 1 else hi 22 i := fun i => by
    show upI (upI hi 15 3 (q + 1)) 22 e _ 22 i = _
    rw [upI_self, upI_a (by decide), g22]
  have u153 : h2 15 3 = q + 1 := by show upI (upI hi 15 3 (q + 1)) 22 e _ 15 3 = _; rw [upI_a (by decide), upI_eq]
  have u154 : h2 15 4 = 0 := (u2 15 4 (by decide) (by decide)).trans h4
  have f2 : FW wRe hi h2 := (FW.rf.up (Or.inl ⟨rfl, Or.inl rfl⟩)).up (Or.inr (Or.inl rfl))
  have x22 : h2 22 e = G 81 e + 1 := by rw [u22, if_pos rfl, g22]
  have y22 : h1 22 e = G 81 e := by show upI hi 15 3 (q + 1) 22 e = _; rw [upI_a (by decide)]; exact g22
  -- it does not fit
  have T131 : ¬ fitG S G e (4 * m + whichM t) (sideM t) → ∀ h3, FW wRe h2 h3 → h3 15 4 = 0 → h3 15 3 = q + 1 → Wp d 101 131 [vR (some 14), vR (some N), vI (cv t), vI q, vI e] [] al h3 hr Q := by
    intro hf h3 f3 z4 z3
    have E := unf ce hf (upI (upI h3 15 4 5) 15 5 q) (((f2.tr f3).up (Or.inl ⟨rfl, by decide⟩)).up (Or.inl ⟨rfl, by decide⟩)) (by rw [upI_i (by decide), upI_eq]) upI_eq (by rw [upI_i (by decide), upI_i (by decide), z3]; omega)
    refine s101_131.mpr ?_
    refine (s101_132 (by first | decide | assumption | omega)).mpr ?_
    refine s101_135.mpr (s101_136.mpr ?_)
    try simp (disch := first | decide | assumption | omega) only [kon, knt_some, knt_none, Option.toList_some, Option.toList_none, List.cons_append, List.nil_append, e0]
    refine (s101_137 (by first | decide | assumption | omega) (by first | decide | assumption | omega)).mpr ?_
    refine b_fail k15 (fun _ => ?_) (fun z => absurd z4 z)
    refine s101_140.mpr ?_
    refine (s101_142).mpr ?_
    exact E
  have T44 : Wp d 101 44 [vR (some 14), vR (some N), vI (cv t), vI q, vI e] [] al h2 hr Q := by
    have c3 : G 81 e = 0 ∨ G 81 e = 1 ∨ G 81 e = 2 := by omega
    rcases c3 with c | c | c
    · have E := fit ce (Or.inl c) (upI h2 24 e (cv t)) (upR hr 23 e (some N)) (f2.up (Or.inr (Or.inr (Or.inl rfl)))) (RW.rf.up rfl) (by rw [upI_a (by decide)]; exact u154) (by rw [upI_a (by decide)]; exact u153) (by rw [upI_a (by decide)]; exact u2 15 5 (by decide) (by decide)) (fun i => by rw [upI_a (by decide)]; exact u22 i) (fun i => by
        rw [upI_self, ct, u2 24 i (by decide) (by omega)]
        by_cases z : i = e
        · rw [if_pos z, if_pos ⟨c, z⟩]
        · rw [if_neg z, if_neg (fun z2 => z z2.2)]) (fun i => by
        show (if _ then _ else _) = _
        by_cases z : i = e
        · rw [if_pos ⟨rfl, z⟩, if_pos ⟨c, z⟩]
        · rw [if_neg (fun z2 => z z2.2), if_neg (fun z2 => z z2.2)])
      have r9 : (upR hr 23 e (some N)) 14 9 = some 24 := by rw [upR_a (by decide)]; exact e9
      refine s101_44.mpr ?_
      refine (s101_45 (by first | decide | assumption | omega)).mpr ?_
      refine s101_48.mpr ?_
      try simp (disch := first | decide | assumption | omega) only [e7, e8, r9, x22, c]
      refine (s101_50 (by first | decide | assumption | omega) (by first | decide | assumption | omega) (by first | decide | assumption | omega)).mpr ?_
      refine s101_51.mpr ?_
      try simp (disch := first | decide | assumption | omega) only [e7, e8, r9, x22, c]
      refine s101_52.mpr (wif (fun c52 => ?_) (fun c52 => ?_))
      · skip
        refine s101_55.mpr ?_
        refine (s101_56 (by first | decide | assumption | omega)).mpr ?_
        refine s101_59.mpr (s101_61.mpr ?_)
        try simp (disch := first | decide | assumption | omega) only [e7, e8, r9, x22, c]
        refine (s101_62 k23 (by decide) ce.1 (by omega) kN).mpr ?_
        refine s101_63.mpr ((s101_64 k14).mpr ?_)
        rw [r9]
        refine s101_67.mpr (s101_69.mpr ?_)
        refine (s101_70 k24 ce.1 (by omega)).mpr ?_
        refine s101_71.mpr (s101_140.mpr ?_)
        refine s101_142.mpr ?_
        exact E
      · skip
        first | (exfalso; omega) | exact absurd rfl (by assumption)
    · have fv := hV e 0 ce.1 (by omega) (Int.le_refl _) (by omega)
      rw [Int.add_zero] at fv
      obtain ⟨⟨fs0, fs1⟩, fg0, fg1, b, fb, fb2⟩ := fv
      obtain ⟨g23, g24⟩ := g1 (by omega)
      obtain ⟨gc, hgc⟩ : ∃ gc, G 82 (2 * e) = gc := ⟨_, rfl⟩
      rw [hgc] at fg0 fg1 fb fb2 g23 g24
      obtain ⟨hmb, Nb, nb, Lb, hNb, hGb⟩ := hS.1 _ b fb
      rw [hNb] at g23
      obtain ⟨sg, hsg⟩ : ∃ sg, G 83 (2 * e) = sg := ⟨_, rfl⟩
      rw [hsg] at fs0 fs1 g24
      have fit1 : fitG S G e (4 * m + whichM t) (sideM t) ↔ sg ≠ sideM t ∧ Alk b Bm (gc % 4) (whichM t) := by
        constructor
        · rintro (z | ⟨-, z2, b1, b2, z3, z4, z5⟩)
          · omega
          · rw [hgc] at z3 z5
            rw [fb] at z3; cases z3
            rw [show (4 * m + whichM t) / 4 = m by omega, hSm] at z4; cases z4
            rw [show (4 * m + whichM t) % 4 = whichM t by omega] at z5
            exact ⟨by rw [← hsg]; exact z2, z5⟩
        · rintro ⟨z1, z2⟩
          exact Or.inr ⟨c, by rw [hsg]; exact z1, b, Bm, by rw [hgc]; exact fb, by rw [show (4 * m + whichM t) / 4 = m by omega]; exact hSm, by rw [hgc, show (4 * m + whichM t) % 4 = whichM t by omega]; exact z2⟩
      have x24 : h2 24 e = 5 + 16 * (gc % 4) + 1048576 * sg := (u2 24 e (by decide) (by omega)).trans g24
      obtain ⟨y, hy⟩ : ∃ y, 5 + 16 * (gc % 4) + 1048576 * sg = y := ⟨_, rfl⟩
      rw [hy] at x24
      have ry : rng y := ⟨by omega, by omega⟩
      have ys : y / 1048576 % 2 = sg := by omega
      have yw : y / 16 % 256 = gc % 4 := by omega
      have rt := cv_r vt.r
      have ts := cv_e vt.r
      have tw := cv_w vt.r
      obtain ⟨Mb, hMb, hTb, -⟩ := id hGb
      have Nb119 := hGb.n119
      have hM2 : ModV al h2 hr N n1 Bm M := hM.fr GA.rf (fun i => u2 0 i (by decide) (by omega)) (fun a i z1 _ _ => u2 a i (by omega) (by omega)) (fun _ _ _ _ _ => rfl)
      have hMb2 : ModV al h2 hr Nb nb b Mb := hMb.fr GA.rf (fun i => u2 0 i (by decide) (by omega)) (fun a i z1 _ _ => u2 a i (by omega) (by omega)) (fun _ _ _ _ _ => rfl)
      have fpa : ∀ {h3}, FW wPa h2 h3 → FW wRe h2 h3 := fun z => z.mn (fun a i w => by unfold wPa at w; unfold wRe; omega)
      have R125 : sg ≠ sideM t → Ev (d - 1) 102 [vR (some 14), vR (some N), vI (whichM t), vR (some Nb), vI (gc % 4)] al h2 hr (kon d 101 125 128 [vR (some 14), vR (some N), vI (cv t), vI q, vI e] [] Q) := by
        intro hsd
        refine f_areAlike hA hc (by omega) hM2 hMb2 hT hTb w0 w4 (by omega) fb2 (fun h3 f3 hk => ?_) (fun h3 f3 hk => ?_)
        · simp only [kon, knt_some, knt_none, Option.toList_some, Option.toList_none, List.cons_append, List.nil_append]
          have z : ∀ a i, a ≠ 25 → a ≠ 14 → h3 a i = h2 a i := fun a i y1 y2 => f3 a i (by unfold wPa; omega)
          have E := fit ce (fit1.mpr ⟨hsd, hk.sy⟩) h3 hr (f2.tr (fpa f3)) RW.rf ((z 15 4 (by decide) (by decide)).trans u154) ((z 15 3 (by decide) (by decide)).trans u153) ((z 15 5 (by decide) (by decide)).trans (u2 15 5 (by decide) (by decide))) (fun i => (z 22 i (by decide) (by decide)).trans (u22 i)) (fun i => by rw [if_neg (fun w => by omega), z 24 i (by decide) (by decide)]; exact u2 24 i (by decide) (by omega)) (fun i => by rw [if_neg (fun w => by omega)])
          refine s101_128.mpr (wif (fun c128 => ?_) (fun c128 => ?_))
          · skip
            exact absurd ‹(1 : Int) = 0› (by decide)
          · skip
            refine s101_140.mpr ?_
            refine (s101_142).mpr ?_
            exact E
        · simp only [kon, knt_some, knt_none, Option.toList_some, Option.toList_none, List.cons_append, List.nil_append]
          have z : ∀ a i, a ≠ 25 → a ≠ 14 → h3 a i = h2 a i := fun a i y1 y2 => f3 a i (by unfold wPa; omega)
          have E := T131 (fun w => hk (fit1.mp w).2.sy) h3 (fpa f3) ((z 15 4 (by decide) (by decide)).trans u154) ((z 15 3 (by decide) (by decide)).trans u153)
          refine s101_128.mpr (wif (fun c128 => ?_) (fun c128 => ?_))
          · skip
            exact E
          · skip
            exact absurd rfl ‹¬ (0 : Int) = 0›
      by_cases cs : sg = sideM t
      · have E := T131 (fun w => (fit1.mp w).1 cs) h2 FW.rf u154 u153
        refine s101_44.mpr ?_
        refine (s101_45 (by first | decide | assumption | omega)).mpr ?_
        refine s101_48.mpr ?_
        try simp (disch := first | decide | assumption | omega) only [kon, knt_some, knt_none, Option.toList_some, Option.toList_none, List.cons_append, List.nil_append, e7, e9, x22, c, x24, ys, ts]
        refine (s101_50 (by first | decide | assumption | omega) (by first | decide | assumption | omega) (by first | decide | assumption | omega)).mpr ?_
        refine s101_51.mpr ?_
        try simp (disch := first | decide | assumption | omega) only [kon, knt_some, knt_none, Option.toList_some, Option.toList_none, List.cons_append, List.nil_append, e7, e9, x22, c, x24, ys, ts]
        refine s101_52.mpr (wif (fun c52 => ?_) (fun c52 => ?_))
        · first
          | (exfalso; omega)
          | skip
            exfalso; omega
        · first
          | (exfalso; omega)
          | skip
            refine s101_74.mpr ?_
            refine (s101_75 (by first | decide | assumption | omega)).mpr ?_
            refine s101_78.mpr ?_
            try simp (disch := first | decide | assumption | omega) only [kon, knt_some, knt_none, Option.toList_some, Option.toList_none, List.cons_append, List.nil_append, e7, e9, x22, c, x24, ys, ts]
            refine (s101_80 (by first | decide | assumption | omega) (by first | decide | assumption | omega) (by first | decide | assumption | omega)).mpr ?_
            refine s101_81.mpr ?_
            try simp (disch := first | decide | assumption | omega) only [kon, knt_some, knt_none, Option.toList_some, Option.toList_none, List.cons_append, List.nil_append, e7, e9, x22, c, x24, ys, ts]
            refine s101_82.mpr (wif (fun c82 => ?_) (fun c82 => ?_))
            · first
              | (exfalso; omega)
              | skip
                exact E
            · first
              | (exfalso; omega)
              | skip
                refine s101_85.mpr ?_
                refine (s101_86 (by omega)).mpr ?_
                refine (c_sideOfEnd (by first | exact rt | exact ry)).mpr ?_
                simp only [kon, knt_some, knt_none, Option.toList_some, Option.toList_none, List.cons_append, List.nil_append, ts, ys]
                refine s101_89.mpr ?_
                refine (s101_90 (by first | decide | assumption | omega)).mpr ?_
                refine s101_93.mpr ?_
                try simp (disch := first | decide | assumption | omega) only [kon, knt_some, knt_none, Option.toList_some, Option.toList_none, List.cons_append, List.nil_append, e7, e9, x22, c, x24, ys, ts]
                refine (s101_95 (by first | decide | assumption | omega) (by first | decide | assumption | omega) (by first | decide | assumption | omega)).mpr ?_
                try simp (disch := first | decide | assumption | omega) only [kon, knt_some, knt_none, Option.toList_some, Option.toList_none, List.cons_append, List.nil_append, e7, e9, x22, c, x24, ys, ts]
                refine (s101_96 (by omega)).mpr ?_
                refine (c_sideOfEnd (by first | exact rt | exact ry)).mpr ?_
                simp only [kon, knt_some, knt_none, Option.toList_some, Option.toList_none, List.cons_append, List.nil_append, ts, ys]
                refine s101_99.mpr (wif (fun c99 => ?_) (fun c99 => ?_))
                · first
                  | (exfalso; omega)
                  | skip
                    exact E
                · first
                  | (exfalso; omega)
                  | skip
                    exact absurd cs.symm (by assumption)
      · skip
        refine s101_44.mpr ?_
        refine (s101_45 (by first | decide | assumption | omega)).mpr ?_
        refine s101_48.mpr ?_
        try simp (disch := first | decide | assumption | omega) only [kon, knt_some, knt_none, Option.toList_some, Option.toList_none, List.cons_append, List.nil_append, e7, e8, e9, x22, c, x24]
        refine (s101_50 (by first | decide | assumption | omega) (by first | decide | assumption | omega) (by first | decide | assumption | omega)).mpr ?_
        refine s101_51.mpr ?_
        try simp (disch := first | decide | assumption | omega) only [kon, knt_some, knt_none, Option.toList_some, Option.toList_none, List.cons_append, List.nil_append, e7, e8, e9, x22, c, x24]
        refine s101_52.mpr (wif (fun c52 => ?_) (fun c52 => ?_))
        · first
          | (exfalso; omega)
          | skip
            exfalso; omega
        · first
          | (exfalso; omega)
          | skip
            refine s101_74.mpr ?_
            refine (s101_75 (by first | decide | assumption | omega)).mpr ?_
            refine s101_78.mpr ?_
            try simp (disch := first | decide | assumption | omega) only [kon, knt_some, knt_none, Option.toList_some, Option.toList_none, List.cons_append, List.nil_append, e7, e8, e9, x22, c, x24]
            refine (s101_80 (by first | decide | assumption | omega) (by first | decide | assumption | omega) (by first | decide | assumption | omega)).mpr ?_
            refine s101_81.mpr ?_
            try simp (disch := first | decide | assumption | omega) only [kon, knt_some, knt_none, Option.toList_some, Option.toList_none, List.cons_append, List.nil_append, e7, e8, e9, x22, c, x24]
            refine s101_82.mpr (wif (fun c82 => ?_) (fun c82 => ?_))
            · first
              | (exfalso; omega)
              | skip
                first | (exfalso; omega) | exact absurd (by assumption : sideM t = sg).symm cs
            · first
              | (exfalso; omega)
              | skip
                refine s101_85.mpr ?_
                refine (s101_86 (by omega)).mpr ?_
                refine (c_sideOfEnd (by first | exact rt | exact ry)).mpr ?_
                simp only [kon, knt_some, knt_none, Option.toList_some, Option.toList_none, List.cons_append, List.nil_append, ts, ys]
                refine s101_89.mpr ?_
                refine (s101_90 (by first | decide | assumption | omega)).mpr ?_
                refine s101_93.mpr ?_
                try simp (disch := first | decide | assumption | omega) only [kon, knt_some, knt_none, Option.toList_some, Option.toList_none, List.cons_append, List.nil_append, e7, e8, e9, x22, c, x24]
                refine (s101_95 (by first | decide | assumption | omega) (by first | decide | assumption | omega) (by first | decide | assumption | omega)).mpr ?_
                try simp (disch := first | decide | assumption | omega) only [kon, knt_some, knt_none, Option.toList_some, Option.toList_none, List.cons_append, List.nil_append, e7, e8, e9, x22, c, x24]
                refine (s101_96 (by omega)).mpr ?_
                refine (c_sideOfEnd (by first | exact rt | exact ry)).mpr ?_
                simp only [kon, knt_some, knt_none, Option.toList_some, Option.toList_none, List.cons_append, List.nil_append, ts, ys]
                refine s101_99.mpr (wif (fun c99 => ?_) (fun c99 => ?_))
                · first
                  | (exfalso; omega)
                  | skip
                    first | (exfalso; omega) | exact absurd (by assumption : sideM t = sg).symm cs
                · first
                  | (exfalso; omega)
                  | skip
                    refine s101_102.mpr (s101_103.mpr (s101_104.mpr ?_))
                    refine (s101_105 (by omega)).mpr ?_
                    refine (c_namedBy (by first | exact rt | exact ry)).mpr ?_
                    simp only [kon, knt_some, knt_none, Option.toList_some, Option.toList_none, List.cons_append, List.nil_append, tw, yw]
                    refine s101_108.mpr ?_
                    refine (s101_109 (by first | decide | assumption | omega)).mpr ?_
                    refine s101_112.mpr ?_
                    try simp (disch := first | decide | assumption | omega) only [kon, knt_some, knt_none, Option.toList_some, Option.toList_none, List.cons_append, List.nil_append, e7, e8, e9, x22, c, x24]
                    refine (s101_114 (by first | decide | assumption | omega) (by first | decide | assumption | omega) (by first | decide | assumption | omega)).mpr ?_
                    rw [g23]
                    refine s101_115.mpr ((s101_116 k14).mpr ?_)
                    rw [e9]
                    refine s101_119.mpr ?_
                    refine (s101_121 k24 ce.1 (by omega)).mpr ?_
                    rw [x24]
                    refine (s101_122 (by omega)).mpr ?_
                    refine (c_namedBy ry).mpr ?_
                    simp only [kon, knt_some, knt_none, Option.toList_some, Option.toList_none, List.cons_append, List.nil_append, yw]
                    refine (s101_125 (by omega) k14).mpr ?_
                    exact R125 cs
    · have E := T131 (fun z => by rcases z with z | z <;> omega) h2 FW.rf u154 u153
      refine s101_44.mpr ?_
      refine (s101_45 (by first | decide | assumption | omega)).mpr ?_
      refine s101_48.mpr ?_
      try simp (disch := first | decide | assumption | omega) only [e7, x22, c]
      refine (s101_50 (by first | decide | assumption | omega) (by first | decide | assumption | omega) (by first | decide | assumption | omega)).mpr ?_
      refine s101_51.mpr ?_
      try simp (disch := first | decide | assumption | omega) only [e7, x22, c]
      refine s101_52.mpr (wif (fun c52 => ?_) (fun c52 => ?_))
      · skip
        exfalso; omega
      · skip
        refine s101_74.mpr ?_
        refine (s101_75 (by first | decide | assumption | omega)).mpr ?_
        refine s101_78.mpr ?_
        try simp (disch := first | decide | assumption | omega) only [e7, x22, c]
        refine (s101_80 (by first | decide | assumption | omega) (by first | decide | assumption | omega) (by first | decide | assumption | omega)).mpr ?_
        refine s101_81.mpr ?_
        try simp (disch := first | decide | assumption | omega) only [e7, x22, c]
        refine s101_82.mpr (wif (fun c82 => ?_) (fun c82 => ?_))
        · skip
          exact E
        · skip
          exfalso; omega
  have l1e : upI hi 15 3 (q + 1) = h1 := rfl
  have hz4 : h1 15 4 = 0 := by show upI hi 15 3 (q + 1) 15 4 = 0; rw [upI_i (by decide)]; exact h4
  refine s101_0.mpr ?_
  refine (s101_1 (by first | decide | assumption | omega)).mpr ?_
  try simp (disch := first | decide | assumption | omega) only [kon, knt_some, knt_none, Option.toList_some, Option.toList_none, List.cons_append, List.nil_append, e0, hq]
  refine (s101_4 (by first | decide | assumption | omega)).mpr ?_
  refine s101_7.mpr (s101_8.mpr ?_)
  try simp (disch := first | decide | assumption | omega) only [kon, knt_some, knt_none, Option.toList_some, Option.toList_none, List.cons_append, List.nil_append, e0, hq]
  refine (s101_9 (by first | decide | assumption | omega)).mpr ?_
  refine s101_12.mpr (s101_13.mpr ?_)
  try simp (disch := first | decide | assumption | omega) only [kon, knt_some, knt_none, Option.toList_some, Option.toList_none, List.cons_append, List.nil_append, e0, hq]
  refine (s101_15 (by first | decide | assumption | omega) (by first | decide | assumption | omega)).mpr ?_
  refine h_within hB (by omega) h4 (by decide) (by decide) (fun z => absurd (by rw [hq, hBe]; exact ce) z) (fun _ => ?_)
  simp only [kon, knt_some, knt_none, Option.toList_some, Option.toList_none, List.cons_append, List.nil_append]
  rw [hq, hBe, l1e]
  refine s101_18.mpr (s101_20.mpr ?_)
  refine (s101_21 (by first | decide | assumption | omega)).mpr ?_
  try simp (disch := first | decide | assumption | omega) only [kon, knt_some, knt_none, Option.toList_some, Option.toList_none, List.cons_append, List.nil_append, e0, hq]
  refine (s101_24 (by first | decide | assumption | omega) (by first | decide | assumption | omega)).mpr ?_
  refine b_isRight k15 (fun _ => ?_) (fun z => absurd hz4 z)
  simp only [kon, knt_some, knt_none, Option.toList_some, Option.toList_none, List.cons_append, List.nil_append]
  refine s101_27.mpr (wif (fun c27 => ?_) (fun c27 => ?_))
  · skip
    exact absurd ‹(1 : Int) = 0› (by decide)
  · skip
    refine s101_33.mpr ((s101_34 k14).mpr ?_)
    rw [e7]
    refine s101_37.mpr (s101_39.mpr ?_)
    refine (s101_40 k22 ce.1 (by omega)).mpr ?_
    refine s101_41.mpr (s101_42.mpr ?_)
    rw [y22, fAdd_id (by omega) (by omega)]
    refine (s101_43 k22 ce.1 (by omega)).mpr ?_
    exact T44
theorem h_readEndF {x : Int} (hA : SA al) (hc : CR hr) (hd : 3 ≤ d) (hB : BM al hi hr n B) (h4 : hi 15 4 ≠ 0) (q : ∀ x, Q (some (some (vI x))) al hi hr) : Ev d 101 [vR (some 14), vR (some N), vI x] al hi hr Q := by
  have k14 : isK al 14 7 := hA.k (by decide) (by decide) rfl
  have k15 := hB.1.1
  have e0 := cr_14_0 hc
  rw [e101]
  refine s101_0.mpr ?_
  refine (s101_1 (by first | decide | assumption | omega)).mpr ?_
  try simp (disch := first | decide | assumption | omega) only [kon, knt_some, knt_none, Option.toList_some, Option.toList_none, List.cons_append, List.nil_append, e0]
  refine (s101_4 (by first | decide | assumption | omega)).mpr ?_
  refine s101_7.mpr (s101_8.mpr ?_)
  try simp (disch := first | decide | assumption | omega) only [kon, knt_some, knt_none, Option.toList_some, Option.toList_none, List.cons_append, List.nil_append, e0]
  refine (s101_9 (by first | decide | assumption | omega)).mpr ?_
  refine s101_12.mpr (s101_13.mpr ?_)
  try simp (disch := first | decide | assumption | omega) only [kon, knt_some, knt_none, Option.toList_some, Option.toList_none, List.cons_append, List.nil_append, e0]
  refine (s101_15 (by first | decide | assumption | omega) (by first | decide | assumption | omega)).mpr ?_
  refine h_withinF hB (by omega) h4 (by decide) (fun x x0 x1 => ?_)
  refine s101_18.mpr (s101_20.mpr ?_)
  refine (s101_21 (by first | decide | assumption | omega)).mpr ?_
  try simp (disch := first | decide | assumption | omega) only [kon, knt_some, knt_none, Option.toList_some, Option.toList_none, List.cons_append, List.nil_append, e0]
  refine (s101_24 (by first | decide | assumption | omega) (by first | decide | assumption | omega)).mpr ?_
  refine b_isRight k15 (fun z => absurd z h4) (fun _ => ?_)
  refine s101_27.mpr (wif (fun c27 => ?_) (fun c27 => ?_))
  · skip
    refine s101_30.mpr ?_
    refine (s101_32).mpr ?_
    exact q _
  · skip
    exact absurd rfl ‹¬ (0 : Int) = 0›
end CN1
