/-! BOOT, the class: a process of the manifest -/
section CB2
variable {d : Nat} {Q : QQ} {T : TXs} {al al' : AL} {hi hi' h1 h : HI} {hr hr' r1 : HR} {s s' s1 s0 : HI} {A A' : Int → Int → Int} {NN : Int → Option Nat} {E : Int → Prop} {p m k n i e c P K ct v kn kn' H x : Int} {t N b : Nat} {al0 : AL} {hi0 : HI} {hr0 : HR} {S : Int → Option (Int → Int)} {G : HI}
theorem BP.kn_ (hb : BP S G kn H x c s0 s) : BP S G kn' H x c s0 (upI s 49 56 kn') := by
  obtain ⟨a1, a2, a3, a4, a5, a6, a7, a8, a9⟩ := hb
  have n : ∀ (a : Nat) i, a ≠ 49 → upI s 49 56 kn' a i = s a i := fun a i z => upI_a z
  refine ⟨fun i => ?_, fun i => by rw [n _ _ (by decide)]; exact a2 i, fun i => by rw [n _ _ (by decide), n _ _ (by decide), n _ _ (by decide), n _ _ (by decide), n _ _ (by decide), n _ _ (by decide)]; exact a3 i, fun i => by rw [n _ _ (by decide), n _ _ (by decide), n _ _ (by decide)]; exact a4 i, fun i => by rw [n _ _ (by decide), n _ _ (by decide)]; exact a5 i, fun i => by rw [n _ _ (by decide)]; exact a6 i, fun i => by rw [n _ _ (by decide)]; exact a7 i, fun i => by rw [n _ _ (by decide), n _ _ (by decide), n _ _ (by decide), n _ _ (by decide)]; exact a8 i, fun a i z => by rw [n _ _ (by omega)]; exact a9 a i z⟩
  rw [upI_self]
  by_cases z : i = 56
  · subst z; rfl
  · rw [if_neg z, a1]
    by_cases y : i = 51
    · rw [if_pos y, if_pos y]
    · rw [if_neg y, if_neg y]
      by_cases w : 52 ≤ i ∧ i ≤ 55
      · rw [if_pos w, if_pos w]
      · rw [if_neg w, if_neg w, if_neg z, if_neg z]
/-- a routine of a module stands where it stood -/
theorem RelC.rou2 {g : Int} {u : Nat} (hR : RelC T NN al0 hi0 hr0 E A al hi hr s) (hBs : Bs T NN al0 hi0 hr0) (hN : NN m = some N) (h0 : 0 ≤ g ∧ g < nFn (T m)) (hu : roA hi0 hr0 N g = some (u + 1)) : roA hi hr N g = some (u + 1) ∧ RoutOK al hi hr (T m) g u ∧ ∃ nn M, ModV al hi hr N nn (T m) M ∧ TxV (T m) nn := by
  obtain ⟨⟨n0, L0, hG0, -⟩, -⟩ := hBs.1 m N hN
  obtain ⟨⟨n1, L1, hG1, hz1⟩, -⟩ := hR.gm hBs hN
  obtain ⟨M0, hM0, -, l0, l0', -⟩ := id hG0
  obtain ⟨M1, hM1, hT1, l1, l1', -⟩ := id hG1
  have f3 := hR.1.2.2.1.2.2.1
  have n119 := hM0.1.2.1
  have nm := hM0.1.2.2.1
  have nm1 := hM1.1.2.2.1
  have e1 : hi N 8 = hi0 N 8 := (f3 N 8 n119 (by omega) (hz1 N (Nat.le_refl _) (by omega))).1
  have e2 : hr (N + 5) g = hr0 (N + 5) g := (f3 (N + 5) g (by omega) (by omega) (hz1 (N + 5) (by omega) (by omega))).2
  have er : roA hi hr N g = some (u + 1) := by
    rw [← hu]; unfold roA; rw [e1, e2]
  obtain ⟨u', H, C, A9, ero, -, -, hro, -⟩ := (hG1.ro (f := g)).resolve_left (fun z => z.1 h0) |>.2
  rw [er] at ero
  cases ero
  exact ⟨er, hro, n1, M1, hM1, hT1⟩
/-- between two processes -/
def BS (T : TXs) (NN : Int → Option Nat) (al0 : AL) (hi0 : HI) (hr0 : HR) (S : Int → Option (Int → Int)) (G s0 : HI) (P : Int) (al : AL) (hi : HI) (hr : HR) : Prop := ∃ A s c, RelC T NN al0 hi0 hr0 (fun _ => False) A al hi hr s ∧ AllP s ∧ BP S G P P (4 * P) c s0 s ∧ CC G (4 * P) c ∧ CO G c hi
set_option maxRecDepth 8000 in
theorem x5_sTask (hB : BS T NN al0 hi0 hr0 S G s0 P al hi hr) (hBs : Bs T NN al0 hi0 hr0) (hG : GF S G n) (P0 : 0 ≤ P ∧ P < n) (n6 : n ≤ 6) (hMg : ∀ m b, S m = some b → T (6 + m) = b ∧ Mg T s0 (6 + m)) (hMn : MnC S hi0 hr0 G P) (hNN : ∀ m b, S m = some b → NN (6 + m) = hr0 4 m ∧ ∃ N, hr0 4 m = some N) (hd : 4 ≤ d) (q : ∀ al' hi' hr', BS T NN al0 hi0 hr0 S G s0 (P + 1) al' hi' hr' → Q (some none) al' hi' hr') : Ev d 64 [vR (some 26), vR (some 14), vI P] al hi hr Q := by
  obtain ⟨A, s, c, hR, hP, hb, hc, hco⟩ := hB
  obtain ⟨m1, m2, m3, m4, ⟨Bm, m5, m6, m7, m8⟩, m9, m10⟩ := hMn
  obtain ⟨hTm, hMm⟩ := hMg _ Bm m5
  obtain ⟨hNm, N, hN4⟩ := hNN _ Bm m5
  rw [hN4] at hNm
  have hA := hR.1.1
  have hC := hR.1.2.1
  have k14 : isK al 14 7 := hA.k (by decide) (by decide) rfl
  have Q17 : isQ al 17 = true := hA.q (by decide) (by decide) (by decide)
  have k18 : isK al 18 15 := hA.k (by decide) (by decide) rfl
  have k19 : isK al 19 15 := hA.k (by decide) (by decide) rfl
  have k20 : isK al 20 15 := hA.k (by decide) (by decide) rfl
  have low : ∀ {al' hi' hr' A' s'}, RelC T NN al0 hi0 hr0 (fun _ => False) A' al' hi' hr' s' → ∀ (a : Nat) i, a < 26 → hi' a i = hi0 a i ∧ hr' a i = hr0 a i := fun R a i z => R.1.2.2.1.2.1 a i (Or.inl z)
  have f17 : hr 17 P = some N := by rw [(low hR 17 P (by decide)).2, m1, hN4]
  have f18 : hi 18 P = G 77 P := ((low hR 18 P (by decide)).1).trans m2
  have f19 : hi 19 P = G 78 P := ((low hR 19 P (by decide)).1).trans m3
  have f20 : hi 20 P = G 79 P := ((low hR 20 P (by decide)).1).trans m4
  have g2 := cr_14_2 hC
  have g3 := cr_14_3 hC
  have g4 := cr_14_4 hC
  have g5 := cr_14_5 hC
  have l17 := SA.len (a := 17) (n := 6) hA (by decide) (by decide) rfl
  have l18 := SA.len (a := 18) (n := 6) hA (by decide) (by decide) rfl
  have l19 := SA.len (a := 19) (n := 6) hA (by decide) (by decide) rfl
  have l20 := SA.len (a := 20) (n := 6) hA (by decide) (by decide) rfl
  obtain ⟨⟨nn, L, hGC, -⟩, -⟩ := hBs.1 _ N hNm
  rw [hTm] at hGC
  obtain ⟨u, H9, C9, A9, ero, -, -, -, -⟩ := (hGC.ro (f := G 78 P)).resolve_left (fun z => z.1 ⟨m6, m7⟩) |>.2
  obtain ⟨M9, hM9, hT9, -⟩ := id hGC
  have ROU : ∀ {al' hi' hr' A' s'}, RelC T NN al0 hi0 hr0 (fun _ => False) A' al' hi' hr' s' → roA hi' hr' N (G 78 P) = some (u + 1) ∧ RoutOK al' hi' hr' Bm (G 78 P) u ∧ ∃ nn M, ModV al' hi' hr' N nn Bm M ∧ TxV Bm nn := fun R => by
    have := R.rou2 (g := G 78 P) (u := u) hBs hNm (by rw [hTm]; exact ⟨m6, m7⟩) ero
    rw [hTm] at this; exact this
  have hNV := hT9.2.2
  have hSh := hT9.2.1
  have n4 := hG.np4 P0
  have enp : np S G P = nPar Bm (G 78 P) := by unfold np; rw [bO_y m5]
  have ept : ∀ k, pt S G P k = pTy Bm (G 78 P) k := fun k => by unfold pt; rw [bO_y m5]
  have hpt := (hNV.2.2 (G 78 P) m6 m7).1
  obtain ⟨a1, a2, a3, a4, a5, a6, a7, a8, a9⟩ := id hb
  have e56 : s 49 56 = P := by rw [a1, if_neg (by decide), if_neg (by decide), if_pos rfl]
  have e89 : 4 ≤ s 89 P := by rw [a2, if_neg (by omega), if_pos (by omega)]; decide
  -- the parameters
  have T69 : ∀ (j : Nat) (k : Int) A' s' c' al' hi' hr' t l8 l9, k + j = np S G P → 0 ≤ k → RelC T NN al0 hi0 hr0 (fun _ => False) A' al' hi' hr' s' → OnP hr' s' P t → AllP s' → BP S G (P + 1) (P + 1) (4 * P + k) c' s0 s' → CC G (4 * P + k) c' → CO G c' hi' → Wp d 64 69 [vR (some 26), vR (some 14), vI P, vR (some N), vR (some (u + 1)), vI (16 * G 79 P), vR (some t), vI k, l8, l9] [] al' hi' hr' Q := by
    intro j
    induction j with
    | zero =>
      intro k A' s' c' al' hi' hr' t l8 l9 hk k0 R O AP b C co
      obtain ⟨-, hro, nn', M', hM', -⟩ := ROU R
      have ku := hro.1.1
      have eP : hi' (u + 1) 0 = np S G P := by rw [hro.2.2.2.1, enp]
      have ek : k = np S G P := by omega
      obtain ⟨b2, C2⟩ := BP.tl hG P0 (ek ▸ b) (ek ▸ C)
      have E := q al' hi' hr' ⟨A', s', c', R, AP, b2, C2, co⟩
      refine s64_69.mpr (s64_71.mpr ?_)
      refine (s64_73 (by first | decide | assumption | omega)).mpr ?_
      try simp (disch := first | decide | assumption | omega) only [eP]
      refine s64_76.mpr (wif (fun c76 => ?_) (fun c76 => ?_))
      · skip
        exfalso; omega
      · skip
        refine (s64_159).mpr ?_
        exact E
    | succ j ih =>
      intro k A' s' c' al' hi' hr' t l8 l9 hk k0 R O AP b C co
      obtain ⟨-, hro, nn', M', hM', hT'⟩ := ROU R
      have hA' := R.1.1
      have hC' := R.1.2.1
      have ku := hro.1.1
      have kn : k < np S G P := by omega
      have kt := (R.tf O).1.1.2
      have eP : hi' (u + 1) 0 = np S G P := by rw [hro.2.2.2.1, enp]
      have ep := hro.par (k := k) hT' m6 m7 k0 (by omega)
      rw [← ept k] at ep
      have vt := (hpt k k0 (by omega)).1
      rw [← ept k] at vt
      have k14' : isK al' 14 7 := hA'.k (by decide) (by decide) rfl
      have k21 : isK al' 21 15 := hA'.k (by decide) (by decide) rfl
      have g6 := cr_14_6 hC'
      have f21 : hi' 21 (4 * P + k) = G 80 (4 * P + k) := by rw [(low R 21 _ (by decide)).1]; exact m10 Bm k m5 k0 (by omega)
      have kN' : isK al' N 10 := hM'.1.1.1
      have hA2 := hA'
      have l21 := SA.len (a := 21) (n := 24) hA2 (by decide) (by decide) rfl
      have eai : ai s' P = 16 * P := by
        unfold ai
        rw [(b.2.2.1 P).2.2.2.2.2, if_pos (by omega)]; omega
      have e4 : 4 * P + (k + 1) = 4 * P + k + 1 := by omega
      have ix : P * 4 + k = 4 * P + k := by omega
      by_cases ct : pt S G P k = 0
      · have NB := BP.num hG b C P0 ⟨k0, kn⟩ ct
        have NC := C.nu hG P0 ⟨k0, by omega⟩ (fun _ => ct)
        rw [ct, cv_0] at ep
        obtain ⟨gv, hgv⟩ : ∃ gv, G 80 (4 * P + k) = gv := ⟨_, rfl⟩
        rw [hgv] at NB f21
        have SL := t_setLocalF (d := d - 1) (l := k) (v := gv) (w := 0) (Q := kon d 64 150 153 [vR (some 26), vR (some 14), vI P, vR (some N), vR (some (u + 1)), vI (16 * G 79 P), vR (some t), vI k, vI 0, vI gv] [] Q) R O AP ⟨k0, by omega⟩ (fun z => absurd z (by decide)) (fun h2 R2 O2 P2 x2 f2 => by
          rw [eai, show 26 * (16 * P) + k = 416 * P + k by omega] at R2 O2 P2
          have NX := ih (k + 1) _ _ c' _ _ _ t (vI 0) (vI gv) (by omega) (by omega) R2 O2 P2 (by rw [e4]; exact NB) (by rw [e4]; exact NC) (co.fr (fun i => f2 46 i (by have := (R.tf O).1.1.1; omega)))
          simp only [kon, knt_some, knt_none, Option.toList_some, Option.toList_none, List.cons_append, List.nil_append]
          refine s64_153.mpr (s64_156.mpr ?_)
          try simp (disch := first | decide | assumption | omega) only [fAdd_id]
          exact NX
          )
        have SL : Ev (d - 1) 129 [vR (some t), vI k, vI 0, vI gv] al' hi' hr' (kon d 64 150 153 [vR (some 26), vR (some 14), vI P, vR (some N), vR (some (u + 1)), vI (16 * G 79 P), vR (some t), vI k, vI 0, vI gv] [] Q) := SL
        refine s64_69.mpr (s64_71.mpr ?_)
        refine (s64_73 (by first | decide | assumption | omega)).mpr ?_
        try simp (disch := first | decide | assumption | omega) only [kon, knt_some, knt_none, Option.toList_some, Option.toList_none, List.cons_append, List.nil_append, eP, g6, f21, fAdd_id, fMul_id, ix]
        refine s64_76.mpr (wif (fun c76 => ?_) (fun c76 => ?_))
        · skip
          refine s64_79.mpr (s64_81.mpr ?_)
          refine s64_82.mpr (wif (fun c82 => ?_) (fun c82 => ?_))
          · skip
            refine s64_85.mpr (s64_87.mpr ?_)
            refine (s64_89 (by first | decide | assumption | omega) (by first | decide | assumption | omega)).mpr ?_
            refine r_typeOfParameter hro.1 ?_
            simp only [kon, knt_some, knt_none, Option.toList_some, Option.toList_none, List.cons_append, List.nil_append, ep]
            refine s64_92.mpr (s64_94.mpr ?_)
            refine (s64_95 (by first | decide | assumption | omega)).mpr ?_
            refine s64_98.mpr (s64_99.mpr (s64_100.mpr (s64_101.mpr (s64_103.mpr ?_))))
            try simp (disch := first | decide | assumption | omega) only [kon, knt_some, knt_none, Option.toList_some, Option.toList_none, List.cons_append, List.nil_append, eP, g6, f21, fAdd_id, fMul_id, ix]
            refine (s64_104 (by first | decide | assumption | omega) (by first | decide | assumption | omega) (by first | decide | assumption | omega)).mpr ?_
            refine s64_105.mpr (s64_107.mpr ?_)
            try simp (disch := first | decide | assumption | omega) only [kon, knt_some, knt_none, Option.toList_some, Option.toList_none, List.cons_append, List.nil_append, eP, g6, f21, fAdd_id, fMul_id, ix]
            refine (s64_109 (by omega)).mpr ?_
            refine c_kindOf.mpr ?_
            simp only [kon, knt_some, knt_none, Option.toList_some, Option.toList_none, List.cons_append, List.nil_append]
            refine s64_112.mpr ?_
            refine s64_113.mpr (wif (fun c113 => ?_) (fun c113 => ?_))
            · skip
              exact absurd ‹(0 : Int) % 16 = 5› (by decide)
            · skip
              refine s64_139.mpr (s64_141.mpr (s64_143.mpr ?_))
              refine (s64_145 (by omega)).mpr ?_
              refine c_kindOf.mpr ?_
              simp only [kon, knt_some, knt_none, Option.toList_some, Option.toList_none, List.cons_append, List.nil_append]
              refine s64_148.mpr ?_
              refine (s64_150 (by first | decide | assumption | omega) (by first | decide | assumption | omega)).mpr ?_
              exact SL
          · skip
            exfalso; omega
        · skip
          exfalso; omega
      · have tk := (m8.2 k k0 (by omega)).resolve_left (by rw [← ept k]; exact ct)
        rw [← ept k] at tk
        have hw := vt.2.2.2.2.2.2.2 tk.1
        have w0 : 0 ≤ whichM (pt S G P k) := by unfold whichM; omega
        have c4 := hSh.2.2.2.2.2.1
        obtain ⟨o, ho, -, -, hco9⟩ := hM'.2.2.2.2.1 (whichM (pt S G P k)) w0 hw.1
        have kb : isK al' o 3 := hco9.1.1
        have ect : ctA hi' hr' N (whichM (pt S G P k)) = some o := by unfold ctA; rw [if_pos ⟨w0, by rw [hM'.2.2.1.2.1]; exact hw.1, by omega⟩]; exact ho
        have ck := cv_k vt.r
        have cw := cv_w vt.r
        have ce := cv_e vt.r
        have cr := cv_r vt.r
        rw [tk.1] at ck
        obtain ⟨tc, htc⟩ : ∃ tc, cv (pt S G P k) = tc := ⟨_, rfl⟩
        rw [htc] at ep ck cw ce cr
        have BE9 := x5_bEnd (d := d - 1) (Q := kon d 64 134 137 [vR (some 26), vR (some 14), vI P, vR (some N), vR (some (u + 1)), vI (16 * G 79 P), vR (some t), vI k, vI tc, vI (G 80 (4 * P + k))] [] Q) R O AP hBs hG b C co P0 n6 ⟨k0, kn⟩ ct (fun m b e => (hMg m b e).1) (by rw [hTm]; exact hNV) hNm ⟨w0, by rw [hTm]; exact hw.1⟩ (by omega) ho kb (by omega) (fun h2 r2 hbe => by
          obtain ⟨s2, c2, R2, O2, P2, b2, C2, co2, ai2⟩ := hbe
          have SL := t_setLocalF (d := d - 1) (l := k) (v := gvV S G P k) (w := 3) (Q := kon d 64 150 153 [vR (some 26), vR (some 14), vI P, vR (some N), vR (some (u + 1)), vI (16 * G 79 P), vR (some t), vI k, vI tc, vI (gvV S G P k)] [] Q) R2 O2 P2 ⟨k0, by omega⟩ (fun z => absurd z (by decide)) (fun h3 R3 O3 P3 x3 f3 => by
            rw [ai2, show 26 * (16 * P) + k = 416 * P + k by omega] at R3 O3 P3
            have NX := ih (k + 1) _ _ c2 _ _ _ t (vI tc) (vI (gvV S G P k)) (by omega) (by omega) R3 O3 P3 (by rw [e4]; exact b2) (by rw [e4]; exact C2) (co2.fr (fun i => f3 46 i (by have := (R2.tf O2).1.1.1; omega)))
            simp only [kon, knt_some, knt_none, Option.toList_some, Option.toList_none, List.cons_append, List.nil_append]
            refine s64_153.mpr (s64_156.mpr ?_)
            try simp (disch := first | decide | assumption | omega) only [fAdd_id]
            exact NX
            )
          have SL : Ev (d - 1) 129 [vR (some t), vI k, vI 5, vI (gvV S G P k)] al' h2 r2 (kon d 64 150 153 [vR (some 26), vR (some 14), vI P, vR (some N), vR (some (u + 1)), vI (16 * G 79 P), vR (some t), vI k, vI tc, vI (gvV S G P k)] [] Q) := SL
          have kt2 := (R2.tf O2).1.1.2
          simp only [kon, knt_some, knt_none, Option.toList_some, Option.toList_none, List.cons_append, List.nil_append]
          refine s64_137.mpr (s64_139.mpr (s64_141.mpr (s64_143.mpr ?_)))
          refine (s64_145 (by omega)).mpr ?_
          refine c_kindOf.mpr ?_
          simp only [kon, knt_some, knt_none, Option.toList_some, Option.toList_none, List.cons_append, List.nil_append, ck]
          refine s64_148.mpr ?_
          refine (s64_150 (by first | decide | assumption | omega) (by first | decide | assumption | omega)).mpr ?_
          exact SL
          )
        have k26' : isK al' 26 6 := hA'.k (by decide) (by decide) rfl
        refine s64_69.mpr (s64_71.mpr ?_)
        refine (s64_73 (by first | decide | assumption | omega)).mpr ?_
        try simp (disch := first | decide | assumption | omega) only [kon, knt_some, knt_none, Option.toList_some, Option.toList_none, List.cons_append, List.nil_append, eP, g6, f21, fAdd_id, fMul_id, ix]
        refine s64_76.mpr (wif (fun c76 => ?_) (fun c76 => ?_))
        · skip
          refine s64_79.mpr (s64_81.mpr ?_)
          refine s64_82.mpr (wif (fun c82 => ?_) (fun c82 => ?_))
          · skip
            refine s64_85.mpr (s64_87.mpr ?_)
            refine (s64_89 (by first | decide | assumption | omega) (by first | decide | assumption | omega)).mpr ?_
            refine r_typeOfParameter hro.1 ?_
            simp only [kon, knt_some, knt_none, Option.toList_some, Option.toList_none, List.cons_append, List.nil_append, ep]
            refine s64_92.mpr (s64_94.mpr ?_)
            refine (s64_95 (by first | decide | assumption | omega)).mpr ?_
            refine s64_98.mpr (s64_99.mpr (s64_100.mpr (s64_101.mpr (s64_103.mpr ?_))))
            try simp (disch := first | decide | assumption | omega) only [kon, knt_some, knt_none, Option.toList_some, Option.toList_none, List.cons_append, List.nil_append, eP, g6, f21, fAdd_id, fMul_id, ix]
            refine (s64_104 (by first | decide | assumption | omega) (by first | decide | assumption | omega) (by first | decide | assumption | omega)).mpr ?_
            refine s64_105.mpr (s64_107.mpr ?_)
            try simp (disch := first | decide | assumption | omega) only [kon, knt_some, knt_none, Option.toList_some, Option.toList_none, List.cons_append, List.nil_append, eP, g6, f21, fAdd_id, fMul_id, ix]
            refine (s64_109 (by omega)).mpr ?_
            refine c_kindOf.mpr ?_
            simp only [kon, knt_some, knt_none, Option.toList_some, Option.toList_none, List.cons_append, List.nil_append, ck]
            refine s64_112.mpr ?_
            refine s64_113.mpr (wif (fun c113 => ?_) (fun c113 => ?_))
            · skip
              refine s64_116.mpr (s64_117.mpr (s64_119.mpr ?_))
              refine (s64_121 (by omega)).mpr ?_
              refine c_sideOfEndG (fun e8 a8 b8 w8 => ?_)
              rw [w8 cr, ce]
              simp only [kon, knt_some, knt_none, Option.toList_some, Option.toList_none, List.cons_append, List.nil_append]
              refine s64_124.mpr (s64_125.mpr ?_)
              refine (s64_127 (by omega)).mpr ?_
              refine c_namedByH (fun x9 a9 b9 w9 => ?_)
              rw [w9 cr, cw]
              simp only [kon, knt_some, knt_none, Option.toList_some, Option.toList_none, List.cons_append, List.nil_append]
              refine (s64_130 (by first | decide | assumption | omega) (by first | decide | assumption | omega)).mpr ?_
              refine t_contractAt hM'.1.1 ?_
              simp only [kon, knt_some, knt_none, Option.toList_some, Option.toList_none, List.cons_append, List.nil_append, ect]
              refine s64_133.mpr ?_
              refine (s64_134 (by first | decide | assumption | omega) (by first | decide | assumption | omega)).mpr ?_
              exact BE9
            · skip
              exact absurd rfl (by assumption)
          · skip
            exfalso; omega
        · skip
          exfalso; omega
  -- the process begins
  have k26 : isK al 26 6 := hA.k (by decide) (by decide) rfl
  obtain ⟨ero1, hro1, nn1, M1, hM1, -⟩ := ROU hR
  have kN : isK al N 10 := hM1.1.1.1
  have ku := hro1.1.1
  have BG := x5_begin (d := d - 1) (N := N) (sp := G 77 P) (f := G 78 P) (h9 := 16 * G 79 P) (n := P) (Q := kon d 64 61 64 [vR (some 26), vR (some 14), vI P, vR (some N), vR (some (u + 1)), vI (16 * G 79 P), none, none, none, none] [] Q) hA hC ⟨P0.1, by omega⟩ (fun t e => (hR.2.2.2.2.1.1 P t P0.1 (by omega) e).1) (by omega) (by omega) (fun t al' h1 r1 hi' hk tS hBg => by
    obtain ⟨R2, O2, P2⟩ := hR.beg (m := 6 + G 77 P) (c9 := 16 * G 79 P) (f := G 78 P) hP hBs ⟨P0.1, by omega⟩ e89 (by omega) hNm (by omega) hk tS (by rw [show 6 + G 77 P - 6 = G 77 P by omega]; exact hBg)
    have B2 : BP S G (P + 1) (P + 1) (4 * P) c s0 (bgS s P (6 + G 77 P) (G 78 P) (16 * G 79 P)) := by
      unfold bgS
      rw [e56, if_pos (by omega)]
      exact (hb.beg P0.1).kn_
    have t119 := tS.1.1
    have tl : 46 < t := by omega
    have co2 : CO G c hi' := hco.fr (fun i => by
      rw [hBg.2.2.2.2.2.2.2.2.2.2.2.2.2 46 i (by omega), upI_a (by decide)]
      rcases hk with ⟨-, -, rfl, -⟩ | ⟨-, -, -, -, -, -, -, f9, -⟩
      · rfl
      · exact f9 46 i tl)
    have NX := T69 (np S G P).toNat 0 _ _ c _ _ _ t none none (by omega) (Int.le_refl _) R2 O2 P2 (by rw [Int.add_zero]; exact B2) (by rw [Int.add_zero]; exact hc) co2
    simp only [kon, knt_some, knt_none, Option.toList_some, Option.toList_none, List.cons_append, List.nil_append]
    refine s64_64.mpr (s64_66.mpr (s64_67.mpr ?_))
    exact NX
    )
  rw [e64]
  refine s64_0.mpr ?_
  refine (s64_1 (by first | decide | assumption | omega)).mpr ?_
  refine s64_4.mpr ?_
  try simp (disch := first | decide | assumption | omega) only [kon, knt_some, knt_none, Option.toList_some, Option.toList_none, List.cons_append, List.nil_append, g2, g3, g4, g5, f17, f18, f19, f20, fMul_id]
  refine (s64_5 (by first | decide | assumption | omega) (by first | decide | assumption | omega) (by first | decide | assumption | omega)).mpr ?_
  refine s64_6.mpr (s64_7.mpr ?_)
  refine s64_8.mpr (wif (fun c8 => ?_) (fun c8 => ?_))
  · skip
    exfalso; rw [f17] at c8; cases c8
  · skip
    refine s64_15.mpr (s64_16.mpr ?_)
    refine (s64_17 (by first | decide | assumption | omega)).mpr ?_
    refine s64_20.mpr ?_
    try simp (disch := first | decide | assumption | omega) only [kon, knt_some, knt_none, Option.toList_some, Option.toList_none, List.cons_append, List.nil_append, g2, g3, g4, g5, f17, f18, f19, f20, fMul_id]
    refine (s64_21 (by first | decide | assumption | omega) (by first | decide | assumption | omega) (by first | decide | assumption | omega)).mpr ?_
    try simp (disch := first | decide | assumption | omega) only [kon, knt_some, knt_none, Option.toList_some, Option.toList_none, List.cons_append, List.nil_append, g2, g3, g4, g5, f17, f18, f19, f20, fMul_id]
    refine (s64_22 (by first | decide | assumption | omega) (by first | decide | assumption | omega)).mpr ?_
    refine t_routineAt hM1.1.1 ?_
    simp only [kon, knt_some, knt_none, Option.toList_some, Option.toList_none, List.cons_append, List.nil_append, ero1]
    refine s64_25.mpr (s64_27.mpr ?_)
    refine s64_29.mpr (wif (fun c29 => ?_) (fun c29 => ?_))
    · skip
      exfalso; simp at c29
    · skip
      refine s64_33.mpr (s64_35.mpr ?_)
      refine (s64_36 (by first | decide | assumption | omega)).mpr ?_
      refine s64_39.mpr ?_
      try simp (disch := first | decide | assumption | omega) only [kon, knt_some, knt_none, Option.toList_some, Option.toList_none, List.cons_append, List.nil_append, g2, g3, g4, g5, f17, f18, f19, f20, fMul_id]
      refine (s64_40 (by first | decide | assumption | omega) (by first | decide | assumption | omega) (by first | decide | assumption | omega)).mpr ?_
      refine s64_41.mpr (s64_42.mpr (s64_44.mpr (s64_45.mpr (s64_46.mpr (s64_47.mpr ?_)))))
      try simp (disch := first | decide | assumption | omega) only [kon, knt_some, knt_none, Option.toList_some, Option.toList_none, List.cons_append, List.nil_append, g2, g3, g4, g5, f17, f18, f19, f20, fMul_id]
      refine (s64_48 (by first | decide | assumption | omega)).mpr ?_
      refine s64_51.mpr ?_
      try simp (disch := first | decide | assumption | omega) only [kon, knt_some, knt_none, Option.toList_some, Option.toList_none, List.cons_append, List.nil_append, g2, g3, g4, g5, f17, f18, f19, f20, fMul_id]
      refine (s64_52 (by first | decide | assumption | omega) (by first | decide | assumption | omega) (by first | decide | assumption | omega)).mpr ?_
      refine s64_53.mpr ?_
      try simp (disch := first | decide | assumption | omega) only [kon, knt_some, knt_none, Option.toList_some, Option.toList_none, List.cons_append, List.nil_append, g2, g3, g4, g5, f17, f18, f19, f20, fMul_id]
      refine (s64_54 (by first | decide | assumption | omega)).mpr ?_
      refine s64_57.mpr ?_
      try simp (disch := first | decide | assumption | omega) only [kon, knt_some, knt_none, Option.toList_some, Option.toList_none, List.cons_append, List.nil_append, g2, g3, g4, g5, f17, f18, f19, f20, fMul_id]
      refine (s64_58 (by first | decide | assumption | omega) (by first | decide | assumption | omega) (by first | decide | assumption | omega)).mpr ?_
      refine s64_59.mpr ?_
      try simp (disch := first | decide | assumption | omega) only [kon, knt_some, knt_none, Option.toList_some, Option.toList_none, List.cons_append, List.nil_append, g2, g3, g4, g5, f17, f18, f19, f20, fMul_id]
      refine (s64_61 (by first | decide | assumption | omega) (by first | decide | assumption | omega)).mpr ?_
      exact BG
end CB2
