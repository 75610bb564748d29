/-! RUNNING, the reference: a box is made: the method -/
section RM1
variable {d : Nat} {al : AL} {hi : HI} {hr : HR} {Q : QQ} {s : HI} {p : Int}
/-- what is left when the places are found: the box k, its items from f on -/
def MkI (s h0 : HI) (p n c k f j : Int) (h : HI) : Prop := ∃ h1, CmI s h0 p 1025 h1 ∧ FW wSp (upI (upI h1 100 (1025 * p + k) (n + 1)) 101 (1025 * p + k) f) h ∧ (∀ i, i < f → h 105 i = h1 105 i ∧ h 106 i = h1 106 i) ∧ ∀ i, 0 ≤ i → i < j → h 105 (f + i) = 0 ∧ h 106 (f + i) = c
/-- what is left at the end -/
def CpI (h1 : HI) (p j : Int) (h : HI) : Prop := FW (fun a i => (a = 103 ∨ a = 104) ∧ 1024 * p ≤ i ∧ i < 1024 * p + 1024) h1 h ∧ ∀ i, 0 ≤ i → i < j → h 103 (1024 * p + i) = h1 105 i ∧ h 104 (1024 * p + i) = h1 106 i
theorem CpI.st {h1 h : HI} {j : Int} (H : CpI h1 p j h) (j0 : 0 ≤ j ∧ j < 1024) : CpI h1 p (j + 1) (upI (upI h 103 (1024 * p + j) (h 105 j)) 104 (1024 * p + j) (h 106 j)) := by
  refine ⟨(H.1.up ⟨Or.inl rfl, by omega, by omega⟩).up ⟨Or.inr rfl, by omega, by omega⟩, fun i i0 i1 => ?_⟩
  by_cases e : i = j
  · subst e
    rw [upI_a (by decide), upI_eq, upI_eq]
    exact ⟨H.1 105 i (by omega), H.1 106 i (by omega)⟩
  · rw [upI_a (by decide), upI_i (by omega), upI_i (by omega), upI_a (by decide)]
    exact H.2 i i0 (by omega)
theorem frB_s {g : HI} {k : Int} {n : Nat} (h : g 100 (1025 * p + k) > 0) : frB g p (n + 1) k = frB g p n (k + 1) := if_pos h
theorem frB_e {g : HI} {k : Int} {n : Nat} (h : ¬ g 100 (1025 * p + k) > 0) : frB g p (n + 1) k = k := if_neg h
theorem fLc_l {x y : Int} (h : x < y) : fLc x y = -1 := if_pos h
theorem fLc_e {x : Int} : fLc x x = 0 := by unfold fLc; rw [if_neg (by omega), if_pos rfl]
theorem fLc_g {x y : Int} (h : y < x) : fLc x y = 1 := by unfold fLc; rw [if_neg (by omega), if_neg (by omega)]
theorem fLc_le {x y : Int} (h : x ≤ y) : fLc x y ≤ 0 := by unfold fLc; split; decide; rw [if_pos (by omega)]; decide
set_option maxRecDepth 8000 in
theorem r_make {n c : Int} (hA : SA al) (hR : MR hr) (hd : 3 ≤ d) (hE : CE hi s) (hL : LR hi s p) (hB : HBd s p) (hp : AP s p) (h92 : 0 ≤ s 92 p ∧ s 92 p ≤ 1024) (n0 : 0 ≤ n ∧ n ≤ 2147483647)
    (no : ¬ mkF s p n → ∀ hi', FW wNt hi hi' → Q (some (some (vI 0))) al hi' hr)
    (ok : mkF s p n → ∀ h2 hi', (1 ≤ mkB s p ∧ mkB s p ≤ 1024 ∧ ¬ 0 < gcS s p 100 (1025 * p + mkB s p)) → MkI s hi p n c (mkB s p) (cm s p 1025) n h2 → CpI h2 p (cm s p 1025 + n) hi' → Q (some (some (vI (mkB s p)))) al hi' hr) : Ev d 291 [vR (some 49), vI p, vL n, vI c] al hi hr Q := by
  have kM : isK al 49 13 := hA.k (by decide) (by decide) rfl
  obtain ⟨⟨p0, p1⟩, a0, a1⟩ := id hp
  have l92 := SA.len (a := 92) (n := 12) hA (by decide) (by decide) rfl
  have l100 := SA.len (a := 100) (n := 12300) hA (by decide) (by decide) rfl
  have l102 := SA.len (a := 102) (n := 1025) hA (by decide) (by decide) rfl
  have l105 := SA.len (a := 105) (n := 1024) hA (by decide) (by decide) rfl
  have l103 := SA.len (a := 103) (n := 12288) hA (by decide) (by decide) rfl
  have l101 := SA.len (a := 101) (n := 12300) hA (by decide) (by decide) rfl
  have l106 := SA.len (a := 106) (n := 1024) hA (by decide) (by decide) rfl
  have l104 := SA.len (a := 104) (n := 12288) hA (by decide) (by decide) rfl
  obtain ⟨hB1, hB2, hB3⟩ := id hB
  have hS := fun x (h : rch s p x) => (hB2 x h).2
  obtain ⟨R, hRe⟩ : ∃ R : Int, (rsm s p : Int) = R := ⟨_, rfl⟩
  have hrs : 0 ≤ R ∧ R ≤ 1024 * 1024 := by
    have : rsm s p ≤ 1024 * 1024 := by
      unfold rsm
      refine smN_ub (c := 1024) 1024 (fun v hv => ?_)
      by_cases z : rch s p ((v : Int) + 1)
      · rw [cif_y z]; have := (hB1 (v + 1) (by omega) (by omega)).2; omega
      · rw [cif_n z]; exact Nat.zero_le _
    omega
  have w1 : wl (R + n) = R + n := wl_id ⟨by omega, by omega⟩
  have w2 : wl (R + n + 1) = R + n + 1 := wl_id ⟨by omega, by omega⟩
  have hF : mkF s p n ↔ R + n + 1 ≤ s 92 p := by unfold mkF; rw [hRe]
  rw [e291]
  by_cases cf : mkF s p n
  case neg =>
    have R2 : Ev (d - 1) 289 [vR (some 49), vI p] al hi hr (kon d 291 2 5 [vR (some 49), vI p, vL n, none, vI c, none, none, none, none, none] [] Q) := by
      refine r_reach hA hR (by omega) hE hL hB hp (fun h0 w0 hr0 => ?_)
      simp only [kon, knt_some, knt_none, Option.toList_some, Option.toList_none, List.cons_append, List.nil_append, hRe]
      have x92 := hE.nt w0 92 p (by omega)
      have E := no cf h0 w0
      have ef : fLc (R + n + 1) (s 92 p) = 1 := fLc_g (Int.not_le.mp (fun z => cf (hF.mpr z)))
      refine s291_5.mpr (s291_7.mpr (s291_9.mpr (s291_10.mpr (s291_11.mpr (s291_12.mpr ?_)))))
      refine s291_13.mpr (s291_14.mpr ((s291_15 kM).mpr ?_))
      rw [mr_62 hR]
      refine s291_18.mpr ?_
      try simp (disch := first | decide | assumption | omega) only [w1, w2, x92, ef]
      refine (s291_19 (hA.k (by decide) (by decide) rfl) (by first | assumption | omega) (by first | assumption | omega)).mpr ?_
      refine s291_20.mpr (s291_21.mpr ?_)
      try simp (disch := first | decide | assumption | omega) only [w1, w2, x92, ef]
      refine s291_22.mpr (wif (fun c22 => ?_) (fun c22 => ?_))
      · skip
        refine s291_25.mpr ?_
        refine (s291_26).mpr ?_
        exact E
      · skip
        exfalso; omega
    refine s291_0.mpr (s291_1.mpr ?_)
    refine (s291_2 (by omega) kM).mpr ?_
    exact R2
  have hf := hF.mp cf
  obtain ⟨C, hC⟩ : ∃ C, cm s p 1025 = C := ⟨_, rfl⟩
  have hCb : 0 ≤ C ∧ C ≤ R := by rw [← hC, ← hRe]; exact ⟨cm_nn, cm_rsm⟩
  have hCm : ∀ b, b ≤ 1025 → 0 ≤ cm s p b ∧ cm s p b ≤ C := fun b hb => ⟨cm_nn, by rw [← hC]; exact cm_mo hb⟩
  have OK := ok cf
  rw [hC] at OK
  -- back into the heap
  have T306 : ∀ (j9 : Nat) (k j : Int) h1 h l9, j + j9 = C + n → 0 ≤ j → (1 ≤ k ∧ k ≤ 1024 ∧ ¬ 0 < gcS s p 100 (1025 * p + k)) → k = mkB s p → MkI s hi p n c k C n h1 → CpI h1 p j h → Wp d 291 306 [vR (some 49), vI p, vL n, none, vI c, vI R, vI (C + n), vI k, vI j, l9] [] al h hr Q := by
    intro j9
    induction j9 with
    | zero =>
      intro k j h1 h l9 hj j0 hk ek hM hP
      have ej : j = C + n := by omega
      subst ej
      have E := OK h1 h (by rw [← ek]; exact hk) (by rw [← ek]; exact hM) hP
      rw [← ek] at E
      refine s291_306.mpr (s291_308.mpr ?_)
      refine s291_310.mpr (wif (fun c310 => ?_) (fun c310 => ?_))
      · skip
        exfalso; omega
      · skip
        refine s291_359.mpr ?_
        refine (s291_361).mpr ?_
        exact E
    | succ j9 ih =>
      intro k j h1 h l9 hj j0 hk ek hM hP
      have NX := ih k (j + 1) h1 _ l9 (by omega) (by omega) hk ek hM (hP.st ⟨j0, by omega⟩)
      obtain ⟨g, hg⟩ : ∃ g, upI (upI h 103 (1024 * p + j) (h 105 j)) 104 (1024 * p + j) (h 106 j) = g := ⟨_, rfl⟩
      have e6 : ∀ x, upI h 103 (1024 * p + j) x 106 j = h 106 j := fun x => upI_a (by decide)
      rw [hg] at NX
      refine s291_306.mpr (s291_308.mpr ?_)
      refine s291_310.mpr (wif (fun c310 => ?_) (fun c310 => ?_))
      · skip
        refine s291_313.mpr ((s291_314 kM).mpr ?_)
        rw [mr_73 hR]
        refine s291_317.mpr (s291_320.mpr (s291_321.mpr (s291_322.mpr (s291_324.mpr (s291_325.mpr ?_)))))
        refine (s291_326 kM).mpr ?_
        rw [mr_75 hR]
        refine s291_329.mpr ?_
        try simp (disch := first | decide | assumption | omega) only [e6, hg, fAdd_id, fMul_id]
        refine (s291_331 (hA.k (by decide) (by decide) rfl) (by first | assumption | omega) (by first | assumption | omega)).mpr ?_
        try simp (disch := first | decide | assumption | omega) only [e6, hg, fAdd_id, fMul_id]
        refine (s291_332 (hA.k (by decide) (by decide) rfl) (by first | assumption | omega) (by first | assumption | omega)).mpr ?_
        refine s291_333.mpr ((s291_334 kM).mpr ?_)
        rw [mr_74 hR]
        refine s291_337.mpr (s291_340.mpr (s291_341.mpr (s291_342.mpr (s291_344.mpr (s291_345.mpr ?_)))))
        refine (s291_346 kM).mpr ?_
        rw [mr_76 hR]
        refine s291_349.mpr ?_
        try simp (disch := first | decide | assumption | omega) only [e6, hg, fAdd_id, fMul_id]
        refine (s291_351 (hA.k (by decide) (by decide) rfl) (by first | assumption | omega) (by first | assumption | omega)).mpr ?_
        try simp (disch := first | decide | assumption | omega) only [e6, hg, fAdd_id, fMul_id]
        refine (s291_352 (hA.k (by decide) (by decide) rfl) (by first | assumption | omega) (by first | assumption | omega)).mpr ?_
        refine s291_353.mpr (s291_356.mpr ?_)
        try simp (disch := first | decide | assumption | omega) only [e6, hg, fAdd_id, fMul_id]
        exact NX
      · skip
        exfalso; omega
  -- the new items
  have T259 : ∀ (j9 : Nat) (k j : Int) h l9, j + j9 = n → 0 ≤ j → (1 ≤ k ∧ k ≤ 1024 ∧ ¬ 0 < gcS s p 100 (1025 * p + k)) → k = mkB s p → MkI s hi p n c k C j h → Wp d 291 259 [vR (some 49), vI p, vL n, none, vI c, vI R, vI C, vI k, vI j, l9] [] al h hr Q := by
    intro j9
    induction j9 with
    | zero =>
      intro k j h l9 hj j0 hk ek hM
      have ej : j = n := by omega
      subst ej
      have NX := T306 (C + j).toNat k 0 h h l9 (by omega) (Int.le_refl _) hk ek hM ⟨FW.rf, fun i z0 z1 => absurd z1 (by omega)⟩
      have ew : wr j = j := wr_id ⟨by omega, by omega⟩
      refine s291_259.mpr (s291_261.mpr (s291_262.mpr (s291_263.mpr ?_)))
      try simp (disch := first | decide | assumption | omega) only [fLc_e, ew, fAdd_id]
      refine s291_264.mpr (wif (fun c264 => ?_) (fun c264 => ?_))
      · skip
        exfalso; omega
      · skip
        refine s291_296.mpr (s291_298.mpr (s291_299.mpr (s291_300.mpr (s291_301.mpr (s291_303.mpr ?_)))))
        refine s291_304.mpr ?_
        try simp (disch := first | decide | assumption | omega) only [fLc_e, ew, fAdd_id]
        exact NX
    | succ j9 ih =>
      intro k j h l9 hj j0 hk ek hM
      obtain ⟨h1, m1, m2, m3, m4⟩ := hM
      obtain ⟨g, hg⟩ : ∃ g, upI (upI h 105 (C + j) 0) 106 (C + j) c = g := ⟨_, rfl⟩
      have NX := ih k (j + 1) g l9 (by omega) (by omega) hk ek ⟨h1, m1, by rw [← hg]; exact (m2.up (Or.inl rfl)).up (Or.inr rfl), fun i z => by
        rw [← hg, upI_a (by decide), upI_i (by omega), upI_i (by omega), upI_a (by decide)]; exact m3 i z, fun i z0 z1 => by
        rw [← hg, upI_a (by decide)]
        by_cases e : i = j
        · subst e; exact ⟨upI_eq, upI_eq⟩
        · rw [upI_i (by omega), upI_i (by omega), upI_a (by decide)]; exact m4 i z0 (by omega)⟩
      have ef : fLc j n = -1 := fLc_l (by omega)
      refine s291_259.mpr (s291_261.mpr (s291_262.mpr (s291_263.mpr ?_)))
      try simp (disch := first | decide | assumption | omega) only [ef, hg, fAdd_id]
      refine s291_264.mpr (wif (fun c264 => ?_) (fun c264 => ?_))
      · skip
        refine s291_267.mpr ((s291_268 kM).mpr ?_)
        rw [mr_75 hR]
        refine s291_271.mpr (s291_273.mpr (s291_275.mpr (s291_276.mpr ?_)))
        try simp (disch := first | decide | assumption | omega) only [ef, hg, fAdd_id]
        refine (s291_277 (hA.k (by decide) (by decide) rfl) (by first | assumption | omega) (by first | assumption | omega)).mpr ?_
        refine s291_278.mpr ((s291_279 kM).mpr ?_)
        rw [mr_76 hR]
        refine s291_282.mpr (s291_284.mpr (s291_286.mpr (s291_287.mpr ?_)))
        try simp (disch := first | decide | assumption | omega) only [ef, hg, fAdd_id]
        refine (s291_289 (hA.k (by decide) (by decide) rfl) (by first | assumption | omega) (by first | assumption | omega)).mpr ?_
        refine s291_290.mpr (s291_293.mpr ?_)
        try simp (disch := first | decide | assumption | omega) only [ef, hg, fAdd_id]
        exact NX
      · skip
        exfalso; omega
  -- the lowest that is free
  have T202 : ∀ (j9 : Nat) (k : Int) h l8 l9, k + j9 = 1025 → 1 ≤ k → (∀ x, 1 ≤ x → x < k → 0 < gcS s p 100 (1025 * p + x)) → frB (gcS s p) p j9 k = mkB s p → CmI s hi p 1025 h → Wp d 291 202 [vR (some 49), vI p, vL n, none, vI c, vI R, vI C, vI k, l8, l9] [] al h hr Q := by
    intro j9
    induction j9 with
    | zero =>
      intro k h l8 l9 hj k0 hx _ _
      obtain ⟨b, b1, b2, b3⟩ := cf.free h92.2 n0.1 hB
      exact absurd (hx b b1 (by omega)) b3
    | succ j9 ih =>
      intro k h l8 l9 hj k0 hx ek hM
      have x100 : h 100 (1025 * p + k) = gcS s p 100 (1025 * p + k) := (hM.2.2.1 k k0 (by omega)).1 (by omega)
      obtain ⟨G, hG⟩ : ∃ G, gcS s p 100 (1025 * p + k) = G := ⟨_, rfl⟩
      rw [hG] at x100
      by_cases c0 : 0 < G
      · have NX := ih (k + 1) h l8 l9 (by omega) (by omega) (fun x x0 x1 => by
          by_cases e : x = k
          · subst e; rw [hG]; exact c0
          · exact hx x x0 (by omega)) (by rw [← ek, frB_s (by rw [hG]; exact c0)]) hM
        refine s291_202.mpr ((s291_203 kM).mpr ?_)
        rw [mr_70 hR]
        refine s291_206.mpr (s291_209.mpr (s291_210.mpr (s291_211.mpr (s291_213.mpr ?_))))
        try simp (disch := first | decide | assumption | omega) only [x100, fAdd_id, fMul_id]
        refine (s291_214 (hA.k (by decide) (by decide) rfl) (by first | assumption | omega) (by first | assumption | omega)).mpr ?_
        try simp (disch := first | decide | assumption | omega) only [x100, fAdd_id, fMul_id]
        refine s291_215.mpr (wif (fun c215 => ?_) (fun c215 => ?_))
        · first
          | (exfalso; omega)
          | skip
            refine s291_218.mpr (s291_221.mpr ?_)
            try simp (disch := first | decide | assumption | omega) only [x100, fAdd_id, fMul_id]
            exact NX
        · first
          | (exfalso; omega)
          | skip
            exfalso; omega
      · rw [frB_e (by rw [hG]; exact c0)] at ek
        obtain ⟨g, hg⟩ : ∃ g, upI (upI h 100 (1025 * p + k) (n + 1)) 101 (1025 * p + k) C = g := ⟨_, rfl⟩
        have ew : wr n = n := wr_id ⟨by omega, by omega⟩
        have NX := T259 n.toNat k 0 g l9 (by omega) (Int.le_refl _) ⟨k0, by omega, by rw [hG]; exact c0⟩ ek ⟨h, hM, by rw [hg]; exact FW.rf, fun i _ => by rw [← hg, upI_a (by decide), upI_a (by decide), upI_a (by decide), upI_a (by decide)]; exact ⟨rfl, rfl⟩, fun i z0 z1 => absurd z1 (by omega)⟩
        refine s291_202.mpr ((s291_203 kM).mpr ?_)
        rw [mr_70 hR]
        refine s291_206.mpr (s291_209.mpr (s291_210.mpr (s291_211.mpr (s291_213.mpr ?_))))
        try simp (disch := first | decide | assumption | omega) only [x100, ew, hg, fAdd_id, fMul_id]
        refine (s291_214 (hA.k (by decide) (by decide) rfl) (by first | assumption | omega) (by first | assumption | omega)).mpr ?_
        try simp (disch := first | decide | assumption | omega) only [x100, ew, hg, fAdd_id, fMul_id]
        refine s291_215.mpr (wif (fun c215 => ?_) (fun c215 => ?_))
        · first
          | (exfalso; omega)
          | skip
            exfalso; omega
        · first
          | (exfalso; omega)
          | skip
            refine s291_224.mpr ((s291_225 kM).mpr ?_)
            rw [mr_70 hR]
            refine s291_228.mpr (s291_231.mpr (s291_232.mpr (s291_233.mpr (s291_235.mpr (s291_236.mpr ?_)))))
            refine s291_237.mpr (s291_238.mpr (s291_239.mpr ?_))
            try simp (disch := first | decide | assumption | omega) only [x100, ew, hg, fAdd_id, fMul_id]
            refine (s291_240 (hA.k (by decide) (by decide) rfl) (by first | assumption | omega) (by first | assumption | omega)).mpr ?_
            refine s291_241.mpr ((s291_242 kM).mpr ?_)
            rw [mr_71 hR]
            refine s291_245.mpr (s291_248.mpr (s291_249.mpr (s291_250.mpr (s291_252.mpr (s291_253.mpr ?_)))))
            try simp (disch := first | decide | assumption | omega) only [x100, ew, hg, fAdd_id, fMul_id]
            refine (s291_255 (hA.k (by decide) (by decide) rfl) (by first | assumption | omega) (by first | assumption | omega)).mpr ?_
            refine s291_256.mpr (s291_257.mpr ?_)
            try simp (disch := first | decide | assumption | omega) only [x100, ew, hg, fAdd_id, fMul_id]
            exact NX
  -- what is reached stays
  have T33 : ∀ (j9 : Nat) (b : Int) h l8 l9, b + j9 = 1025 → 1 ≤ b → CmI s hi p b h → Wp d 291 33 [vR (some 49), vI p, vL n, none, vI c, vI R, vI (cm s p b), vI b, l8, l9] [] al h hr Q := by
    intro j9
    induction j9 with
    | zero =>
      intro b h l8 l9 hj b0 hM
      have eb : b = 1025 := by omega
      subst eb
      have NX := T202 1024 1 h l8 l9 (by decide) (Int.le_refl _) (fun x x0 x1 => absurd x1 (by omega)) rfl hM
      rw [hC]
      refine s291_33.mpr (s291_35.mpr ?_)
      refine s291_38.mpr (wif (fun c38 => ?_) (fun c38 => ?_))
      · skip
        exfalso; omega
      · skip
        refine s291_199.mpr (s291_200.mpr ?_)
        exact NX
    | succ j9 ih =>
      intro b h l8 l9 hj b0 hM
      have b9 : b ≤ 1024 := by omega
      have hcb := hCm b (by omega)
      have hsz := hB1 b b0 b9
      obtain ⟨x100, x101⟩ := (hM.2.2.1 b b0 b9).2 (Int.le_refl _)
      obtain ⟨S, hSe⟩ : ∃ S, s 100 (1025 * p + b) = S := ⟨_, rfl⟩
      rw [hSe] at x100 hsz
      obtain ⟨q1, q2⟩ := hM.2.1 b b0 b9
      by_cases hb : rch s p b
      · have x102 : h 102 b = 1 := q2.mpr hb
        have hS0 : 0 < S := by rw [← hSe]; exact hS b hb
        obtain ⟨⟨f0, f1⟩, fc⟩ := hL.1 b b0 b9 (by rw [hSe]; exact hS0)
        obtain ⟨fr, hfr⟩ : ∃ fr, hi 101 (1025 * p + b) = fr := ⟨_, rfl⟩
        rw [hfr, hSe] at f1
        rw [hfr] at f0 fc x101
        have ecm := cm_y b0 hb (hS b hb)
        rw [hSe] at ecm
        have hcb' := hCm (b + 1) (by omega)
        obtain ⟨M, hMe⟩ : ∃ M, cm s p b = M := ⟨_, rfl⟩
        rw [ecm, hMe] at hcb'
        rw [hMe] at hcb
        have T88 : ∀ (i9 : Nat) (i : Int) g, i + i9 = S - 1 → 0 ≤ i → FW wSp h g → (∀ y, y < M → g 105 y = h 105 y ∧ g 106 y = h 106 y) → (∀ y, 0 ≤ y → y < i → g 105 (M + y) = s 300 (hx p b y) ∧ g 106 (M + y) = s 301 (hx p b y)) → Wp d 291 88 [vR (some 49), vI p, vL n, none, vI c, vI R, vI M, vI b, vI (1025 * p + b), vI i] [] al g hr Q := by
          intro i9
          induction i9 with
          | zero =>
            intro i g hi9 i0 w e5 e6
            have g100 : g 100 (1025 * p + b) = S := (w 100 _ (by unfold wSp; omega)).trans x100
            have NX := fun l8 l9 => ih (b + 1) _ l8 l9 (by omega) (by omega) (hM.y ⟨b0, b9⟩ hb hS w (fun y hy => e5 y (by rw [← hMe]; exact hy)) (fun y y0 y1 => by rw [hMe]; exact e6 y y0 (by rw [hSe] at y1; omega)))
            rw [hMe, ecm, hMe] at NX
            have g100' : ∀ x, upI g 101 (1025 * p + b) x 100 (1025 * p + b) = S := fun x => by rw [upI_a (by decide)]; exact g100
            refine s291_88.mpr (s291_90.mpr ((s291_91 kM).mpr ?_))
            rw [mr_70 hR]
            refine s291_94.mpr ?_
            refine (s291_96 (hA.k (by decide) (by decide) rfl) (by first | assumption | omega) (by first | assumption | omega)).mpr ?_
            refine s291_97.mpr (s291_98.mpr ?_)
            try simp (disch := first | decide | assumption | omega) only [g100, g100', fAdd_id, fSub_id]
            refine s291_99.mpr (wif (fun c99 => ?_) (fun c99 => ?_))
            · skip
              exfalso; omega
            · skip
              refine s291_170.mpr ((s291_171 kM).mpr ?_)
              rw [mr_71 hR]
              refine s291_174.mpr (s291_176.mpr ?_)
              refine (s291_178 (hA.k (by decide) (by decide) rfl) (by first | assumption | omega) (by first | assumption | omega)).mpr ?_
              refine s291_179.mpr (s291_181.mpr ((s291_182 kM).mpr ?_))
              rw [mr_70 hR]
              refine s291_185.mpr ?_
              try simp (disch := first | decide | assumption | omega) only [g100, g100', fAdd_id, fSub_id]
              refine (s291_187 (hA.k (by decide) (by decide) rfl) (by first | assumption | omega) (by first | assumption | omega)).mpr ?_
              refine s291_188.mpr (s291_189.mpr (s291_190.mpr (s291_191.mpr (s291_193.mpr (s291_196.mpr ?_)))))
              try simp (disch := first | decide | assumption | omega) only [g100, g100', fAdd_id, fSub_id]
              exact NX _ _
          | succ i9 ihi =>
            intro i g hi9 i0 w e5 e6
            have g100 : g 100 (1025 * p + b) = S := (w 100 _ (by unfold wSp; omega)).trans x100
            have g101 : g 101 (1025 * p + b) = fr := (w 101 _ (by unfold wSp; omega)).trans x101
            obtain ⟨y3, y4⟩ := fc i i0 (by rw [hSe]; omega)
            have g103 : g 103 (1024 * p + fr + i) = s 300 (hx p b i) := (w 103 _ (by unfold wSp; omega)).trans ((hM.2.2.2.2 _).1.trans y3)
            have g104 : g 104 (1024 * p + fr + i) = s 301 (hx p b i) := (w 104 _ (by unfold wSp; omega)).trans ((hM.2.2.2.2 _).2.trans y4)
            obtain ⟨v, hv⟩ : ∃ v, s 300 (hx p b i) = v := ⟨_, rfl⟩
            obtain ⟨z, hz⟩ : ∃ z, s 301 (hx p b i) = z := ⟨_, rfl⟩
            rw [hv] at g103
            rw [hz] at g104
            have u100 : ∀ x, upI g 105 (M + i) x 100 (1025 * p + b) = S := fun x => by rw [upI_a (by decide)]; exact g100
            have u101 : ∀ x, upI g 105 (M + i) x 101 (1025 * p + b) = fr := fun x => by rw [upI_a (by decide)]; exact g101
            have u104 : ∀ x, upI g 105 (M + i) x 104 (1024 * p + fr + i) = z := fun x => by rw [upI_a (by decide)]; exact g104
            obtain ⟨g2, hg2⟩ : ∃ g2, upI (upI g 105 (M + i) v) 106 (M + i) z = g2 := ⟨_, rfl⟩
            have NX := ihi (i + 1) g2 (by omega) (by omega) (by rw [← hg2]; exact (w.up (Or.inl rfl)).up (Or.inr rfl)) (fun y hy => by rw [← hg2, upI_a (by decide), upI_i (by omega), upI_i (by omega), upI_a (by decide)]; exact e5 y hy) (fun y y0 y1 => by
              rw [← hg2, upI_a (by decide)]
              by_cases e : y = i
              · subst e; exact ⟨upI_eq.trans hv.symm, upI_eq.trans hz.symm⟩
              · rw [upI_i (by omega), upI_i (by omega), upI_a (by decide)]; exact e6 y y0 (by omega))
            refine s291_88.mpr (s291_90.mpr ((s291_91 kM).mpr ?_))
            rw [mr_70 hR]
            refine s291_94.mpr ?_
            refine (s291_96 (hA.k (by decide) (by decide) rfl) (by first | assumption | omega) (by first | assumption | omega)).mpr ?_
            refine s291_97.mpr (s291_98.mpr ?_)
            try simp (disch := first | decide | assumption | omega) only [g100, g101, g103, g104, u100, u101, u104, hg2, fAdd_id, fSub_id, fMul_id]
            refine s291_99.mpr (wif (fun c99 => ?_) (fun c99 => ?_))
            · skip
              refine s291_102.mpr ((s291_103 kM).mpr ?_)
              rw [mr_75 hR]
              refine s291_106.mpr (s291_108.mpr (s291_110.mpr (s291_111.mpr ((s291_112 kM).mpr ?_))))
              rw [mr_73 hR]
              refine s291_115.mpr (s291_118.mpr (s291_119.mpr (s291_120.mpr ((s291_121 kM).mpr ?_))))
              rw [mr_71 hR]
              refine s291_124.mpr ?_
              try simp (disch := first | decide | assumption | omega) only [g100, g101, g103, g104, u100, u101, u104, hg2, fAdd_id, fSub_id, fMul_id]
              refine (s291_126 (hA.k (by decide) (by decide) rfl) (by first | assumption | omega) (by first | assumption | omega)).mpr ?_
              refine s291_127.mpr (s291_128.mpr (s291_130.mpr ?_))
              try simp (disch := first | decide | assumption | omega) only [g100, g101, g103, g104, u100, u101, u104, hg2, fAdd_id, fSub_id, fMul_id]
              refine (s291_131 (hA.k (by decide) (by decide) rfl) (by first | assumption | omega) (by first | assumption | omega)).mpr ?_
              try simp (disch := first | decide | assumption | omega) only [g100, g101, g103, g104, u100, u101, u104, hg2, fAdd_id, fSub_id, fMul_id]
              refine (s291_132 (hA.k (by decide) (by decide) rfl) (by first | assumption | omega) (by first | assumption | omega)).mpr ?_
              refine s291_133.mpr ((s291_134 kM).mpr ?_)
              rw [mr_76 hR]
              refine s291_137.mpr (s291_139.mpr (s291_141.mpr (s291_142.mpr ((s291_143 kM).mpr ?_))))
              rw [mr_74 hR]
              refine s291_146.mpr (s291_149.mpr (s291_150.mpr (s291_151.mpr ((s291_152 kM).mpr ?_))))
              rw [mr_71 hR]
              refine s291_155.mpr ?_
              try simp (disch := first | decide | assumption | omega) only [g100, g101, g103, g104, u100, u101, u104, hg2, fAdd_id, fSub_id, fMul_id]
              refine (s291_157 (hA.k (by decide) (by decide) rfl) (by first | assumption | omega) (by first | assumption | omega)).mpr ?_
              refine s291_158.mpr (s291_159.mpr (s291_161.mpr ?_))
              try simp (disch := first | decide | assumption | omega) only [g100, g101, g103, g104, u100, u101, u104, hg2, fAdd_id, fSub_id, fMul_id]
              refine (s291_162 (hA.k (by decide) (by decide) rfl) (by first | assumption | omega) (by first | assumption | omega)).mpr ?_
              try simp (disch := first | decide | assumption | omega) only [g100, g101, g103, g104, u100, u101, u104, hg2, fAdd_id, fSub_id, fMul_id]
              refine (s291_163 (hA.k (by decide) (by decide) rfl) (by first | assumption | omega) (by first | assumption | omega)).mpr ?_
              refine s291_164.mpr (s291_167.mpr ?_)
              try simp (disch := first | decide | assumption | omega) only [g100, g101, g103, g104, u100, u101, u104, hg2, fAdd_id, fSub_id, fMul_id]
              exact NX
            · skip
              exfalso; omega
        have NX := T88 (S - 1).toNat 0 h (by omega) (Int.le_refl _) FW.rf (fun _ _ => ⟨rfl, rfl⟩) (fun y z0 z1 => absurd z1 (by omega))
        rw [hMe]
        refine s291_33.mpr (s291_35.mpr ?_)
        refine s291_38.mpr (wif (fun c38 => ?_) (fun c38 => ?_))
        · first
          | (exfalso; omega)
          | skip
            refine s291_41.mpr (s291_44.mpr (s291_45.mpr (s291_46.mpr (s291_48.mpr (s291_49.mpr ?_)))))
            refine s291_51.mpr ((s291_52 kM).mpr ?_)
            rw [mr_70 hR]
            refine s291_55.mpr ?_
            try simp (disch := first | decide | assumption | omega) only [x100, x102, fAdd_id, fMul_id]
            refine (s291_57 (hA.k (by decide) (by decide) rfl) (by first | assumption | omega) (by first | assumption | omega)).mpr ?_
            try simp (disch := first | decide | assumption | omega) only [x100, x102, fAdd_id, fMul_id]
            refine s291_58.mpr (wif (fun c58 => ?_) (fun c58 => ?_))
            · first
              | (exfalso; omega)
              | skip
                exfalso; omega
            · first
              | (exfalso; omega)
              | skip
                refine s291_64.mpr ((s291_65 kM).mpr ?_)
                rw [mr_72 hR]
                refine s291_68.mpr ?_
                refine (s291_70Z (hA.k (by decide) (by decide) rfl) (by first | assumption | omega) (by first | assumption | omega)).mpr ?_
                try simp (disch := first | decide | assumption | omega) only [x100, x102, fAdd_id, fMul_id]
                refine s291_71.mpr (wif (fun c71 => ?_) (fun c71 => ?_))
                · first
                  | (exfalso; omega)
                  | skip
                    exact absurd ‹(1 : Int) = 0› (by decide)
                · first
                  | (exfalso; omega)
                  | skip
                    refine s291_85.mpr (s291_86.mpr ?_)
                    exact NX
        · first
          | (exfalso; omega)
          | skip
            exfalso; omega
      · have x102 : h 102 b = 0 := by
          rcases q1 with z | z
          · exact z
          · exact absurd (q2.mp z) hb
        by_cases cS : S = 0
        · have NX := ih (b + 1) h (vI (1025 * p + b)) l9 (by omega) (by omega) (hM.no b0 hb (by rw [x100]; exact cS))
          rw [cm_n b0 hb] at NX
          subst cS
          refine s291_33.mpr (s291_35.mpr ?_)
          refine s291_38.mpr (wif (fun c38 => ?_) (fun c38 => ?_))
          · first
            | (exfalso; omega)
            | skip
              refine s291_41.mpr (s291_44.mpr (s291_45.mpr (s291_46.mpr (s291_48.mpr (s291_49.mpr ?_)))))
              refine s291_51.mpr ((s291_52 kM).mpr ?_)
              rw [mr_70 hR]
              refine s291_55.mpr ?_
              try simp (disch := first | decide | assumption | omega) only [x100, x102, fAdd_id, fMul_id]
              refine (s291_57 (hA.k (by decide) (by decide) rfl) (by first | assumption | omega) (by first | assumption | omega)).mpr ?_
              try simp (disch := first | decide | assumption | omega) only [x100, x102, fAdd_id, fMul_id]
              refine s291_58.mpr (wif (fun c58 => ?_) (fun c58 => ?_))
              · first
                | (exfalso; omega)
                | skip
                  refine s291_61.mpr (s291_193.mpr (s291_196.mpr ?_))
                  try simp (disch := first | decide | assumption | omega) only [x100, x102, fAdd_id, fMul_id]
                  exact NX
              · first
                | (exfalso; omega)
                | skip
                  exact absurd ‹_› (by decide)
          · first
            | (exfalso; omega)
            | skip
              exfalso; omega
        · have NX := ih (b + 1) _ (vI (1025 * p + b)) l9 (by omega) (by omega) (hM.z ⟨b0, b9⟩ hb)
          rw [cm_n b0 hb] at NX
          refine s291_33.mpr (s291_35.mpr ?_)
          refine s291_38.mpr (wif (fun c38 => ?_) (fun c38 => ?_))
          · first
            | (exfalso; omega)
            | skip
              refine s291_41.mpr (s291_44.mpr (s291_45.mpr (s291_46.mpr (s291_48.mpr (s291_49.mpr ?_)))))
              refine s291_51.mpr ((s291_52 kM).mpr ?_)
              rw [mr_70 hR]
              refine s291_55.mpr ?_
              try simp (disch := first | decide | assumption | omega) only [x100, x102, fAdd_id, fMul_id]
              refine (s291_57 (hA.k (by decide) (by decide) rfl) (by first | assumption | omega) (by first | assumption | omega)).mpr ?_
              try simp (disch := first | decide | assumption | omega) only [x100, x102, fAdd_id, fMul_id]
              refine s291_58.mpr (wif (fun c58 => ?_) (fun c58 => ?_))
              · first
                | (exfalso; omega)
                | skip
                  exfalso; omega
              · first
                | (exfalso; omega)
                | skip
                  refine s291_64.mpr ((s291_65 kM).mpr ?_)
                  rw [mr_72 hR]
                  refine s291_68.mpr ?_
                  refine (s291_70Z (hA.k (by decide) (by decide) rfl) (by first | assumption | omega) (by first | assumption | omega)).mpr ?_
                  try simp (disch := first | decide | assumption | omega) only [x100, x102, fAdd_id, fMul_id]
                  refine s291_71.mpr (wif (fun c71 => ?_) (fun c71 => ?_))
                  · first
                    | (exfalso; omega)
                    | skip
                      refine s291_74.mpr ((s291_75 kM).mpr ?_)
                      rw [mr_70 hR]
                      refine s291_78.mpr (s291_80.mpr ?_)
                      refine (s291_81 (hA.k (by decide) (by decide) rfl) (by first | assumption | omega) (by first | assumption | omega)).mpr ?_
                      refine s291_82.mpr (s291_193.mpr (s291_196.mpr ?_))
                      try simp (disch := first | decide | assumption | omega) only [x100, x102, fAdd_id, fMul_id]
                      exact NX
                  · first
                    | (exfalso; omega)
                    | skip
                      exfalso; omega
          · first
            | (exfalso; omega)
            | skip
              exfalso; omega
  have R2 : Ev (d - 1) 289 [vR (some 49), vI p] al hi hr (kon d 291 2 5 [vR (some 49), vI p, vL n, none, vI c, none, none, none, none, none] [] Q) := by
    refine r_reach hA hR (by omega) hE hL hB hp (fun h0 w0 hr0 => ?_)
    simp only [kon, knt_some, knt_none, Option.toList_some, Option.toList_none, List.cons_append, List.nil_append, hRe]
    have x92 := hE.nt w0 92 p (by omega)
    have NX := fun l8 l9 => T33 1024 1 h0 l8 l9 (by decide) (Int.le_refl _) ⟨w0.mn (by intro a i z; unfold wNt at z; unfold wMk; omega), hr0, fun x x1 x2 => ⟨fun z => absurd z (by omega), fun _ => ⟨hE.nt w0 100 _ (by omega), w0 101 _ (by unfold wNt; omega)⟩⟩, fun x x1 x2 => absurd x2 (by omega), fun i => ⟨w0 103 i (by unfold wNt; omega), w0 104 i (by unfold wNt; omega)⟩⟩
    rw [cm_1] at NX
    have ef : fLc (R + n + 1) (s 92 p) ≤ 0 := fLc_le hf
    obtain ⟨x, hx⟩ : ∃ x, fLc (R + n + 1) (s 92 p) = x := ⟨_, rfl⟩
    rw [hx] at ef
    refine s291_5.mpr (s291_7.mpr (s291_9.mpr (s291_10.mpr (s291_11.mpr (s291_12.mpr ?_)))))
    refine s291_13.mpr (s291_14.mpr ((s291_15 kM).mpr ?_))
    rw [mr_62 hR]
    refine s291_18.mpr ?_
    try simp (disch := first | decide | assumption | omega) only [w1, w2, x92, hx]
    refine (s291_19 (hA.k (by decide) (by decide) rfl) (by first | assumption | omega) (by first | assumption | omega)).mpr ?_
    refine s291_20.mpr (s291_21.mpr ?_)
    try simp (disch := first | decide | assumption | omega) only [w1, w2, x92, hx]
    refine s291_22.mpr (wif (fun c22 => ?_) (fun c22 => ?_))
    · skip
      exfalso; omega
    · skip
      refine s291_27.mpr (s291_28.mpr (s291_30.mpr (s291_31.mpr ?_)))
      exact NX _ _
  refine s291_0.mpr (s291_1.mpr ?_)
  refine (s291_2 (by omega) kM).mpr ?_
  exact R2
end RM1
