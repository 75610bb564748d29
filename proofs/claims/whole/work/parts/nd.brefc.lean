/-! BOOT, the reference: begin's channels -/
section BR2
variable {d : Nat} {al : AL} {hi : HI} {hr : HR} {Q : QQ} {S : Int → Option (Int → Int)} {G s1 s h h0 : HI} {n c e : Int}
theorem fDiv_4 {e : Int} (h : 0 ≤ e ∧ e < 24) : fDiv e 4 = e / 4 := by
  have : ∀ k : Fin 24, fDiv (k.val : Int) 4 = (k.val : Int) / 4 := by decide +kernel
  have z := this ⟨e.toNat, by omega⟩
  rw [show ((⟨e.toNat, by omega⟩ : Fin 24).val : Int) = e from Int.toNat_of_nonneg h.1] at z
  exact z
theorem fRem_4 {e : Int} (h : 0 ≤ e ∧ e < 24) : fRem e 4 = e % 4 := by
  have : ∀ k : Fin 24, fRem (k.val : Int) 4 = (k.val : Int) % 4 := by decide +kernel
  have z := this ⟨e.toNat, by omega⟩
  rw [show ((⟨e.toNat, by omega⟩ : Fin 24).val : Int) = e from Int.toNat_of_nonneg h.1] at z
  exact z
def wCh (a : Nat) (_ : Int) : Prop := a = 98 ∨ a = 99 ∨ a = 112 ∨ a = 113 ∨ a = 118
theorem chU_fw {j : Int} (w : FW wCh h0 h) : FW wCh h0 (chU G c e j h) := fun a i z => by
  unfold chU
  rw [chM_o (by unfold wCh at z; omega) (by unfold wCh at z; omega)]
  exact w a i z
theorem r_bgch (hA : SA al) (hR : MR hr) (hd : 2 ≤ d) (hG : GF S G n) (n6 : 1 ≤ n ∧ n ≤ 6) (hgr : GR S h0 G) (q : ∀ h' s', (∀ a i, ceC a i → h' a i = s' a i) → BP S G n n (4 * n) (G 200 0) s1 s' → FW wCh h0 h' → Q (some none) al h' hr) : ∀ (j : Nat) (c : Int) (h s : HI) l2 l3, c + j = G 200 0 → 0 ≤ c → Ag S G (4 * n) c h s → BP S G n n (4 * n) c s1 s → FW wCh h0 h → Wp d 279 256 [vR (some 49), vI c, l2, l3] [] al h hr Q := by
  have kM : isK al 49 13 := hA.k (by decide) (by decide) rfl
  have l56 := SA.len (a := 56) (n := 13) hA (by decide) (by decide) rfl
  have l109 := SA.len (a := 109) (n := 128) hA (by decide) (by decide) rfl
  have l112 := SA.len (a := 112) (n := 24) hA (by decide) (by decide) rfl
  have l114 := SA.len (a := 114) (n := 24) hA (by decide) (by decide) rfl
  have l89 := SA.len (a := 89) (n := 12) hA (by decide) (by decide) rfl
  have l77 := SA.len (a := 77) (n := 6) hA (by decide) (by decide) rfl
  have l78 := SA.len (a := 78) (n := 6) hA (by decide) (by decide) rfl
  have l79 := SA.len (a := 79) (n := 6) hA (by decide) (by decide) rfl
  have l91 := SA.len (a := 91) (n := 12) hA (by decide) (by decide) rfl
  have l64 := SA.len (a := 64) (n := 130) hA (by decide) (by decide) rfl
  have l80 := SA.len (a := 80) (n := 24) hA (by decide) (by decide) rfl
  have l65 := SA.len (a := 65) (n := 520) hA (by decide) (by decide) rfl
  have l85 := SA.len (a := 85) (n := 8) hA (by decide) (by decide) rfl
  have l83 := SA.len (a := 83) (n := 16) hA (by decide) (by decide) rfl
  have l118 := SA.len (a := 118) (n := 24) hA (by decide) (by decide) rfl
  have l82 := SA.len (a := 82) (n := 16) hA (by decide) (by decide) rfl
  have l113 := SA.len (a := 113) (n := 24) hA (by decide) (by decide) rfl
  have l84 := SA.len (a := 84) (n := 16) hA (by decide) (by decide) rfl
  have g8 := hG.2.2.2
  intro j
  induction j with
  | zero =>
    intro c h s l2 l3 hc c0 ha hb hw
    have ec : c = G 200 0 := by omega
    have e49 : h 49 49 = G 200 0 := (hw 49 49 (by unfold wCh; omega)).trans hgr.2.1.1
    have E := q h s (Ag.all hG (ec ▸ ha) n6.2) (ec ▸ hb) hw
    refine s279_256.mpr (s279_257.mpr ?_)
    refine (s279_258 kM).mpr ?_
    try simp (disch := first | decide | assumption | omega) only [e49]
    refine s279_261.mpr (wif (fun c261 => ?_) (fun c261 => ?_))
    · skip
      exfalso; omega
    · skip
      refine (s279_372).mpr ?_
      exact E
  | succ j ih =>
    intro c h s l2 l3 hc c0 ha hb hw
    have e49 : ∀ h', FW wCh h0 h' → h' 49 49 = G 200 0 := fun h' w => (w 49 49 (by unfold wCh; omega)).trans hgr.2.1.1
    obtain ⟨e, he⟩ : ∃ e, G 85 c = e := ⟨_, rfl⟩
    obtain ⟨y1, y2, y3⟩ := hG.ch (c := c) ⟨c0, by omega⟩
    rw [he] at y1 y2 y3
    obtain ⟨d1, d2, d3⟩ := hG.sdd y1 (by omega)
    have e85 : ∀ h', FW wCh h0 h' → h' 85 c = e := fun h' w => ((w 85 c (by unfold wCh; omega)).trans (hgr.2.2 c c0 (by omega))).trans he
    have NX := fun l2 l3 => ih (c + 1) _ _ l2 l3 (by omega) (by omega) (Ag.ch hG ha hb n6.2 ⟨c0, by omega⟩ he) (hb.chb ⟨c0, by omega⟩) (chU_fw (chU_fw hw))
    have ST : ∀ (j : Int) (hx : HI) l3, (j = 0 ∨ j = 1) → FW wCh h0 hx → (∀ l3, Wp d 279 273 [vR (some 49), vI c, vI (2 * e + j + 1), l3] [] al (chU G c e j hx) hr Q) → Wp d 279 273 [vR (some 49), vI c, vI (2 * e + j), l3] [] al hx hr Q := fun j hx l3 hj w NX => by
      obtain ⟨p, k, a1, a2, a3, a4, a5, a6, a7, a8⟩ := hG.us (j := j) y1 (by omega) (by omega)
      obtain ⟨-, -, -, gj⟩ := hgr.1 e y1.1 y1.2
      obtain ⟨g2, g3, g4⟩ := gj j (by omega) (by omega)
      have v2 := (hG.2.2.1 e j y1.1 y1.2 (by omega) (by omega)).2
      have x85 := e85 hx w
      have hs : 0 ≤ G 83 (2 * e + j) ∧ G 83 (2 * e + j) ≤ 1 := by
        rcases hj with rfl | rfl
        · rw [Int.add_zero]; exact d1
        · exact d2
      obtain ⟨ct, hct⟩ : ∃ ct, G 82 (2 * e + j) = ct := ⟨_, rfl⟩
      obtain ⟨sd, hsd⟩ : ∃ sd, G 83 (2 * e + j) = sd := ⟨_, rfl⟩
      have NX := NX
      unfold chU at NX
      rw [a1, hct, hsd, show (4 * p + k) / 4 = p by omega, show (4 * p + k) % 4 = k by omega] at NX
      rw [hct] at v2 g2
      rw [hsd] at hs g3
      rw [a1] at g4
      have x83 : hx 83 (2 * e + j) = sd := (w 83 _ (by unfold wCh; omega)).trans g3
      have x82 : upI hx 112 (2 * c + sd) 0 82 (2 * e + j) = ct := by rw [upI_a (by decide), w 82 _ (by unfold wCh; omega)]; exact g2
      have x84 : ∀ y, upI (upI hx 112 (2 * c + sd) 0) 118 (2 * c + sd) y 84 (2 * e + j) = 4 * p + k := fun y => by rw [upI_a (by decide), upI_a (by decide), w 84 _ (by unfold wCh; omega)]; exact g4
      have x84' : ∀ y z, upI (upI (upI hx 112 (2 * c + sd) 0) 118 (2 * c + sd) y) 113 (2 * c + sd) z 84 (2 * e + j) = 4 * p + k := fun y z => by rw [upI_a (by decide)]; exact x84 y
      have eD : fDiv (4 * p + k) 4 = p := by rw [fDiv_4 (by omega)]; omega
      have eR : fRem (4 * p + k) 4 = k := by rw [fRem_4 (by omega)]; omega
      unfold chM at NX
      have eloc : 26 * (16 * p + 0) + k = 416 * p + k := by omega
      refine s279_273.mpr (s279_274.mpr (s279_275.mpr ((s279_276 kM).mpr ?_)))
      rw [mr_47 hR]
      refine s279_279.mpr ?_
      refine (s279_280 (hA.k (by decide) (by decide) rfl) (by first | assumption | omega) (by first | assumption | omega)).mpr ?_
      refine s279_281.mpr (s279_282.mpr (s279_283.mpr ?_))
      try simp (disch := first | decide | assumption | omega) only [kon, knt_some, knt_none, Option.toList_some, Option.toList_none, List.cons_append, List.nil_append, x85, x83, x82, x84, x84', eD, eR, eloc, fMul_id, fAdd_id]
      refine s279_284.mpr (wif (fun c284 => ?_) (fun c284 => ?_))
      · skip
        refine s279_287.mpr (s279_288.mpr (s279_289.mpr (s279_290.mpr ((s279_291 kM).mpr ?_))))
        rw [mr_45 hR]
        refine s279_294.mpr ?_
        try simp (disch := first | decide | assumption | omega) only [kon, knt_some, knt_none, Option.toList_some, Option.toList_none, List.cons_append, List.nil_append, x85, x83, x82, x84, x84', eD, eR, eloc, fMul_id, fAdd_id]
        refine (s279_295 (hA.k (by decide) (by decide) rfl) (by first | assumption | omega) (by first | assumption | omega)).mpr ?_
        refine s279_296.mpr (s279_297.mpr (s279_298.mpr ((s279_299 kM).mpr ?_)))
        rw [mr_82 hR]
        refine s279_302.mpr (s279_303.mpr ?_)
        try simp (disch := first | decide | assumption | omega) only [kon, knt_some, knt_none, Option.toList_some, Option.toList_none, List.cons_append, List.nil_append, x85, x83, x82, x84, x84', eD, eR, eloc, fMul_id, fAdd_id]
        refine (s279_304 (hA.k (by decide) (by decide) rfl) (by first | assumption | omega) (by first | assumption | omega)).mpr ?_
        refine s279_305.mpr ((s279_306 kM).mpr ?_)
        rw [mr_88 hR]
        refine s279_309.mpr (s279_310.mpr ((s279_311 kM).mpr ?_))
        rw [mr_44 hR]
        refine s279_314.mpr ?_
        try simp (disch := first | decide | assumption | omega) only [kon, knt_some, knt_none, Option.toList_some, Option.toList_none, List.cons_append, List.nil_append, x85, x83, x82, x84, x84', eD, eR, eloc, fMul_id, fAdd_id]
        refine (s279_315 (hA.k (by decide) (by decide) rfl) (by first | assumption | omega) (by first | assumption | omega)).mpr ?_
        refine s279_316.mpr (s279_318.mpr ?_)
        try simp (disch := first | decide | assumption | omega) only [kon, knt_some, knt_none, Option.toList_some, Option.toList_none, List.cons_append, List.nil_append, x85, x83, x82, x84, x84', eD, eR, eloc, fMul_id, fAdd_id]
        refine (s279_319 (hA.k (by decide) (by decide) rfl) (by first | assumption | omega) (by first | assumption | omega)).mpr ?_
        refine s279_320.mpr ((s279_321 kM).mpr ?_)
        rw [mr_83 hR]
        refine s279_324.mpr (s279_325.mpr ((s279_326 kM).mpr ?_))
        rw [mr_46 hR]
        refine s279_329.mpr ?_
        try simp (disch := first | decide | assumption | omega) only [kon, knt_some, knt_none, Option.toList_some, Option.toList_none, List.cons_append, List.nil_append, x85, x83, x82, x84, x84', eD, eR, eloc, fMul_id, fAdd_id]
        refine (s279_330 (hA.k (by decide) (by decide) rfl) (by first | assumption | omega) (by first | assumption | omega)).mpr ?_
        refine s279_331.mpr ?_
        try simp (disch := first | decide | assumption | omega) only [kon, knt_some, knt_none, Option.toList_some, Option.toList_none, List.cons_append, List.nil_append, x85, x83, x82, x84, x84', eD, eR, eloc, fMul_id, fAdd_id]
        refine (s279_332 (by first | assumption | omega)).mpr ?_
        try simp (disch := first | decide | assumption | omega) only [kon, knt_some, knt_none, Option.toList_some, Option.toList_none, List.cons_append, List.nil_append, x85, x83, x82, x84, x84', eD, eR, eloc, fMul_id, fAdd_id]
        refine (s279_333 (hA.k (by decide) (by decide) rfl) (by first | assumption | omega) (by first | assumption | omega)).mpr ?_
        refine s279_334.mpr (s279_335.mpr ((s279_336 kM).mpr ?_))
        rw [mr_46 hR]
        refine s279_339.mpr ?_
        try simp (disch := first | decide | assumption | omega) only [kon, knt_some, knt_none, Option.toList_some, Option.toList_none, List.cons_append, List.nil_append, x85, x83, x82, x84, x84', eD, eR, eloc, fMul_id, fAdd_id]
        refine (s279_340 (hA.k (by decide) (by decide) rfl) (by first | assumption | omega) (by first | assumption | omega)).mpr ?_
        refine s279_341.mpr ?_
        try simp (disch := first | decide | assumption | omega) only [kon, knt_some, knt_none, Option.toList_some, Option.toList_none, List.cons_append, List.nil_append, x85, x83, x82, x84, x84', eD, eR, eloc, fMul_id, fAdd_id]
        refine (s279_342 (by first | assumption | omega)).mpr ?_
        refine s279_343.mpr (s279_344.mpr ((s279_345 kM).mpr ?_))
        rw [mr_46 hR]
        refine s279_348.mpr ?_
        try simp (disch := first | decide | assumption | omega) only [kon, knt_some, knt_none, Option.toList_some, Option.toList_none, List.cons_append, List.nil_append, x85, x83, x82, x84, x84', eD, eR, eloc, fMul_id, fAdd_id]
        refine (s279_349 (hA.k (by decide) (by decide) rfl) (by first | assumption | omega) (by first | assumption | omega)).mpr ?_
        refine s279_350.mpr ?_
        try simp (disch := first | decide | assumption | omega) only [kon, knt_some, knt_none, Option.toList_some, Option.toList_none, List.cons_append, List.nil_append, x85, x83, x82, x84, x84', eD, eR, eloc, fMul_id, fAdd_id]
        refine (s279_351 (by first | assumption | omega)).mpr ?_
        try simp (disch := first | decide | assumption | omega) only [kon, knt_some, knt_none, Option.toList_some, Option.toList_none, List.cons_append, List.nil_append, x85, x83, x82, x84, x84', eD, eR, eloc, fMul_id, fAdd_id]
        refine (s279_352 (by omega)).mpr ?_
        refine r_local (by omega) (by decide) (by omega) ?_
        simp only [kon, knt_some, knt_none, Option.toList_some, Option.toList_none, List.cons_append, List.nil_append]
        refine s279_355.mpr (s279_356.mpr ?_)
        refine (s279_357 (by omega) kM).mpr ?_
        refine r_set hA hR (by omega) ?_
        simp only [kon, knt_some, knt_none, Option.toList_some, Option.toList_none, List.cons_append, List.nil_append]
        refine s279_360.mpr (s279_363.mpr ?_)
        try simp (disch := first | decide | assumption | omega) only [kon, knt_some, knt_none, Option.toList_some, Option.toList_none, List.cons_append, List.nil_append, x85, x83, x82, x84, x84', eD, eR, eloc, fMul_id, fAdd_id]
        exact NX _
      · skip
        exfalso; omega
    have w2 := chU_fw (G := G) (c := c) (e := e) (j := 0) hw
    have w3 := chU_fw (G := G) (c := c) (e := e) (j := 1) w2
    have T2 : ∀ l3, Wp d 279 273 [vR (some 49), vI c, vI (2 * e + 1 + 1), l3] [] al (chU G c e 1 (chU G c e 0 h)) hr Q := fun l3 => by
      have x85 := e85 _ w3
      refine s279_273.mpr (s279_274.mpr (s279_275.mpr ((s279_276 kM).mpr ?_)))
      rw [mr_47 hR]
      refine s279_279.mpr ?_
      refine (s279_280 (hA.k (by decide) (by decide) rfl) (by first | assumption | omega) (by first | assumption | omega)).mpr ?_
      refine s279_281.mpr (s279_282.mpr (s279_283.mpr ?_))
      try simp (disch := first | decide | assumption | omega) only [x85, fMul_id, fAdd_id]
      refine s279_284.mpr (wif (fun c284 => ?_) (fun c284 => ?_))
      · skip
        exfalso; omega
      · skip
        refine s279_366.mpr (s279_369.mpr ?_)
        try simp (disch := first | decide | assumption | omega) only [x85, fMul_id, fAdd_id]
        exact NX _ _
    have T1 := fun l3 => ST 1 _ l3 (Or.inr rfl) w2 T2
    have T0 : ∀ l3, Wp d 279 273 [vR (some 49), vI c, vI (2 * e), l3] [] al h hr Q := fun l3 => by
      have := ST 0 h l3 (Or.inl rfl) hw (fun l3 => by rw [show 2 * e + 0 + 1 = 2 * e + 1 by omega]; exact T1 l3)
      rw [Int.add_zero] at this
      exact this
    have x49 := e49 h hw
    have x85 := e85 h hw
    refine s279_256.mpr (s279_257.mpr ?_)
    refine (s279_258 kM).mpr ?_
    try simp (disch := first | decide | assumption | omega) only [x49, x85, fMul_id]
    refine s279_261.mpr (wif (fun c261 => ?_) (fun c261 => ?_))
    · skip
      refine s279_264.mpr (s279_265.mpr ((s279_266 kM).mpr ?_))
      rw [mr_47 hR]
      refine s279_269.mpr ?_
      refine (s279_270 (hA.k (by decide) (by decide) rfl) (by first | assumption | omega) (by first | assumption | omega)).mpr ?_
      refine s279_271.mpr (s279_272.mpr ?_)
      try simp (disch := first | decide | assumption | omega) only [x49, x85, fMul_id]
      exact T0 _
    · skip
      exfalso; omega
end BR2
