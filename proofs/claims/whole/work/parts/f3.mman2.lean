/-! MANIFESTS: the reference's manifest -/
section MN2
variable {d : Nat} {al : AL} {hi : HI} {hr : HR} {Q : QQ} {B Bm : Int → Int} {S : Int → Option (Int → Int)} {G : HI}
noncomputable def finM (n : Int) (s : Int × HI) : Mx := if s.1 < n then .error (1, s.1) else cif (∃ e, 0 ≤ e ∧ e < 8 ∧ s.2 81 e = 1) (.error (6, s.1)) (.ok s)
/-- what the reference has of a manifest -/
def MnP (S : Int → Option (Int → Int)) (h G : HI) (p : Int) : Prop := ∀ p', 0 ≤ p' → p' < p → h 77 p' = G 77 p' ∧ h 78 p' = G 78 p' ∧ h 79 p' = G 79 p' ∧ (∀ b, S (G 77 p') = some b → 0 ≤ G 78 p' ∧ G 78 p' < nFn b) ∧ ∀ b k, S (G 77 p') = some b → 0 ≤ k → k < nPar b (G 78 p') → pTy b (G 78 p') k = 0 → h 80 (4 * p' + k) = G 80 (4 * p' + k)
def wMa (a : Nat) (i : Int) : Prop := (a = 49 ∧ (i = 22 ∨ i = 23 ∨ i = 26 ∨ i = 48 ∨ i = 49)) ∨ (77 ≤ a ∧ a ≤ 86)
theorem wMa_n {h h' : HI} (w : FW wMn h h') : FW wMa h h' := w.mn (fun a i z => by unfold wMn at z; unfold wMa; omega)
theorem wMa_e {h h' : HI} (w : FW wMe h h') : FW wMa h h' := w.mn (fun a i z => by unfold wMe wMn at z; unfold wMa; omega)
/-- the ghost's parts that a parameter leaves -/
theorem prm_g {p m f k : Int} {s s' : Int × HI} (h : prmP S B Bm p m f k s = .ok s') : (∀ a i, a ≤ 79 → s'.2 a i = s.2 a i) ∧ ∀ i, i ≠ 4 * p + k → s'.2 80 i = s.2 80 i := by
  unfold prmP at h
  split at h
  · split at h
    · cases h
    · split at h
      · cases h
      · split at h
        · cases h
        · split at h
          · cases h
          · cases h
            exact ⟨fun a i z => upI_a (by omega), fun i z => upI_i z⟩
  · split at h
    · cases h
    · by_cases c : fitG S s.2 (B s.1) (4 * m + whichM (pTy Bm f k)) (sideM (pTy Bm f k))
      · rw [cif_y c] at h
        cases h
        refine ⟨fun a i z => ?_, fun i z => ?_⟩
        · show useG _ _ _ _ _ a i = _
          unfold useG
          rw [upI_a (by omega), upI_a (by omega), upI_a (by omega), upI_a (by omega), upI_a (by omega), ord_a (by omega) (by omega)]
        · show useG _ _ _ _ _ 80 i = _
          unfold useG
          rw [upI_i z, upI_a (by decide), upI_a (by decide), upI_a (by decide), upI_a (by decide), ord_a (by decide) (by decide)]
      · rw [cif_n c] at h; cases h
theorem GR.lo {h G' : HI} (H : GR S h G) (hg : ∀ a i, 81 ≤ a → G' a i = G a i) : GR S h G' := by
  unfold GR at H ⊢
  simp only [hg 81 _ (by decide), hg 82 _ (by decide), hg 83 _ (by decide), hg 84 _ (by decide), hg 85 _ (by decide), hg 200 _ (by decide)]
  exact H
theorem GV.lo {G' : HI} (H : GV S G) (hg : ∀ a i, 81 ≤ a → G' a i = G a i) : GV S G' := by
  unfold GV at H ⊢
  simp only [hg 81 _ (by decide), hg 82 _ (by decide), hg 83 _ (by decide)]
  exact H
set_option maxRecDepth 8000 in
theorem m_manifest {n : Int} (hA : SA al) (hR : MR hr) (hd : 42 ≤ d) (hPT : PT hi) (hB : bAt hi 12 = B) (h26 : hi 49 26 = 0) (h52 : hi 52 12 = n) (hSh : MSh hi S) (hsh : ∀ m, 0 ≤ m → m < 6 → hi 56 m = 0 ∨ hi 56 m = 1) (hp86 : ∀ i : Int, 0 ≤ i → i < 2304 → True)
    (ok : ∀ q G hi', manP S B n = .ok (q, G) → FW wMa hi hi' → hi' 49 48 = B 2 → GR S hi' G → GV S G → MnP S hi' G (B 2) → (∀ i : Int, 0 ≤ i → i < 2304 → True) → hi' 49 22 = hi 49 22 → hi' 49 23 = hi 49 23 → Q (some none) al hi' hr)
    (er : ∀ w q hi', manP S B n = .error (w, q) → FW wMa hi hi' → hi' 49 22 = w → hi' 49 23 = q → Q none al hi' hr) : Ev d 273 [vR (some 49)] al hi hr Q := by
  have kM : isK al 49 13 := hA.k (by decide) (by decide) rfl
  obtain ⟨t27, t52, t26, t26'⟩ := id hPT
  have l81 := SA.len (a := 81) (n := 8) hA (by decide) (by decide) rfl
  have l55 := SA.len (a := 55) (n := 13) hA (by decide) (by decide) rfl
  have l77 := SA.len (a := 77) (n := 6) hA (by decide) (by decide) rfl
  have l78 := SA.len (a := 78) (n := 6) hA (by decide) (by decide) rfl
  have l79 := SA.len (a := 79) (n := 6) hA (by decide) (by decide) rfl
  have l64 := SA.len (a := 64) (n := 130) hA (by decide) (by decide) rfl
  have l52 := SA.len (a := 52) (n := 13) hA (by decide) (by decide) rfl
  have hle : ∀ {i : Int}, 0 ≤ B i → i + 1 ≤ 2000 := fun h => by rw [← hB] at h; exact bAt_le t52 h
  have h255 : ∀ i, B i ≤ 255 := fun i => by rw [← hB]; exact (bAt_rng 12 _).2
  have hPTw : ∀ {h : HI} {q' : Int}, FW wMa hi h → 0 ≤ q' → q' ≤ 2000 → h 49 26 = q' → PT h := fun w z1 z2 z3 => ⟨(w 49 27 (by unfold wMa; omega)).trans t27, by rw [w 52 12 (by unfold wMa; omega)]; exact t52, by omega, by omega⟩
  have hBw : ∀ {h : HI}, FW wMa hi h → bAt h 12 = B := fun w => (w.B (fun i => by unfold wMa; omega) (fun i => by unfold wMa; omega)).trans hB
  have hShw : ∀ {h : HI}, FW wMa hi h → MSh h S := fun w => hSh.fr (fun a i z1 z2 => w a i (by unfold wMa; omega))
  have hshw : ∀ {h : HI}, FW wMa hi h → ∀ m, 0 ≤ m → m < 6 → h 56 m = 0 ∨ h 56 m = 1 := fun w m z1 z2 => by rw [w 56 m (by unfold wMa; omega)]; exact hsh m z1 z2
  have wfl : ∀ {h : HI} {w q' : Int}, FW wMa hi h → FW wMa hi (fl1 h w q') := fun w => (w.up (Or.inl ⟨rfl, Or.inl rfl⟩)).up (Or.inl ⟨rfl, Or.inr (Or.inl rfl)⟩)
  have ER : ∀ w q h, manP S B n = .error (w, q) → FW wMa hi h → Q none al (fl1 h w q) hr := fun w q h e z => er w q _ e (wfl z) (by show upI (upI h 49 22 w) 49 23 q 49 22 = w; rw [upI_i (by decide), upI_eq]) upI_eq
  -- behind the processes
  have T203 : ∀ q G h l1 l2 l3 l4, manP S B n = finM n (q, G) → FW wMa hi h → h 49 26 = q → 0 ≤ q → q ≤ 2000 → h 49 48 = B 2 → GR S h G → GV S G → MnP S h G (B 2) → (∀ i : Int, 0 ≤ i → i < 2304 → True) → h 49 22 = hi 49 22 → h 49 23 = hi 49 23 → Wp d 273 203 [vR (some 49), l1, l2, l3, l4] [] al h hr Q := by
    intro q G h l1 l2 l3 l4 hm w e26 q0 q1 e48 gr gv gp g86 g22 g23
    have e52 : h 52 12 = n := (w 52 12 (by unfold wMa; omega)).trans h52
    by_cases cn : q < n
    · have E := ER 1 q h (by rw [hm]; unfold finM; rw [if_pos cn]) w
      refine s273_203.mpr ?_
      refine (s273_204 kM).mpr ?_
      refine s273_207.mpr ((s273_208 kM).mpr ?_)
      rw [mr_4 hR]
      refine s273_211.mpr ?_
      try simp (disch := first | decide | assumption | omega) only [e26, e52]
      refine (s273_213 (hA.k (by decide) (by decide) rfl) (by first | assumption | omega) (by first | assumption | omega)).mpr ?_
      try simp (disch := first | decide | assumption | omega) only [e26, e52]
      refine s273_214.mpr (wif (fun c214 => ?_) (fun c214 => ?_))
      · skip
        refine s273_217.mpr (s273_218.mpr (s273_219.mpr ?_))
        refine (s273_220 kM).mpr ?_
        try simp (disch := first | decide | assumption | omega) only [e26, e52]
        refine (s273_223 (by omega) kM).mpr ?_
        refine (m_fails hA hR).mpr ?_
        show tho 273 = true ∧ Q none _ _ _
        refine ⟨rfl, ?_⟩
        exact E
      · skip
        exfalso; omega
    · have hm : manP S B n = cif (∃ e, 0 ≤ e ∧ e < 8 ∧ G 81 e = 1) (.error (6, q)) (.ok (q, G)) := by rw [hm]; unfold finM; rw [if_neg cn]
      have T228 : ∀ (i : Nat) (e : Int), e + i = 8 → 0 ≤ e → (∀ e', 0 ≤ e' → e' < e → G 81 e' ≠ 1) → Wp d 273 228 [vR (some 49), vI e, l2, l3, l4] [] al h hr Q := by
        intro i
        induction i with
        | zero =>
          intro e he e0 hall
          have E := ok q G h (by rw [hm, cif_n]; rintro ⟨e', z1, z2, z3⟩; exact hall e' z1 (by omega) z3) w e48 gr gv gp g86 g22 g23
          refine s273_228.mpr (s273_229.mpr ?_)
          refine s273_231.mpr (wif (fun c231 => ?_) (fun c231 => ?_))
          · skip
            exfalso; omega
          · skip
            refine (s273_260).mpr ?_
            exact E
        | succ i ih =>
          intro e he e0 hall
          have e81 : h 81 e = G 81 e := (gr.1 e e0 (by omega)).1
          by_cases c : G 81 e = 1
          · have E := ER 6 q h (by rw [hm, cif_y ⟨e, e0, by omega, c⟩]) w
            refine s273_228.mpr (s273_229.mpr ?_)
            refine s273_231.mpr (wif (fun c231 => ?_) (fun c231 => ?_))
            · skip
              refine s273_234.mpr ((s273_235 kM).mpr ?_)
              rw [mr_43 hR]
              refine s273_238.mpr ?_
              refine (s273_239 (hA.k (by decide) (by decide) rfl) (by first | assumption | omega) (by first | assumption | omega)).mpr ?_
              refine s273_240.mpr ?_
              try simp (disch := first | decide | assumption | omega) only [e81, e26]
              refine s273_241.mpr (wif (fun c241 => ?_) (fun c241 => ?_))
              · skip
                refine s273_244.mpr (s273_245.mpr (s273_247.mpr ?_))
                refine (s273_248 kM).mpr ?_
                try simp (disch := first | decide | assumption | omega) only [e81, e26]
                refine (s273_251 (by omega) kM).mpr ?_
                refine (m_fails hA hR).mpr ?_
                show tho 273 = true ∧ Q none _ _ _
                refine ⟨rfl, ?_⟩
                exact E
              · skip
                exfalso; omega
            · skip
              exfalso; omega
          · have NX := ih (e + 1) (by omega) (by omega) (fun e' z1 z2 => by
              by_cases z : e' = e
              · subst z; exact c
              · exact hall e' z1 (by omega))
            refine s273_228.mpr (s273_229.mpr ?_)
            refine s273_231.mpr (wif (fun c231 => ?_) (fun c231 => ?_))
            · skip
              refine s273_234.mpr ((s273_235 kM).mpr ?_)
              rw [mr_43 hR]
              refine s273_238.mpr ?_
              refine (s273_239 (hA.k (by decide) (by decide) rfl) (by first | assumption | omega) (by first | assumption | omega)).mpr ?_
              refine s273_240.mpr ?_
              try simp (disch := first | decide | assumption | omega) only [e81, fAdd_id]
              refine s273_241.mpr (wif (fun c241 => ?_) (fun c241 => ?_))
              · skip
                exfalso; omega
              · skip
                refine s273_254.mpr (s273_257.mpr ?_)
                try simp (disch := first | decide | assumption | omega) only [e81, fAdd_id]
                exact NX
            · skip
              exfalso; omega
      refine s273_203.mpr ?_
      refine (s273_204 kM).mpr ?_
      refine s273_207.mpr ((s273_208 kM).mpr ?_)
      rw [mr_4 hR]
      refine s273_211.mpr ?_
      try simp (disch := first | decide | assumption | omega) only [e26, e52]
      refine (s273_213 (hA.k (by decide) (by decide) rfl) (by first | assumption | omega) (by first | assumption | omega)).mpr ?_
      try simp (disch := first | decide | assumption | omega) only [e26, e52]
      refine s273_214.mpr (wif (fun c214 => ?_) (fun c214 => ?_))
      · skip
        exfalso; omega
      · skip
        refine s273_226.mpr (s273_227.mpr ?_)
        exact T228 8 0 (by omega) (Int.le_refl _) (fun e' z1 z2 => absurd z2 (by omega))
  -- the processes
  have T51 : ∀ (i : Nat) (p q : Int) G h l2 l3 l4, p + i = B 2 → 0 ≤ p → B 2 ≤ 6 → manP S B n = (lpX (prcP S B) i p (q, G)).bind (finM n) → FW wMa hi h → h 49 26 = q → 0 ≤ q → q ≤ 2000 → h 49 48 = B 2 → GR S h G → GV S G → MnP S h G p → (∀ i : Int, 0 ≤ i → i < 2304 → True) → h 49 22 = hi 49 22 → h 49 23 = hi 49 23 → Wp d 273 51 [vR (some 49), vI p, l2, l3, l4] [] al h hr Q := by
    intro i
    induction i with
    | zero =>
      intro p q G h l2 l3 l4 hp p0 p6 hm w e26 q0 q1 e48 gr gv gp g86 g22 g23
      have ep : p = B 2 := by omega
      refine s273_51.mpr (s273_52.mpr ?_)
      refine (s273_53 kM).mpr ?_
      try simp (disch := first | decide | assumption | omega) only [e48]
      refine s273_56.mpr (wif (fun c56 => ?_) (fun c56 => ?_))
      · skip
        exfalso; omega
      · skip
        exact T203 q G h _ _ _ _ hm w e26 q0 q1 e48 gr gv (ep ▸ gp) g86 g22 g23
    | succ i ih =>
      intro p q G h l2 l3 l4 hp p0 p6 hm w e26 q0 q1 e48 gr gv gp g86 g22 g23
      have hPh := hPTw w q0 q1 e26
      have hBh := hBw w
      have hm : manP S B n = ((prcP S B p (q, G)).bind (lpX (prcP S B) i (p + 1))).bind (finM n) := hm
      by_cases c1 : B q < 0
      · have E := ER 1 q h (by rw [hm]; unfold prcP; rw [if_pos c1]; rfl) w
        refine s273_51.mpr (s273_52.mpr ?_)
        refine (s273_53 kM).mpr ?_
        try simp (disch := first | decide | assumption | omega) only [e48]
        refine s273_56.mpr (wif (fun c56 => ?_) (fun c56 => ?_))
        · skip
          refine s273_59.mpr (s273_60.mpr (s273_61.mpr ?_))
          refine (s273_64 (by omega) kM).mpr ?_
          refine (m_number hA hR hPh (by omega)).mpr ?_
          rw [hBh, e26]
          refine wif_n (by omega) ?_
          show tho 273 = true ∧ Q none _ _ _
          refine ⟨rfl, ?_⟩
          exact E
        · skip
          exfalso; omega
      have hl := hle (i := q) (by omega)
      have h255q := h255 q
      obtain ⟨m, hBm⟩ : ∃ m, B q = m := ⟨_, rfl⟩
      have w1 : FW wMa hi (at1 h (q + 1)) := w.up (Or.inl ⟨rfl, by decide⟩)
      have u1 : ∀ a i, a ≠ 49 → (at1 h (q + 1)) a i = h a i := fun a i z => upI_a z
      have v26 : (at1 h (q + 1)) 49 26 = q + 1 := upI_eq
      have q11 : q + 1 - 1 = q := by omega
      have T64 : Wp d 273 67 [vR (some 49), vI p, l2, l3, l4] [vI m] al (at1 h (q + 1)) hr Q := by
        cases hS : S m with
        | none =>
          have hn := (hShw w1).n hS
          have E := ER 3 q (at1 h (q + 1)) (by rw [hm]; unfold prcP; rw [if_neg c1]; simp only [hBm, hS]; rfl) w1
          refine s273_67.mpr (s273_68.mpr (s273_69.mpr ?_))
          refine (s273_70 (by omega) kM).mpr ?_
          refine m_isModule hA hR (hshw w1) (fun z => absurd z hn) (fun _ => ?_)
          simp only [kon, knt_some, knt_none, Option.toList_some, Option.toList_none, List.cons_append, List.nil_append]
          refine s273_73.mpr (wif (fun c73 => ?_) (fun c73 => ?_))
          · skip
            refine s273_76.mpr (s273_77.mpr (s273_78.mpr ?_))
            refine (s273_79 kM).mpr ?_
            refine s273_82.mpr (s273_83.mpr ?_)
            try simp (disch := first | decide | assumption | omega) only [kon, knt_some, knt_none, Option.toList_some, Option.toList_none, List.cons_append, List.nil_append, v26, q11, fSub_id]
            refine (s273_84 (by omega) kM).mpr ?_
            refine (m_fails hA hR).mpr ?_
            show tho 273 = true ∧ Q none _ _ _
            refine ⟨rfl, ?_⟩
            exact E
          · skip
            exact absurd rfl ‹¬ (0 : Int) = 0›
        | some Bm =>
          obtain ⟨hy, hM, hSS, hN, hCl⟩ := (hShw w1).y hS
          have f10 : nFn Bm ≤ 10 := hSS.2.2.2.2.2.2.2.2.2.1
          have f1p : 1 ≤ nFn Bm := hSS.2.2.2.2.2.2.2.2.1
          have m0 := hy.1
          have m6 := hy.2.1
          have hm2 : manP S B n = ((if B (q + 1) < 0 then .error (1, q + 1) else cif (B (q + 1) < nFn Bm ∧ btb Bm (B (q + 1))) (if 1 ≤ B (q + 2) ∧ B (q + 2) ≤ 64 then lpX (prmP S B Bm p m (B (q + 1))) (nPar Bm (B (q + 1))).toNat 0 (q + 3, upI (upI (upI G 77 p m) 78 p (B (q + 1))) 79 p (B (q + 2))) else .error (1, q + 2)) (.error (4, q + 1)) : Mx).bind (lpX (prcP S B) i (p + 1))).bind (finM n) := by
            rw [hm]; unfold prcP; rw [if_neg c1]; simp only [hBm, hS]
          have hPh1 := hPTw w1 (by omega) (by omega) v26
          have hBh1 := hBw w1
          have T87 : Wp d 273 87 [vR (some 49), vI p, vI m, l3, l4] [] al (at1 h (q + 1)) hr Q := by
            by_cases c2 : B (q + 1) < 0
            · have E := ER 1 (q + 1) (at1 h (q + 1)) (by rw [hm2, if_pos c2]; rfl) w1
              refine s273_87.mpr (s273_88.mpr (s273_89.mpr ?_))
              refine (s273_92 (by omega) kM).mpr ?_
              refine (m_number hA hR hPh1 (by omega)).mpr ?_
              rw [hBh1, v26]
              refine wif_n (by omega) ?_
              show tho 273 = true ∧ Q none _ _ _
              refine ⟨rfl, ?_⟩
              exact E
            rw [if_neg c2] at hm2
            have hl2 := hle (i := q + 1) (by omega)
            have h255q2 := h255 (q + 1)
            obtain ⟨f, hBf⟩ : ∃ f, B (q + 1) = f := ⟨_, rfl⟩
            rw [hBf] at hm2
            obtain ⟨h2, hh2⟩ : ∃ h2, h2 = at1 (at1 h (q + 1)) (q + 1 + 1) := ⟨_, rfl⟩
            have w2 : FW wMa hi h2 := by rw [hh2]; exact w1.up (Or.inl ⟨rfl, by decide⟩)
            have u2 : ∀ a i, a ≠ 49 → h2 a i = h a i := fun a i z => by rw [hh2]; show upI _ _ _ _ _ _ = _; rw [upI_a z, u1 a i z]
            have u2i : ∀ i, i ≠ 26 → h2 49 i = h 49 i := fun i z => by rw [hh2]; show upI (upI h 49 26 (q + 1)) 49 26 _ 49 i = _; rw [upI_i z, upI_i z]
            have v262 : h2 49 26 = q + 2 := by rw [hh2]; show upI _ _ _ _ _ _ = _; rw [upI_eq]; omega
            have hPh2 := hPTw w2 (by omega) (by omega) v262
            have hBh2 := hBw w2
            have q12 : q + 2 - 1 = q + 1 := by omega
            have hM2 : MB h2 m Bm := ((hShw w2).y hS).2.1
            have e55 : h2 55 m = nFn Bm := hM2.2.2.2.2.2.2.2.2.1
            have FA : ¬ (f < nFn Bm ∧ btb Bm f) → Q none al (fl1 h2 4 (q + 1)) hr := fun c => ER 4 (q + 1) h2 (by rw [hm2, cif_n c]; rfl) w2
            have T131 : f < nFn Bm → btb Bm f → Wp d 273 131 [vR (some 49), vI p, vI m, vI f, l4] [] al h2 hr Q := by
              intro cf cb
              have f0 : 0 ≤ f := by omega
              rw [cif_y ⟨cf, cb⟩] at hm2
              let h3 := upI (upI h2 77 p m) 78 p f
              have w3 : FW wMa hi h3 := (w2.up (Or.inr ⟨by decide, by decide⟩)).up (Or.inr ⟨by decide, by decide⟩)
              have u3 : ∀ a i, a ≠ 77 → a ≠ 78 → h3 a i = h2 a i := fun a i z1 z2 => by show upI _ _ _ _ _ _ = _; rw [upI_a z2, upI_a z1]
              have v263 : h3 49 26 = q + 2 := (u3 49 26 (by decide) (by decide)).trans v262
              have hPh3 := hPTw w3 (by omega) (by omega) v263
              have hBh3 := hBw w3
              by_cases c3 : 1 ≤ B (q + 2) ∧ B (q + 2) ≤ 64
              case neg =>
                have E := ER 1 (q + 2) h3 (by rw [hm2, if_neg c3]; rfl) w3
                refine s273_131.mpr ((s273_132 kM).mpr ?_)
                rw [mr_39 hR]
                refine s273_135.mpr (s273_136.mpr ?_)
                refine (s273_137 (hA.k (by decide) (by decide) rfl) (by first | assumption | omega) (by first | assumption | omega)).mpr ?_
                refine s273_138.mpr ((s273_139 kM).mpr ?_)
                rw [mr_40 hR]
                refine s273_142.mpr (s273_143.mpr ?_)
                refine (s273_144 (hA.k (by decide) (by decide) rfl) (by first | assumption | omega) (by first | assumption | omega)).mpr ?_
                refine s273_145.mpr ((s273_146 kM).mpr ?_)
                rw [mr_41 hR]
                refine s273_149.mpr (s273_150.mpr (s273_151.mpr (s273_152.mpr ?_)))
                refine (s273_154 (by omega) kM).mpr ?_
                refine (m_number hA hR hPh3 (by omega)).mpr ?_
                rw [hBh3, v263]
                refine wif_n c3 ?_
                show tho 273 = true ∧ Q none _ _ _
                refine ⟨rfl, ?_⟩
                exact E
              rw [if_pos c3] at hm2
              have hl3 := hle (i := q + 2) (by omega)
              let h4 := upI (at1 h3 (q + 2 + 1)) 79 p (B (q + 2))
              let G4 := upI (upI (upI G 77 p m) 78 p f) 79 p (B (q + 2))
              have w4 : FW wMa hi h4 := (w3.up (Or.inl ⟨rfl, by decide⟩)).up (Or.inr ⟨by decide, by decide⟩)
              have u4 : ∀ a i, 80 ≤ a → h4 a i = h a i := fun a i z => by show upI (upI h3 49 26 _) 79 p _ a i = _; rw [upI_a (by omega), upI_a (by omega), u3 a i (by omega) (by omega), u2 a i (by omega)]
              have u4i : ∀ i, i ≠ 26 → h4 49 i = h 49 i := fun i z => by show upI (upI h3 49 26 _) 79 p _ 49 i = _; rw [upI_a (by decide), upI_i z, u3 49 i (by decide) (by decide), u2i i z]
              have v264 : h4 49 26 = q + 3 := by show upI (upI h3 49 26 _) 79 p _ 49 26 = _; rw [upI_a (by decide), upI_eq]; omega
              have gr4 : GR S h4 G4 := (gr.fr (fun a i z1 z2 => u4 a i (by omega)) (u4i 49 (by decide))).lo (fun a i z => by show upI _ _ _ _ _ _ = _; rw [upI_a (by omega), upI_a (by omega), upI_a (by omega)])
              have gv4 : GV S G4 := gv.lo (fun a i z => by show upI _ _ _ _ _ _ = _; rw [upI_a (by omega), upI_a (by omega), upI_a (by omega)])
              have n4 : nPar Bm f ≤ 4 := (hSS.2.2.2.2.2.2.2.2.2.2 f f0 cf).2.1
              have n0 : 0 ≤ nPar Bm f := (hSS.2.2.2.2.2.2.2.2.2.2 f f0 cf).1
              have vf : B (q + 2) = B (q + 2) := rfl
              have T161 : ∀ (j : Nat) (k q' : Int) G' h', k + j = nPar Bm f → 0 ≤ k → manP S B n = ((lpX (prmP S B Bm p m f) j k (q', G')).bind (lpX (prcP S B) i (p + 1))).bind (finM n) → FW wMa hi h' → h' 49 26 = q' → 0 ≤ q' → q' ≤ 2000 → GR S h' G' → GV S G' → (∀ i : Int, 0 ≤ i → i < 2304 → True) → (∀ i, i ≠ 26 → i ≠ 49 → h' 49 i = h 49 i) → (∀ a i, 77 ≤ a → a ≤ 79 → h' a i = h4 a i ∧ G' a i = G4 a i) → (∀ i, i < 4 * p → h' 80 i = h 80 i ∧ G' 80 i = G 80 i) → (∀ k', 0 ≤ k' → k' < k → pTy Bm f k' = 0 → h' 80 (4 * p + k') = G' 80 (4 * p + k')) → Wp d 273 161 [vR (some 49), vI p, vI m, vI f, vI k] [] al h' hr Q := by
                intro j
                induction j with
                | zero =>
                  intro k q' G' h' hk k0 hm3 w' e26' q0' q1' gr' gv' g86' i49 i77 i80 ik
                  have hM' : MB h' m Bm := ((hShw w').y hS).2.1
                  have e64 : h' 64 (10 * m + f) = nPar Bm f := (hM'.2.2.2.2.2.2.2.2.2 f f0 cf).1
                  have NX : ∀ l4, Wp d 273 51 [vR (some 49), vI (p + 1), vI m, vI f, l4] [] al h' hr Q := fun l4 => by
                    refine ih (p + 1) q' G' h' _ _ _ (by omega) (by omega) p6 hm3 w' e26' q0' q1' ((i49 48 (by decide) (by decide)).trans e48) gr' gv' (fun p' z1 z2 => ?_) g86' ((i49 22 (by decide) (by decide)).trans g22) ((i49 23 (by decide) (by decide)).trans g23)
                    rw [(i77 77 p' (by decide) (by decide)).1, (i77 77 p' (by decide) (by decide)).2, (i77 78 p' (by decide) (by decide)).1, (i77 78 p' (by decide) (by decide)).2, (i77 79 p' (by decide) (by decide)).1, (i77 79 p' (by decide) (by decide)).2]
                    have s79 : h4 79 p' = if p' = p then B (q + 2) else h 79 p' := by show upI (upI h3 49 26 _) 79 p _ 79 p' = _; rw [upI_self, upI_a (by decide), u3 79 p' (by decide) (by decide), u2 79 p' (by decide)]
                    have s78 : h4 78 p' = if p' = p then f else h 78 p' := by show upI (upI (upI (upI h2 77 p m) 78 p f) 49 26 _) 79 p _ 78 p' = _; rw [upI_a (by decide), upI_a (by decide), upI_self, upI_a (by decide), u2 78 p' (by decide)]
                    have s77 : h4 77 p' = if p' = p then m else h 77 p' := by show upI (upI (upI (upI h2 77 p m) 78 p f) 49 26 _) 79 p _ 77 p' = _; rw [upI_a (by decide), upI_a (by decide), upI_a (by decide), upI_self, u2 77 p' (by decide)]
                    have r79 : G4 79 p' = if p' = p then B (q + 2) else G 79 p' := by show upI _ _ _ _ _ _ = _; rw [upI_self, upI_a (by decide), upI_a (by decide)]
                    have r78 : G4 78 p' = if p' = p then f else G 78 p' := by show upI _ _ _ _ _ _ = _; rw [upI_a (by decide), upI_self, upI_a (by decide)]
                    have r77 : G4 77 p' = if p' = p then m else G 77 p' := by show upI _ _ _ _ _ _ = _; rw [upI_a (by decide), upI_a (by decide), upI_self]
                    rw [s77, s78, s79, r77, r78, r79]
                    by_cases z : p' = p
                    · subst z
                      rw [if_pos rfl, if_pos rfl, if_pos rfl, if_pos rfl, if_pos rfl, if_pos rfl]
                      refine ⟨rfl, rfl, rfl, fun b e1 => by rw [hS] at e1; cases e1; exact ⟨f0, cf⟩, fun b k' e1 e2 e3 e4 => ?_⟩
                      rw [hS] at e1; cases e1
                      exact ik k' e2 (by omega) e4
                    · rw [if_neg z, if_neg z, if_neg z, if_neg z, if_neg z, if_neg z]
                      obtain ⟨y1, y2, y3, y5, y4⟩ := gp p' z1 (by omega)
                      refine ⟨y1, y2, y3, y5, fun b k' e1 e2 e3 e4 => ?_⟩
                      have ff := y5 b e1
                      have hb4 := ((hSh.y e1).2.2.1.2.2.2.2.2.2.2.2.2.2 _ ff.1 ff.2).2.1
                      rw [(i80 _ (by omega)).1, (i80 _ (by omega)).2]
                      exact y4 b k' e1 e2 e3 e4
                  refine s273_161.mpr (s273_163.mpr ((s273_164 kM).mpr ?_))
                  rw [mr_16 hR]
                  refine s273_167.mpr (s273_169.mpr (s273_170.mpr (s273_171.mpr (s273_172.mpr ?_))))
                  try simp (disch := first | decide | assumption | omega) only [e64, fAdd_id, fMul_id]
                  refine (s273_173 (hA.k (by decide) (by decide) rfl) (by first | assumption | omega) (by first | assumption | omega)).mpr ?_
                  try simp (disch := first | decide | assumption | omega) only [e64, fAdd_id, fMul_id]
                  refine s273_174.mpr (wif (fun c174 => ?_) (fun c174 => ?_))
                  · skip
                    exfalso; omega
                  · skip
                    refine s273_197.mpr (s273_200.mpr ?_)
                    try simp (disch := first | decide | assumption | omega) only [e64, fAdd_id, fMul_id]
                    exact NX _
                | succ j ihj =>
                  intro k q' G' h' hk k0 hm3 w' e26' q0' q1' gr' gv' g86' i49 i77 i80 ik
                  have hM' : MB h' m Bm := ((hShw w').y hS).2.1
                  have e64 : h' 64 (10 * m + f) = nPar Bm f := (hM'.2.2.2.2.2.2.2.2.2 f f0 cf).1
                  have hm3 : manP S B n = (((prmP S B Bm p m f k (q', G')).bind (lpX (prmP S B Bm p m f) j (k + 1))).bind (lpX (prcP S B) i (p + 1))).bind (finM n) := hm3
                  have R188 : Ev (d - 1) 275 [vR (some 49), vI p, vI m, vI (10 * m + f), vI k] al h' hr (kon d 273 188 191 [vR (some 49), vI p, vI m, vI f, vI k] [] Q) := by
                    refine m_parameter (S := S) (B := B) (Bm := Bm) (G := G') (q := q') hA hR (by omega) (hPTw w' q0' q1' e26') (hBw w') e26' (hShw w') hS ⟨p0, by omega⟩ ⟨f0, cf⟩ ⟨k0, by omega⟩ cb gr' gv' g86' (fun q2 G2 h5 y1 y2 y3 y4 y5 y6 y7 y8 y9 y10 => ?_) (fun w5 q5 h5 y1 y2 y3 y4 => ?_)
                    · simp only [kon, knt_some, knt_none, Option.toList_some, Option.toList_none, List.cons_append, List.nil_append]
                      rw [y1] at hm3
                      obtain ⟨pg1, pg2⟩ := prm_g y1
                      have pg1 : ∀ a i, a ≤ 79 → G2 a i = G' a i := pg1
                      have pg2 : ∀ i, i ≠ 4 * p + k → G2 80 i = G' 80 i := pg2
                      have NX : Wp d 273 161 [vR (some 49), vI p, vI m, vI f, vI (k + 1)] [] al h5 hr Q := by
                        refine ihj (k + 1) q2 G2 h5 (by omega) (by omega) hm3 (w'.tr (wMa_n y2)) y3 y4 y5 y6 y7 y10 (fun i z1 z2 => ?_) (fun a i z1 z2 => ⟨?_, ?_⟩) (fun i z => ⟨?_, ?_⟩) (fun k' z1 z2 z3 => ?_)
                        · rw [y2 49 i (by unfold wMn; omega)]; exact i49 i z1 z2
                        · rw [y2 a i (by unfold wMn; omega)]; exact (i77 a i z1 z2).1
                        · exact (pg1 a i (by omega)).trans (i77 a i z1 z2).2
                        · rw [y9 i (by omega)]; exact (i80 i z).1
                        · exact (pg2 i (by omega)).trans (i80 i z).2
                        · by_cases z : k' = k
                          · subst z; exact y8 z3
                          · rw [y9 _ (by omega), pg2 _ (by omega)]; exact ik k' z1 (by omega) z3
                      refine s273_191.mpr (s273_194.mpr ?_)
                      try simp (disch := first | decide | assumption | omega) only [fAdd_id]
                      exact NX
                    · show tho 273 = true ∧ Q none al h5 hr
                      rw [y1] at hm3
                      exact ⟨rfl, er w5 q5 h5 hm3 (w'.tr (wMa_e y2)) y3 y4⟩
                  refine s273_161.mpr (s273_163.mpr ((s273_164 kM).mpr ?_))
                  rw [mr_16 hR]
                  refine s273_167.mpr (s273_169.mpr (s273_170.mpr (s273_171.mpr (s273_172.mpr ?_))))
                  try simp (disch := first | decide | assumption | omega) only [e64, fAdd_id, fMul_id]
                  refine (s273_173 (hA.k (by decide) (by decide) rfl) (by first | assumption | omega) (by first | assumption | omega)).mpr ?_
                  try simp (disch := first | decide | assumption | omega) only [e64, fAdd_id, fMul_id]
                  refine s273_174.mpr (wif (fun c174 => ?_) (fun c174 => ?_))
                  · skip
                    refine s273_177.mpr (s273_178.mpr (s273_179.mpr (s273_180.mpr (s273_182.mpr (s273_183.mpr ?_)))))
                    refine s273_184.mpr (s273_185.mpr (s273_186.mpr ?_))
                    try simp (disch := first | decide | assumption | omega) only [e64, fAdd_id, fMul_id]
                    refine (s273_188 (by omega) kM).mpr ?_
                    exact R188
                  · skip
                    exfalso; omega
              have NX := T161 (nPar Bm f).toNat 0 (q + 3) G4 h4 (by omega) (Int.le_refl _) hm2 w4 v264 (by omega) (by omega) gr4 gv4 (fun _ _ _ => trivial) (fun i z1 z2 => u4i i z1) (fun a i z1 z2 => ⟨rfl, rfl⟩) (fun i z => ⟨u4 80 i (by decide), by show upI _ _ _ _ _ _ = _; rw [upI_a (by decide), upI_a (by decide), upI_a (by decide)]⟩) (fun k' z1 z2 => absurd z2 (by omega))
              refine s273_131.mpr ((s273_132 kM).mpr ?_)
              rw [mr_39 hR]
              refine s273_135.mpr (s273_136.mpr ?_)
              refine (s273_137 (hA.k (by decide) (by decide) rfl) (by first | assumption | omega) (by first | assumption | omega)).mpr ?_
              refine s273_138.mpr ((s273_139 kM).mpr ?_)
              rw [mr_40 hR]
              refine s273_142.mpr (s273_143.mpr ?_)
              try simp (disch := first | decide | assumption | omega) only [kon, knt_some, knt_none, Option.toList_some, Option.toList_none, List.cons_append, List.nil_append]
              refine (s273_144 (hA.k (by decide) (by decide) rfl) (by first | assumption | omega) (by first | assumption | omega)).mpr ?_
              refine s273_145.mpr ((s273_146 kM).mpr ?_)
              rw [mr_41 hR]
              refine s273_149.mpr (s273_150.mpr (s273_151.mpr (s273_152.mpr ?_)))
              try simp (disch := first | decide | assumption | omega) only [kon, knt_some, knt_none, Option.toList_some, Option.toList_none, List.cons_append, List.nil_append]
              refine (s273_154 (by omega) kM).mpr ?_
              refine (m_number hA hR hPh3 (by omega)).mpr ?_
              rw [hBh3, v263]
              refine wif_y c3 ?_
              simp only [kon, knt_some, knt_none, Option.toList_some, Option.toList_none, List.cons_append, List.nil_append]
              refine (s273_157 (hA.k (by decide) (by decide) rfl) (by first | assumption | omega) (by first | assumption | omega)).mpr ?_
              refine s273_158.mpr (s273_159.mpr ?_)
              try simp (disch := first | decide | assumption | omega) only [kon, knt_some, knt_none, Option.toList_some, Option.toList_none, List.cons_append, List.nil_append]
              exact NX
            refine s273_87.mpr (s273_88.mpr (s273_89.mpr ?_))
            refine (s273_92 (by omega) kM).mpr ?_
            refine (m_number hA hR hPh1 (by omega)).mpr ?_
            rw [hBh1, v26, hBf]
            refine wif_y (by omega) ?_
            simp only [kon, knt_some, knt_none, Option.toList_some, Option.toList_none, List.cons_append, List.nil_append]
            rw [← hh2]
            refine s273_95.mpr (s273_96.mpr (s273_97.mpr ((s273_98 kM).mpr ?_)))
            rw [mr_7 hR]
            refine s273_101.mpr ?_
            refine (s273_102 (hA.k (by decide) (by decide) rfl) (by first | assumption | omega) (by first | assumption | omega)).mpr ?_
            try simp (disch := first | decide | assumption | omega) only [kon, knt_some, knt_none, Option.toList_some, Option.toList_none, List.cons_append, List.nil_append, e55, v262, q12, fSub_id, fAdd_id, fMul_id]
            refine s273_103.mpr (wif (fun c103 => ?_) (fun c103 => ?_))
            · skip
              refine s273_106.mpr (s273_107.mpr (s273_108.mpr (s273_110.mpr (s273_111.mpr (s273_112.mpr ?_)))))
              refine s273_113.mpr ?_
              try simp (disch := first | decide | assumption | omega) only [kon, knt_some, knt_none, Option.toList_some, Option.toList_none, List.cons_append, List.nil_append, e55, v262, q12, fSub_id, fAdd_id, fMul_id]
              refine (s273_114 (by omega) kM).mpr ?_
              refine m_canBoot hA hR (by omega) hM2 hSS hN (by omega) (by omega) (fun b114 => ?_) (fun b114 => ?_)
              · skip
                refine s273_117.mpr (wif (fun c117 => ?_) (fun c117 => ?_))
                · skip
                  refine s273_120.mpr (s273_121.mpr (s273_122.mpr ?_))
                  refine (s273_123 kM).mpr ?_
                  refine s273_126.mpr (s273_127.mpr ?_)
                  try simp (disch := first | decide | assumption | omega) only [kon, knt_some, knt_none, Option.toList_some, Option.toList_none, List.cons_append, List.nil_append, e55, v262, q12, fSub_id, fAdd_id, fMul_id]
                  refine (s273_128 (by omega) kM).mpr ?_
                  refine (m_fails hA hR).mpr ?_
                  show tho 273 = true ∧ Q none _ _ _
                  refine ⟨rfl, ?_⟩
                  first | exact FA (fun z => by omega) | exact FA (fun z => absurd z.2 (by assumption)) | exact absurd ‹(1 : Int) = 0› (by decide)
                · skip
                  first | exact T131 (by omega) (by assumption) | exact absurd rfl ‹¬ (0 : Int) = 0›
              · skip
                refine s273_117.mpr (wif (fun c117 => ?_) (fun c117 => ?_))
                · skip
                  refine s273_120.mpr (s273_121.mpr (s273_122.mpr ?_))
                  refine (s273_123 kM).mpr ?_
                  refine s273_126.mpr (s273_127.mpr ?_)
                  try simp (disch := first | decide | assumption | omega) only [kon, knt_some, knt_none, Option.toList_some, Option.toList_none, List.cons_append, List.nil_append, e55, v262, q12, fSub_id, fAdd_id, fMul_id]
                  refine (s273_128 (by omega) kM).mpr ?_
                  refine (m_fails hA hR).mpr ?_
                  show tho 273 = true ∧ Q none _ _ _
                  refine ⟨rfl, ?_⟩
                  first | exact FA (fun z => by omega) | exact FA (fun z => absurd z.2 (by assumption)) | exact absurd ‹(1 : Int) = 0› (by decide)
                · skip
                  first | exact T131 (by omega) (by assumption) | exact absurd rfl ‹¬ (0 : Int) = 0›
            · skip
              refine s273_120.mpr (s273_121.mpr (s273_122.mpr ?_))
              refine (s273_123 kM).mpr ?_
              refine s273_126.mpr (s273_127.mpr ?_)
              try simp (disch := first | decide | assumption | omega) only [kon, knt_some, knt_none, Option.toList_some, Option.toList_none, List.cons_append, List.nil_append, e55, v262, q12, fSub_id, fAdd_id, fMul_id]
              refine (s273_128 (by omega) kM).mpr ?_
              refine (m_fails hA hR).mpr ?_
              show tho 273 = true ∧ Q none _ _ _
              refine ⟨rfl, ?_⟩
              first | exact FA (fun z => by omega) | exact FA (fun z => absurd z.2 (by assumption)) | exact absurd ‹(1 : Int) = 0› (by decide)
          refine s273_67.mpr (s273_68.mpr (s273_69.mpr ?_))
          refine (s273_70 (by omega) kM).mpr ?_
          refine m_isModule hA hR (hshw w1) (fun _ => ?_) (fun z => absurd hy z)
          simp only [kon, knt_some, knt_none, Option.toList_some, Option.toList_none, List.cons_append, List.nil_append]
          refine s273_73.mpr (wif (fun c73 => ?_) (fun c73 => ?_))
          · skip
            exact absurd ‹(1 : Int) = 0› (by decide)
          · skip
            exact T87
      refine s273_51.mpr (s273_52.mpr ?_)
      refine (s273_53 kM).mpr ?_
      try simp (disch := first | decide | assumption | omega) only [e48]
      refine s273_56.mpr (wif (fun c56 => ?_) (fun c56 => ?_))
      · skip
        refine s273_59.mpr (s273_60.mpr (s273_61.mpr ?_))
        refine (s273_64 (by omega) kM).mpr ?_
        refine (m_number hA hR hPh (by omega)).mpr ?_
        rw [hBh, e26, hBm]
        refine wif_y (by omega) ?_
        simp only [kon, knt_some, knt_none, Option.toList_some, Option.toList_none, List.cons_append, List.nil_append]
        exact T64
      · skip
        exfalso; omega
  have e0 : bAt hi 12 (hi 49 26) = B 0 := by rw [hB, h26]
  rw [e273]
  by_cases c0 : B 0 = 83
  case neg =>
    have E := ER 1 0 hi (by unfold manP; rw [if_pos c0]) FW.rf
    refine s273_0.mpr (s273_1.mpr ?_)
    refine (s273_3 (by omega) kM).mpr ?_
    refine (m_must hA hR hPT (by omega)).mpr ?_
    rw [e0, h26]
    refine wif_n c0 ?_
    show tho 273 = true ∧ Q none _ _ _
    refine ⟨rfl, ?_⟩
    exact E
  have l0 := hle (i := 0) (by omega)
  have w1 : FW wMa hi (at1 hi 1) := FW.rf.up (Or.inl ⟨rfl, by decide⟩)
  have v1 : (at1 hi 1) 49 26 = 1 := upI_eq
  have hP1 := hPTw w1 (by omega) (by omega) v1
  have e1 : bAt (at1 hi 1) 12 ((at1 hi 1) 49 26) = B 1 := by rw [hBw w1, v1]
  by_cases c1 : B 1 = 70
  case neg =>
    have E := ER 1 1 (at1 hi 1) (by unfold manP; rw [if_neg (fun z => z c0), if_pos c1]) w1
    have T6 : Wp d 273 6 [vR (some 49), none, none, none, none] [] al (at1 hi 1) hr Q := by
      refine s273_6.mpr (s273_7.mpr ?_)
      refine (s273_9 (by omega) kM).mpr ?_
      refine (m_must hA hR hP1 (by omega)).mpr ?_
      rw [e1, v1]
      refine wif_n c1 ?_
      show tho 273 = true ∧ Q none _ _ _
      refine ⟨rfl, ?_⟩
      exact E
    refine s273_0.mpr (s273_1.mpr ?_)
    refine (s273_3 (by omega) kM).mpr ?_
    refine (m_must hA hR hPT (by omega)).mpr ?_
    rw [e0, h26]
    refine wif_y c0 ?_
    simp only [kon, knt_some, knt_none, Option.toList_some, Option.toList_none, List.cons_append, List.nil_append]
    exact T6
  have l1 := hle (i := 1) (by omega)
  have w2 : FW wMa hi (at1 (at1 hi 1) 2) := w1.up (Or.inl ⟨rfl, by decide⟩)
  have v2 : (at1 (at1 hi 1) 2) 49 26 = 2 := upI_eq
  have hP2 := hPTw w2 (by omega) (by omega) v2
  have e2 : bAt (at1 (at1 hi 1) 2) 12 ((at1 (at1 hi 1) 2) 49 26) = B 2 := by rw [hBw w2, v2]
  have T12 : Wp d 273 12 [vR (some 49), none, none, none, none] [] al (at1 (at1 hi 1) 2) hr Q := by
    by_cases c2 : 1 ≤ B 2 ∧ B 2 ≤ 6
    case neg =>
      have E := ER 1 2 (at1 (at1 hi 1) 2) (by unfold manP; rw [if_neg (fun z => z c0), if_neg (fun z => z c1), if_pos c2]) w2
      refine s273_12.mpr (s273_13.mpr (s273_14.mpr (s273_15.mpr ?_)))
      refine (s273_17 (by omega) kM).mpr ?_
      refine (m_number hA hR hP2 (by omega)).mpr ?_
      rw [e2, v2]
      refine wif_n c2 ?_
      show tho 273 = true ∧ Q none _ _ _
      refine ⟨rfl, ?_⟩
      exact E
    have l2 := hle (i := 2) (by omega)
    have hm : manP S B n = (lpX (prcP S B) (B 2).toNat 0 (3, fun _ _ => 0)).bind (finM n) := by
      unfold manP; rw [if_neg (fun z => z c0), if_neg (fun z => z c1), if_neg (fun z => z c2)]; rfl
    let h3 := upI (upI (at1 (at1 (at1 hi 1) 2) (2 + 1)) 49 48 (B 2)) 49 49 0
    have w3 : FW wMa hi h3 := ((w2.up (Or.inl ⟨rfl, by decide⟩)).up (Or.inl ⟨rfl, by decide⟩)).up (Or.inl ⟨rfl, by decide⟩)
    have u3 : ∀ a i, a ≠ 49 → h3 a i = hi a i := fun a i z => by show upI (upI (upI (upI (upI hi 49 26 1) 49 26 2) 49 26 _) 49 48 _) 49 49 0 a i = _; rw [upI_a z, upI_a z, upI_a z, upI_a z, upI_a z]
    have u3i : ∀ i, i ≠ 26 → i ≠ 48 → i ≠ 49 → h3 49 i = hi 49 i := fun i z1 z2 z3 => by show upI (upI (upI (upI (upI hi 49 26 1) 49 26 2) 49 26 _) 49 48 _) 49 49 0 49 i = _; rw [upI_i z3, upI_i z2, upI_i z1, upI_i z1, upI_i z1]
    have x26 : h3 49 26 = 3 := by show upI (upI (upI (upI (upI hi 49 26 1) 49 26 2) 49 26 _) 49 48 _) 49 49 0 49 26 = _; rw [upI_i (by decide), upI_i (by decide), upI_eq]; omega
    have x48 : h3 49 48 = B 2 := by show upI (upI (upI (upI (upI hi 49 26 1) 49 26 2) 49 26 _) 49 48 _) 49 49 0 49 48 = _; rw [upI_i (by decide), upI_eq]
    have x49 : h3 49 49 = 0 := upI_eq
    have T30 : Wp d 273 30 [vR (some 49), vI 0, none, none, none] [] al h3 hr Q := by
      refine wp_cnt (N := 8) (fun i ls h4 => ls = [vR (some 49), vI i, none, none, none] ∧ FW (fun a _ => a = 81) h3 h4 ∧ ∀ j : Int, 0 ≤ j → j < i → h4 81 j = 0) ?_ ?_ _ _ ⟨rfl, FW.rf, fun j a b => absurd b (by omega)⟩
      · rintro i ls h4 hi9 ⟨rfl, w4, a4⟩ nx
        refine s273_30.mpr (s273_31.mpr ?_)
        refine s273_33.mpr (wif (fun c33 => ?_) (fun c33 => ?_))
        · skip
          refine s273_36.mpr ((s273_37 kM).mpr ?_)
          rw [mr_43 hR]
          refine s273_40.mpr (s273_41.mpr ?_)
          refine (s273_42 (hA.k (by decide) (by decide) rfl) (by first | assumption | omega) (by first | assumption | omega)).mpr ?_
          refine s273_43.mpr (s273_46.mpr ?_)
          try simp (disch := first | decide | assumption | omega) only [fAdd_id]
          refine nx _ _ ⟨by rw [cast1], w4.up rfl, fun j y1 y2 => ?_⟩
          by_cases y : j = i
          · subst y; rw [upI_eq]
          · rw [upI_i y]; exact a4 j y1 (by omega)
        · skip
          exfalso; omega
      · rintro ls h4 ⟨rfl, w4, a4⟩
        have f4 : ∀ a i, a ≠ 81 → h4 a i = h3 a i := fun a i z => w4 a i z
        have gr0 : GR S h4 (fun _ _ => 0) := ⟨fun e z1 z2 => ⟨a4 e z1 (by omega), Int.le_refl _, (show (0 : Int) ≤ 2 by decide), fun j y1 y2 => absurd (show j < 0 from y2) (by omega)⟩, ⟨(f4 49 49 (by decide)).trans x49, rfl⟩, fun i z1 z2 => absurd (show i < 0 from z2) (by omega)⟩
        have gv0 : GV S (fun _ _ => 0) := fun e j _ _ z1 z2 => absurd (show j < 0 from z2) (by omega)
        have NX := T51 (B 2).toNat 0 3 (fun _ _ => 0) h4 none none none (by omega) (Int.le_refl _) c2.2 hm (w3.tr (w4.mn (fun a i z => Or.inr (by omega)))) ((f4 49 26 (by decide)).trans x26) (by omega) (by omega) ((f4 49 48 (by decide)).trans x48) gr0 gv0 (fun p' z1 z2 => absurd z2 (by omega)) (fun _ _ _ => trivial) ((f4 49 22 (by decide)).trans (u3i 22 (by decide) (by decide) (by decide))) ((f4 49 23 (by decide)).trans (u3i 23 (by decide) (by decide) (by decide)))
        refine s273_30.mpr (s273_31.mpr ?_)
        refine s273_33.mpr (wif (fun c33 => ?_) (fun c33 => ?_))
        · skip
          exfalso; omega
        · skip
          refine s273_49.mpr (s273_50.mpr ?_)
          exact NX
    refine s273_12.mpr (s273_13.mpr (s273_14.mpr (s273_15.mpr ?_)))
    refine (s273_17 (by omega) kM).mpr ?_
    refine (m_number hA hR hP2 (by omega)).mpr ?_
    rw [e2, v2]
    refine wif_y c2 ?_
    simp only [kon, knt_some, knt_none, Option.toList_some, Option.toList_none, List.cons_append, List.nil_append]
    refine (s273_20 kM).mpr ?_
    refine s273_23.mpr (s273_24.mpr ?_)
    try simp (disch := first | decide | assumption | omega) only [kon, knt_some, knt_none, Option.toList_some, Option.toList_none, List.cons_append, List.nil_append]
    refine (s273_25 kM).mpr ?_
    refine s273_28.mpr (s273_29.mpr ?_)
    try simp (disch := first | decide | assumption | omega) only [kon, knt_some, knt_none, Option.toList_some, Option.toList_none, List.cons_append, List.nil_append]
    exact T30
  have T6 : Wp d 273 6 [vR (some 49), none, none, none, none] [] al (at1 hi 1) hr Q := by
    refine s273_6.mpr (s273_7.mpr ?_)
    refine (s273_9 (by omega) kM).mpr ?_
    refine (m_must hA hR hP1 (by omega)).mpr ?_
    rw [e1, v1]
    refine wif_y c1 ?_
    simp only [kon, knt_some, knt_none, Option.toList_some, Option.toList_none, List.cons_append, List.nil_append]
    exact T12
  refine s273_0.mpr (s273_1.mpr ?_)
  refine (s273_3 (by omega) kM).mpr ?_
  refine (m_must hA hR hPT (by omega)).mpr ?_
  rw [e0, h26]
  refine wif_y c0 ?_
  simp only [kon, knt_some, knt_none, Option.toList_some, Option.toList_none, List.cons_append, List.nil_append]
  exact T6
end MN2
