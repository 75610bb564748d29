/-! MANIFESTS: the class's processes -/
section CN2
variable {d : Nat} {al : AL} {hi : HI} {hr : HR} {Q : QQ} {B Bm : Int → Int} {S : Int → Option (Int → Int)} {G : HI} {N : Nat} {n : Int}
theorem prm_mis {p m f k q r : Int} (ct : pTy Bm f k = 0) (h : mis4 B q r) : prmP S B Bm p m f k (q, G) = .error (1, r) := by
  obtain ⟨j, j0, j1, rfl, h1, h2⟩ := h
  unfold prmP
  rw [if_pos ct]
  have z0 : 0 < j → 0 ≤ B q := fun z => by have := h2 0 (by omega) (by omega); rw [Int.add_zero] at this; exact this
  have z1 : 1 < j → 0 ≤ B (q + 1) := fun z => h2 1 (by omega) (by omega)
  have z2 : 2 < j → 0 ≤ B (q + 2) := fun z => h2 2 (by omega) (by omega)
  have : j = 0 ∨ j = 1 ∨ j = 2 ∨ j = 3 := by omega
  rcases this with rfl | rfl | rfl | rfl
  · rw [if_pos (by simpa using h1)]; simp
  · rw [if_neg (by show ¬ B q < 0; have := z0 (by omega); omega), if_pos h1]
  · rw [if_neg (by show ¬ B q < 0; have := z0 (by omega); omega), if_neg (by show ¬ B (q + 1) < 0; have := z1 (by omega); omega), if_pos h1]
  · rw [if_neg (by show ¬ B q < 0; have := z0 (by omega); omega), if_neg (by show ¬ B (q + 1) < 0; have := z1 (by omega); omega), if_neg (by show ¬ B (q + 2) < 0; have := z2 (by omega); omega), if_pos h1]
theorem prm_wd {p m f k q : Int} (ct : pTy Bm f k = 0) (h : ∀ i, 0 ≤ i → i < 4 → 0 ≤ B (q + i)) : prmP S B Bm p m f k (q, G) = .ok (q + 4, upI G 80 (4 * p + k) (wdS B q 4)) := by
  unfold prmP
  have z0 := h 0 (by decide) (by decide)
  rw [Int.add_zero] at z0
  have z1 := h 1 (by decide) (by decide)
  have z2 := h 2 (by decide) (by decide)
  have z3 := h 3 (by decide) (by decide)
  rw [if_pos ct, if_neg (by show ¬ B q < 0; omega), if_neg (by show ¬ B (q + 1) < 0; omega), if_neg (by show ¬ B (q + 2) < 0; omega), if_neg (by show ¬ B (q + 3) < 0; omega)]
theorem prm_e {p m f k q : Int} (ct : pTy Bm f k ≠ 0) : prmP S B Bm p m f k (q, G) = (if ¬ (0 ≤ B q ∧ B q ≤ 7) then .error (1, q) else cif (fitG S G (B q) (4 * m + whichM (pTy Bm f k)) (sideM (pTy Bm f k))) (.ok (q + 1, useG G (B q) (4 * m + whichM (pTy Bm f k)) (sideM (pTy Bm f k)) (4 * p + k))) (.error (5, q))) := by
  unfold prmP; rw [if_neg ct]
theorem use_81 {e gc sd pl : Int} (i : Int) : useG G e gc sd pl 81 i = if i = e then G 81 e + 1 else G 81 i := by
  unfold useG; rw [upI_a (by decide), upI_self, upI_a (by decide), upI_a (by decide), upI_a (by decide), ord_a (by decide) (by decide)]
theorem use_82 {e gc sd pl : Int} (i : Int) : useG G e gc sd pl 82 i = if i = 2 * e + G 81 e then gc else G 82 i := by
  unfold useG; rw [upI_a (by decide), upI_a (by decide), upI_a (by decide), upI_a (by decide), upI_self, ord_a (by decide) (by decide)]
theorem use_83 {e gc sd pl : Int} (i : Int) : useG G e gc sd pl 83 i = if i = 2 * e + G 81 e then sd else G 83 i := by
  unfold useG; rw [upI_a (by decide), upI_a (by decide), upI_a (by decide), upI_self, upI_a (by decide), ord_a (by decide) (by decide)]
theorem use_80 {e gc sd pl : Int} (i : Int) : useG G e gc sd pl 80 i = if i = pl then e else G 80 i := by
  unfold useG; rw [upI_self, upI_a (by decide), upI_a (by decide), upI_a (by decide), upI_a (by decide), ord_a (by decide) (by decide)]
theorem use_lo {e gc sd pl : Int} {a : Nat} {i : Int} (h : a ≤ 79) : useG G e gc sd pl a i = G a i := by
  unfold useG; rw [upI_a (by omega), upI_a (by omega), upI_a (by omega), upI_a (by omega), upI_a (by omega), ord_a (by omega) (by omega)]
theorem GCr.use {h' : HI} {hr' : HR} {e gc sd pl : Int} (H : GCr hi hr G) (e0 : 0 ≤ e) (hu : G 81 e < 2) (hN : hr 4 (gc / 4) = some N) (h22 : ∀ i, h' 22 i = if i = e then hi 22 e + 1 else hi 22 i) (h24 : ∀ i, h' 24 i = if G 81 e = 0 ∧ i = e then 5 + 16 * (gc % 4) + 1048576 * sd else hi 24 i) (h23 : ∀ i, hr' 23 i = if G 81 e = 0 ∧ i = e then some N else hr 23 i) (h4 : ∀ i, hr' 4 i = hr 4 i) (e8 : e < 8) : GCr h' hr' (useG G e gc sd pl) := by
  intro i i0 i1
  obtain ⟨a1, a2, a3⟩ := H i i0 i1
  rw [use_81, h22]
  by_cases z : i = e
  · subst z
    rw [if_pos rfl, if_pos rfl]
    refine ⟨by omega, by omega, fun _ => ?_⟩
    rw [h4, h23, h24, use_82, use_83]
    by_cases c : G 81 i = 0
    · rw [if_pos ⟨c, rfl⟩, if_pos (show 2 * i = 2 * i + G 81 i by omega), if_pos ⟨c, rfl⟩, if_pos (show 2 * i = 2 * i + G 81 i by omega)]
      exact ⟨hN.symm, rfl⟩
    · rw [if_neg (fun w => c w.1), if_neg (show ¬ 2 * i = 2 * i + G 81 i by omega), if_neg (fun w => c w.1), if_neg (show ¬ 2 * i = 2 * i + G 81 i by omega)]
      exact a3 (by omega)
  · rw [if_neg z, if_neg z]
    refine ⟨a1, a2, fun w => ?_⟩
    have b2 := (H e e0 e8).2.1
    rw [h4, h23, h24, use_82, use_83, if_neg (fun w => z w.2), if_neg (show ¬ 2 * i = 2 * e + G 81 e by omega), if_neg (fun w => z w.2), if_neg (show ¬ 2 * i = 2 * e + G 81 e by omega)]
    exact a3 w
theorem GCr.fr {h' : HI} {hr' : HR} {G' : HI} (H : GCr hi hr G) (h22 : ∀ i, h' 22 i = hi 22 i) (h24 : ∀ i, h' 24 i = hi 24 i) (h23 : ∀ i, hr' 23 i = hr 23 i) (h4 : ∀ i, hr' 4 i = hr 4 i) (g : ∀ a i, 81 ≤ a → a ≤ 83 → G' a i = G a i) : GCr h' hr' G' := by
  intro i i0 i1
  rw [h22, h24, h23, h4, g 81 _ (by decide) (by decide), g 82 _ (by decide) (by decide), g 83 _ (by decide) (by decide)]
  exact H i i0 i1
/-- a process, as the class has it -/
def MnC (S : Int → Option (Int → Int)) (h : HI) (hr : HR) (G : HI) (p : Int) : Prop := hr 17 p = hr 4 (G 77 p) ∧ h 18 p = G 77 p ∧ h 19 p = G 78 p ∧ h 20 p = G 79 p ∧ (∃ b, S (G 77 p) = some b ∧ 0 ≤ G 78 p ∧ G 78 p < nFn b ∧ btb b (G 78 p)) ∧ (1 ≤ G 79 p ∧ G 79 p ≤ 64) ∧ ∀ b k, S (G 77 p) = some b → 0 ≤ k → k < nPar b (G 78 p) → h 21 (4 * p + k) = G 80 (4 * p + k)
theorem CSh.gc {m : Int} (h : CSh al hi hr S) (e : hr 4 m = some N) (m0 : 0 ≤ m ∧ m < 6) : ∃ b n L, S m = some b ∧ GC al hi hr N n b L := by
  cases hS : S m with
  | none => rw [h.2 m m0.1 m0.2 hS] at e; cases e
  | some b =>
    obtain ⟨_, N', n, L, e1, e2⟩ := h.1 m b hS
    rw [e] at e1; cases e1
    exact ⟨b, n, L, rfl, e2⟩
theorem GC.cm {hi' : HI} {hr' : HR} {L : Nat} {b : Int → Int} (h : GC al hi hr N n b L) (hf : FW wCm hi hi') (hR : RW rCm hr hr') : GC al hi' hr' N n b L := by
  have := h.n119
  exact h.fr GA.rf (fun i => hf 0 i (by unfold wCm; omega)) (fun a i z _ => hf a i (by unfold wCm; omega)) (fun a i z _ => hR a i (by unfold rCm; omega))
theorem BM.cm {hi' : HI} {hr' : HR} (h : BM al hi hr n B) (hf : FW wCm hi hi') (h1 : ∀ i, i = 1 ∨ i = 2 → hi' 15 i = hi 15 i) (h0 : 0 ≤ hi' 15 3) (hr0 : hr' 15 0 = hr 15 0) : BM al hi' hr' n B := by
  obtain ⟨⟨a1, a2, a3, a4, a5, a6, a7⟩, b, c⟩ := h
  exact ⟨⟨a1, hr0.trans a2, a3, (h1 1 (by decide)).trans a4, a5, fun k k0 k1 => (hf 3 k (by unfold wCm; omega)).trans (a6 k k0 k1), a7⟩, (h1 2 (by decide)).trans b, h0⟩
/-- what reading a process writes -/
def wRp (a : Nat) (i : Int) : Prop := (a = 15 ∧ (i = 3 ∨ i = 4 ∨ i = 5)) ∨ (18 ≤ a ∧ a ≤ 22) ∨ a = 24 ∨ a = 25 ∨ (a = 14 ∧ i = 11)
theorem wRp_cm {h h' : HI} (f : FW wRp h h') : FW wCm h h' := f.mn (fun a i z => by unfold wRp at z; unfold wCm; omega)
theorem rRp_cm {h h' : HR} (f : RW (fun a _ => a = 17 ∨ a = 23) h h') : RW rCm h h' := f.mn (fun a i z => by unfold rCm; omega)
theorem BM.rp {hi' : HI} {hr' : HR} (h : BM al hi hr n B) (hf : FW wRp hi hi') (hR : RW (fun a _ => a = 17 ∨ a = 23) hr hr') (h0 : 0 ≤ hi' 15 3) : BM al hi' hr' n B := h.cm (wRp_cm hf) (fun i z => hf 15 i (by unfold wRp; omega)) h0 (hR 15 0 (by decide))
set_option maxRecDepth 8000 in
theorem h_readProcess {p q : Int} (hA : SA al) (hc : CR hr) (hd : 6 ≤ d) (hB : BM al hi hr n B) (h4 : hi 15 4 = 0) (hq : hi 15 3 = q) (hS : CSh al hi hr S) (p0 : 0 ≤ p ∧ p < 6) (hG : GCr hi hr G) (hV : GV S G)
    (ok : ∀ q' G' hi' hr', prcP S B p (q, G) = .ok (q', G') → FW wRp hi hi' → RW (fun a _ => a = 17 ∨ a = 23) hr hr' → hi' 15 4 = 0 → hi' 15 3 = q' → hi' 15 5 = hi 15 5 → 0 ≤ q' → GCr hi' hr' G' → GV S G' → MnC S hi' hr' G' p → (∀ a i, 18 ≤ a → a ≤ 20 → i ≠ p → hi' a i = hi a i ∧ G' (a + 59) i = G (a + 59) i) → (∀ i, i ≠ p → hr' 17 i = hr 17 i) → (∀ i, i < 4 * p → hi' 21 i = hi 21 i ∧ G' 80 i = G 80 i) → Q (some none) al hi' hr')
    (er : ∀ w q' hi' hr', prcP S B p (q, G) = .error (w, q') → FW wRp hi hi' → RW (fun a _ => a = 17 ∨ a = 23) hr hr' → hi' 15 4 = w → hi' 15 5 = q' → w ≠ 0 → 0 ≤ hi' 15 3 → Q (some none) al hi' hr') : Ev d 99 [vR (some 14), vI p, vR (some 4)] al hi hr Q := by
  have k14 : isK al 14 7 := hA.k (by decide) (by decide) rfl
  have k15 := hB.1.1
  have k17 : isK al 17 20 := hA.k (by decide) (by decide) rfl
  have l17 : aln al 17 = 6 := hA.len (by decide) (by decide) rfl
  have k18 : isK al 18 15 := hA.k (by decide) (by decide) rfl
  have l18 : aln al 18 = 6 := hA.len (by decide) (by decide) rfl
  have k19 : isK al 19 15 := hA.k (by decide) (by decide) rfl
  have l19 : aln al 19 = 6 := hA.len (by decide) (by decide) rfl
  have k20 : isK al 20 15 := hA.k (by decide) (by decide) rfl
  have l20 : aln al 20 = 6 := hA.len (by decide) (by decide) rfl
  have k21 : isK al 21 15 := hA.k (by decide) (by decide) rfl
  have l21 : aln al 21 = 24 := hA.len (by decide) (by decide) rfl
  have r4 : isR al 4 = true := hA.r (by decide) (by decide) (by decide)
  have q4 : isQ al 4 = true := hA.q (by decide) (by decide) (by decide)
  have l4 : aln al 4 = 6 := hA.len (by decide) (by decide) rfl
  have hcw : ∀ {hr' : HR}, RW (fun a _ => a = 17 ∨ a = 23) hr hr' → CR hr' := fun z => hc.rcm z
  have hSw : ∀ {h' : HI} {hr' : HR}, FW wRp hi h' → RW (fun a _ => a = 17 ∨ a = 23) hr hr' → CSh al h' hr' S := fun z1 z2 => hS.cm (wRp_cm z1) (rRp_cm z2)
  have f4 : ∀ {hr' : HR}, RW (fun a _ => a = 17 ∨ a = 23) hr hr' → ∀ i, hr' 4 i = hr 4 i := fun z i => z 4 i (by show ¬ ((4 : Nat) = 17 ∨ (4 : Nat) = 23); decide)
  -- after a fault
  have F137 : ∀ h hr1 l3 l4 l5 t k l8, isK al (t + 1) 8 → FW wRp hi h → RW (fun a _ => a = 17 ∨ a = 23) hr hr1 → h 15 4 ≠ 0 → Q (some none) al h hr1 → Wp d 99 137 [vR (some 14), vI p, vR (some 4), l3, l4, l5, vR (some (t + 1)), vI k, l8] [] al h hr1 Q := by
    intro h hr1 l3 l4 l5 t k l8 kt w wr hn hQ
    have e0 := cr_14_0 (hcw wr)
    refine s99_137.mpr (s99_139.mpr ?_)
    refine (s99_141 (by first | decide | assumption | omega)).mpr ?_
    try simp (disch := first | decide | assumption | omega) only [kon, knt_some, knt_none, Option.toList_some, Option.toList_none, List.cons_append, List.nil_append, e0]
    refine s99_144.mpr (wif (fun c144 => ?_) (fun c144 => ?_))
    · skip
      refine s99_147.mpr ?_
      refine (s99_148 (by first | decide | assumption | omega)).mpr ?_
      try simp (disch := first | decide | assumption | omega) only [kon, knt_some, knt_none, Option.toList_some, Option.toList_none, List.cons_append, List.nil_append, e0]
      refine (s99_151 (by first | decide | assumption | omega) (by first | decide | assumption | omega)).mpr ?_
      refine b_isRight k15 (fun z => absurd z hn) (fun _ => ?_)
      simp only [kon, knt_some, knt_none, Option.toList_some, Option.toList_none, List.cons_append, List.nil_append]
      refine s99_154.mpr (wif (fun c154 => ?_) (fun c154 => ?_))
      · skip
        refine (s99_206).mpr ?_
        exact hQ
      · skip
        exact absurd rfl ‹¬ (0 : Int) = 0›
    · skip
      refine (s99_206).mpr ?_
      exact hQ
  have F95 : ∀ h hr1 m Nm f t l7 l8, isK al (t + 1) 8 → isK al Nm 10 → FW wRp hi h → RW (fun a _ => a = 17 ∨ a = 23) hr hr1 → h 15 4 ≠ 0 → 0 ≤ h 15 3 → (∀ h' hr', FW wRp hi h' → RW (fun a _ => a = 17 ∨ a = 23) hr hr' → h' 15 4 = h 15 4 → h' 15 5 = h 15 5 → 0 ≤ h' 15 3 → Q (some none) al h' hr') → Wp d 99 95 [vR (some 14), vI p, vR (some 4), vI m, vR (some Nm), vI f, vR (some (t + 1)), l7, l8] [] al h hr1 Q := by
    intro h hr1 m Nm f t l7 l8 kt kNm w wr hn h03 hQ
    have wr2 : RW (fun a _ => a = 17 ∨ a = 23) hr (upR hr1 17 p (some Nm)) := wr.up (Or.inl rfl)
    have hc2 := hcw wr2
    have e2 := cr_14_2 (hcw wr)
    have e3 := cr_14_3 hc2
    have e4 := cr_14_4 hc2
    have e5 := cr_14_5 hc2
    have e0 := cr_14_0 hc2
    let h2 := upI (upI h 18 p m) 19 p f
    have w2 : FW wRp hi h2 := (w.up (Or.inr (Or.inl ⟨by decide, by decide⟩))).up (Or.inr (Or.inl ⟨by decide, by decide⟩))
    have s15 : ∀ i, (upI (upI h 18 p m) 19 p f) 15 i = h 15 i := fun i => by show upI _ _ _ _ _ _ = _; rw [upI_a (by decide), upI_a (by decide)]
    have hB2 : BM al h2 (upR hr1 17 p (some Nm)) n B := hB.rp w2 wr2 (by show 0 ≤ (upI (upI h 18 p m) 19 p f) 15 3; rw [s15]; exact h03)
    refine s99_95.mpr ((s99_96 k14).mpr ?_)
    rw [e2]
    refine s99_99.mpr (s99_100.mpr ?_)
    refine (s99_102 k17 (by decide) p0.1 (by omega) kNm).mpr ?_
    refine s99_103.mpr ?_
    refine (s99_104 (by first | decide | assumption | omega)).mpr ?_
    refine s99_107.mpr (s99_108.mpr ?_)
    try simp (disch := first | decide | assumption | omega) only [kon, knt_some, knt_none, Option.toList_some, Option.toList_none, List.cons_append, List.nil_append, e3, e4, e5, e0]
    refine (s99_109 (by first | decide | assumption | omega) (by first | decide | assumption | omega) (by first | decide | assumption | omega)).mpr ?_
    refine s99_110.mpr ?_
    try simp (disch := first | decide | assumption | omega) only [kon, knt_some, knt_none, Option.toList_some, Option.toList_none, List.cons_append, List.nil_append, e3, e4, e5, e0]
    refine (s99_111 (by first | decide | assumption | omega)).mpr ?_
    refine s99_114.mpr (s99_115.mpr ?_)
    try simp (disch := first | decide | assumption | omega) only [kon, knt_some, knt_none, Option.toList_some, Option.toList_none, List.cons_append, List.nil_append, e3, e4, e5, e0]
    refine (s99_117 (by first | decide | assumption | omega) (by first | decide | assumption | omega) (by first | decide | assumption | omega)).mpr ?_
    refine s99_118.mpr ?_
    try simp (disch := first | decide | assumption | omega) only [kon, knt_some, knt_none, Option.toList_some, Option.toList_none, List.cons_append, List.nil_append, e3, e4, e5, e0]
    refine (s99_119 (by first | decide | assumption | omega)).mpr ?_
    refine s99_122.mpr (s99_123.mpr ?_)
    try simp (disch := first | decide | assumption | omega) only [kon, knt_some, knt_none, Option.toList_some, Option.toList_none, List.cons_append, List.nil_append, e3, e4, e5, e0]
    refine (s99_124 (by first | decide | assumption | omega)).mpr ?_
    refine s99_127.mpr (s99_128.mpr ?_)
    try simp (disch := first | decide | assumption | omega) only [kon, knt_some, knt_none, Option.toList_some, Option.toList_none, List.cons_append, List.nil_append, e3, e4, e5, e0]
    refine (s99_130 (by first | decide | assumption | omega) (by first | decide | assumption | omega)).mpr ?_
    refine h_withinF hB2 (by omega) (by rw [s15]; exact hn) (by decide) (fun x x0 x1 => ?_)
    refine (s99_133 (by first | decide | assumption | omega) (by first | decide | assumption | omega) (by first | decide | assumption | omega)).mpr ?_
    refine s99_134.mpr (s99_135.mpr ?_)
    try simp (disch := first | decide | assumption | omega) only [kon, knt_some, knt_none, Option.toList_some, Option.toList_none, List.cons_append, List.nil_append, e3, e4, e5, e0]
    refine F137 _ _ _ _ _ _ _ _ kt (w2.up (Or.inr (Or.inl ⟨by decide, by decide⟩))) wr2 (by rw [upI_a (by decide), s15]; exact hn) ?_
    exact hQ _ _ (w2.up (Or.inr (Or.inl ⟨by decide, by decide⟩))) wr2 (by rw [upI_a (by decide), s15]) (by rw [upI_a (by decide), s15]) (by rw [upI_a (by decide), s15]; exact h03)
  have F55 : ∀ h hr1 m Nm nm b Lm f l6 l7 l8, GC al h hr1 Nm nm b Lm → FW wRp hi h → RW (fun a _ => a = 17 ∨ a = 23) hr hr1 → h 15 4 ≠ 0 → 0 ≤ h 15 3 → (∀ h' hr', FW wRp hi h' → RW (fun a _ => a = 17 ∨ a = 23) hr hr' → h' 15 4 = h 15 4 → h' 15 5 = h 15 5 → 0 ≤ h' 15 3 → Q (some none) al h' hr') → Wp d 99 55 [vR (some 14), vI p, vR (some 4), vI m, vR (some Nm), vI f, l6, l7, l8] [] al h hr1 Q := by
    intro h hr1 m Nm nm b Lm f l6 l7 l8 hGm w wr hn h03 hQ
    have e0 := cr_14_0 (hcw wr)
    have E := hQ h hr1 w wr rfl rfl h03
    obtain ⟨Mm, hMm, hTm, -⟩ := id hGm
    have kNm := hMm.1.1.1
    have T77 : ∀ l6, Wp d 99 77 [vR (some 14), vI p, vR (some 4), vI m, vR (some Nm), vI f, l6, l7, l8] [] al h hr1 Q := by
      intro l6
      refine s99_77.mpr ?_
      refine (s99_78 (by first | decide | assumption | omega)).mpr ?_
      refine s99_81.mpr (s99_82.mpr ?_)
      try simp (disch := first | decide | assumption | omega) only [kon, knt_some, knt_none, Option.toList_some, Option.toList_none, List.cons_append, List.nil_append, e0]
      refine (s99_83 (by first | decide | assumption | omega)).mpr ?_
      try simp (disch := first | decide | assumption | omega) only [kon, knt_some, knt_none, Option.toList_some, Option.toList_none, List.cons_append, List.nil_append, e0]
      refine (s99_86 (by first | decide | assumption | omega)).mpr ?_
      refine s99_89.mpr (s99_90.mpr ?_)
      try simp (disch := first | decide | assumption | omega) only [kon, knt_some, knt_none, Option.toList_some, Option.toList_none, List.cons_append, List.nil_append, e0]
      refine (s99_91 (by first | decide | assumption | omega) (by first | decide | assumption | omega)).mpr ?_
      refine b_fail k15 (fun z => absurd z hn) (fun _ => ?_)
      refine (s99_94).mpr ?_
      exact E
    rcases hGm.ro (f := f) with ⟨cf, ro⟩ | ⟨cf, t, H, C, A, ro, -, -, hR, hV⟩
    · skip
      refine s99_55.mpr (s99_57.mpr ?_)
      refine (s99_59 (by first | decide | assumption | omega) (by first | decide | assumption | omega)).mpr ?_
      refine t_routineAt hMm.1.1 ?_
      simp only [kon, knt_some, knt_none, Option.toList_some, Option.toList_none, List.cons_append, List.nil_append, ro]
      refine s99_62.mpr (s99_64.mpr ?_)
      refine s99_66.mpr (wif (fun c66 => ?_) (fun c66 => ?_))
      · skip
        exact T77 _
      · skip
        exact absurd rfl (by assumption)
    · have kt := hR.1.1
      refine s99_55.mpr (s99_57.mpr ?_)
      refine (s99_59 (by first | decide | assumption | omega) (by first | decide | assumption | omega)).mpr ?_
      refine t_routineAt hMm.1.1 ?_
      simp only [kon, knt_some, knt_none, Option.toList_some, Option.toList_none, List.cons_append, List.nil_append, ro]
      refine s99_62.mpr (s99_64.mpr ?_)
      refine s99_66.mpr (wif (fun c66 => ?_) (fun c66 => ?_))
      · skip
        first | exact T77 _ | (cases ‹some (t + 1) = none›)
      · skip
        refine s99_69.mpr ?_
        refine (s99_71 (by omega)).mpr ?_
        refine h_isBootable (by omega) hR hTm cf.1 cf.2 (fun b71 => ?_) (fun b71 => ?_)
        · skip
          refine s99_74.mpr (wif (fun c74 => ?_) (fun c74 => ?_))
          · skip
            first | exact T77 _ | (cases ‹some (t + 1) = none›)
          · skip
            exact F95 h hr1 m Nm f t l7 l8 kt kNm w wr hn h03 hQ
        · skip
          refine s99_74.mpr (wif (fun c74 => ?_) (fun c74 => ?_))
          · skip
            first | exact T77 _ | (cases ‹some (t + 1) = none›)
          · skip
            exact F95 h hr1 m Nm f t l7 l8 kt kNm w wr hn h03 hQ
  have hq0 : 0 ≤ q := by rw [← hq]; exact hB.2.2
  have h255 : ∀ i, B i ≤ 255 := fun i => (hB.1.rg i).2
  have q11 : q + 1 - 1 = q := by omega
  have e0 := cr_14_0 hc
  have e415 : hr 15 0 = some 3 := hB.1.2.1
  rw [e99]
  by_cases c1 : B q < 0
  · -- no module's byte
    have hp : prcP S B p (q, G) = .error (1, q) := by unfold prcP; rw [if_pos c1]
    let h1 := upI (upI hi 15 4 1) 15 5 q
    have w1 : FW wRp hi h1 := (FW.rf.up (Or.inl ⟨rfl, by decide⟩)).up (Or.inl ⟨rfl, by decide⟩)
    have x4 : h1 15 4 = 1 := by show upI _ _ _ _ _ _ = _; rw [upI_i (by decide), upI_eq]
    have x5 : h1 15 5 = q := upI_eq
    have x3 : h1 15 3 = q := by show upI _ _ _ _ _ _ = _; rw [upI_i (by decide), upI_i (by decide)]; exact hq
    have EE : ∀ h' hr', FW wRp hi h' → RW (fun a _ => a = 17 ∨ a = 23) hr hr' → h' 15 4 = h1 15 4 → h' 15 5 = h1 15 5 → 0 ≤ h' 15 3 → Q (some none) al h' hr' := fun h' hr' y1 y2 y3 y4 y5 => er 1 q h' hr' hp y1 y2 (y3.trans x4) (y4.trans x5) (by decide) y5
    have hB1 : BM al h1 hr n B := hB.rp w1 RW.rf (by rw [x3]; exact hq0)
    have T8 : Wp d 99 8 [vR (some 14), vI p, vR (some 4), vI 0, none, none, none, none, none] [] al h1 hr Q := by
      cases e : hr 4 0 with
      | none =>
        have E := EE h1 hr w1 RW.rf rfl rfl (by rw [x3]; exact hq0)
        refine s99_8.mpr (s99_9.mpr ?_)
        refine (s99_10 (by first | decide | assumption | omega)).mpr ?_
        try simp (disch := first | decide | assumption | omega) only [kon, knt_some, knt_none, Option.toList_some, Option.toList_none, List.cons_append, List.nil_append, e0, e]
        refine s99_11.mpr (wif (fun c11 => ?_) (fun c11 => ?_))
        · first
          | (exfalso; omega)
          | skip
            refine s99_14.mpr (s99_15.mpr ?_)
            refine (s99_16 (by first | decide | assumption | omega) (by first | decide | assumption | omega) (by first | decide | assumption | omega)).mpr ?_
            refine s99_17.mpr (s99_21.mpr (s99_23.mpr ?_))
            refine s99_25.mpr (wif (fun c25 => ?_) (fun c25 => ?_))
            · skip
              refine s99_28.mpr ?_
              refine (s99_29 (by first | decide | assumption | omega)).mpr ?_
              refine s99_32.mpr (s99_33.mpr ?_)
              try simp (disch := first | decide | assumption | omega) only [kon, knt_some, knt_none, Option.toList_some, Option.toList_none, List.cons_append, List.nil_append, e0, e]
              refine (s99_34 (by first | decide | assumption | omega)).mpr ?_
              try simp (disch := first | decide | assumption | omega) only [kon, knt_some, knt_none, Option.toList_some, Option.toList_none, List.cons_append, List.nil_append, e0, e]
              refine (s99_37 (by first | decide | assumption | omega)).mpr ?_
              refine s99_40.mpr (s99_41.mpr ?_)
              try simp (disch := first | decide | assumption | omega) only [kon, knt_some, knt_none, Option.toList_some, Option.toList_none, List.cons_append, List.nil_append, e0, e]
              refine (s99_42 (by first | decide | assumption | omega) (by first | decide | assumption | omega)).mpr ?_
              refine b_fail k15 (fun z => by rw [x4] at z; cases z) (fun _ => ?_)
              refine (s99_45).mpr ?_
              first | exact E | (exfalso; omega)
            · skip
              exact absurd e (by assumption)
        · first
          | (exfalso; omega)
          | skip
            refine s99_20.mpr (s99_21.mpr (s99_23.mpr ?_))
            refine s99_25.mpr (wif (fun c25 => ?_) (fun c25 => ?_))
            · skip
              refine s99_28.mpr ?_
              refine (s99_29 (by first | decide | assumption | omega)).mpr ?_
              refine s99_32.mpr (s99_33.mpr ?_)
              try simp (disch := first | decide | assumption | omega) only [kon, knt_some, knt_none, Option.toList_some, Option.toList_none, List.cons_append, List.nil_append, e0, e]
              refine (s99_34 (by first | decide | assumption | omega)).mpr ?_
              try simp (disch := first | decide | assumption | omega) only [kon, knt_some, knt_none, Option.toList_some, Option.toList_none, List.cons_append, List.nil_append, e0, e]
              refine (s99_37 (by first | decide | assumption | omega)).mpr ?_
              refine s99_40.mpr (s99_41.mpr ?_)
              try simp (disch := first | decide | assumption | omega) only [kon, knt_some, knt_none, Option.toList_some, Option.toList_none, List.cons_append, List.nil_append, e0, e]
              refine (s99_42 (by first | decide | assumption | omega) (by first | decide | assumption | omega)).mpr ?_
              refine b_fail k15 (fun z => by rw [x4] at z; cases z) (fun _ => ?_)
              refine (s99_45).mpr ?_
              first | exact E | (exfalso; omega)
            · skip
              exact absurd e (by assumption)
      | some N0 =>
        obtain ⟨b, nb, L, -, hGb⟩ := (hSw w1 RW.rf).gc e (by omega)
        refine s99_8.mpr (s99_9.mpr ?_)
        refine (s99_10 (by first | decide | assumption | omega)).mpr ?_
        try simp (disch := first | decide | assumption | omega) only [kon, knt_some, knt_none, Option.toList_some, Option.toList_none, List.cons_append, List.nil_append, e0, e]
        refine s99_11.mpr (wif (fun c11 => ?_) (fun c11 => ?_))
        · first
          | (exfalso; omega)
          | skip
            refine s99_14.mpr (s99_15.mpr ?_)
            refine (s99_16 (by first | decide | assumption | omega) (by first | decide | assumption | omega) (by first | decide | assumption | omega)).mpr ?_
            refine s99_17.mpr (s99_21.mpr (s99_23.mpr ?_))
            refine s99_25.mpr (wif (fun c25 => ?_) (fun c25 => ?_))
            · skip
              exfalso; rw [e] at c25; cases c25
            · skip
              rw [e]
              refine s99_46.mpr ((s99_47 k14).mpr ?_)
              rw [e0]
              refine (s99_50 (by omega) k15).mpr ?_
              refine h_takeF hB1 (by omega) (by rw [x4]; decide) ?_
              simp only [kon, knt_some, knt_none, Option.toList_some, Option.toList_none, List.cons_append, List.nil_append]
              refine s99_53.mpr ?_
              exact F55 h1 hr 0 N0 nb b L 0 _ _ _ hGb w1 RW.rf (by rw [x4]; decide) (by rw [x3]; exact hq0) EE
        · first
          | (exfalso; omega)
          | skip
            refine s99_20.mpr (s99_21.mpr (s99_23.mpr ?_))
            refine s99_25.mpr (wif (fun c25 => ?_) (fun c25 => ?_))
            · skip
              exfalso; rw [e] at c25; cases c25
            · skip
              rw [e]
              refine s99_46.mpr ((s99_47 k14).mpr ?_)
              rw [e0]
              refine (s99_50 (by omega) k15).mpr ?_
              refine h_takeF hB1 (by omega) (by rw [x4]; decide) ?_
              simp only [kon, knt_some, knt_none, Option.toList_some, Option.toList_none, List.cons_append, List.nil_append]
              refine s99_53.mpr ?_
              exact F55 h1 hr 0 N0 nb b L 0 _ _ _ hGb w1 RW.rf (by rw [x4]; decide) (by rw [x3]; exact hq0) EE
    refine s99_0.mpr ?_
    refine (s99_1 (by first | decide | assumption | omega)).mpr ?_
    try simp (disch := first | decide | assumption | omega) only [kon, knt_some, knt_none, Option.toList_some, Option.toList_none, List.cons_append, List.nil_append, e0]
    refine (s99_4 (by first | decide | assumption | omega) (by first | decide | assumption | omega)).mpr ?_
    refine h_take hB (by omega) h4 (fun _ => ?_) (fun z => absurd z (by rw [hq]; omega))
    simp only [kon, knt_some, knt_none, Option.toList_some, Option.toList_none, List.cons_append, List.nil_append]
    rw [hq]
    refine s99_7.mpr ?_
    exact T8
  have hql := hB.lt (k := q) (by omega)
  have n2 : n ≤ 2000 := hB.1.2.2.2.2.2.2.2.2
  obtain ⟨m, hBm⟩ : ∃ m, B q = m := ⟨_, rfl⟩
  have m255 : m ≤ 255 := by rw [← hBm]; exact h255 q
  obtain ⟨h1, hh1⟩ : ∃ h1, h1 = upI hi 15 3 (q + 1) := ⟨_, rfl⟩
  have w1 : FW wRp hi h1 := by rw [hh1]; exact FW.rf.up (Or.inl ⟨rfl, by decide⟩)
  have x13 : h1 15 3 = q + 1 := by rw [hh1]; exact upI_eq
  have x14 : h1 15 4 = 0 := by rw [hh1, upI_i (by decide)]; exact h4
  have x15 : h1 15 5 = hi 15 5 := by rw [hh1, upI_i (by decide)]
  have hB1 : BM al h1 hr n B := hB.rp w1 RW.rf (by rw [x13]; omega)
  have y1 : ∀ a i, a ≠ 15 → h1 a i = hi a i := fun a i z => by rw [hh1, upI_a z]
  have T8 : Wp d 99 8 [vR (some 14), vI p, vR (some 4), vI m, none, none, none, none, none] [] al h1 hr Q := by
    cases hSm : S m with
    | none =>
      have hp : prcP S B p (q, G) = .error (3, q) := by unfold prcP; rw [if_neg c1]; simp only [hBm, hSm]
      have E := er 3 q (upI (upI h1 15 4 3) 15 5 q) hr hp ((w1.up (Or.inl ⟨rfl, by decide⟩)).up (Or.inl ⟨rfl, by decide⟩)) RW.rf (by rw [upI_i (by decide), upI_eq]) upI_eq (by decide) (by rw [upI_i (by decide), upI_i (by decide), x13]; omega)
      have hn : m < 6 → hr 4 m = none := fun z => hS.2 m (by omega) z hSm
      have T28 : Wp d 99 28 [vR (some 14), vI p, vR (some 4), vI m, vR none, none, none, none, none] [] al h1 hr Q := by
        refine s99_28.mpr ?_
        refine (s99_29 (by first | decide | assumption | omega)).mpr ?_
        refine s99_32.mpr (s99_33.mpr ?_)
        try simp (disch := first | decide | assumption | omega) only [kon, knt_some, knt_none, Option.toList_some, Option.toList_none, List.cons_append, List.nil_append, e0, x13, fSub_id, q11]
        refine (s99_34 (by first | decide | assumption | omega)).mpr ?_
        try simp (disch := first | decide | assumption | omega) only [kon, knt_some, knt_none, Option.toList_some, Option.toList_none, List.cons_append, List.nil_append, e0, x13, fSub_id, q11]
        refine (s99_37 (by first | decide | assumption | omega)).mpr ?_
        refine s99_40.mpr (s99_41.mpr ?_)
        try simp (disch := first | decide | assumption | omega) only [kon, knt_some, knt_none, Option.toList_some, Option.toList_none, List.cons_append, List.nil_append, e0, x13, fSub_id, q11]
        refine (s99_42 (by first | decide | assumption | omega) (by first | decide | assumption | omega)).mpr ?_
        refine b_fail k15 (fun _ => ?_) (fun z => absurd x14 z)
        refine (s99_45).mpr ?_
        exact E
      refine s99_8.mpr (s99_9.mpr ?_)
      refine (s99_10 (by first | decide | assumption | omega)).mpr ?_
      try simp (disch := first | decide | assumption | omega) only [kon, knt_some, knt_none, Option.toList_some, Option.toList_none, List.cons_append, List.nil_append]
      refine s99_11.mpr (wif (fun c11 => ?_) (fun c11 => ?_))
      · skip
        refine s99_14.mpr (s99_15.mpr ?_)
        refine (s99_16 (by first | decide | assumption | omega) (by first | decide | assumption | omega) (by first | decide | assumption | omega)).mpr ?_
        refine s99_17.mpr (s99_21.mpr (s99_23.mpr ?_))
        refine s99_25.mpr (wif (fun c25 => ?_) (fun c25 => ?_))
        · skip
          first | exact T28 | (rw [hn (by omega)]; exact T28)
        · skip
          first | exact absurd rfl ‹¬ (none : Option Nat) = none› | exact absurd (hn (by omega)) (by assumption)
      · skip
        refine s99_20.mpr (s99_21.mpr (s99_23.mpr ?_))
        refine s99_25.mpr (wif (fun c25 => ?_) (fun c25 => ?_))
        · skip
          first | exact T28 | (rw [hn (by omega)]; exact T28)
        · skip
          first | exact absurd rfl ‹¬ (none : Option Nat) = none› | exact absurd (hn (by omega)) (by assumption)
    | some Bm =>
      obtain ⟨hm6, N, nm, L, hN, hGC⟩ := hS.1 m Bm hSm
      obtain ⟨M, hM, hT, -⟩ := id hGC
      have kN := hM.1.1.1
      have N119 := hGC.n119
      have hGC1 : GC al h1 hr N nm Bm L := hGC.cm (wRp_cm w1) RW.rf
      have hm2 : prcP S B p (q, G) = (if B (q + 1) < 0 then .error (1, q + 1) else cif (B (q + 1) < nFn Bm ∧ btb Bm (B (q + 1))) (if 1 ≤ B (q + 2) ∧ B (q + 2) ≤ 64 then lpX (prmP S B Bm p m (B (q + 1))) (nPar Bm (B (q + 1))).toNat 0 (q + 3, upI (upI (upI G 77 p m) 78 p (B (q + 1))) 79 p (B (q + 2))) else .error (1, q + 2)) (.error (4, q + 1))) := by
        unfold prcP; rw [if_neg c1]; simp only [hBm, hSm]
      have T46 : Wp d 99 46 [vR (some 14), vI p, vR (some 4), vI m, vR (some N), none, none, none, none] [] al h1 hr Q := by
        by_cases c2 : B (q + 1) < 0
        · rw [if_pos c2] at hm2
          let h2 := upI (upI h1 15 4 1) 15 5 (q + 1)
          have w2 : FW wRp hi h2 := (w1.up (Or.inl ⟨rfl, by decide⟩)).up (Or.inl ⟨rfl, by decide⟩)
          have x24 : h2 15 4 = 1 := by show upI _ _ _ _ _ _ = _; rw [upI_i (by decide), upI_eq]
          have x25 : h2 15 5 = q + 1 := upI_eq
          have x23 : h2 15 3 = q + 1 := by show upI _ _ _ _ _ _ = _; rw [upI_i (by decide), upI_i (by decide)]; exact x13
          have R := F55 h2 hr m N nm Bm L 0 none none none (hGC.cm (wRp_cm w2) RW.rf) w2 RW.rf (by rw [x24]; decide) (by rw [x23]; omega) (fun h' hr' z1 z2 z3 z4 z5 => er 1 (q + 1) h' hr' hm2 z1 z2 (z3.trans x24) (z4.trans x25) (by decide) z5)
          refine s99_46.mpr ?_
          refine (s99_47 (by first | decide | assumption | omega)).mpr ?_
          try simp (disch := first | decide | assumption | omega) only [kon, knt_some, knt_none, Option.toList_some, Option.toList_none, List.cons_append, List.nil_append, e0]
          refine (s99_50 (by first | decide | assumption | omega) (by first | decide | assumption | omega)).mpr ?_
          refine h_take hB1 (by omega) x14 (fun _ => ?_) (fun z => absurd z (by rw [x13]; omega))
          simp only [kon, knt_some, knt_none, Option.toList_some, Option.toList_none, List.cons_append, List.nil_append]
          rw [x13]
          refine s99_53.mpr ?_
          exact R
        rw [if_neg c2] at hm2
        have hq1l := hB.lt (k := q + 1) (by omega)
        obtain ⟨f, hBf⟩ : ∃ f, B (q + 1) = f := ⟨_, rfl⟩
        rw [hBf] at hm2
        have f255 : f ≤ 255 := by rw [← hBf]; exact h255 _
        obtain ⟨h2, hh2⟩ : ∃ h2, h2 = upI h1 15 3 (q + 1 + 1) := ⟨_, rfl⟩
        have w2 : FW wRp hi h2 := by rw [hh2]; exact w1.up (Or.inl ⟨rfl, by decide⟩)
        have x23 : h2 15 3 = q + 2 := by rw [hh2, upI_eq]; omega
        have x24 : h2 15 4 = 0 := by rw [hh2, upI_i (by decide)]; exact x14
        have x25 : h2 15 5 = hi 15 5 := by rw [hh2, upI_i (by decide)]; exact x15
        have y2 : ∀ a i, a ≠ 15 → h2 a i = hi a i := fun a i z => by rw [hh2, upI_a z, y1 a i z]
        have hB2 : BM al h2 hr n B := hB.rp w2 RW.rf (by rw [x23]; omega)
        have hGC2 : GC al h2 hr N nm Bm L := hGC.cm (wRp_cm w2) RW.rf
        obtain ⟨M2, hM2, -⟩ := id hGC2
        have q12 : q + 2 - 1 = q + 1 := by omega
        have T77 : ¬ (f < nFn Bm ∧ btb Bm f) → ∀ l6, Wp d 99 77 [vR (some 14), vI p, vR (some 4), vI m, vR (some N), vI f, l6, none, none] [] al h2 hr Q := by
          intro hc9 l6
          rw [cif_n hc9] at hm2
          have E := er 4 (q + 1) (upI (upI h2 15 4 4) 15 5 (q + 1)) hr hm2 ((w2.up (Or.inl ⟨rfl, by decide⟩)).up (Or.inl ⟨rfl, by decide⟩)) RW.rf (by rw [upI_i (by decide), upI_eq]) upI_eq (by decide) (by rw [upI_i (by decide), upI_i (by decide), x23]; omega)
          refine s99_77.mpr ?_
          refine (s99_78 (by first | decide | assumption | omega)).mpr ?_
          refine s99_81.mpr (s99_82.mpr ?_)
          try simp (disch := first | decide | assumption | omega) only [kon, knt_some, knt_none, Option.toList_some, Option.toList_none, List.cons_append, List.nil_append, e0, x23, fSub_id, q12]
          refine (s99_83 (by first | decide | assumption | omega)).mpr ?_
          try simp (disch := first | decide | assumption | omega) only [kon, knt_some, knt_none, Option.toList_some, Option.toList_none, List.cons_append, List.nil_append, e0, x23, fSub_id, q12]
          refine (s99_86 (by first | decide | assumption | omega)).mpr ?_
          refine s99_89.mpr (s99_90.mpr ?_)
          try simp (disch := first | decide | assumption | omega) only [kon, knt_some, knt_none, Option.toList_some, Option.toList_none, List.cons_append, List.nil_append, e0, x23, fSub_id, q12]
          refine (s99_91 (by first | decide | assumption | omega) (by first | decide | assumption | omega)).mpr ?_
          refine b_fail k15 (fun _ => ?_) (fun z => absurd x24 z)
          refine (s99_94).mpr ?_
          exact E
        have T55 : Wp d 99 55 [vR (some 14), vI p, vR (some 4), vI m, vR (some N), vI f, none, none, none] [] al h2 hr Q := by
          rcases hGC2.ro (f := f) with ⟨cf, ro⟩ | ⟨cf, t, H, C, A, ro, tN, tL, hR, hV9⟩
          · skip
            refine s99_55.mpr (s99_57.mpr ?_)
            refine (s99_59 (by first | decide | assumption | omega) (by first | decide | assumption | omega)).mpr ?_
            refine t_routineAt hM2.1.1 ?_
            simp only [kon, knt_some, knt_none, Option.toList_some, Option.toList_none, List.cons_append, List.nil_append, ro]
            refine s99_62.mpr (s99_64.mpr ?_)
            refine s99_66.mpr (wif (fun c66 => ?_) (fun c66 => ?_))
            · skip
              exact T77 (fun z => cf ⟨by omega, z.1⟩) _
            · skip
              exact absurd rfl (by assumption)
          have kt := hR.1.1
          have T95 : btb Bm f → Wp d 99 95 [vR (some 14), vI p, vR (some 4), vI m, vR (some N), vI f, vR (some (t + 1)), none, none] [] al h2 hr Q := by
            intro hbt
            rw [cif_y ⟨cf.2, hbt⟩] at hm2
            let hr2 := upR hr 17 p (some N)
            have wr2 : RW (fun a _ => a = 17 ∨ a = 23) hr hr2 := RW.rf.up (Or.inl rfl)
            have hc2 := hcw wr2
            have e2 := cr_14_2 hc
            have e3 : (upR hr 17 p (some N)) 14 3 = some 18 := cr_14_3 hc2
            have e4 : (upR hr 17 p (some N)) 14 4 = some 19 := cr_14_4 hc2
            have e5 : (upR hr 17 p (some N)) 14 5 = some 20 := cr_14_5 hc2
            have e02 : (upR hr 17 p (some N)) 14 0 = some 15 := cr_14_0 hc2
            obtain ⟨h3, hh3⟩ : ∃ h3, h3 = upI (upI h2 18 p m) 19 p f := ⟨_, rfl⟩
            have w3 : FW wRp hi h3 := by rw [hh3]; exact (w2.up (Or.inr (Or.inl ⟨by decide, by decide⟩))).up (Or.inr (Or.inl ⟨by decide, by decide⟩))
            have y3 : ∀ a i, a ≠ 18 → a ≠ 19 → h3 a i = h2 a i := fun a i z1 z2 => by rw [hh3, upI_a z2, upI_a z1]
            have x33 : h3 15 3 = q + 2 := (y3 15 3 (by decide) (by decide)).trans x23
            have x34 : h3 15 4 = 0 := (y3 15 4 (by decide) (by decide)).trans x24
            have hB3 : BM al h3 hr2 n B := hB.rp w3 wr2 (by rw [x33]; omega)
            have T103 : Ev (d - 1) 16 [vR (some 15), vI 1, vI 64] al h3 hr2 (kon d 99 130 133 [vR (some 14), vI p, vR (some 4), vI m, vR (some N), vI f, vR (some (t + 1)), none, none] [vI p, vR (some 20)] Q) := by
              by_cases c3 : 1 ≤ B (q + 2) ∧ B (q + 2) ≤ 64
              case neg =>
                rw [if_neg c3] at hm2
                refine h_within hB3 (by omega) x34 (by decide) (by decide) (fun _ x h4 z0 z1 f1 z4 z5 z3 => ?_) (fun z => absurd (by rw [x33] at z; exact z) c3)
                simp only [kon, knt_some, knt_none, Option.toList_some, Option.toList_none, List.cons_append, List.nil_append]
                have w4 : FW wRp hi h4 := w3.tr (f1.mn (fun a i z => by unfold wY at z; unfold wRp; omega))
                have R := F137 (upI h4 20 p x) hr2 (vI m) (vR (some N)) (vI f) t 0 none kt (w4.up (Or.inr (Or.inl ⟨by decide, by decide⟩))) wr2 (by rw [upI_a (by decide), z4]; decide) (er 1 (q + 2) _ hr2 hm2 (w4.up (Or.inr (Or.inl ⟨by decide, by decide⟩))) wr2 (by rw [upI_a (by decide)]; exact z4) (by rw [upI_a (by decide), z5]; exact x33) (by decide) (by rw [upI_a (by decide)]; exact z3))
                refine (s99_133 (by first | decide | assumption | omega) (by first | decide | assumption | omega) (by first | decide | assumption | omega)).mpr ?_
                refine s99_134.mpr (s99_135.mpr ?_)
                exact R
              rw [if_pos c3] at hm2
              have hq2l := hB.lt (k := q + 2) (by omega)
              refine h_within hB3 (by omega) x34 (by decide) (by decide) (fun z => absurd (by rw [x33]; exact c3) z) (fun _ => ?_)
              simp only [kon, knt_some, knt_none, Option.toList_some, Option.toList_none, List.cons_append, List.nil_append]
              rw [x33]
              obtain ⟨h5, hh5⟩ : ∃ h5, h5 = upI (upI h3 15 3 (q + 2 + 1)) 20 p (B (q + 2)) := ⟨_, rfl⟩
              let G5 := upI (upI (upI G 77 p m) 78 p f) 79 p (B (q + 2))
              have w5 : FW wRp hi h5 := by rw [hh5]; exact (w3.up (Or.inl ⟨rfl, by decide⟩)).up (Or.inr (Or.inl ⟨by decide, by decide⟩))
              have x53 : h5 15 3 = q + 3 := by rw [hh5, upI_a (by decide), upI_eq]; omega
              have x5i : ∀ i, i ≠ 3 → h5 15 i = h3 15 i := fun i z => by rw [hh5, upI_a (by decide), upI_i z]
              have y5 : ∀ a i, 21 ≤ a → h5 a i = hi a i := fun a i z => by rw [hh5, upI_a (by omega), upI_a (by omega), y3 a i (by omega) (by omega), y2 a i (by omega)]
              have gG5 : ∀ a i, 80 ≤ a → G5 a i = G a i := fun a i z => by show upI _ _ _ _ _ _ = _; rw [upI_a (by omega), upI_a (by omega), upI_a (by omega)]
              have hG5 : GCr h5 hr2 G5 := hG.fr (fun i => y5 22 i (by decide)) (fun i => y5 24 i (by decide)) (fun i => upR_a (by decide)) (fun i => upR_a (by decide)) (fun a i z1 z2 => gG5 a i (by omega))
              have hV5 : GV S G5 := hV.lo (fun a i z => gG5 a i (by omega))
              have n4 : nPar Bm f ≤ 4 := (hT.2.1.2.2.2.2.2.2.2.2.2.2 f cf.1 cf.2).2.1
              have n0 : 0 ≤ nPar Bm f := (hT.2.1.2.2.2.2.2.2.2.2.2.2 f cf.1 cf.2).1
              have kq : ∀ {h' : HI} {hr' : HR}, FW wRp hi h' → RW (fun a _ => a = 17 ∨ a = 23) hr hr' → RoutOK al h' hr' Bm f t := fun z1 z2 => hR.fr GA.rf (fun a i u1 u2 u3 => by rw [y2 a i (by omega)]; exact z1 a i (by unfold wRp; omega)) (fun i _ => z2 _ _ (by show ¬ (_ = 17 ∨ _ = 23); omega))
              have T137 : ∀ (j : Nat) (k q' : Int) G' h' hr' l8, k + j = nPar Bm f → 0 ≤ k → prcP S B p (q, G) = lpX (prmP S B Bm p m f) j k (q', G') → FW wRp hi h' → RW (fun a _ => a = 17 ∨ a = 23) hr hr' → h' 15 4 = 0 → h' 15 3 = q' → h' 15 5 = hi 15 5 → 0 ≤ q' → GCr h' hr' G' → GV S G' → (∀ a i, 18 ≤ a → a ≤ 20 → h' a i = h5 a i) → (∀ a i, a ≤ 79 → G' a i = G5 a i) → (∀ i, hr' 17 i = hr2 17 i) → (∀ i, i < 4 * p → h' 21 i = hi 21 i ∧ G' 80 i = G 80 i) → (∀ k', 0 ≤ k' → k' < k → h' 21 (4 * p + k') = G' 80 (4 * p + k')) → Wp d 99 137 [vR (some 14), vI p, vR (some 4), vI m, vR (some N), vI f, vR (some (t + 1)), vI k, l8] [] al h' hr' Q := by
                intro j
                induction j with
                | zero =>
                  intro k q' G' h' hr' l8 hk k0 hm3 w' wr' x4' x3' x5' q0' gc' gv' i18 i77 i17 i80 ik
                  have hR' := kq w' wr'
                  have eP : h' (t + 1) 0 = nPar Bm f := hR'.2.2.2.1
                  have g77 : G' 77 p = m := by rw [i77 77 p (by decide)]; show upI _ _ _ _ _ _ = _; rw [upI_a (by decide), upI_a (by decide), upI_eq]
                  have g78 : G' 78 p = f := by rw [i77 78 p (by decide)]; show upI _ _ _ _ _ _ = _; rw [upI_a (by decide), upI_eq]
                  have g79 : G' 79 p = B (q + 2) := by rw [i77 79 p (by decide)]; show upI _ _ _ _ _ _ = _; rw [upI_eq]
                  have s18 : ∀ i, h5 18 i = if i = p then m else hi 18 i := fun i => by rw [hh5, upI_a (by decide), upI_a (by decide), hh3, upI_a (by decide), upI_self, y2 18 i (by decide)]
                  have s19 : ∀ i, h5 19 i = if i = p then f else hi 19 i := fun i => by rw [hh5, upI_a (by decide), upI_a (by decide), hh3, upI_self, upI_a (by decide), y2 19 i (by decide)]
                  have s20 : ∀ i, h5 20 i = if i = p then B (q + 2) else hi 20 i := fun i => by rw [hh5, upI_self, upI_a (by decide), hh3, upI_a (by decide), upI_a (by decide), y2 20 i (by decide)]
                  have E := ok q' G' h' hr' hm3 w' wr' x4' x3' x5' q0' gc' gv' ⟨by rw [g77, i17, f4 wr']; show (if _ then _ else _) = _; rw [if_pos ⟨rfl, rfl⟩]; exact hN.symm, by rw [g77, i18 18 p (by decide) (by decide), s18, if_pos rfl], by rw [g78, i18 19 p (by decide) (by decide), s19, if_pos rfl], by rw [g79, i18 20 p (by decide) (by decide), s20, if_pos rfl], ⟨Bm, by rw [g77]; exact hSm, by rw [g78]; exact cf.1, by rw [g78]; exact cf.2, by rw [g78]; exact hbt⟩, by rw [g79]; exact c3, fun b k' z1 z2 z3 => by
                    rw [g77, hSm] at z1; cases z1
                    rw [g78] at z3
                    exact ik k' z2 (by omega)⟩ (fun a i z1 z2 z3 => by
                    refine ⟨?_, ?_⟩
                    · rw [i18 a i z1 z2]
                      have : a = 18 ∨ a = 19 ∨ a = 20 := by omega
                      rcases this with rfl | rfl | rfl
                      · rw [s18, if_neg z3]
                      · rw [s19, if_neg z3]
                      · rw [s20, if_neg z3]
                    · rw [i77 (a + 59) i (by omega)]
                      show upI (upI (upI G 77 p m) 78 p f) 79 p (B (q + 2)) (a + 59) i = _
                      rw [upI_i z3, upI_i z3, upI_i z3]) (fun i z => by rw [i17]; show (if _ then _ else _) = _; rw [if_neg (fun y => z y.2)]) i80
                  refine s99_137.mpr (s99_139.mpr ?_)
                  refine (s99_141 (by first | decide | assumption | omega)).mpr ?_
                  try simp (disch := first | decide | assumption | omega) only [eP]
                  refine s99_144.mpr (wif (fun c144 => ?_) (fun c144 => ?_))
                  · skip
                    exfalso; omega
                  · skip
                    refine (s99_206).mpr ?_
                    exact E
                | succ j ihj =>
                  intro k q' G' h' hr' l8 hk k0 hm3 w' wr' x4' x3' x5' q0' gc' gv' i18 i77 i17 i80 ik
                  have hR' := kq w' wr'
                  have eP : h' (t + 1) 0 = nPar Bm f := hR'.2.2.2.1
                  have hc' := hcw wr'
                  have e0' := cr_14_0 hc'
                  have e6' := cr_14_6 hc'
                  have ep := hR'.par (k := k) hT cf.1 cf.2 k0 (by omega)
                  have vt := ((hT.2.2.2.2 f cf.1 cf.2).1 k k0 (by omega)).1
                  have hB' : BM al h' hr' n B := hB.rp w' wr' (by rw [x3']; exact q0')
                  have hm3 : prcP S B p (q, G) = (prmP S B Bm p m f k (q', G')).bind (lpX (prmP S B Bm p m f) j (k + 1)) := hm3
                  have NX : ∀ q2 G2 h6 hr6 l8, prmP S B Bm p m f k (q', G') = .ok (q2, G2) → FW wRp h' h6 → RW (fun a _ => a = 23) hr' hr6 → (∀ i, h6 21 i = if i = 4 * p + k then G2 80 (4 * p + k) else h' 21 i) → (∀ a i, 18 ≤ a → a ≤ 20 → h6 a i = h' a i) → h6 15 4 = 0 → h6 15 3 = q2 → h6 15 5 = h' 15 5 → 0 ≤ q2 → GCr h6 hr6 G2 → GV S G2 → Wp d 99 137 [vR (some 14), vI p, vR (some 4), vI m, vR (some N), vI f, vR (some (t + 1)), vI (k + 1), l8] [] al h6 hr6 Q := by
                    intro q2 G2 h6 hr6 l8 hpm w6 wr6 z21 z18 z4 z3 z5 z0 zc zv
                    rw [hpm] at hm3
                    obtain ⟨pg1, pg2⟩ := prm_g hpm
                    have pg1 : ∀ a i, a ≤ 79 → G2 a i = G' a i := pg1
                    have pg2 : ∀ i, i ≠ 4 * p + k → G2 80 i = G' 80 i := pg2
                    refine ihj (k + 1) q2 G2 h6 hr6 l8 (by omega) (by omega) hm3 (w'.tr w6) (wr'.tr (wr6.mn (fun a i z => Or.inr z))) z4 z3 (z5.trans x5') z0 zc zv (fun a i u1 u2 => (z18 a i u1 u2).trans (i18 a i u1 u2)) (fun a i u => (pg1 a i u).trans (i77 a i u)) (fun i => (wr6 17 i (by show ¬ (17 : Nat) = 23; decide)).trans (i17 i)) (fun i u => ⟨?_, ?_⟩) (fun k' u1 u2 => ?_)
                    · rw [z21, if_neg (by omega)]; exact (i80 i u).1
                    · rw [pg2 i (by omega)]; exact (i80 i u).2
                    · rw [z21]
                      by_cases u : k' = k
                      · subst u; rw [if_pos rfl]
                      · rw [if_neg (by omega), pg2 _ (by omega)]; exact ik k' u1 (by omega)
                  have ERP : ∀ w2 q2, prmP S B Bm p m f k (q', G') = .error (w2, q2) → ∀ h6 x, w2 ≠ 0 → FW wRp h' h6 → h6 15 4 = w2 → h6 15 5 = q2 → 0 ≤ h6 15 3 → ∀ k8 l8, Wp d 99 137 [vR (some 14), vI p, vR (some 4), vI m, vR (some N), vI f, vR (some (t + 1)), vI k8, l8] [] al (upI h6 21 (4 * p + k) x) hr' Q := by
                    intro w2 q2 hpm h6 x hw2 w6 z4 z5 z3 k8 l8
                    rw [hpm] at hm3
                    have w7 : FW wRp hi (upI h6 21 (4 * p + k) x) := (w'.tr w6).up (Or.inr (Or.inl ⟨by decide, by decide⟩))
                    exact F137 _ hr' _ _ _ t k8 l8 kt w7 wr' (by rw [upI_a (by decide), z4]; exact hw2) (er w2 q2 _ hr' hm3 w7 wr' (by rw [upI_a (by decide)]; exact z4) (by rw [upI_a (by decide)]; exact z5) hw2 (by rw [upI_a (by decide)]; exact z3))
                  have ix : p * 4 + k = 4 * p + k := by omega
                  by_cases ct : pTy Bm f k = 0
                  · rw [ct, cv_0] at ep
                    refine s99_137.mpr (s99_139.mpr ?_)
                    refine (s99_141 (by first | decide | assumption | omega)).mpr ?_
                    try simp (disch := first | decide | assumption | omega) only [kon, knt_some, knt_none, Option.toList_some, Option.toList_none, List.cons_append, List.nil_append, eP, e0', e6', fAdd_id, fMul_id, ix]
                    refine s99_144.mpr (wif (fun c144 => ?_) (fun c144 => ?_))
                    · first
                      | (exfalso; omega)
                      | skip
                        refine s99_147.mpr ?_
                        refine (s99_148 (by first | decide | assumption | omega)).mpr ?_
                        try simp (disch := first | decide | assumption | omega) only [kon, knt_some, knt_none, Option.toList_some, Option.toList_none, List.cons_append, List.nil_append, eP, e0', e6', fAdd_id, fMul_id, ix]
                        refine (s99_151 (by first | decide | assumption | omega) (by first | decide | assumption | omega)).mpr ?_
                        refine b_isRight k15 (fun _ => ?_) (fun z => absurd x4' z)
                        simp only [kon, knt_some, knt_none, Option.toList_some, Option.toList_none, List.cons_append, List.nil_append]
                        refine s99_154.mpr (wif (fun c154 => ?_) (fun c154 => ?_))
                        · first
                          | (exfalso; omega)
                          | skip
                            first | (exfalso; omega) | exact absurd ‹(1 : Int) = 0› (by decide)
                        · first
                          | (exfalso; omega)
                          | skip
                            refine s99_157.mpr (s99_159.mpr ?_)
                            refine (s99_161 (by first | decide | assumption | omega) (by first | decide | assumption | omega)).mpr ?_
                            refine r_typeOfParameter hR'.1 ?_
                            simp only [kon, knt_some, knt_none, Option.toList_some, Option.toList_none, List.cons_append, List.nil_append, ep]
                            refine s99_164.mpr (s99_166.mpr ?_)
                            refine (s99_167 (by first | decide | assumption | omega)).mpr ?_
                            refine s99_170.mpr (s99_171.mpr (s99_172.mpr (s99_173.mpr (s99_175.mpr (s99_176.mpr ?_)))))
                            try simp (disch := first | decide | assumption | omega) only [kon, knt_some, knt_none, Option.toList_some, Option.toList_none, List.cons_append, List.nil_append, eP, e0', e6', fAdd_id, fMul_id, ix]
                            refine s99_178.mpr (wif (fun c178 => ?_) (fun c178 => ?_))
                            · first
                              | (exfalso; omega)
                              | skip
                                refine s99_181.mpr ?_
                                refine (s99_182 (by first | decide | assumption | omega)).mpr ?_
                                try simp (disch := first | decide | assumption | omega) only [kon, knt_some, knt_none, Option.toList_some, Option.toList_none, List.cons_append, List.nil_append, eP, e0', e6', fAdd_id, fMul_id, ix]
                                refine (s99_185 (by first | decide | assumption | omega) (by first | decide | assumption | omega)).mpr ?_
                                refine h_takeWord hB' (by omega) x4' (fun r x h6 v1 v2 v3 v4 v5 => ?_) (fun v1 => ?_)
                                · skip
                                  simp only [kon, knt_some, knt_none, Option.toList_some, Option.toList_none, List.cons_append, List.nil_append]
                                  refine s99_188.mpr ?_
                                  refine (s99_199 (by first | decide | assumption | omega) (by first | decide | assumption | omega) (by first | decide | assumption | omega)).mpr ?_
                                  refine s99_200.mpr (s99_203.mpr ?_)
                                  try simp (disch := first | decide | assumption | omega) only [kon, knt_some, knt_none, Option.toList_some, Option.toList_none, List.cons_append, List.nil_append, eP, e0', e6', fAdd_id, fMul_id, ix]
                                  first
                                  | (refine ERP 1 r (prm_mis ct (by rw [← x3']; exact v1)) h6 _ (by decide) (v2.mn (fun a i z => by unfold wY at z; unfold wRp; omega)) v3 v4 v5 _ _)
                                  | (refine NX (q' + 4) _ _ hr' _ (prm_wd ct (by rw [← x3']; exact v1)) ((FW.rf.up (Or.inl ⟨rfl, by decide⟩)).up (Or.inr (Or.inl ⟨by decide, by decide⟩))) RW.rf (fun i => by rw [upI_self, upI_a (by decide), upI_eq, x3']) (fun a i u1 u2 => by rw [upI_a (by omega), upI_a (by omega)]) (by rw [upI_a (by decide), upI_i (by decide)]; exact x4') (by rw [upI_a (by decide), upI_eq, x3']) (by rw [upI_a (by decide), upI_i (by decide)]) (by omega) (gc'.fr (fun i => by rw [upI_a (by decide), upI_a (by decide)]) (fun i => by rw [upI_a (by decide), upI_a (by decide)]) (fun _ => rfl) (fun _ => rfl) (fun a i z1 z2 => upI_a (by omega))) gv'.g80)
                                · skip
                                  simp only [kon, knt_some, knt_none, Option.toList_some, Option.toList_none, List.cons_append, List.nil_append]
                                  refine s99_188.mpr ?_
                                  refine (s99_199 (by first | decide | assumption | omega) (by first | decide | assumption | omega) (by first | decide | assumption | omega)).mpr ?_
                                  refine s99_200.mpr (s99_203.mpr ?_)
                                  try simp (disch := first | decide | assumption | omega) only [kon, knt_some, knt_none, Option.toList_some, Option.toList_none, List.cons_append, List.nil_append, eP, e0', e6', fAdd_id, fMul_id, ix]
                                  first
                                  | (refine ERP 1 r (prm_mis ct (by rw [← x3']; exact v1)) h6 _ (by decide) (v2.mn (fun a i z => by unfold wY at z; unfold wRp; omega)) v3 v4 v5 _ _)
                                  | (refine NX (q' + 4) _ _ hr' _ (prm_wd ct (by rw [← x3']; exact v1)) ((FW.rf.up (Or.inl ⟨rfl, by decide⟩)).up (Or.inr (Or.inl ⟨by decide, by decide⟩))) RW.rf (fun i => by rw [upI_self, upI_a (by decide), upI_eq, x3']) (fun a i u1 u2 => by rw [upI_a (by omega), upI_a (by omega)]) (by rw [upI_a (by decide), upI_i (by decide)]; exact x4') (by rw [upI_a (by decide), upI_eq, x3']) (by rw [upI_a (by decide), upI_i (by decide)]) (by omega) (gc'.fr (fun i => by rw [upI_a (by decide), upI_a (by decide)]) (fun i => by rw [upI_a (by decide), upI_a (by decide)]) (fun _ => rfl) (fun _ => rfl) (fun a i z1 z2 => upI_a (by omega))) gv'.g80)
                            · first
                              | (exfalso; omega)
                              | skip
                                exact absurd rfl (by assumption)
                    · first
                      | (exfalso; omega)
                      | skip
                        first | (exfalso; omega) | exact absurd ‹(1 : Int) = 0› (by decide)
                  · have tk := (hbt.2 k k0 (by omega)).resolve_left ct
                    obtain ⟨ty, hty⟩ : ∃ ty, pTy Bm f k = ty := ⟨_, rfl⟩
                    rw [hty] at tk vt ep
                    have hty0 : ty ≠ 0 := by rw [← hty]; exact ct
                    have cvt : ¬ cv ty = 0 := fun z => hty0 ((cv_c vt.r (by decide) (by decide)).mp z)
                    have hpe := prm_e (S := S) (B := B) (G := G') (p := p) (m := m) (q := q') ct
                    rw [hty] at hpe
                    obtain ⟨e, hBe⟩ : ∃ e, B q' = e := ⟨_, rfl⟩
                    rw [hBe] at hpe
                    have w4 : whichM ty < nCtr Bm := (vt.2.2.2.2.2.2.2 tk.1).1
                    have w0 : 0 ≤ whichM ty := by unfold whichM; omega
                    have n4' : nCtr Bm ≤ 4 := hT.2.1.2.2.2.2.2.1
                    have sdt : 0 ≤ sideM ty ∧ sideM ty ≤ 1 := by unfold sideM; omega
                    have FX : (0 ≤ e ∧ e ≤ 7) → fitG S G' e (4 * m + whichM ty) (sideM ty) → ∀ h6 hr6 l8, FW wRe h' h6 → RW (fun a _ => a = 23) hr' hr6 → h6 15 4 = 0 → h6 15 3 = q' + 1 → h6 15 5 = h' 15 5 → (∀ i, h6 22 i = if i = e then h' 22 e + 1 else h' 22 i) → (∀ i, h6 24 i = if G' 81 e = 0 ∧ i = e then 5 + 16 * whichM ty + 1048576 * sideM ty else h' 24 i) → (∀ i, hr6 23 i = if G' 81 e = 0 ∧ i = e then some N else hr' 23 i) → Wp d 99 137 [vR (some 14), vI p, vR (some 4), vI m, vR (some N), vI f, vR (some (t + 1)), vI (k + 1), l8] [] al (upI h6 21 (4 * p + k) e) hr6 Q := by
                      intro ce cf9 h6 hr6 l8 v1 v2 v3 v4 v5 v6 v7 v8
                      have hu2 : G' 81 e < 2 := by rcases cf9 with z | z <;> omega
                      refine NX (q' + 1) _ _ hr6 _ (by rw [hpe, if_neg (fun z => z ce), cif_y cf9]) ((v1.mn (fun a i z => by unfold wRe at z; unfold wRp; omega)).up (Or.inr (Or.inl ⟨by decide, by decide⟩))) v2 (fun i => by rw [upI_self, use_80, if_pos rfl, v1 21 i (by unfold wRe; omega)]) (fun a i u1 u2 => by rw [upI_a (by omega)]; exact v1 a i (by unfold wRe; omega)) (by rw [upI_a (by decide)]; exact v3) (by rw [upI_a (by decide)]; exact v4) (by rw [upI_a (by decide)]; exact v5) (by omega) ?_ ?_
                      · refine gc'.use ce.1 hu2 (N := N) (by rw [show (4 * m + whichM ty) / 4 = m by omega]; exact (f4 wr' m).trans hN) (fun i => by rw [upI_a (by decide)]; exact v6 i) (fun i => by rw [upI_a (by decide), show (4 * m + whichM ty) % 4 = whichM ty by omega]; exact v7 i) v8 (fun i => v2 4 i (by show ¬ (4 : Nat) = 23; decide)) (by omega)
                      · refine gv'.use ce.1 sdt ⟨by omega, by omega⟩ (b := Bm) (by rw [show (4 * m + whichM ty) / 4 = m by omega]; exact hSm) (by rw [show (4 * m + whichM ty) % 4 = whichM ty by omega]; exact w4) ⟨(gc' e ce.1 (by omega)).2.1.1, hu2⟩ (fun i i0 i1 => (gc' i i0 i1).2.1.2)
                    refine s99_137.mpr (s99_139.mpr ?_)
                    refine (s99_141 (by first | decide | assumption | omega)).mpr ?_
                    try simp (disch := first | decide | assumption | omega) only [kon, knt_some, knt_none, Option.toList_some, Option.toList_none, List.cons_append, List.nil_append, eP, e0', e6', fAdd_id, fMul_id, ix]
                    refine s99_144.mpr (wif (fun c144 => ?_) (fun c144 => ?_))
                    · first
                      | (exfalso; omega)
                      | skip
                        refine s99_147.mpr ?_
                        refine (s99_148 (by first | decide | assumption | omega)).mpr ?_
                        try simp (disch := first | decide | assumption | omega) only [kon, knt_some, knt_none, Option.toList_some, Option.toList_none, List.cons_append, List.nil_append, eP, e0', e6', fAdd_id, fMul_id, ix]
                        refine (s99_151 (by first | decide | assumption | omega) (by first | decide | assumption | omega)).mpr ?_
                        refine b_isRight k15 (fun _ => ?_) (fun z => absurd x4' z)
                        simp only [kon, knt_some, knt_none, Option.toList_some, Option.toList_none, List.cons_append, List.nil_append]
                        refine s99_154.mpr (wif (fun c154 => ?_) (fun c154 => ?_))
                        · first
                          | (exfalso; omega)
                          | skip
                            first | (exfalso; omega) | exact absurd ‹(1 : Int) = 0› (by decide)
                        · first
                          | (exfalso; omega)
                          | skip
                            refine s99_157.mpr (s99_159.mpr ?_)
                            refine (s99_161 (by first | decide | assumption | omega) (by first | decide | assumption | omega)).mpr ?_
                            refine r_typeOfParameter hR'.1 ?_
                            simp only [kon, knt_some, knt_none, Option.toList_some, Option.toList_none, List.cons_append, List.nil_append, ep]
                            refine s99_164.mpr (s99_166.mpr ?_)
                            refine (s99_167 (by first | decide | assumption | omega)).mpr ?_
                            refine s99_170.mpr (s99_171.mpr (s99_172.mpr (s99_173.mpr (s99_175.mpr (s99_176.mpr ?_)))))
                            try simp (disch := first | decide | assumption | omega) only [kon, knt_some, knt_none, Option.toList_some, Option.toList_none, List.cons_append, List.nil_append, eP, e0', e6', fAdd_id, fMul_id, ix]
                            refine s99_178.mpr (wif (fun c178 => ?_) (fun c178 => ?_))
                            · first
                              | (exfalso; omega)
                              | skip
                                exact absurd (by assumption) cvt
                            · first
                              | (exfalso; omega)
                              | skip
                                refine s99_191.mpr (s99_192.mpr (s99_194.mpr ?_))
                                refine (s99_196 (by first | decide | assumption | omega) (by first | decide | assumption | omega)).mpr ?_
                                refine h_readEnd (q := q') (e := e) (m := m) (Bm := Bm) hA hc' (by omega) hB' x4' x3' hBe (hSw w' wr') hSm ((f4 wr' m).trans hN) vt tk.1 tk.2 gc' gv' (fun ce x h6 v1 v2 v3 v4 => ?_) (fun ce cf9 h6 v1 v2 v3 v4 => ?_) (fun ce cf9 h6 hr6 v1 v2 v3 v4 v5 v6 v7 v8 => ?_)
                                · skip
                                  simp only [kon, knt_some, knt_none, Option.toList_some, Option.toList_none, List.cons_append, List.nil_append]
                                  refine (s99_199 (by first | decide | assumption | omega) (by first | decide | assumption | omega) (by first | decide | assumption | omega)).mpr ?_
                                  refine s99_200.mpr (s99_203.mpr ?_)
                                  try simp (disch := first | decide | assumption | omega) only [kon, knt_some, knt_none, Option.toList_some, Option.toList_none, List.cons_append, List.nil_append, eP, e0', e6', fAdd_id, fMul_id, ix]
                                  first
                                  | (refine ERP 1 q' (by rw [hpe, if_pos ce]) h6 _ (by decide) (v1.mn (fun a i z => by unfold wY at z; unfold wRp; omega)) v2 v3 v4 _ _)
                                  | (refine ERP 5 q' (by rw [hpe, if_neg (fun z => z ce), cif_n cf9]) h6 _ (by decide) (v1.mn (fun a i z => by unfold wRe at z; unfold wRp; omega)) v2 v3 v4 _ _)
                                  | (exact FX ce cf9 h6 hr6 _ v1 v2 v3 v4 v5 v6 v7 v8)
                                · skip
                                  simp only [kon, knt_some, knt_none, Option.toList_some, Option.toList_none, List.cons_append, List.nil_append]
                                  refine (s99_199 (by first | decide | assumption | omega) (by first | decide | assumption | omega) (by first | decide | assumption | omega)).mpr ?_
                                  refine s99_200.mpr (s99_203.mpr ?_)
                                  try simp (disch := first | decide | assumption | omega) only [kon, knt_some, knt_none, Option.toList_some, Option.toList_none, List.cons_append, List.nil_append, eP, e0', e6', fAdd_id, fMul_id, ix]
                                  first
                                  | (refine ERP 1 q' (by rw [hpe, if_pos ce]) h6 _ (by decide) (v1.mn (fun a i z => by unfold wY at z; unfold wRp; omega)) v2 v3 v4 _ _)
                                  | (refine ERP 5 q' (by rw [hpe, if_neg (fun z => z ce), cif_n cf9]) h6 _ (by decide) (v1.mn (fun a i z => by unfold wRe at z; unfold wRp; omega)) v2 v3 v4 _ _)
                                  | (exact FX ce cf9 h6 hr6 _ v1 v2 v3 v4 v5 v6 v7 v8)
                                · skip
                                  simp only [kon, knt_some, knt_none, Option.toList_some, Option.toList_none, List.cons_append, List.nil_append]
                                  refine (s99_199 (by first | decide | assumption | omega) (by first | decide | assumption | omega) (by first | decide | assumption | omega)).mpr ?_
                                  refine s99_200.mpr (s99_203.mpr ?_)
                                  try simp (disch := first | decide | assumption | omega) only [kon, knt_some, knt_none, Option.toList_some, Option.toList_none, List.cons_append, List.nil_append, eP, e0', e6', fAdd_id, fMul_id, ix]
                                  first
                                  | (refine ERP 1 q' (by rw [hpe, if_pos ce]) h6 _ (by decide) (v1.mn (fun a i z => by unfold wY at z; unfold wRp; omega)) v2 v3 v4 _ _)
                                  | (refine ERP 5 q' (by rw [hpe, if_neg (fun z => z ce), cif_n cf9]) h6 _ (by decide) (v1.mn (fun a i z => by unfold wRe at z; unfold wRp; omega)) v2 v3 v4 _ _)
                                  | (exact FX ce cf9 h6 hr6 _ v1 v2 v3 v4 v5 v6 v7 v8)
                    · first
                      | (exfalso; omega)
                      | skip
                        first | (exfalso; omega) | exact absurd ‹(1 : Int) = 0› (by decide)
              have NX := T137 (nPar Bm f).toNat 0 (q + 3) G5 h5 hr2 none (by omega) (Int.le_refl _) hm2 w5 wr2 ((x5i 4 (by decide)).trans x34) x53 ((x5i 5 (by decide)).trans ((y3 15 5 (by decide) (by decide)).trans x25)) (by omega) hG5 hV5 (fun _ _ _ _ => rfl) (fun _ _ _ => rfl) (fun _ => rfl) (fun i z => ⟨y5 21 i (by decide), gG5 80 i (by decide)⟩) (fun k' z1 z2 => absurd z2 (by omega))
              refine (s99_133 (by first | decide | assumption | omega) (by first | decide | assumption | omega) (by first | decide | assumption | omega)).mpr ?_
              refine s99_134.mpr (s99_135.mpr ?_)
              rw [← hh5]
              exact NX
            refine s99_95.mpr ((s99_96 k14).mpr ?_)
            rw [e2]
            refine s99_99.mpr (s99_100.mpr ?_)
            refine (s99_102 k17 (by decide) p0.1 (by omega) kN).mpr ?_
            refine s99_103.mpr ?_
            refine (s99_104 (by first | decide | assumption | omega)).mpr ?_
            refine s99_107.mpr (s99_108.mpr ?_)
            try simp (disch := first | decide | assumption | omega) only [kon, knt_some, knt_none, Option.toList_some, Option.toList_none, List.cons_append, List.nil_append, e3, e4, e5, e02]
            refine (s99_109 (by first | decide | assumption | omega) (by first | decide | assumption | omega) (by first | decide | assumption | omega)).mpr ?_
            refine s99_110.mpr ?_
            try simp (disch := first | decide | assumption | omega) only [kon, knt_some, knt_none, Option.toList_some, Option.toList_none, List.cons_append, List.nil_append, e3, e4, e5, e02]
            refine (s99_111 (by first | decide | assumption | omega)).mpr ?_
            refine s99_114.mpr (s99_115.mpr ?_)
            try simp (disch := first | decide | assumption | omega) only [kon, knt_some, knt_none, Option.toList_some, Option.toList_none, List.cons_append, List.nil_append, e3, e4, e5, e02]
            refine (s99_117 (by first | decide | assumption | omega) (by first | decide | assumption | omega) (by first | decide | assumption | omega)).mpr ?_
            refine s99_118.mpr ?_
            try simp (disch := first | decide | assumption | omega) only [kon, knt_some, knt_none, Option.toList_some, Option.toList_none, List.cons_append, List.nil_append, e3, e4, e5, e02]
            refine (s99_119 (by first | decide | assumption | omega)).mpr ?_
            refine s99_122.mpr (s99_123.mpr ?_)
            try simp (disch := first | decide | assumption | omega) only [kon, knt_some, knt_none, Option.toList_some, Option.toList_none, List.cons_append, List.nil_append, e3, e4, e5, e02]
            refine (s99_124 (by first | decide | assumption | omega)).mpr ?_
            refine s99_127.mpr (s99_128.mpr ?_)
            try simp (disch := first | decide | assumption | omega) only [kon, knt_some, knt_none, Option.toList_some, Option.toList_none, List.cons_append, List.nil_append, e3, e4, e5, e02]
            refine (s99_130 (by first | decide | assumption | omega) (by first | decide | assumption | omega)).mpr ?_
            rw [← hh3]
            exact T103
          refine s99_55.mpr (s99_57.mpr ?_)
          refine (s99_59 (by first | decide | assumption | omega) (by first | decide | assumption | omega)).mpr ?_
          refine t_routineAt hM2.1.1 ?_
          simp only [kon, knt_some, knt_none, Option.toList_some, Option.toList_none, List.cons_append, List.nil_append, ro]
          refine s99_62.mpr (s99_64.mpr ?_)
          refine s99_66.mpr (wif (fun c66 => ?_) (fun c66 => ?_))
          · skip
            first | exact T77 (fun z => absurd z.2 (by assumption)) _ | (cases ‹some (t + 1) = none›) | exact absurd ‹(1 : Int) = 0› (by decide)
          · skip
            refine s99_69.mpr ?_
            refine (s99_71 (by omega)).mpr ?_
            refine h_isBootable (by omega) hR hT cf.1 cf.2 (fun b71 => ?_) (fun b71 => ?_)
            · skip
              refine s99_74.mpr (wif (fun c74 => ?_) (fun c74 => ?_))
              · skip
                first | exact T77 (fun z => absurd z.2 (by assumption)) _ | (cases ‹some (t + 1) = none›) | exact absurd ‹(1 : Int) = 0› (by decide)
              · skip
                first | exact T95 (by assumption) | exact absurd rfl ‹¬ (0 : Int) = 0›
            · skip
              refine s99_74.mpr (wif (fun c74 => ?_) (fun c74 => ?_))
              · skip
                first | exact T77 (fun z => absurd z.2 (by assumption)) _ | (cases ‹some (t + 1) = none›) | exact absurd ‹(1 : Int) = 0› (by decide)
              · skip
                first | exact T95 (by assumption) | exact absurd rfl ‹¬ (0 : Int) = 0›
        refine s99_46.mpr ?_
        refine (s99_47 (by first | decide | assumption | omega)).mpr ?_
        try simp (disch := first | decide | assumption | omega) only [kon, knt_some, knt_none, Option.toList_some, Option.toList_none, List.cons_append, List.nil_append, e0]
        refine (s99_50 (by first | decide | assumption | omega) (by first | decide | assumption | omega)).mpr ?_
        refine h_take hB1 (by omega) x14 (fun z => absurd z (by rw [x13]; omega)) (fun _ => ?_)
        simp only [kon, knt_some, knt_none, Option.toList_some, Option.toList_none, List.cons_append, List.nil_append]
        rw [x13, hBf, ← hh2]
        refine s99_53.mpr ?_
        exact T55
      refine s99_8.mpr (s99_9.mpr ?_)
      refine (s99_10 (by first | decide | assumption | omega)).mpr ?_
      try simp (disch := first | decide | assumption | omega) only [kon, knt_some, knt_none, Option.toList_some, Option.toList_none, List.cons_append, List.nil_append]
      refine s99_11.mpr (wif (fun c11 => ?_) (fun c11 => ?_))
      · first
        | (exfalso; omega)
        | skip
          refine s99_14.mpr (s99_15.mpr ?_)
          refine (s99_16 (by first | decide | assumption | omega) (by first | decide | assumption | omega) (by first | decide | assumption | omega)).mpr ?_
          refine s99_17.mpr (s99_21.mpr (s99_23.mpr ?_))
          refine s99_25.mpr (wif (fun c25 => ?_) (fun c25 => ?_))
          · skip
            first | (exfalso; omega) | (rw [hN] at c25; cases c25)
          · skip
            rw [hN]
            exact T46
      · first
        | (exfalso; omega)
        | skip
          refine s99_20.mpr (s99_21.mpr (s99_23.mpr ?_))
          refine s99_25.mpr (wif (fun c25 => ?_) (fun c25 => ?_))
          · skip
            first | (exfalso; omega) | (rw [hN] at c25; cases c25)
          · skip
            rw [hN]
            exact T46
  refine s99_0.mpr ?_
  refine (s99_1 (by first | decide | assumption | omega)).mpr ?_
  try simp (disch := first | decide | assumption | omega) only [kon, knt_some, knt_none, Option.toList_some, Option.toList_none, List.cons_append, List.nil_append, e0]
  refine (s99_4 (by first | decide | assumption | omega) (by first | decide | assumption | omega)).mpr ?_
  refine h_take hB (by omega) h4 (fun z => absurd z (by rw [hq]; omega)) (fun _ => ?_)
  simp only [kon, knt_some, knt_none, Option.toList_some, Option.toList_none, List.cons_append, List.nil_append]
  rw [hq, hBm, ← hh1]
  refine s99_7.mpr ?_
  exact T8
end CN2
