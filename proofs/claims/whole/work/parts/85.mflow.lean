/-! THE REFERENCE: flow -/
section MF
variable {d : Nat} {al : AL} {hi : HI} {hr : HR} {Q : QQ} {B : Int → Int}
def memS (hi : HI) (p k : Int) : Int := if 0 ≤ k ∧ k < 17 then hi 73 (17 * p + k) else 0
def memL (hi : HI) (p k : Int) : Int := if 0 ≤ k ∧ k < 10 then hi 74 (10 * p + k) else 0
/-- what comes to each place, as the reference holds it -/
def memA (hi : HI) : Asg := fun p => if hi 71 p = 1 then some (hi 72 p, memS hi p, memL hi p) else none
def wFl (a : Nat) (i : Int) : Prop := (a = 49 ∧ (i = 36 ∨ i = 37)) ∨ (a = 71 ∧ 0 ≤ i ∧ i < 240) ∨ a = 72 ∨ a = 73 ∨ a = 74
theorem memA_q {hi' : HI} {q : Int} (h1 : hi' 71 q = hi 71 q) (h2 : hi' 72 q = hi 72 q) (h3 : ∀ k, 0 ≤ k → k < 17 → hi' 73 (17 * q + k) = hi 73 (17 * q + k)) (h4 : ∀ k, 0 ≤ k → k < 10 → hi' 74 (10 * q + k) = hi 74 (10 * q + k)) : memA hi' q = memA hi q := by
  unfold memA
  rw [h1, h2]
  have e3 : memS hi' q = memS hi q := by
    funext k; unfold memS
    split
    · rename_i h; exact h3 k h.1 h.2
    · rfl
  have e4 : memL hi' q = memL hi q := by
    funext k; unfold memL
    split
    · rename_i h; exact h4 k h.1 h.2
    · rfl
  rw [e3, e4]
/-- the first arrival -/
theorem m_flow1 {f p t n : Int} (hA : SA al) (hR : MR hr) (hf : 0 ≤ f ∧ f < 130) (hn : n ≤ 240) (hp : 0 ≤ p ∧ p < n) (h36 : hi 49 36 = 1) (ht : hi 49 35 = t) (ht0 : 0 ≤ t ∧ t ≤ 16) (hc : hi 71 p = 0)
    (ok : ∀ hi', FW wFl hi hi' → hi' 49 36 = 1 → hi' 49 37 = 1 → ArrR (memA hi) p (scX hi) (memA hi') → hi' 71 p = 1 → (∀ q, q ≠ p → hi' 71 q = hi 71 q) → Q (some none) al hi' hr) : Wp d 245 45 [vR (some 49), vI f, vI p, none, none, none] [] al hi hr Q := by
  have kM : isK al 49 13 := hA.k (by decide) (by decide) rfl
  have l68 := SA.len (a := 68) (n := 130) hA (by decide) (by decide) rfl
  have l71 := SA.len (a := 71) (n := 240) hA (by decide) (by decide) rfl
  have l72 := SA.len (a := 72) (n := 240) hA (by decide) (by decide) rfl
  have l73 := SA.len (a := 73) (n := 4080) hA (by decide) (by decide) rfl
  have l75 := SA.len (a := 75) (n := 24) hA (by decide) (by decide) rfl
  have l74 := SA.len (a := 74) (n := 2400) hA (by decide) (by decide) rfl
  have l76 := SA.len (a := 76) (n := 10) hA (by decide) (by decide) rfl
  have T102 : ∀ hi', FW wFl hi hi' → hi' 49 36 = 1 → hi' 49 37 = 1 → hi' 71 p = 1 → (∀ q, q ≠ p → hi' 71 q = hi 71 q) → hi' 72 p = t → (∀ q, q ≠ p → hi' 72 q = hi 72 q) → (∀ i, hi' 73 i = if 17 * p ≤ i ∧ i < 17 * p + t then hi 75 (i - 17 * p) else hi 73 i) → hi' 74 = hi 74 → hi' 76 = hi 76 → Wp d 245 102 [vR (some 49), vI f, vI p, vI 0, none, none] [] al hi' hr Q := by
    intro hi' hw g36 g37 g71 g71' g72 g72' g73 g74 g76
    refine wp_cnt (N := 10) (fun k ls h2 => ls = [vR (some 49), vI f, vI p, vI k, none, none] ∧ FW wFl hi h2 ∧ h2 49 36 = 1 ∧ h2 49 37 = 1 ∧ h2 71 = hi' 71 ∧ h2 72 = hi' 72 ∧ h2 73 = hi' 73 ∧ h2 76 = hi 76 ∧ ∀ i, h2 74 i = if 10 * p ≤ i ∧ i < 10 * p + k then hi 76 (i - 10 * p) else hi 74 i) ?_ ?_ _ _ ⟨rfl, hw, g36, g37, rfl, rfl, rfl, g76, fun i => by rw [if_neg (by omega), g74]⟩
    · rintro k ls h2 hk ⟨rfl, hw, g36, g37, a71, a72, a73, a76, a74⟩ nx
      refine s245_102.mpr (s245_103.mpr ?_)
      refine s245_105.mpr (wif (fun c105 => ?_) (fun c105 => ?_))
      · skip
        refine s245_108.mpr ((s245_109 kM).mpr ?_)
        rw [mr_32 hR]
        refine s245_112.mpr (s245_114.mpr (s245_115.mpr (s245_116.mpr (s245_117.mpr (s245_118.mpr ?_)))))
        refine (s245_119 kM).mpr ?_
        rw [mr_34 hR]
        refine s245_122.mpr ?_
        try simp (disch := first | decide | assumption | omega) only [fAdd_id, fMul_id]
        refine (s245_123 (hA.k (by decide) (by decide) rfl) (by first | assumption | omega) (by first | assumption | omega)).mpr ?_
        try simp (disch := first | decide | assumption | omega) only [fAdd_id, fMul_id]
        refine (s245_124 (hA.k (by decide) (by decide) rfl) (by first | assumption | omega) (by first | assumption | omega)).mpr ?_
        refine s245_125.mpr (s245_128.mpr ?_)
        try simp (disch := first | decide | assumption | omega) only [fAdd_id, fMul_id]
        refine nx _ _ ⟨rfl, (by repeat' (first | assumption | exact FW.rf | refine FW.up ?_ (by unfold wFl; omega))), by (try simp (disch := decide) only [upI_eq, upI_a, upI_i, upR_eq, upR_a, upR_i]); exact g36, by (try simp (disch := decide) only [upI_eq, upI_a, upI_i, upR_eq, upR_a, upR_i]); exact g37, by rw [upI_ro (by decide)]; exact a71, by rw [upI_ro (by decide)]; exact a72, by rw [upI_ro (by decide)]; exact a73, by rw [upI_ro (by decide)]; exact a76, fun i => ?_⟩
        by_cases hi9 : i = 10 * p + k
        · subst hi9; rw [upI_eq, a76, if_pos (by omega)]; congr 1; omega
        · rw [upI_i hi9, a74]; by_cases h : 10 * p ≤ i ∧ i < 10 * p + k; (rw [if_pos h, if_pos (by omega)]); (rw [if_neg h, if_neg (by omega)])
      · skip
        exfalso; omega
    · rintro ls h2 ⟨rfl, hw, g36, g37, a71, a72, a73, a76, a74⟩
      have hA9 : ArrR (memA hi) p (scX hi) (memA h2) := by
        refine ⟨fun q q0 hq => memA_q (by rw [a71]; exact g71' q hq) (by rw [a72]; exact g72' q hq) (fun k k0 k1 => by rw [a73, g73, if_neg (by omega)]) (fun k k0 k1 => by rw [a74, if_neg (by omega)]), fun _ => ⟨(h2 72 p, memS h2 p, memL h2 p), if_pos (by rw [a71]; exact g71), by rw [a72, g72]; exact ht.symm, fun k k0 k1 => ?_, fun k k0 k1 => ?_⟩, fun Y hY => ?_⟩
        · have k1 : k < h2 72 p := k1
          rw [a72, g72] at k1
          show memS h2 p k = hi 75 k
          unfold memS
          rw [if_pos (by omega), a73, g73, if_pos (by omega)]; congr 1; omega
        · show memL h2 p k = hi 76 k
          unfold memL
          rw [if_pos (by omega), a74, if_pos (by omega)]; congr 1; omega
        · exfalso
          unfold memA at hY
          rw [if_neg (by omega)] at hY
          cases hY
      refine s245_102.mpr (s245_103.mpr ?_)
      refine s245_105.mpr (wif (fun c105 => ?_) (fun c105 => ?_))
      · skip
        exfalso; omega
      · skip
        refine (s245_131).mpr ?_
        exact ok _ hw g36 g37 hA9 (by rw [a71]; exact g71) (fun q hq => by rw [a71]; exact g71' q hq)
  have T69 : ∀ hi', FW wFl hi hi' → hi' 49 35 = t → hi' 49 36 = 1 → hi' 49 37 = 1 → hi' 71 p = 1 → (∀ q, q ≠ p → hi' 71 q = hi 71 q) → hi' 72 p = t → (∀ q, q ≠ p → hi' 72 q = hi 72 q) → hi' 73 = hi 73 → hi' 74 = hi 74 → hi' 75 = hi 75 → hi' 76 = hi 76 → Wp d 245 69 [vR (some 49), vI f, vI p, vI 0, none, none] [] al hi' hr Q := by
    intro hi' hw g35 g36 g37 g71 g71' g72 g72' g73 g74 g75 g76
    refine wp_cnt (N := t.toNat) (fun k ls h2 => ls = [vR (some 49), vI f, vI p, vI k, none, none] ∧ FW wFl hi h2 ∧ h2 49 35 = t ∧ h2 49 36 = 1 ∧ h2 49 37 = 1 ∧ h2 71 = hi' 71 ∧ h2 72 = hi' 72 ∧ h2 74 = hi 74 ∧ h2 75 = hi 75 ∧ h2 76 = hi 76 ∧ ∀ i, h2 73 i = if 17 * p ≤ i ∧ i < 17 * p + k then hi 75 (i - 17 * p) else hi 73 i) ?_ ?_ _ _ ⟨rfl, hw, g35, g36, g37, rfl, rfl, g74, g75, g76, fun i => by rw [if_neg (by omega), g73]⟩
    · rintro k ls h2 hk ⟨rfl, hw, g35, g36, g37, a71, a72, a74, a75, a76, a73⟩ nx
      refine s245_69.mpr (s245_70.mpr ?_)
      refine (s245_71 kM).mpr ?_
      try simp (disch := first | decide | assumption | omega) only [fAdd_id, fMul_id, g35]
      refine s245_74.mpr (wif (fun c74 => ?_) (fun c74 => ?_))
      · skip
        refine s245_77.mpr ((s245_78 kM).mpr ?_)
        rw [mr_31 hR]
        refine s245_81.mpr (s245_83.mpr (s245_84.mpr (s245_85.mpr (s245_86.mpr (s245_87.mpr ?_)))))
        refine (s245_88 kM).mpr ?_
        rw [mr_33 hR]
        refine s245_91.mpr ?_
        try simp (disch := first | decide | assumption | omega) only [fAdd_id, fMul_id, g35]
        refine (s245_92 (hA.k (by decide) (by decide) rfl) (by first | assumption | omega) (by first | assumption | omega)).mpr ?_
        try simp (disch := first | decide | assumption | omega) only [fAdd_id, fMul_id, g35]
        refine (s245_93 (hA.k (by decide) (by decide) rfl) (by first | assumption | omega) (by first | assumption | omega)).mpr ?_
        refine s245_94.mpr (s245_97.mpr ?_)
        try simp (disch := first | decide | assumption | omega) only [fAdd_id, fMul_id, g35]
        refine nx _ _ ⟨rfl, (by repeat' (first | assumption | exact FW.rf | refine FW.up ?_ (by unfold wFl; omega))), by (try simp (disch := decide) only [upI_eq, upI_a, upI_i, upR_eq, upR_a, upR_i]); exact g35, by (try simp (disch := decide) only [upI_eq, upI_a, upI_i, upR_eq, upR_a, upR_i]); exact g36, by (try simp (disch := decide) only [upI_eq, upI_a, upI_i, upR_eq, upR_a, upR_i]); exact g37, by rw [upI_ro (by decide)]; exact a71, by rw [upI_ro (by decide)]; exact a72, by rw [upI_ro (by decide)]; exact a74, by rw [upI_ro (by decide)]; exact a75, by rw [upI_ro (by decide)]; exact a76, fun i => ?_⟩
        by_cases hi9 : i = 17 * p + k
        · subst hi9; rw [upI_eq, a75, if_pos (by omega)]; congr 1; omega
        · rw [upI_i hi9, a73]; by_cases h : 17 * p ≤ i ∧ i < 17 * p + k; (rw [if_pos h, if_pos (by omega)]); (rw [if_neg h, if_neg (by omega)])
      · skip
        exfalso; omega
    · rintro ls h2 ⟨rfl, hw, g35, g36, g37, a71, a72, a74, a75, a76, a73⟩
      refine s245_69.mpr (s245_70.mpr ?_)
      refine (s245_71 kM).mpr ?_
      try simp (disch := first | decide | assumption | omega) only [g35]
      refine s245_74.mpr (wif (fun c74 => ?_) (fun c74 => ?_))
      · skip
        exfalso; omega
      · skip
        refine s245_100.mpr (s245_101.mpr ?_)
        exact T102 h2 hw g36 g37 (by rw [a71]; exact g71) (fun q hq => by rw [a71]; exact g71' q hq) (by rw [a72]; exact g72) (fun q hq => by rw [a72]; exact g72' q hq) (fun i => by rw [a73, show ((t.toNat : Nat) : Int) = t by omega]) a74 a76
  refine s245_45.mpr ((s245_46 kM).mpr ?_)
  rw [mr_29 hR]
  refine s245_49.mpr (s245_50.mpr ?_)
  refine (s245_51Z (hA.k (by decide) (by decide) rfl) (by first | assumption | omega) (by first | assumption | omega)).mpr ?_
  refine s245_52.mpr (s245_53.mpr ?_)
  try simp (disch := first | decide | assumption | omega) only [upI_eq, upI_a, upI_i, upR_eq, upR_a, upR_i, ht]
  refine (s245_54 kM (by first | assumption | omega)).mpr ?_
  refine s245_57.mpr ((s245_58 kM).mpr ?_)
  rw [mr_30 hR]
  refine s245_61.mpr (s245_62.mpr ?_)
  refine (s245_63 kM).mpr ?_
  try simp (disch := first | decide | assumption | omega) only [upI_eq, upI_a, upI_i, upR_eq, upR_a, upR_i, ht]
  refine (s245_66 (hA.k (by decide) (by decide) rfl) (by first | assumption | omega) (by first | assumption | omega)).mpr ?_
  refine s245_67.mpr (s245_68.mpr ?_)
  try simp (disch := first | decide | assumption | omega) only [upI_eq, upI_a, upI_i, upR_eq, upR_a, upR_i, ht]
  refine T69 _ (by repeat' (first | assumption | exact FW.rf | refine FW.up ?_ (by unfold wFl; omega))) (by (try simp (disch := decide) only [upI_eq, upI_a, upI_i, upR_eq, upR_a, upR_i]); exact ht) (by (try simp (disch := decide) only [upI_eq, upI_a, upI_i, upR_eq, upR_a, upR_i]); exact h36) (by (try simp (disch := decide) only [upI_eq, upI_a, upI_i, upR_eq, upR_a, upR_i])) (by (try simp (disch := decide) only [upI_eq, upI_a, upI_i, upR_eq, upR_a, upR_i]); rfl) (fun q hq => by simp (disch := first | decide | assumption) only [upI_eq, upI_a, upI_i, upR_eq, upR_a, upR_i]) (by (try simp (disch := decide) only [upI_eq, upI_a, upI_i, upR_eq, upR_a, upR_i])) (fun q hq => by simp (disch := first | decide | assumption) only [upI_eq, upI_a, upI_i, upR_eq, upR_a, upR_i]) (by simp (disch := decide) only [upI_ro]) (by simp (disch := decide) only [upI_ro]) (by simp (disch := decide) only [upI_ro]) (by simp (disch := decide) only [upI_ro])
/-- whether something changed -/
def CHG (c0 c1 : Int) (D : Prop) : Prop := (c1 = 1 ∧ (c0 = 1 ∨ D)) ∨ (c1 = 0 ∧ c0 = 0 ∧ ¬ D)
theorem CHG.mn {c0 c1 : Int} {D D' : Prop} (h : CHG c0 c1 D) (hD : D ↔ D') : CHG c0 c1 D' := by
  rcases h with ⟨a, b⟩ | ⟨a, b, c⟩
  · exact Or.inl ⟨a, b.imp id hD.mp⟩
  · exact Or.inr ⟨a, b, fun q => c (hD.mpr q)⟩
theorem CHG.y {c0 c1 : Int} {D D' : Prop} (h : c1 = 1 ∨ D') (hc : CHG c0 c1 D) : CHG c0 1 (D ∨ D') := by
  rcases h with h | h
  · rcases hc with ⟨a, b⟩ | ⟨a, b, c⟩
    · exact Or.inl ⟨rfl, b.imp id Or.inl⟩
    · omega
  · exact Or.inl ⟨rfl, Or.inr (Or.inr h)⟩
theorem CHG.n {c0 c1 : Int} {D D' : Prop} (h : c1 = 0) (h' : ¬ D') (hc : CHG c0 c1 D) : CHG c0 0 (D ∨ D') := by
  rcases hc with ⟨a, b⟩ | ⟨a, b, c⟩
  · omega
  · exact Or.inr ⟨rfl, b, fun q => q.elim c h'⟩
theorem CHG.b {c0 c1 : Int} {D : Prop} (hc : CHG c0 c1 D) : c1 = 0 ∨ c1 = 1 := by
  rcases hc with ⟨a, b⟩ | ⟨a, b, c⟩ <;> omega
/-- a later arrival -/
theorem m_flow2 {f p t n : Int} (hA : SA al) (hR : MR hr) (hd : 3 ≤ d) (hf : 0 ≤ f ∧ f < 130) (hn : n ≤ 240) (hp : 0 ≤ p ∧ p < n) (h36 : hi 49 36 = 1) (h37 : hi 49 37 = 0 ∨ hi 49 37 = 1) (ht : hi 49 35 = t) (ht0 : 0 ≤ t ∧ t ≤ 16) (hc : hi 71 p = 1)
    (ok : ∀ hi', FW wFl hi hi' → hi' 49 36 = 1 → ArrR (memA hi) p (scX hi) (memA hi') → hi' 71 = hi 71 → (∃ Y Z, memA hi p = some Y ∧ memA hi' p = some Z ∧ CHG (hi 49 37) (hi' 49 37) (¬ eqX Y Z)) → Q (some none) al hi' hr)
    (no : ∀ hi', ArrX (memA hi) p (scX hi) → FW wFl hi hi' → hi' 49 36 = 0 → Q (some none) al hi' hr) : Wp d 245 132 [vR (some 49), vI f, vI p, none, none, none] [] al hi hr Q := by
  have kM : isK al 49 13 := hA.k (by decide) (by decide) rfl
  have l68 := SA.len (a := 68) (n := 130) hA (by decide) (by decide) rfl
  have l71 := SA.len (a := 71) (n := 240) hA (by decide) (by decide) rfl
  have l72 := SA.len (a := 72) (n := 240) hA (by decide) (by decide) rfl
  have l73 := SA.len (a := 73) (n := 4080) hA (by decide) (by decide) rfl
  have l75 := SA.len (a := 75) (n := 24) hA (by decide) (by decide) rfl
  have l74 := SA.len (a := 74) (n := 2400) hA (by decide) (by decide) rfl
  have l76 := SA.len (a := 76) (n := 10) hA (by decide) (by decide) rfl
  have eY : memA hi p = some (hi 72 p, memS hi p, memL hi p) := if_pos hc
  have mS : ∀ k, 0 ≤ k → k < 17 → memS hi p k = hi 73 (17 * p + k) := fun k a b => if_pos ⟨a, b⟩
  have mL : ∀ k, 0 ≤ k → k < 10 → memL hi p k = hi 74 (10 * p + k) := fun k a b => if_pos ⟨a, b⟩
  have T268f : ∀ hi' l4 l5, ArrX (memA hi) p (scX hi) → FW wFl hi hi' → hi' 49 36 = 0 → ∀ k : Int, Wp d 245 268 [vR (some 49), vI f, vI p, vI k, l4, l5] [] al hi' hr Q := by
    intro hi' l4 l5 hX hw hz k
    refine s245_268.mpr (s245_269.mpr ?_)
    refine s245_271.mpr (wif (fun c271 => ?_) (fun c271 => ?_))
    · skip
      refine s245_274.mpr ?_
      refine (s245_275 kM).mpr ?_
      refine s245_278.mpr (wif (fun c278 => ?_) (fun c278 => ?_))
      · skip
        refine (s245_388).mpr ?_
        exact no _ hX hw hz
      · skip
        exfalso; omega
    · skip
      refine (s245_388).mpr ?_
      exact no _ hX hw hz
  have T156f : ∀ hi' l4 l5, ArrX (memA hi) p (scX hi) → FW wFl hi hi' → hi' 49 36 = 0 → ∀ k : Int, Wp d 245 156 [vR (some 49), vI f, vI p, vI k, l4, l5] [] al hi' hr Q := by
    intro hi' l4 l5 hX hw hz k
    refine s245_156.mpr (s245_157.mpr ?_)
    refine (s245_158 kM).mpr ?_
    refine s245_161.mpr (wif (fun c161 => ?_) (fun c161 => ?_))
    · skip
      refine s245_164.mpr ?_
      refine (s245_165 kM).mpr ?_
      refine s245_168.mpr (wif (fun c168 => ?_) (fun c168 => ?_))
      · skip
        refine s245_266.mpr (s245_267.mpr ?_)
        exact T268f _ _ _ hX hw hz _
      · skip
        exfalso; omega
    · skip
      refine s245_266.mpr (s245_267.mpr ?_)
      exact T268f _ _ _ hX hw hz _
  have T268 : ∀ hi' l4 l5, hi 72 p = t → FW wFl hi hi' → hi' 49 36 = 1 → hi' 71 = hi 71 → hi' 72 = hi 72 → (∀ i, hi' 73 i = if 17 * p ≤ i ∧ i < 17 * p + t then both (hi 73 i) (hi 75 (i - 17 * p)) else hi 73 i) → hi' 74 = hi 74 → hi' 76 = hi 76 → (∀ j, 0 ≤ j → j < t → both (hi 73 (17 * p + j)) (hi 75 j) ≠ -1) → CHG (hi 49 37) (hi' 49 37) (∃ j, 0 ≤ j ∧ j < t ∧ both (hi 73 (17 * p + j)) (hi 75 j) ≠ hi 73 (17 * p + j)) → Wp d 245 268 [vR (some 49), vI f, vI p, vI 0, l4, l5] [] al hi' hr Q := by
    intro hi' l4 l5 h72 hw g36 g71 g72 g73 g74 g76 hb hch
    refine wp_cnt (N := 10) (fun k ls h2 => (∃ l4 l5, ls = [vR (some 49), vI f, vI p, vI k, l4, l5]) ∧ FW wFl hi h2 ∧ h2 49 36 = 1 ∧ h2 71 = hi 71 ∧ h2 72 = hi 72 ∧ h2 73 = hi' 73 ∧ h2 76 = hi 76 ∧ (∀ i, h2 74 i = if 10 * p ≤ i ∧ i < 10 * p + k then bothL (hi 74 i) (hi 76 (i - 10 * p)) else hi 74 i) ∧ (∀ j : Int, 0 ≤ j → j < k → both (hi 74 (10 * p + j)) (hi 76 j) = -1 → ¬ linT (hi 74 (10 * p + j)) ∧ ¬ linT (hi 76 j)) ∧ CHG (hi' 49 37) (h2 49 37) (∃ j : Int, 0 ≤ j ∧ j < k ∧ bothL (hi 74 (10 * p + j)) (hi 76 j) ≠ hi 74 (10 * p + j))) ?_ ?_ _ _ ⟨⟨l4, l5, rfl⟩, hw, g36, g71, g72, rfl, g76, fun i => by rw [if_neg (by omega), g74], fun j a b => by omega, by
      rcases hch.b with h | h
      · exact Or.inr ⟨h, h, fun ⟨j, a, b, _⟩ => by omega⟩
      · exact Or.inl ⟨h, Or.inl h⟩⟩
    · rintro k ls h2 hk ⟨⟨l4, l5, rfl⟩, hw, g36, a71, a72, a73, a76, a74, hj, hc2⟩ nx
      have e74 : h2 74 (10 * p + k) = hi 74 (10 * p + k) := by rw [a74, if_neg (by omega)]
      have e76 : h2 76 k = hi 76 k := by rw [a76]
      have hc3 := hc2.b
      have fin : ∀ c l4 l5, (both (hi 74 (10 * p + k)) (hi 76 k) = -1 → ¬ linT (hi 74 (10 * p + k)) ∧ ¬ linT (hi 76 k)) → CHG (hi' 49 37) c ((∃ j : Int, 0 ≤ j ∧ j < k ∧ bothL (hi 74 (10 * p + j)) (hi 76 j) ≠ hi 74 (10 * p + j)) ∨ bothL (hi 74 (10 * p + k)) (hi 76 k) ≠ hi 74 (10 * p + k)) → Wp d 245 268 [vR (some 49), vI f, vI p, vI ((k + 1 : Nat) : Int), l4, l5] [] al (upI (upI h2 49 37 c) 74 (10 * p + k) (bothL (hi 74 (10 * p + k)) (hi 76 k))) hr Q := by
        intro c l4 l5 h1 h3
        refine nx _ _ ⟨⟨_, _, rfl⟩, (by repeat' (first | assumption | exact FW.rf | refine FW.up ?_ (by unfold wFl; omega))), by (try simp (disch := decide) only [upI_eq, upI_a, upI_i, upR_eq, upR_a, upR_i]); exact g36, by simp (disch := decide) only [upI_ro]; exact a71, by simp (disch := decide) only [upI_ro]; exact a72, by simp (disch := decide) only [upI_ro]; exact a73, by simp (disch := decide) only [upI_ro]; exact a76, fun i => ?_, fun j j0 j1 => ?_, ?_⟩
        · by_cases hi9 : i = 10 * p + k
          · subst hi9; rw [upI_eq, if_pos (by omega), show 10 * p + (k : Int) - 10 * p = k by omega]
          · rw [upI_i hi9, upI_a (by decide), a74]
            by_cases h : 10 * p ≤ i ∧ i < 10 * p + k
            · rw [if_pos h, if_pos (by omega)]
            · rw [if_neg h, if_neg (by omega)]
        · by_cases e : j = k
          · subst e; exact h1
          · exact hj j j0 (by omega)
        · simp (disch := decide) only [upI_eq, upI_a, upI_i, upR_eq, upR_a, upR_i]
          refine h3.mn ⟨fun q => ?_, fun ⟨j, a, b, e⟩ => ?_⟩
          · rcases q with ⟨j, a, b, e⟩ | e
            · exact ⟨j, a, by omega, e⟩
            · exact ⟨k, by omega, by omega, e⟩
          · by_cases e9 : j = k
            · subst e9; exact Or.inr e
            · exact Or.inl ⟨j, a, by omega, e⟩
      have finA : both (hi 74 (10 * p + k)) (hi 76 k) = -1 → ¬ linT (hi 74 (10 * p + k)) → ¬ linT (hi 76 k) → ∀ c l4, (c = 1 ∧ (h2 49 37 = 1 ∨ 7 ≠ hi 74 (10 * p + k)) ∨ c = 0 ∧ h2 49 37 = 0 ∧ 7 = hi 74 (10 * p + k)) → Wp d 245 268 [vR (some 49), vI f, vI p, vI ((k + 1 : Nat) : Int), l4, vI 7] [] al (upI (upI h2 49 37 c) 74 (10 * p + k) 7) hr Q := by
        intro h1 h3 h4 c l4 h5
        have e9 : bothL (hi 74 (10 * p + k)) (hi 76 k) = 7 := if_pos h1
        have h9 := fin c l4 (vI 7) (fun _ => ⟨h3, h4⟩) (by rw [e9]; rcases h5 with ⟨rfl, h5⟩ | ⟨rfl, h5, h6⟩; exact hc2.y h5; exact hc2.n h5 (fun q => q h6))
        rw [e9] at h9
        exact h9
      have finB : ¬ both (hi 74 (10 * p + k)) (hi 76 k) = -1 → ∀ c l4, (c = 1 ∧ (h2 49 37 = 1 ∨ both (hi 74 (10 * p + k)) (hi 76 k) ≠ hi 74 (10 * p + k)) ∨ c = 0 ∧ h2 49 37 = 0 ∧ both (hi 74 (10 * p + k)) (hi 76 k) = hi 74 (10 * p + k)) → Wp d 245 268 [vR (some 49), vI f, vI p, vI ((k + 1 : Nat) : Int), l4, vI (both (hi 74 (10 * p + k)) (hi 76 k))] [] al (upI (upI h2 49 37 c) 74 (10 * p + k) (both (hi 74 (10 * p + k)) (hi 76 k))) hr Q := by
        intro h1 c l4 h5
        have e9 : bothL (hi 74 (10 * p + k)) (hi 76 k) = both (hi 74 (10 * p + k)) (hi 76 k) := if_neg h1
        have h9 := fin c l4 (vI (both (hi 74 (10 * p + k)) (hi 76 k))) (fun q => absurd q h1) (by rw [e9]; rcases h5 with ⟨rfl, h5⟩ | ⟨rfl, h5, h6⟩; exact hc2.y h5; exact hc2.n h5 (fun q => q h6))
        rw [e9] at h9
        exact h9
      have er : ∀ (x : Int) l4 l5, both (hi 74 (10 * p + k)) (hi 76 k) = -1 → ¬ (¬ linT (hi 74 (10 * p + k)) ∧ ¬ linT (hi 76 k)) → ∀ c v, Wp d 245 268 [vR (some 49), vI f, vI p, vI x, l4, l5] [] al (upI (upI (upI h2 49 36 0) 49 37 c) 74 (10 * p + k) v) hr Q := by
        intro x l4 l5 h1 h3 c v
        refine T268f _ _ _ ⟨_, eY, fun hJ => h3 ?_⟩ (by repeat' (first | assumption | exact FW.rf | refine FW.up ?_ (by unfold wFl; omega))) (by (try simp (disch := decide) only [upI_eq, upI_a, upI_i, upR_eq, upR_a, upR_i])) x
        have := hJ.2.2 k (by omega) (by omega)
        have h9 : memL hi p k = hi 74 (10 * p + k) := mL k (by omega) (by omega)
        have this : both (memL hi p k) (hi 76 k) = -1 → ¬ linT (memL hi p k) ∧ ¬ linT (hi 76 k) := this
        rw [h9] at this
        exact this h1
      refine s245_268.mpr (s245_269.mpr ?_)
      refine s245_271.mpr (wif (fun c271 => ?_) (fun c271 => ?_))
      · first
        | (exfalso; omega)
        | skip
          refine s245_274.mpr ?_
          refine (s245_275 kM).mpr ?_
          try simp (disch := first | decide | assumption | omega) only [kon, knt_some, knt_none, Option.toList_some, Option.toList_none, List.cons_append, List.nil_append, upI_eq, upI_a, upI_i, upR_eq, upR_a, upR_i, fAdd_id, fMul_id, e74, e76, g36]
          refine s245_278.mpr (wif (fun c278 => ?_) (fun c278 => ?_))
          · first
            | (exfalso; omega)
            | skip
              exfalso; omega
          · first
            | (exfalso; omega)
            | skip
              refine s245_281.mpr ((s245_282 kM).mpr ?_)
              rw [mr_32 hR]
              refine s245_285.mpr (s245_287.mpr (s245_288.mpr (s245_289.mpr (s245_290.mpr ?_))))
              try simp (disch := first | decide | assumption | omega) only [kon, knt_some, knt_none, Option.toList_some, Option.toList_none, List.cons_append, List.nil_append, upI_eq, upI_a, upI_i, upR_eq, upR_a, upR_i, fAdd_id, fMul_id, e74, e76, g36]
              refine (s245_291 (hA.k (by decide) (by decide) rfl) (by first | assumption | omega) (by first | assumption | omega)).mpr ?_
              refine s245_292.mpr (s245_294.mpr (s245_296.mpr ((s245_297 kM).mpr ?_)))
              rw [mr_34 hR]
              refine s245_300.mpr ?_
              try simp (disch := first | decide | assumption | omega) only [kon, knt_some, knt_none, Option.toList_some, Option.toList_none, List.cons_append, List.nil_append, upI_eq, upI_a, upI_i, upR_eq, upR_a, upR_i, fAdd_id, fMul_id, e74, e76, g36]
              refine (s245_301 (hA.k (by decide) (by decide) rfl) (by first | assumption | omega) (by first | assumption | omega)).mpr ?_
              try simp (disch := first | decide | assumption | omega) only [kon, knt_some, knt_none, Option.toList_some, Option.toList_none, List.cons_append, List.nil_append, upI_eq, upI_a, upI_i, upR_eq, upR_a, upR_i, fAdd_id, fMul_id, e74, e76, g36]
              refine (s245_302 (by omega)).mpr ?_
              refine m_both (by omega) ?_
              refine s245_305.mpr (s245_307.mpr (s245_309.mpr ?_))
              refine s245_310.mpr (wif (fun c310 => ?_) (fun c310 => ?_))
              · first
                | (exfalso; omega)
                | skip
                  refine s245_313.mpr (s245_314.mpr ?_)
                  refine (s245_316 (by omega)).mpr ?_
                  refine m_isLinear (by omega) (fun y316 => ?_) (fun y316 => ?_)
                  · skip
                    refine s245_319.mpr (wif (fun c319 => ?_) (fun c319 => ?_))
                    · first
                      | (exfalso; omega)
                      | skip
                        refine s245_322.mpr ((s245_323 kM).mpr ?_)
                        rw [mr_34 hR]
                        refine s245_326.mpr ?_
                        refine (s245_327 (hA.k (by decide) (by decide) rfl) (by first | assumption | omega) (by first | assumption | omega)).mpr ?_
                        try simp (disch := first | decide | assumption | omega) only [kon, knt_some, knt_none, Option.toList_some, Option.toList_none, List.cons_append, List.nil_append, upI_eq, upI_a, upI_i, upR_eq, upR_a, upR_i, fAdd_id, fMul_id, e74, e76, g36]
                        refine (s245_328 (by omega)).mpr ?_
                        refine m_isLinear (by omega) (fun y328 => ?_) (fun y328 => ?_)
                        · skip
                          refine s245_331.mpr (wif (fun c331 => ?_) (fun c331 => ?_))
                          · first
                            | (exfalso; omega)
                            | skip
                              refine s245_334.mpr (s245_335.mpr ?_)
                              refine (s245_339 (by omega) kM).mpr ?_
                              refine m_wants hA (by omega) (by (try simp (disch := decide) only [upI_eq, upI_a, upI_i, upR_eq, upR_a, upR_i]); first | assumption | rfl) (by omega) (fun y339 => ?_) (fun y339 => ?_)
                              · skip
                                refine s245_342.mpr (s245_344.mpr (s245_346.mpr (s245_347.mpr ?_)))
                                refine (s245_348 kM).mpr ?_
                                try simp (disch := first | decide | assumption | omega) only [kon, knt_some, knt_none, Option.toList_some, Option.toList_none, List.cons_append, List.nil_append, upI_eq, upI_a, upI_i, upR_eq, upR_a, upR_i, fAdd_id, fMul_id, e74, e76, g36]
                                refine s245_351.mpr (wif (fun c351 => ?_) (fun c351 => ?_))
                                · first
                                  | (exfalso; omega)
                                  | skip
                                    refine s245_354.mpr (s245_356.mpr ?_)
                                    refine s245_358.mpr (wif (fun c358 => ?_) (fun c358 => ?_))
                                    · first
                                      | (exfalso; omega)
                                      | skip
                                        refine s245_365.mpr ?_
                                        refine (s245_366 kM (by first | assumption | omega)).mpr ?_
                                        refine s245_369.mpr ((s245_370 kM).mpr ?_)
                                        rw [mr_32 hR]
                                        refine s245_373.mpr (s245_375.mpr (s245_376.mpr (s245_377.mpr (s245_378.mpr (s245_379.mpr ?_)))))
                                        try simp (disch := first | decide | assumption | omega) only [kon, knt_some, knt_none, Option.toList_some, Option.toList_none, List.cons_append, List.nil_append, upI_eq, upI_a, upI_i, upR_eq, upR_a, upR_i, fAdd_id, fMul_id, e74, e76, g36]
                                        refine (s245_381 (hA.k (by decide) (by decide) rfl) (by first | assumption | omega) (by first | assumption | omega)).mpr ?_
                                        refine s245_382.mpr (s245_385.mpr ?_)
                                        try simp (disch := first | decide | assumption | omega) only [kon, knt_some, knt_none, Option.toList_some, Option.toList_none, List.cons_append, List.nil_append, upI_eq, upI_a, upI_i, upR_eq, upR_a, upR_i, fAdd_id, fMul_id, e74, e76, g36]
                                        first | (exfalso; omega) | exact er _ _ _ (by assumption) (by omega) _ _ | exact finA (by assumption) (by assumption) (by assumption) _ _ (by omega) | exact finB (by assumption) _ _ (by omega)
                                    · first
                                      | (exfalso; omega)
                                      | skip
                                        refine s245_361.mpr (s245_362.mpr ?_)
                                        refine (s245_366 kM (by first | assumption | omega)).mpr ?_
                                        refine s245_369.mpr ((s245_370 kM).mpr ?_)
                                        rw [mr_32 hR]
                                        refine s245_373.mpr (s245_375.mpr (s245_376.mpr (s245_377.mpr (s245_378.mpr (s245_379.mpr ?_)))))
                                        try simp (disch := first | decide | assumption | omega) only [kon, knt_some, knt_none, Option.toList_some, Option.toList_none, List.cons_append, List.nil_append, upI_eq, upI_a, upI_i, upR_eq, upR_a, upR_i, fAdd_id, fMul_id, e74, e76, g36]
                                        refine (s245_381 (hA.k (by decide) (by decide) rfl) (by first | assumption | omega) (by first | assumption | omega)).mpr ?_
                                        refine s245_382.mpr (s245_385.mpr ?_)
                                        try simp (disch := first | decide | assumption | omega) only [kon, knt_some, knt_none, Option.toList_some, Option.toList_none, List.cons_append, List.nil_append, upI_eq, upI_a, upI_i, upR_eq, upR_a, upR_i, fAdd_id, fMul_id, e74, e76, g36]
                                        first | (exfalso; omega) | exact er _ _ _ (by assumption) (by omega) _ _ | exact finA (by assumption) (by assumption) (by assumption) _ _ (by omega) | exact finB (by assumption) _ _ (by omega)
                                · first
                                  | (exfalso; omega)
                                  | skip
                                    refine s245_361.mpr (s245_362.mpr ?_)
                                    refine (s245_366 kM (by first | assumption | omega)).mpr ?_
                                    refine s245_369.mpr ((s245_370 kM).mpr ?_)
                                    rw [mr_32 hR]
                                    refine s245_373.mpr (s245_375.mpr (s245_376.mpr (s245_377.mpr (s245_378.mpr (s245_379.mpr ?_)))))
                                    try simp (disch := first | decide | assumption | omega) only [kon, knt_some, knt_none, Option.toList_some, Option.toList_none, List.cons_append, List.nil_append, upI_eq, upI_a, upI_i, upR_eq, upR_a, upR_i, fAdd_id, fMul_id, e74, e76, g36]
                                    refine (s245_381 (hA.k (by decide) (by decide) rfl) (by first | assumption | omega) (by first | assumption | omega)).mpr ?_
                                    refine s245_382.mpr (s245_385.mpr ?_)
                                    try simp (disch := first | decide | assumption | omega) only [kon, knt_some, knt_none, Option.toList_some, Option.toList_none, List.cons_append, List.nil_append, upI_eq, upI_a, upI_i, upR_eq, upR_a, upR_i, fAdd_id, fMul_id, e74, e76, g36]
                                    first | (exfalso; omega) | exact er _ _ _ (by assumption) (by omega) _ _ | exact finA (by assumption) (by assumption) (by assumption) _ _ (by omega) | exact finB (by assumption) _ _ (by omega)
                              · skip
                                refine s245_342.mpr (s245_344.mpr (s245_346.mpr (s245_347.mpr ?_)))
                                refine (s245_348 kM).mpr ?_
                                try simp (disch := first | decide | assumption | omega) only [kon, knt_some, knt_none, Option.toList_some, Option.toList_none, List.cons_append, List.nil_append, upI_eq, upI_a, upI_i, upR_eq, upR_a, upR_i, fAdd_id, fMul_id, e74, e76, g36]
                                refine s245_351.mpr (wif (fun c351 => ?_) (fun c351 => ?_))
                                · first
                                  | (exfalso; omega)
                                  | skip
                                    refine s245_354.mpr (s245_356.mpr ?_)
                                    refine s245_358.mpr (wif (fun c358 => ?_) (fun c358 => ?_))
                                    · first
                                      | (exfalso; omega)
                                      | skip
                                        refine s245_365.mpr ?_
                                        refine (s245_366 kM (by first | assumption | omega)).mpr ?_
                                        refine s245_369.mpr ((s245_370 kM).mpr ?_)
                                        rw [mr_32 hR]
                                        refine s245_373.mpr (s245_375.mpr (s245_376.mpr (s245_377.mpr (s245_378.mpr (s245_379.mpr ?_)))))
                                        try simp (disch := first | decide | assumption | omega) only [kon, knt_some, knt_none, Option.toList_some, Option.toList_none, List.cons_append, List.nil_append, upI_eq, upI_a, upI_i, upR_eq, upR_a, upR_i, fAdd_id, fMul_id, e74, e76, g36]
                                        refine (s245_381 (hA.k (by decide) (by decide) rfl) (by first | assumption | omega) (by first | assumption | omega)).mpr ?_
                                        refine s245_382.mpr (s245_385.mpr ?_)
                                        try simp (disch := first | decide | assumption | omega) only [kon, knt_some, knt_none, Option.toList_some, Option.toList_none, List.cons_append, List.nil_append, upI_eq, upI_a, upI_i, upR_eq, upR_a, upR_i, fAdd_id, fMul_id, e74, e76, g36]
                                        first | (exfalso; omega) | exact er _ _ _ (by assumption) (by omega) _ _ | exact finA (by assumption) (by assumption) (by assumption) _ _ (by omega) | exact finB (by assumption) _ _ (by omega)
                                    · first
                                      | (exfalso; omega)
                                      | skip
                                        refine s245_361.mpr (s245_362.mpr ?_)
                                        refine (s245_366 kM (by first | assumption | omega)).mpr ?_
                                        refine s245_369.mpr ((s245_370 kM).mpr ?_)
                                        rw [mr_32 hR]
                                        refine s245_373.mpr (s245_375.mpr (s245_376.mpr (s245_377.mpr (s245_378.mpr (s245_379.mpr ?_)))))
                                        try simp (disch := first | decide | assumption | omega) only [kon, knt_some, knt_none, Option.toList_some, Option.toList_none, List.cons_append, List.nil_append, upI_eq, upI_a, upI_i, upR_eq, upR_a, upR_i, fAdd_id, fMul_id, e74, e76, g36]
                                        refine (s245_381 (hA.k (by decide) (by decide) rfl) (by first | assumption | omega) (by first | assumption | omega)).mpr ?_
                                        refine s245_382.mpr (s245_385.mpr ?_)
                                        try simp (disch := first | decide | assumption | omega) only [kon, knt_some, knt_none, Option.toList_some, Option.toList_none, List.cons_append, List.nil_append, upI_eq, upI_a, upI_i, upR_eq, upR_a, upR_i, fAdd_id, fMul_id, e74, e76, g36]
                                        first | (exfalso; omega) | exact er _ _ _ (by assumption) (by omega) _ _ | exact finA (by assumption) (by assumption) (by assumption) _ _ (by omega) | exact finB (by assumption) _ _ (by omega)
                                · first
                                  | (exfalso; omega)
                                  | skip
                                    refine s245_361.mpr (s245_362.mpr ?_)
                                    refine (s245_366 kM (by first | assumption | omega)).mpr ?_
                                    refine s245_369.mpr ((s245_370 kM).mpr ?_)
                                    rw [mr_32 hR]
                                    refine s245_373.mpr (s245_375.mpr (s245_376.mpr (s245_377.mpr (s245_378.mpr (s245_379.mpr ?_)))))
                                    try simp (disch := first | decide | assumption | omega) only [kon, knt_some, knt_none, Option.toList_some, Option.toList_none, List.cons_append, List.nil_append, upI_eq, upI_a, upI_i, upR_eq, upR_a, upR_i, fAdd_id, fMul_id, e74, e76, g36]
                                    refine (s245_381 (hA.k (by decide) (by decide) rfl) (by first | assumption | omega) (by first | assumption | omega)).mpr ?_
                                    refine s245_382.mpr (s245_385.mpr ?_)
                                    try simp (disch := first | decide | assumption | omega) only [kon, knt_some, knt_none, Option.toList_some, Option.toList_none, List.cons_append, List.nil_append, upI_eq, upI_a, upI_i, upR_eq, upR_a, upR_i, fAdd_id, fMul_id, e74, e76, g36]
                                    first | (exfalso; omega) | exact er _ _ _ (by assumption) (by omega) _ _ | exact finA (by assumption) (by assumption) (by assumption) _ _ (by omega) | exact finB (by assumption) _ _ (by omega)
                          · first
                            | (exfalso; omega)
                            | skip
                              refine s245_338.mpr ?_
                              refine (s245_339 (by omega) kM).mpr ?_
                              refine m_wants hA (by omega) (by (try simp (disch := decide) only [upI_eq, upI_a, upI_i, upR_eq, upR_a, upR_i]); first | assumption | rfl) (by omega) (fun y339 => ?_) (fun y339 => ?_)
                              · skip
                                refine s245_342.mpr (s245_344.mpr (s245_346.mpr (s245_347.mpr ?_)))
                                refine (s245_348 kM).mpr ?_
                                try simp (disch := first | decide | assumption | omega) only [kon, knt_some, knt_none, Option.toList_some, Option.toList_none, List.cons_append, List.nil_append, upI_eq, upI_a, upI_i, upR_eq, upR_a, upR_i, fAdd_id, fMul_id, e74, e76, g36]
                                refine s245_351.mpr (wif (fun c351 => ?_) (fun c351 => ?_))
                                · first
                                  | (exfalso; omega)
                                  | skip
                                    refine s245_354.mpr (s245_356.mpr ?_)
                                    refine s245_358.mpr (wif (fun c358 => ?_) (fun c358 => ?_))
                                    · first
                                      | (exfalso; omega)
                                      | skip
                                        refine s245_365.mpr ?_
                                        refine (s245_366 kM (by first | assumption | omega)).mpr ?_
                                        refine s245_369.mpr ((s245_370 kM).mpr ?_)
                                        rw [mr_32 hR]
                                        refine s245_373.mpr (s245_375.mpr (s245_376.mpr (s245_377.mpr (s245_378.mpr (s245_379.mpr ?_)))))
                                        try simp (disch := first | decide | assumption | omega) only [kon, knt_some, knt_none, Option.toList_some, Option.toList_none, List.cons_append, List.nil_append, upI_eq, upI_a, upI_i, upR_eq, upR_a, upR_i, fAdd_id, fMul_id, e74, e76, g36]
                                        refine (s245_381 (hA.k (by decide) (by decide) rfl) (by first | assumption | omega) (by first | assumption | omega)).mpr ?_
                                        refine s245_382.mpr (s245_385.mpr ?_)
                                        try simp (disch := first | decide | assumption | omega) only [kon, knt_some, knt_none, Option.toList_some, Option.toList_none, List.cons_append, List.nil_append, upI_eq, upI_a, upI_i, upR_eq, upR_a, upR_i, fAdd_id, fMul_id, e74, e76, g36]
                                        first | (exfalso; omega) | exact er _ _ _ (by assumption) (by omega) _ _ | exact finA (by assumption) (by assumption) (by assumption) _ _ (by omega) | exact finB (by assumption) _ _ (by omega)
                                    · first
                                      | (exfalso; omega)
                                      | skip
                                        refine s245_361.mpr (s245_362.mpr ?_)
                                        refine (s245_366 kM (by first | assumption | omega)).mpr ?_
                                        refine s245_369.mpr ((s245_370 kM).mpr ?_)
                                        rw [mr_32 hR]
                                        refine s245_373.mpr (s245_375.mpr (s245_376.mpr (s245_377.mpr (s245_378.mpr (s245_379.mpr ?_)))))
                                        try simp (disch := first | decide | assumption | omega) only [kon, knt_some, knt_none, Option.toList_some, Option.toList_none, List.cons_append, List.nil_append, upI_eq, upI_a, upI_i, upR_eq, upR_a, upR_i, fAdd_id, fMul_id, e74, e76, g36]
                                        refine (s245_381 (hA.k (by decide) (by decide) rfl) (by first | assumption | omega) (by first | assumption | omega)).mpr ?_
                                        refine s245_382.mpr (s245_385.mpr ?_)
                                        try simp (disch := first | decide | assumption | omega) only [kon, knt_some, knt_none, Option.toList_some, Option.toList_none, List.cons_append, List.nil_append, upI_eq, upI_a, upI_i, upR_eq, upR_a, upR_i, fAdd_id, fMul_id, e74, e76, g36]
                                        first | (exfalso; omega) | exact er _ _ _ (by assumption) (by omega) _ _ | exact finA (by assumption) (by assumption) (by assumption) _ _ (by omega) | exact finB (by assumption) _ _ (by omega)
                                · first
                                  | (exfalso; omega)
                                  | skip
                                    refine s245_361.mpr (s245_362.mpr ?_)
                                    refine (s245_366 kM (by first | assumption | omega)).mpr ?_
                                    refine s245_369.mpr ((s245_370 kM).mpr ?_)
                                    rw [mr_32 hR]
                                    refine s245_373.mpr (s245_375.mpr (s245_376.mpr (s245_377.mpr (s245_378.mpr (s245_379.mpr ?_)))))
                                    try simp (disch := first | decide | assumption | omega) only [kon, knt_some, knt_none, Option.toList_some, Option.toList_none, List.cons_append, List.nil_append, upI_eq, upI_a, upI_i, upR_eq, upR_a, upR_i, fAdd_id, fMul_id, e74, e76, g36]
                                    refine (s245_381 (hA.k (by decide) (by decide) rfl) (by first | assumption | omega) (by first | assumption | omega)).mpr ?_
                                    refine s245_382.mpr (s245_385.mpr ?_)
                                    try simp (disch := first | decide | assumption | omega) only [kon, knt_some, knt_none, Option.toList_some, Option.toList_none, List.cons_append, List.nil_append, upI_eq, upI_a, upI_i, upR_eq, upR_a, upR_i, fAdd_id, fMul_id, e74, e76, g36]
                                    first | (exfalso; omega) | exact er _ _ _ (by assumption) (by omega) _ _ | exact finA (by assumption) (by assumption) (by assumption) _ _ (by omega) | exact finB (by assumption) _ _ (by omega)
                              · skip
                                refine s245_342.mpr (s245_344.mpr (s245_346.mpr (s245_347.mpr ?_)))
                                refine (s245_348 kM).mpr ?_
                                try simp (disch := first | decide | assumption | omega) only [kon, knt_some, knt_none, Option.toList_some, Option.toList_none, List.cons_append, List.nil_append, upI_eq, upI_a, upI_i, upR_eq, upR_a, upR_i, fAdd_id, fMul_id, e74, e76, g36]
                                refine s245_351.mpr (wif (fun c351 => ?_) (fun c351 => ?_))
                                · first
                                  | (exfalso; omega)
                                  | skip
                                    refine s245_354.mpr (s245_356.mpr ?_)
                                    refine s245_358.mpr (wif (fun c358 => ?_) (fun c358 => ?_))
                                    · first
                                      | (exfalso; omega)
                                      | skip
                                        refine s245_365.mpr ?_
                                        refine (s245_366 kM (by first | assumption | omega)).mpr ?_
                                        refine s245_369.mpr ((s245_370 kM).mpr ?_)
                                        rw [mr_32 hR]
                                        refine s245_373.mpr (s245_375.mpr (s245_376.mpr (s245_377.mpr (s245_378.mpr (s245_379.mpr ?_)))))
                                        try simp (disch := first | decide | assumption | omega) only [kon, knt_some, knt_none, Option.toList_some, Option.toList_none, List.cons_append, List.nil_append, upI_eq, upI_a, upI_i, upR_eq, upR_a, upR_i, fAdd_id, fMul_id, e74, e76, g36]
                                        refine (s245_381 (hA.k (by decide) (by decide) rfl) (by first | assumption | omega) (by first | assumption | omega)).mpr ?_
                                        refine s245_382.mpr (s245_385.mpr ?_)
                                        try simp (disch := first | decide | assumption | omega) only [kon, knt_some, knt_none, Option.toList_some, Option.toList_none, List.cons_append, List.nil_append, upI_eq, upI_a, upI_i, upR_eq, upR_a, upR_i, fAdd_id, fMul_id, e74, e76, g36]
                                        first | (exfalso; omega) | exact er _ _ _ (by assumption) (by omega) _ _ | exact finA (by assumption) (by assumption) (by assumption) _ _ (by omega) | exact finB (by assumption) _ _ (by omega)
                                    · first
                                      | (exfalso; omega)
                                      | skip
                                        refine s245_361.mpr (s245_362.mpr ?_)
                                        refine (s245_366 kM (by first | assumption | omega)).mpr ?_
                                        refine s245_369.mpr ((s245_370 kM).mpr ?_)
                                        rw [mr_32 hR]
                                        refine s245_373.mpr (s245_375.mpr (s245_376.mpr (s245_377.mpr (s245_378.mpr (s245_379.mpr ?_)))))
                                        try simp (disch := first | decide | assumption | omega) only [kon, knt_some, knt_none, Option.toList_some, Option.toList_none, List.cons_append, List.nil_append, upI_eq, upI_a, upI_i, upR_eq, upR_a, upR_i, fAdd_id, fMul_id, e74, e76, g36]
                                        refine (s245_381 (hA.k (by decide) (by decide) rfl) (by first | assumption | omega) (by first | assumption | omega)).mpr ?_
                                        refine s245_382.mpr (s245_385.mpr ?_)
                                        try simp (disch := first | decide | assumption | omega) only [kon, knt_some, knt_none, Option.toList_some, Option.toList_none, List.cons_append, List.nil_append, upI_eq, upI_a, upI_i, upR_eq, upR_a, upR_i, fAdd_id, fMul_id, e74, e76, g36]
                                        first | (exfalso; omega) | exact er _ _ _ (by assumption) (by omega) _ _ | exact finA (by assumption) (by assumption) (by assumption) _ _ (by omega) | exact finB (by assumption) _ _ (by omega)
                                · first
                                  | (exfalso; omega)
                                  | skip
                                    refine s245_361.mpr (s245_362.mpr ?_)
                                    refine (s245_366 kM (by first | assumption | omega)).mpr ?_
                                    refine s245_369.mpr ((s245_370 kM).mpr ?_)
                                    rw [mr_32 hR]
                                    refine s245_373.mpr (s245_375.mpr (s245_376.mpr (s245_377.mpr (s245_378.mpr (s245_379.mpr ?_)))))
                                    try simp (disch := first | decide | assumption | omega) only [kon, knt_some, knt_none, Option.toList_some, Option.toList_none, List.cons_append, List.nil_append, upI_eq, upI_a, upI_i, upR_eq, upR_a, upR_i, fAdd_id, fMul_id, e74, e76, g36]
                                    refine (s245_381 (hA.k (by decide) (by decide) rfl) (by first | assumption | omega) (by first | assumption | omega)).mpr ?_
                                    refine s245_382.mpr (s245_385.mpr ?_)
                                    try simp (disch := first | decide | assumption | omega) only [kon, knt_some, knt_none, Option.toList_some, Option.toList_none, List.cons_append, List.nil_append, upI_eq, upI_a, upI_i, upR_eq, upR_a, upR_i, fAdd_id, fMul_id, e74, e76, g36]
                                    first | (exfalso; omega) | exact er _ _ _ (by assumption) (by omega) _ _ | exact finA (by assumption) (by assumption) (by assumption) _ _ (by omega) | exact finB (by assumption) _ _ (by omega)
                        · skip
                          refine s245_331.mpr (wif (fun c331 => ?_) (fun c331 => ?_))
                          · first
                            | (exfalso; omega)
                            | skip
                              refine s245_334.mpr (s245_335.mpr ?_)
                              refine (s245_339 (by omega) kM).mpr ?_
                              refine m_wants hA (by omega) (by (try simp (disch := decide) only [upI_eq, upI_a, upI_i, upR_eq, upR_a, upR_i]); first | assumption | rfl) (by omega) (fun y339 => ?_) (fun y339 => ?_)
                              · skip
                                refine s245_342.mpr (s245_344.mpr (s245_346.mpr (s245_347.mpr ?_)))
                                refine (s245_348 kM).mpr ?_
                                try simp (disch := first | decide | assumption | omega) only [kon, knt_some, knt_none, Option.toList_some, Option.toList_none, List.cons_append, List.nil_append, upI_eq, upI_a, upI_i, upR_eq, upR_a, upR_i, fAdd_id, fMul_id, e74, e76, g36]
                                refine s245_351.mpr (wif (fun c351 => ?_) (fun c351 => ?_))
                                · first
                                  | (exfalso; omega)
                                  | skip
                                    refine s245_354.mpr (s245_356.mpr ?_)
                                    refine s245_358.mpr (wif (fun c358 => ?_) (fun c358 => ?_))
                                    · first
                                      | (exfalso; omega)
                                      | skip
                                        refine s245_365.mpr ?_
                                        refine (s245_366 kM (by first | assumption | omega)).mpr ?_
                                        refine s245_369.mpr ((s245_370 kM).mpr ?_)
                                        rw [mr_32 hR]
                                        refine s245_373.mpr (s245_375.mpr (s245_376.mpr (s245_377.mpr (s245_378.mpr (s245_379.mpr ?_)))))
                                        try simp (disch := first | decide | assumption | omega) only [kon, knt_some, knt_none, Option.toList_some, Option.toList_none, List.cons_append, List.nil_append, upI_eq, upI_a, upI_i, upR_eq, upR_a, upR_i, fAdd_id, fMul_id, e74, e76, g36]
                                        refine (s245_381 (hA.k (by decide) (by decide) rfl) (by first | assumption | omega) (by first | assumption | omega)).mpr ?_
                                        refine s245_382.mpr (s245_385.mpr ?_)
                                        try simp (disch := first | decide | assumption | omega) only [kon, knt_some, knt_none, Option.toList_some, Option.toList_none, List.cons_append, List.nil_append, upI_eq, upI_a, upI_i, upR_eq, upR_a, upR_i, fAdd_id, fMul_id, e74, e76, g36]
                                        first | (exfalso; omega) | exact er _ _ _ (by assumption) (by omega) _ _ | exact finA (by assumption) (by assumption) (by assumption) _ _ (by omega) | exact finB (by assumption) _ _ (by omega)
                                    · first
                                      | (exfalso; omega)
                                      | skip
                                        refine s245_361.mpr (s245_362.mpr ?_)
                                        refine (s245_366 kM (by first | assumption | omega)).mpr ?_
                                        refine s245_369.mpr ((s245_370 kM).mpr ?_)
                                        rw [mr_32 hR]
                                        refine s245_373.mpr (s245_375.mpr (s245_376.mpr (s245_377.mpr (s245_378.mpr (s245_379.mpr ?_)))))
                                        try simp (disch := first | decide | assumption | omega) only [kon, knt_some, knt_none, Option.toList_some, Option.toList_none, List.cons_append, List.nil_append, upI_eq, upI_a, upI_i, upR_eq, upR_a, upR_i, fAdd_id, fMul_id, e74, e76, g36]
                                        refine (s245_381 (hA.k (by decide) (by decide) rfl) (by first | assumption | omega) (by first | assumption | omega)).mpr ?_
                                        refine s245_382.mpr (s245_385.mpr ?_)
                                        try simp (disch := first | decide | assumption | omega) only [kon, knt_some, knt_none, Option.toList_some, Option.toList_none, List.cons_append, List.nil_append, upI_eq, upI_a, upI_i, upR_eq, upR_a, upR_i, fAdd_id, fMul_id, e74, e76, g36]
                                        first | (exfalso; omega) | exact er _ _ _ (by assumption) (by omega) _ _ | exact finA (by assumption) (by assumption) (by assumption) _ _ (by omega) | exact finB (by assumption) _ _ (by omega)
                                · first
                                  | (exfalso; omega)
                                  | skip
                                    refine s245_361.mpr (s245_362.mpr ?_)
                                    refine (s245_366 kM (by first | assumption | omega)).mpr ?_
                                    refine s245_369.mpr ((s245_370 kM).mpr ?_)
                                    rw [mr_32 hR]
                                    refine s245_373.mpr (s245_375.mpr (s245_376.mpr (s245_377.mpr (s245_378.mpr (s245_379.mpr ?_)))))
                                    try simp (disch := first | decide | assumption | omega) only [kon, knt_some, knt_none, Option.toList_some, Option.toList_none, List.cons_append, List.nil_append, upI_eq, upI_a, upI_i, upR_eq, upR_a, upR_i, fAdd_id, fMul_id, e74, e76, g36]
                                    refine (s245_381 (hA.k (by decide) (by decide) rfl) (by first | assumption | omega) (by first | assumption | omega)).mpr ?_
                                    refine s245_382.mpr (s245_385.mpr ?_)
                                    try simp (disch := first | decide | assumption | omega) only [kon, knt_some, knt_none, Option.toList_some, Option.toList_none, List.cons_append, List.nil_append, upI_eq, upI_a, upI_i, upR_eq, upR_a, upR_i, fAdd_id, fMul_id, e74, e76, g36]
                                    first | (exfalso; omega) | exact er _ _ _ (by assumption) (by omega) _ _ | exact finA (by assumption) (by assumption) (by assumption) _ _ (by omega) | exact finB (by assumption) _ _ (by omega)
                              · skip
                                refine s245_342.mpr (s245_344.mpr (s245_346.mpr (s245_347.mpr ?_)))
                                refine (s245_348 kM).mpr ?_
                                try simp (disch := first | decide | assumption | omega) only [kon, knt_some, knt_none, Option.toList_some, Option.toList_none, List.cons_append, List.nil_append, upI_eq, upI_a, upI_i, upR_eq, upR_a, upR_i, fAdd_id, fMul_id, e74, e76, g36]
                                refine s245_351.mpr (wif (fun c351 => ?_) (fun c351 => ?_))
                                · first
                                  | (exfalso; omega)
                                  | skip
                                    refine s245_354.mpr (s245_356.mpr ?_)
                                    refine s245_358.mpr (wif (fun c358 => ?_) (fun c358 => ?_))
                                    · first
                                      | (exfalso; omega)
                                      | skip
                                        refine s245_365.mpr ?_
                                        refine (s245_366 kM (by first | assumption | omega)).mpr ?_
                                        refine s245_369.mpr ((s245_370 kM).mpr ?_)
                                        rw [mr_32 hR]
                                        refine s245_373.mpr (s245_375.mpr (s245_376.mpr (s245_377.mpr (s245_378.mpr (s245_379.mpr ?_)))))
                                        try simp (disch := first | decide | assumption | omega) only [kon, knt_some, knt_none, Option.toList_some, Option.toList_none, List.cons_append, List.nil_append, upI_eq, upI_a, upI_i, upR_eq, upR_a, upR_i, fAdd_id, fMul_id, e74, e76, g36]
                                        refine (s245_381 (hA.k (by decide) (by decide) rfl) (by first | assumption | omega) (by first | assumption | omega)).mpr ?_
                                        refine s245_382.mpr (s245_385.mpr ?_)
                                        try simp (disch := first | decide | assumption | omega) only [kon, knt_some, knt_none, Option.toList_some, Option.toList_none, List.cons_append, List.nil_append, upI_eq, upI_a, upI_i, upR_eq, upR_a, upR_i, fAdd_id, fMul_id, e74, e76, g36]
                                        first | (exfalso; omega) | exact er _ _ _ (by assumption) (by omega) _ _ | exact finA (by assumption) (by assumption) (by assumption) _ _ (by omega) | exact finB (by assumption) _ _ (by omega)
                                    · first
                                      | (exfalso; omega)
                                      | skip
                                        refine s245_361.mpr (s245_362.mpr ?_)
                                        refine (s245_366 kM (by first | assumption | omega)).mpr ?_
                                        refine s245_369.mpr ((s245_370 kM).mpr ?_)
                                        rw [mr_32 hR]
                                        refine s245_373.mpr (s245_375.mpr (s245_376.mpr (s245_377.mpr (s245_378.mpr (s245_379.mpr ?_)))))
                                        try simp (disch := first | decide | assumption | omega) only [kon, knt_some, knt_none, Option.toList_some, Option.toList_none, List.cons_append, List.nil_append, upI_eq, upI_a, upI_i, upR_eq, upR_a, upR_i, fAdd_id, fMul_id, e74, e76, g36]
                                        refine (s245_381 (hA.k (by decide) (by decide) rfl) (by first | assumption | omega) (by first | assumption | omega)).mpr ?_
                                        refine s245_382.mpr (s245_385.mpr ?_)
                                        try simp (disch := first | decide | assumption | omega) only [kon, knt_some, knt_none, Option.toList_some, Option.toList_none, List.cons_append, List.nil_append, upI_eq, upI_a, upI_i, upR_eq, upR_a, upR_i, fAdd_id, fMul_id, e74, e76, g36]
                                        first | (exfalso; omega) | exact er _ _ _ (by assumption) (by omega) _ _ | exact finA (by assumption) (by assumption) (by assumption) _ _ (by omega) | exact finB (by assumption) _ _ (by omega)
                                · first
                                  | (exfalso; omega)
                                  | skip
                                    refine s245_361.mpr (s245_362.mpr ?_)
                                    refine (s245_366 kM (by first | assumption | omega)).mpr ?_
                                    refine s245_369.mpr ((s245_370 kM).mpr ?_)
                                    rw [mr_32 hR]
                                    refine s245_373.mpr (s245_375.mpr (s245_376.mpr (s245_377.mpr (s245_378.mpr (s245_379.mpr ?_)))))
                                    try simp (disch := first | decide | assumption | omega) only [kon, knt_some, knt_none, Option.toList_some, Option.toList_none, List.cons_append, List.nil_append, upI_eq, upI_a, upI_i, upR_eq, upR_a, upR_i, fAdd_id, fMul_id, e74, e76, g36]
                                    refine (s245_381 (hA.k (by decide) (by decide) rfl) (by first | assumption | omega) (by first | assumption | omega)).mpr ?_
                                    refine s245_382.mpr (s245_385.mpr ?_)
                                    try simp (disch := first | decide | assumption | omega) only [kon, knt_some, knt_none, Option.toList_some, Option.toList_none, List.cons_append, List.nil_append, upI_eq, upI_a, upI_i, upR_eq, upR_a, upR_i, fAdd_id, fMul_id, e74, e76, g36]
                                    first | (exfalso; omega) | exact er _ _ _ (by assumption) (by omega) _ _ | exact finA (by assumption) (by assumption) (by assumption) _ _ (by omega) | exact finB (by assumption) _ _ (by omega)
                          · first
                            | (exfalso; omega)
                            | skip
                              refine s245_338.mpr ?_
                              refine (s245_339 (by omega) kM).mpr ?_
                              refine m_wants hA (by omega) (by (try simp (disch := decide) only [upI_eq, upI_a, upI_i, upR_eq, upR_a, upR_i]); first | assumption | rfl) (by omega) (fun y339 => ?_) (fun y339 => ?_)
                              · skip
                                refine s245_342.mpr (s245_344.mpr (s245_346.mpr (s245_347.mpr ?_)))
                                refine (s245_348 kM).mpr ?_
                                try simp (disch := first | decide | assumption | omega) only [kon, knt_some, knt_none, Option.toList_some, Option.toList_none, List.cons_append, List.nil_append, upI_eq, upI_a, upI_i, upR_eq, upR_a, upR_i, fAdd_id, fMul_id, e74, e76, g36]
                                refine s245_351.mpr (wif (fun c351 => ?_) (fun c351 => ?_))
                                · first
                                  | (exfalso; omega)
                                  | skip
                                    refine s245_354.mpr (s245_356.mpr ?_)
                                    refine s245_358.mpr (wif (fun c358 => ?_) (fun c358 => ?_))
                                    · first
                                      | (exfalso; omega)
                                      | skip
                                        refine s245_365.mpr ?_
                                        refine (s245_366 kM (by first | assumption | omega)).mpr ?_
                                        refine s245_369.mpr ((s245_370 kM).mpr ?_)
                                        rw [mr_32 hR]
                                        refine s245_373.mpr (s245_375.mpr (s245_376.mpr (s245_377.mpr (s245_378.mpr (s245_379.mpr ?_)))))
                                        try simp (disch := first | decide | assumption | omega) only [kon, knt_some, knt_none, Option.toList_some, Option.toList_none, List.cons_append, List.nil_append, upI_eq, upI_a, upI_i, upR_eq, upR_a, upR_i, fAdd_id, fMul_id, e74, e76, g36]
                                        refine (s245_381 (hA.k (by decide) (by decide) rfl) (by first | assumption | omega) (by first | assumption | omega)).mpr ?_
                                        refine s245_382.mpr (s245_385.mpr ?_)
                                        try simp (disch := first | decide | assumption | omega) only [kon, knt_some, knt_none, Option.toList_some, Option.toList_none, List.cons_append, List.nil_append, upI_eq, upI_a, upI_i, upR_eq, upR_a, upR_i, fAdd_id, fMul_id, e74, e76, g36]
                                        first | (exfalso; omega) | exact er _ _ _ (by assumption) (by omega) _ _ | exact finA (by assumption) (by assumption) (by assumption) _ _ (by omega) | exact finB (by assumption) _ _ (by omega)
                                    · first
                                      | (exfalso; omega)
                                      | skip
                                        refine s245_361.mpr (s245_362.mpr ?_)
                                        refine (s245_366 kM (by first | assumption | omega)).mpr ?_
                                        refine s245_369.mpr ((s245_370 kM).mpr ?_)
                                        rw [mr_32 hR]
                                        refine s245_373.mpr (s245_375.mpr (s245_376.mpr (s245_377.mpr (s245_378.mpr (s245_379.mpr ?_)))))
                                        try simp (disch := first | decide | assumption | omega) only [kon, knt_some, knt_none, Option.toList_some, Option.toList_none, List.cons_append, List.nil_append, upI_eq, upI_a, upI_i, upR_eq, upR_a, upR_i, fAdd_id, fMul_id, e74, e76, g36]
                                        refine (s245_381 (hA.k (by decide) (by decide) rfl) (by first | assumption | omega) (by first | assumption | omega)).mpr ?_
                                        refine s245_382.mpr (s245_385.mpr ?_)
                                        try simp (disch := first | decide | assumption | omega) only [kon, knt_some, knt_none, Option.toList_some, Option.toList_none, List.cons_append, List.nil_append, upI_eq, upI_a, upI_i, upR_eq, upR_a, upR_i, fAdd_id, fMul_id, e74, e76, g36]
                                        first | (exfalso; omega) | exact er _ _ _ (by assumption) (by omega) _ _ | exact finA (by assumption) (by assumption) (by assumption) _ _ (by omega) | exact finB (by assumption) _ _ (by omega)
                                · first
                                  | (exfalso; omega)
                                  | skip
                                    refine s245_361.mpr (s245_362.mpr ?_)
                                    refine (s245_366 kM (by first | assumption | omega)).mpr ?_
                                    refine s245_369.mpr ((s245_370 kM).mpr ?_)
                                    rw [mr_32 hR]
                                    refine s245_373.mpr (s245_375.mpr (s245_376.mpr (s245_377.mpr (s245_378.mpr (s245_379.mpr ?_)))))
                                    try simp (disch := first | decide | assumption | omega) only [kon, knt_some, knt_none, Option.toList_some, Option.toList_none, List.cons_append, List.nil_append, upI_eq, upI_a, upI_i, upR_eq, upR_a, upR_i, fAdd_id, fMul_id, e74, e76, g36]
                                    refine (s245_381 (hA.k (by decide) (by decide) rfl) (by first | assumption | omega) (by first | assumption | omega)).mpr ?_
                                    refine s245_382.mpr (s245_385.mpr ?_)
                                    try simp (disch := first | decide | assumption | omega) only [kon, knt_some, knt_none, Option.toList_some, Option.toList_none, List.cons_append, List.nil_append, upI_eq, upI_a, upI_i, upR_eq, upR_a, upR_i, fAdd_id, fMul_id, e74, e76, g36]
                                    first | (exfalso; omega) | exact er _ _ _ (by assumption) (by omega) _ _ | exact finA (by assumption) (by assumption) (by assumption) _ _ (by omega) | exact finB (by assumption) _ _ (by omega)
                              · skip
                                refine s245_342.mpr (s245_344.mpr (s245_346.mpr (s245_347.mpr ?_)))
                                refine (s245_348 kM).mpr ?_
                                try simp (disch := first | decide | assumption | omega) only [kon, knt_some, knt_none, Option.toList_some, Option.toList_none, List.cons_append, List.nil_append, upI_eq, upI_a, upI_i, upR_eq, upR_a, upR_i, fAdd_id, fMul_id, e74, e76, g36]
                                refine s245_351.mpr (wif (fun c351 => ?_) (fun c351 => ?_))
                                · first
                                  | (exfalso; omega)
                                  | skip
                                    refine s245_354.mpr (s245_356.mpr ?_)
                                    refine s245_358.mpr (wif (fun c358 => ?_) (fun c358 => ?_))
                                    · first
                                      | (exfalso; omega)
                                      | skip
                                        refine s245_365.mpr ?_
                                        refine (s245_366 kM (by first | assumption | omega)).mpr ?_
                                        refine s245_369.mpr ((s245_370 kM).mpr ?_)
                                        rw [mr_32 hR]
                                        refine s245_373.mpr (s245_375.mpr (s245_376.mpr (s245_377.mpr (s245_378.mpr (s245_379.mpr ?_)))))
                                        try simp (disch := first | decide | assumption | omega) only [kon, knt_some, knt_none, Option.toList_some, Option.toList_none, List.cons_append, List.nil_append, upI_eq, upI_a, upI_i, upR_eq, upR_a, upR_i, fAdd_id, fMul_id, e74, e76, g36]
                                        refine (s245_381 (hA.k (by decide) (by decide) rfl) (by first | assumption | omega) (by first | assumption | omega)).mpr ?_
                                        refine s245_382.mpr (s245_385.mpr ?_)
                                        try simp (disch := first | decide | assumption | omega) only [kon, knt_some, knt_none, Option.toList_some, Option.toList_none, List.cons_append, List.nil_append, upI_eq, upI_a, upI_i, upR_eq, upR_a, upR_i, fAdd_id, fMul_id, e74, e76, g36]
                                        first | (exfalso; omega) | exact er _ _ _ (by assumption) (by omega) _ _ | exact finA (by assumption) (by assumption) (by assumption) _ _ (by omega) | exact finB (by assumption) _ _ (by omega)
                                    · first
                                      | (exfalso; omega)
                                      | skip
                                        refine s245_361.mpr (s245_362.mpr ?_)
                                        refine (s245_366 kM (by first | assumption | omega)).mpr ?_
                                        refine s245_369.mpr ((s245_370 kM).mpr ?_)
                                        rw [mr_32 hR]
                                        refine s245_373.mpr (s245_375.mpr (s245_376.mpr (s245_377.mpr (s245_378.mpr (s245_379.mpr ?_)))))
                                        try simp (disch := first | decide | assumption | omega) only [kon, knt_some, knt_none, Option.toList_some, Option.toList_none, List.cons_append, List.nil_append, upI_eq, upI_a, upI_i, upR_eq, upR_a, upR_i, fAdd_id, fMul_id, e74, e76, g36]
                                        refine (s245_381 (hA.k (by decide) (by decide) rfl) (by first | assumption | omega) (by first | assumption | omega)).mpr ?_
                                        refine s245_382.mpr (s245_385.mpr ?_)
                                        try simp (disch := first | decide | assumption | omega) only [kon, knt_some, knt_none, Option.toList_some, Option.toList_none, List.cons_append, List.nil_append, upI_eq, upI_a, upI_i, upR_eq, upR_a, upR_i, fAdd_id, fMul_id, e74, e76, g36]
                                        first | (exfalso; omega) | exact er _ _ _ (by assumption) (by omega) _ _ | exact finA (by assumption) (by assumption) (by assumption) _ _ (by omega) | exact finB (by assumption) _ _ (by omega)
                                · first
                                  | (exfalso; omega)
                                  | skip
                                    refine s245_361.mpr (s245_362.mpr ?_)
                                    refine (s245_366 kM (by first | assumption | omega)).mpr ?_
                                    refine s245_369.mpr ((s245_370 kM).mpr ?_)
                                    rw [mr_32 hR]
                                    refine s245_373.mpr (s245_375.mpr (s245_376.mpr (s245_377.mpr (s245_378.mpr (s245_379.mpr ?_)))))
                                    try simp (disch := first | decide | assumption | omega) only [kon, knt_some, knt_none, Option.toList_some, Option.toList_none, List.cons_append, List.nil_append, upI_eq, upI_a, upI_i, upR_eq, upR_a, upR_i, fAdd_id, fMul_id, e74, e76, g36]
                                    refine (s245_381 (hA.k (by decide) (by decide) rfl) (by first | assumption | omega) (by first | assumption | omega)).mpr ?_
                                    refine s245_382.mpr (s245_385.mpr ?_)
                                    try simp (disch := first | decide | assumption | omega) only [kon, knt_some, knt_none, Option.toList_some, Option.toList_none, List.cons_append, List.nil_append, upI_eq, upI_a, upI_i, upR_eq, upR_a, upR_i, fAdd_id, fMul_id, e74, e76, g36]
                                    first | (exfalso; omega) | exact er _ _ _ (by assumption) (by omega) _ _ | exact finA (by assumption) (by assumption) (by assumption) _ _ (by omega) | exact finB (by assumption) _ _ (by omega)
                    · first
                      | (exfalso; omega)
                      | skip
                        refine s245_338.mpr ?_
                        refine (s245_339 (by omega) kM).mpr ?_
                        refine m_wants hA (by omega) (by (try simp (disch := decide) only [upI_eq, upI_a, upI_i, upR_eq, upR_a, upR_i]); first | assumption | rfl) (by omega) (fun y339 => ?_) (fun y339 => ?_)
                        · skip
                          refine s245_342.mpr (s245_344.mpr (s245_346.mpr (s245_347.mpr ?_)))
                          refine (s245_348 kM).mpr ?_
                          try simp (disch := first | decide | assumption | omega) only [kon, knt_some, knt_none, Option.toList_some, Option.toList_none, List.cons_append, List.nil_append, upI_eq, upI_a, upI_i, upR_eq, upR_a, upR_i, fAdd_id, fMul_id, e74, e76, g36]
                          refine s245_351.mpr (wif (fun c351 => ?_) (fun c351 => ?_))
                          · first
                            | (exfalso; omega)
                            | skip
                              refine s245_354.mpr (s245_356.mpr ?_)
                              refine s245_358.mpr (wif (fun c358 => ?_) (fun c358 => ?_))
                              · first
                                | (exfalso; omega)
                                | skip
                                  refine s245_365.mpr ?_
                                  refine (s245_366 kM (by first | assumption | omega)).mpr ?_
                                  refine s245_369.mpr ((s245_370 kM).mpr ?_)
                                  rw [mr_32 hR]
                                  refine s245_373.mpr (s245_375.mpr (s245_376.mpr (s245_377.mpr (s245_378.mpr (s245_379.mpr ?_)))))
                                  try simp (disch := first | decide | assumption | omega) only [kon, knt_some, knt_none, Option.toList_some, Option.toList_none, List.cons_append, List.nil_append, upI_eq, upI_a, upI_i, upR_eq, upR_a, upR_i, fAdd_id, fMul_id, e74, e76, g36]
                                  refine (s245_381 (hA.k (by decide) (by decide) rfl) (by first | assumption | omega) (by first | assumption | omega)).mpr ?_
                                  refine s245_382.mpr (s245_385.mpr ?_)
                                  try simp (disch := first | decide | assumption | omega) only [kon, knt_some, knt_none, Option.toList_some, Option.toList_none, List.cons_append, List.nil_append, upI_eq, upI_a, upI_i, upR_eq, upR_a, upR_i, fAdd_id, fMul_id, e74, e76, g36]
                                  first | (exfalso; omega) | exact er _ _ _ (by assumption) (by omega) _ _ | exact finA (by assumption) (by assumption) (by assumption) _ _ (by omega) | exact finB (by assumption) _ _ (by omega)
                              · first
                                | (exfalso; omega)
                                | skip
                                  refine s245_361.mpr (s245_362.mpr ?_)
                                  refine (s245_366 kM (by first | assumption | omega)).mpr ?_
                                  refine s245_369.mpr ((s245_370 kM).mpr ?_)
                                  rw [mr_32 hR]
                                  refine s245_373.mpr (s245_375.mpr (s245_376.mpr (s245_377.mpr (s245_378.mpr (s245_379.mpr ?_)))))
                                  try simp (disch := first | decide | assumption | omega) only [kon, knt_some, knt_none, Option.toList_some, Option.toList_none, List.cons_append, List.nil_append, upI_eq, upI_a, upI_i, upR_eq, upR_a, upR_i, fAdd_id, fMul_id, e74, e76, g36]
                                  refine (s245_381 (hA.k (by decide) (by decide) rfl) (by first | assumption | omega) (by first | assumption | omega)).mpr ?_
                                  refine s245_382.mpr (s245_385.mpr ?_)
                                  try simp (disch := first | decide | assumption | omega) only [kon, knt_some, knt_none, Option.toList_some, Option.toList_none, List.cons_append, List.nil_append, upI_eq, upI_a, upI_i, upR_eq, upR_a, upR_i, fAdd_id, fMul_id, e74, e76, g36]
                                  first | (exfalso; omega) | exact er _ _ _ (by assumption) (by omega) _ _ | exact finA (by assumption) (by assumption) (by assumption) _ _ (by omega) | exact finB (by assumption) _ _ (by omega)
                          · first
                            | (exfalso; omega)
                            | skip
                              refine s245_361.mpr (s245_362.mpr ?_)
                              refine (s245_366 kM (by first | assumption | omega)).mpr ?_
                              refine s245_369.mpr ((s245_370 kM).mpr ?_)
                              rw [mr_32 hR]
                              refine s245_373.mpr (s245_375.mpr (s245_376.mpr (s245_377.mpr (s245_378.mpr (s245_379.mpr ?_)))))
                              try simp (disch := first | decide | assumption | omega) only [kon, knt_some, knt_none, Option.toList_some, Option.toList_none, List.cons_append, List.nil_append, upI_eq, upI_a, upI_i, upR_eq, upR_a, upR_i, fAdd_id, fMul_id, e74, e76, g36]
                              refine (s245_381 (hA.k (by decide) (by decide) rfl) (by first | assumption | omega) (by first | assumption | omega)).mpr ?_
                              refine s245_382.mpr (s245_385.mpr ?_)
                              try simp (disch := first | decide | assumption | omega) only [kon, knt_some, knt_none, Option.toList_some, Option.toList_none, List.cons_append, List.nil_append, upI_eq, upI_a, upI_i, upR_eq, upR_a, upR_i, fAdd_id, fMul_id, e74, e76, g36]
                              first | (exfalso; omega) | exact er _ _ _ (by assumption) (by omega) _ _ | exact finA (by assumption) (by assumption) (by assumption) _ _ (by omega) | exact finB (by assumption) _ _ (by omega)
                        · skip
                          refine s245_342.mpr (s245_344.mpr (s245_346.mpr (s245_347.mpr ?_)))
                          refine (s245_348 kM).mpr ?_
                          try simp (disch := first | decide | assumption | omega) only [kon, knt_some, knt_none, Option.toList_some, Option.toList_none, List.cons_append, List.nil_append, upI_eq, upI_a, upI_i, upR_eq, upR_a, upR_i, fAdd_id, fMul_id, e74, e76, g36]
                          refine s245_351.mpr (wif (fun c351 => ?_) (fun c351 => ?_))
                          · first
                            | (exfalso; omega)
                            | skip
                              refine s245_354.mpr (s245_356.mpr ?_)
                              refine s245_358.mpr (wif (fun c358 => ?_) (fun c358 => ?_))
                              · first
                                | (exfalso; omega)
                                | skip
                                  refine s245_365.mpr ?_
                                  refine (s245_366 kM (by first | assumption | omega)).mpr ?_
                                  refine s245_369.mpr ((s245_370 kM).mpr ?_)
                                  rw [mr_32 hR]
                                  refine s245_373.mpr (s245_375.mpr (s245_376.mpr (s245_377.mpr (s245_378.mpr (s245_379.mpr ?_)))))
                                  try simp (disch := first | decide | assumption | omega) only [kon, knt_some, knt_none, Option.toList_some, Option.toList_none, List.cons_append, List.nil_append, upI_eq, upI_a, upI_i, upR_eq, upR_a, upR_i, fAdd_id, fMul_id, e74, e76, g36]
                                  refine (s245_381 (hA.k (by decide) (by decide) rfl) (by first | assumption | omega) (by first | assumption | omega)).mpr ?_
                                  refine s245_382.mpr (s245_385.mpr ?_)
                                  try simp (disch := first | decide | assumption | omega) only [kon, knt_some, knt_none, Option.toList_some, Option.toList_none, List.cons_append, List.nil_append, upI_eq, upI_a, upI_i, upR_eq, upR_a, upR_i, fAdd_id, fMul_id, e74, e76, g36]
                                  first | (exfalso; omega) | exact er _ _ _ (by assumption) (by omega) _ _ | exact finA (by assumption) (by assumption) (by assumption) _ _ (by omega) | exact finB (by assumption) _ _ (by omega)
                              · first
                                | (exfalso; omega)
                                | skip
                                  refine s245_361.mpr (s245_362.mpr ?_)
                                  refine (s245_366 kM (by first | assumption | omega)).mpr ?_
                                  refine s245_369.mpr ((s245_370 kM).mpr ?_)
                                  rw [mr_32 hR]
                                  refine s245_373.mpr (s245_375.mpr (s245_376.mpr (s245_377.mpr (s245_378.mpr (s245_379.mpr ?_)))))
                                  try simp (disch := first | decide | assumption | omega) only [kon, knt_some, knt_none, Option.toList_some, Option.toList_none, List.cons_append, List.nil_append, upI_eq, upI_a, upI_i, upR_eq, upR_a, upR_i, fAdd_id, fMul_id, e74, e76, g36]
                                  refine (s245_381 (hA.k (by decide) (by decide) rfl) (by first | assumption | omega) (by first | assumption | omega)).mpr ?_
                                  refine s245_382.mpr (s245_385.mpr ?_)
                                  try simp (disch := first | decide | assumption | omega) only [kon, knt_some, knt_none, Option.toList_some, Option.toList_none, List.cons_append, List.nil_append, upI_eq, upI_a, upI_i, upR_eq, upR_a, upR_i, fAdd_id, fMul_id, e74, e76, g36]
                                  first | (exfalso; omega) | exact er _ _ _ (by assumption) (by omega) _ _ | exact finA (by assumption) (by assumption) (by assumption) _ _ (by omega) | exact finB (by assumption) _ _ (by omega)
                          · first
                            | (exfalso; omega)
                            | skip
                              refine s245_361.mpr (s245_362.mpr ?_)
                              refine (s245_366 kM (by first | assumption | omega)).mpr ?_
                              refine s245_369.mpr ((s245_370 kM).mpr ?_)
                              rw [mr_32 hR]
                              refine s245_373.mpr (s245_375.mpr (s245_376.mpr (s245_377.mpr (s245_378.mpr (s245_379.mpr ?_)))))
                              try simp (disch := first | decide | assumption | omega) only [kon, knt_some, knt_none, Option.toList_some, Option.toList_none, List.cons_append, List.nil_append, upI_eq, upI_a, upI_i, upR_eq, upR_a, upR_i, fAdd_id, fMul_id, e74, e76, g36]
                              refine (s245_381 (hA.k (by decide) (by decide) rfl) (by first | assumption | omega) (by first | assumption | omega)).mpr ?_
                              refine s245_382.mpr (s245_385.mpr ?_)
                              try simp (disch := first | decide | assumption | omega) only [kon, knt_some, knt_none, Option.toList_some, Option.toList_none, List.cons_append, List.nil_append, upI_eq, upI_a, upI_i, upR_eq, upR_a, upR_i, fAdd_id, fMul_id, e74, e76, g36]
                              first | (exfalso; omega) | exact er _ _ _ (by assumption) (by omega) _ _ | exact finA (by assumption) (by assumption) (by assumption) _ _ (by omega) | exact finB (by assumption) _ _ (by omega)
                  · skip
                    refine s245_319.mpr (wif (fun c319 => ?_) (fun c319 => ?_))
                    · first
                      | (exfalso; omega)
                      | skip
                        refine s245_322.mpr ((s245_323 kM).mpr ?_)
                        rw [mr_34 hR]
                        refine s245_326.mpr ?_
                        refine (s245_327 (hA.k (by decide) (by decide) rfl) (by first | assumption | omega) (by first | assumption | omega)).mpr ?_
                        try simp (disch := first | decide | assumption | omega) only [kon, knt_some, knt_none, Option.toList_some, Option.toList_none, List.cons_append, List.nil_append, upI_eq, upI_a, upI_i, upR_eq, upR_a, upR_i, fAdd_id, fMul_id, e74, e76, g36]
                        refine (s245_328 (by omega)).mpr ?_
                        refine m_isLinear (by omega) (fun y328 => ?_) (fun y328 => ?_)
                        · skip
                          refine s245_331.mpr (wif (fun c331 => ?_) (fun c331 => ?_))
                          · first
                            | (exfalso; omega)
                            | skip
                              refine s245_334.mpr (s245_335.mpr ?_)
                              refine (s245_339 (by omega) kM).mpr ?_
                              refine m_wants hA (by omega) (by (try simp (disch := decide) only [upI_eq, upI_a, upI_i, upR_eq, upR_a, upR_i]); first | assumption | rfl) (by omega) (fun y339 => ?_) (fun y339 => ?_)
                              · skip
                                refine s245_342.mpr (s245_344.mpr (s245_346.mpr (s245_347.mpr ?_)))
                                refine (s245_348 kM).mpr ?_
                                try simp (disch := first | decide | assumption | omega) only [kon, knt_some, knt_none, Option.toList_some, Option.toList_none, List.cons_append, List.nil_append, upI_eq, upI_a, upI_i, upR_eq, upR_a, upR_i, fAdd_id, fMul_id, e74, e76, g36]
                                refine s245_351.mpr (wif (fun c351 => ?_) (fun c351 => ?_))
                                · first
                                  | (exfalso; omega)
                                  | skip
                                    refine s245_354.mpr (s245_356.mpr ?_)
                                    refine s245_358.mpr (wif (fun c358 => ?_) (fun c358 => ?_))
                                    · first
                                      | (exfalso; omega)
                                      | skip
                                        refine s245_365.mpr ?_
                                        refine (s245_366 kM (by first | assumption | omega)).mpr ?_
                                        refine s245_369.mpr ((s245_370 kM).mpr ?_)
                                        rw [mr_32 hR]
                                        refine s245_373.mpr (s245_375.mpr (s245_376.mpr (s245_377.mpr (s245_378.mpr (s245_379.mpr ?_)))))
                                        try simp (disch := first | decide | assumption | omega) only [kon, knt_some, knt_none, Option.toList_some, Option.toList_none, List.cons_append, List.nil_append, upI_eq, upI_a, upI_i, upR_eq, upR_a, upR_i, fAdd_id, fMul_id, e74, e76, g36]
                                        refine (s245_381 (hA.k (by decide) (by decide) rfl) (by first | assumption | omega) (by first | assumption | omega)).mpr ?_
                                        refine s245_382.mpr (s245_385.mpr ?_)
                                        try simp (disch := first | decide | assumption | omega) only [kon, knt_some, knt_none, Option.toList_some, Option.toList_none, List.cons_append, List.nil_append, upI_eq, upI_a, upI_i, upR_eq, upR_a, upR_i, fAdd_id, fMul_id, e74, e76, g36]
                                        first | (exfalso; omega) | exact er _ _ _ (by assumption) (by omega) _ _ | exact finA (by assumption) (by assumption) (by assumption) _ _ (by omega) | exact finB (by assumption) _ _ (by omega)
                                    · first
                                      | (exfalso; omega)
                                      | skip
                                        refine s245_361.mpr (s245_362.mpr ?_)
                                        refine (s245_366 kM (by first | assumption | omega)).mpr ?_
                                        refine s245_369.mpr ((s245_370 kM).mpr ?_)
                                        rw [mr_32 hR]
                                        refine s245_373.mpr (s245_375.mpr (s245_376.mpr (s245_377.mpr (s245_378.mpr (s245_379.mpr ?_)))))
                                        try simp (disch := first | decide | assumption | omega) only [kon, knt_some, knt_none, Option.toList_some, Option.toList_none, List.cons_append, List.nil_append, upI_eq, upI_a, upI_i, upR_eq, upR_a, upR_i, fAdd_id, fMul_id, e74, e76, g36]
                                        refine (s245_381 (hA.k (by decide) (by decide) rfl) (by first | assumption | omega) (by first | assumption | omega)).mpr ?_
                                        refine s245_382.mpr (s245_385.mpr ?_)
                                        try simp (disch := first | decide | assumption | omega) only [kon, knt_some, knt_none, Option.toList_some, Option.toList_none, List.cons_append, List.nil_append, upI_eq, upI_a, upI_i, upR_eq, upR_a, upR_i, fAdd_id, fMul_id, e74, e76, g36]
                                        first | (exfalso; omega) | exact er _ _ _ (by assumption) (by omega) _ _ | exact finA (by assumption) (by assumption) (by assumption) _ _ (by omega) | exact finB (by assumption) _ _ (by omega)
                                · first
                                  | (exfalso; omega)
                                  | skip
                                    refine s245_361.mpr (s245_362.mpr ?_)
                                    refine (s245_366 kM (by first | assumption | omega)).mpr ?_
                                    refine s245_369.mpr ((s245_370 kM).mpr ?_)
                                    rw [mr_32 hR]
                                    refine s245_373.mpr (s245_375.mpr (s245_376.mpr (s245_377.mpr (s245_378.mpr (s245_379.mpr ?_)))))
                                    try simp (disch := first | decide | assumption | omega) only [kon, knt_some, knt_none, Option.toList_some, Option.toList_none, List.cons_append, List.nil_append, upI_eq, upI_a, upI_i, upR_eq, upR_a, upR_i, fAdd_id, fMul_id, e74, e76, g36]
                                    refine (s245_381 (hA.k (by decide) (by decide) rfl) (by first | assumption | omega) (by first | assumption | omega)).mpr ?_
                                    refine s245_382.mpr (s245_385.mpr ?_)
                                    try simp (disch := first | decide | assumption | omega) only [kon, knt_some, knt_none, Option.toList_some, Option.toList_none, List.cons_append, List.nil_append, upI_eq, upI_a, upI_i, upR_eq, upR_a, upR_i, fAdd_id, fMul_id, e74, e76, g36]
                                    first | (exfalso; omega) | exact er _ _ _ (by assumption) (by omega) _ _ | exact finA (by assumption) (by assumption) (by assumption) _ _ (by omega) | exact finB (by assumption) _ _ (by omega)
                              · skip
                                refine s245_342.mpr (s245_344.mpr (s245_346.mpr (s245_347.mpr ?_)))
                                refine (s245_348 kM).mpr ?_
                                try simp (disch := first | decide | assumption | omega) only [kon, knt_some, knt_none, Option.toList_some, Option.toList_none, List.cons_append, List.nil_append, upI_eq, upI_a, upI_i, upR_eq, upR_a, upR_i, fAdd_id, fMul_id, e74, e76, g36]
                                refine s245_351.mpr (wif (fun c351 => ?_) (fun c351 => ?_))
                                · first
                                  | (exfalso; omega)
                                  | skip
                                    refine s245_354.mpr (s245_356.mpr ?_)
                                    refine s245_358.mpr (wif (fun c358 => ?_) (fun c358 => ?_))
                                    · first
                                      | (exfalso; omega)
                                      | skip
                                        refine s245_365.mpr ?_
                                        refine (s245_366 kM (by first | assumption | omega)).mpr ?_
                                        refine s245_369.mpr ((s245_370 kM).mpr ?_)
                                        rw [mr_32 hR]
                                        refine s245_373.mpr (s245_375.mpr (s245_376.mpr (s245_377.mpr (s245_378.mpr (s245_379.mpr ?_)))))
                                        try simp (disch := first | decide | assumption | omega) only [kon, knt_some, knt_none, Option.toList_some, Option.toList_none, List.cons_append, List.nil_append, upI_eq, upI_a, upI_i, upR_eq, upR_a, upR_i, fAdd_id, fMul_id, e74, e76, g36]
                                        refine (s245_381 (hA.k (by decide) (by decide) rfl) (by first | assumption | omega) (by first | assumption | omega)).mpr ?_
                                        refine s245_382.mpr (s245_385.mpr ?_)
                                        try simp (disch := first | decide | assumption | omega) only [kon, knt_some, knt_none, Option.toList_some, Option.toList_none, List.cons_append, List.nil_append, upI_eq, upI_a, upI_i, upR_eq, upR_a, upR_i, fAdd_id, fMul_id, e74, e76, g36]
                                        first | (exfalso; omega) | exact er _ _ _ (by assumption) (by omega) _ _ | exact finA (by assumption) (by assumption) (by assumption) _ _ (by omega) | exact finB (by assumption) _ _ (by omega)
                                    · first
                                      | (exfalso; omega)
                                      | skip
                                        refine s245_361.mpr (s245_362.mpr ?_)
                                        refine (s245_366 kM (by first | assumption | omega)).mpr ?_
                                        refine s245_369.mpr ((s245_370 kM).mpr ?_)
                                        rw [mr_32 hR]
                                        refine s245_373.mpr (s245_375.mpr (s245_376.mpr (s245_377.mpr (s245_378.mpr (s245_379.mpr ?_)))))
                                        try simp (disch := first | decide | assumption | omega) only [kon, knt_some, knt_none, Option.toList_some, Option.toList_none, List.cons_append, List.nil_append, upI_eq, upI_a, upI_i, upR_eq, upR_a, upR_i, fAdd_id, fMul_id, e74, e76, g36]
                                        refine (s245_381 (hA.k (by decide) (by decide) rfl) (by first | assumption | omega) (by first | assumption | omega)).mpr ?_
                                        refine s245_382.mpr (s245_385.mpr ?_)
                                        try simp (disch := first | decide | assumption | omega) only [kon, knt_some, knt_none, Option.toList_some, Option.toList_none, List.cons_append, List.nil_append, upI_eq, upI_a, upI_i, upR_eq, upR_a, upR_i, fAdd_id, fMul_id, e74, e76, g36]
                                        first | (exfalso; omega) | exact er _ _ _ (by assumption) (by omega) _ _ | exact finA (by assumption) (by assumption) (by assumption) _ _ (by omega) | exact finB (by assumption) _ _ (by omega)
                                · first
                                  | (exfalso; omega)
                                  | skip
                                    refine s245_361.mpr (s245_362.mpr ?_)
                                    refine (s245_366 kM (by first | assumption | omega)).mpr ?_
                                    refine s245_369.mpr ((s245_370 kM).mpr ?_)
                                    rw [mr_32 hR]
                                    refine s245_373.mpr (s245_375.mpr (s245_376.mpr (s245_377.mpr (s245_378.mpr (s245_379.mpr ?_)))))
                                    try simp (disch := first | decide | assumption | omega) only [kon, knt_some, knt_none, Option.toList_some, Option.toList_none, List.cons_append, List.nil_append, upI_eq, upI_a, upI_i, upR_eq, upR_a, upR_i, fAdd_id, fMul_id, e74, e76, g36]
                                    refine (s245_381 (hA.k (by decide) (by decide) rfl) (by first | assumption | omega) (by first | assumption | omega)).mpr ?_
                                    refine s245_382.mpr (s245_385.mpr ?_)
                                    try simp (disch := first | decide | assumption | omega) only [kon, knt_some, knt_none, Option.toList_some, Option.toList_none, List.cons_append, List.nil_append, upI_eq, upI_a, upI_i, upR_eq, upR_a, upR_i, fAdd_id, fMul_id, e74, e76, g36]
                                    first | (exfalso; omega) | exact er _ _ _ (by assumption) (by omega) _ _ | exact finA (by assumption) (by assumption) (by assumption) _ _ (by omega) | exact finB (by assumption) _ _ (by omega)
                          · first
                            | (exfalso; omega)
                            | skip
                              refine s245_338.mpr ?_
                              refine (s245_339 (by omega) kM).mpr ?_
                              refine m_wants hA (by omega) (by (try simp (disch := decide) only [upI_eq, upI_a, upI_i, upR_eq, upR_a, upR_i]); first | assumption | rfl) (by omega) (fun y339 => ?_) (fun y339 => ?_)
                              · skip
                                refine s245_342.mpr (s245_344.mpr (s245_346.mpr (s245_347.mpr ?_)))
                                refine (s245_348 kM).mpr ?_
                                try simp (disch := first | decide | assumption | omega) only [kon, knt_some, knt_none, Option.toList_some, Option.toList_none, List.cons_append, List.nil_append, upI_eq, upI_a, upI_i, upR_eq, upR_a, upR_i, fAdd_id, fMul_id, e74, e76, g36]
                                refine s245_351.mpr (wif (fun c351 => ?_) (fun c351 => ?_))
                                · first
                                  | (exfalso; omega)
                                  | skip
                                    refine s245_354.mpr (s245_356.mpr ?_)
                                    refine s245_358.mpr (wif (fun c358 => ?_) (fun c358 => ?_))
                                    · first
                                      | (exfalso; omega)
                                      | skip
                                        refine s245_365.mpr ?_
                                        refine (s245_366 kM (by first | assumption | omega)).mpr ?_
                                        refine s245_369.mpr ((s245_370 kM).mpr ?_)
                                        rw [mr_32 hR]
                                        refine s245_373.mpr (s245_375.mpr (s245_376.mpr (s245_377.mpr (s245_378.mpr (s245_379.mpr ?_)))))
                                        try simp (disch := first | decide | assumption | omega) only [kon, knt_some, knt_none, Option.toList_some, Option.toList_none, List.cons_append, List.nil_append, upI_eq, upI_a, upI_i, upR_eq, upR_a, upR_i, fAdd_id, fMul_id, e74, e76, g36]
                                        refine (s245_381 (hA.k (by decide) (by decide) rfl) (by first | assumption | omega) (by first | assumption | omega)).mpr ?_
                                        refine s245_382.mpr (s245_385.mpr ?_)
                                        try simp (disch := first | decide | assumption | omega) only [kon, knt_some, knt_none, Option.toList_some, Option.toList_none, List.cons_append, List.nil_append, upI_eq, upI_a, upI_i, upR_eq, upR_a, upR_i, fAdd_id, fMul_id, e74, e76, g36]
                                        first | (exfalso; omega) | exact er _ _ _ (by assumption) (by omega) _ _ | exact finA (by assumption) (by assumption) (by assumption) _ _ (by omega) | exact finB (by assumption) _ _ (by omega)
                                    · first
                                      | (exfalso; omega)
                                      | skip
                                        refine s245_361.mpr (s245_362.mpr ?_)
                                        refine (s245_366 kM (by first | assumption | omega)).mpr ?_
                                        refine s245_369.mpr ((s245_370 kM).mpr ?_)
                                        rw [mr_32 hR]
                                        refine s245_373.mpr (s245_375.mpr (s245_376.mpr (s245_377.mpr (s245_378.mpr (s245_379.mpr ?_)))))
                                        try simp (disch := first | decide | assumption | omega) only [kon, knt_some, knt_none, Option.toList_some, Option.toList_none, List.cons_append, List.nil_append, upI_eq, upI_a, upI_i, upR_eq, upR_a, upR_i, fAdd_id, fMul_id, e74, e76, g36]
                                        refine (s245_381 (hA.k (by decide) (by decide) rfl) (by first | assumption | omega) (by first | assumption | omega)).mpr ?_
                                        refine s245_382.mpr (s245_385.mpr ?_)
                                        try simp (disch := first | decide | assumption | omega) only [kon, knt_some, knt_none, Option.toList_some, Option.toList_none, List.cons_append, List.nil_append, upI_eq, upI_a, upI_i, upR_eq, upR_a, upR_i, fAdd_id, fMul_id, e74, e76, g36]
                                        first | (exfalso; omega) | exact er _ _ _ (by assumption) (by omega) _ _ | exact finA (by assumption) (by assumption) (by assumption) _ _ (by omega) | exact finB (by assumption) _ _ (by omega)
                                · first
                                  | (exfalso; omega)
                                  | skip
                                    refine s245_361.mpr (s245_362.mpr ?_)
                                    refine (s245_366 kM (by first | assumption | omega)).mpr ?_
                                    refine s245_369.mpr ((s245_370 kM).mpr ?_)
                                    rw [mr_32 hR]
                                    refine s245_373.mpr (s245_375.mpr (s245_376.mpr (s245_377.mpr (s245_378.mpr (s245_379.mpr ?_)))))
                                    try simp (disch := first | decide | assumption | omega) only [kon, knt_some, knt_none, Option.toList_some, Option.toList_none, List.cons_append, List.nil_append, upI_eq, upI_a, upI_i, upR_eq, upR_a, upR_i, fAdd_id, fMul_id, e74, e76, g36]
                                    refine (s245_381 (hA.k (by decide) (by decide) rfl) (by first | assumption | omega) (by first | assumption | omega)).mpr ?_
                                    refine s245_382.mpr (s245_385.mpr ?_)
                                    try simp (disch := first | decide | assumption | omega) only [kon, knt_some, knt_none, Option.toList_some, Option.toList_none, List.cons_append, List.nil_append, upI_eq, upI_a, upI_i, upR_eq, upR_a, upR_i, fAdd_id, fMul_id, e74, e76, g36]
                                    first | (exfalso; omega) | exact er _ _ _ (by assumption) (by omega) _ _ | exact finA (by assumption) (by assumption) (by assumption) _ _ (by omega) | exact finB (by assumption) _ _ (by omega)
                              · skip
                                refine s245_342.mpr (s245_344.mpr (s245_346.mpr (s245_347.mpr ?_)))
                                refine (s245_348 kM).mpr ?_
                                try simp (disch := first | decide | assumption | omega) only [kon, knt_some, knt_none, Option.toList_some, Option.toList_none, List.cons_append, List.nil_append, upI_eq, upI_a, upI_i, upR_eq, upR_a, upR_i, fAdd_id, fMul_id, e74, e76, g36]
                                refine s245_351.mpr (wif (fun c351 => ?_) (fun c351 => ?_))
                                · first
                                  | (exfalso; omega)
                                  | skip
                                    refine s245_354.mpr (s245_356.mpr ?_)
                                    refine s245_358.mpr (wif (fun c358 => ?_) (fun c358 => ?_))
                                    · first
                                      | (exfalso; omega)
                                      | skip
                                        refine s245_365.mpr ?_
                                        refine (s245_366 kM (by first | assumption | omega)).mpr ?_
                                        refine s245_369.mpr ((s245_370 kM).mpr ?_)
                                        rw [mr_32 hR]
                                        refine s245_373.mpr (s245_375.mpr (s245_376.mpr (s245_377.mpr (s245_378.mpr (s245_379.mpr ?_)))))
                                        try simp (disch := first | decide | assumption | omega) only [kon, knt_some, knt_none, Option.toList_some, Option.toList_none, List.cons_append, List.nil_append, upI_eq, upI_a, upI_i, upR_eq, upR_a, upR_i, fAdd_id, fMul_id, e74, e76, g36]
                                        refine (s245_381 (hA.k (by decide) (by decide) rfl) (by first | assumption | omega) (by first | assumption | omega)).mpr ?_
                                        refine s245_382.mpr (s245_385.mpr ?_)
                                        try simp (disch := first | decide | assumption | omega) only [kon, knt_some, knt_none, Option.toList_some, Option.toList_none, List.cons_append, List.nil_append, upI_eq, upI_a, upI_i, upR_eq, upR_a, upR_i, fAdd_id, fMul_id, e74, e76, g36]
                                        first | (exfalso; omega) | exact er _ _ _ (by assumption) (by omega) _ _ | exact finA (by assumption) (by assumption) (by assumption) _ _ (by omega) | exact finB (by assumption) _ _ (by omega)
                                    · first
                                      | (exfalso; omega)
                                      | skip
                                        refine s245_361.mpr (s245_362.mpr ?_)
                                        refine (s245_366 kM (by first | assumption | omega)).mpr ?_
                                        refine s245_369.mpr ((s245_370 kM).mpr ?_)
                                        rw [mr_32 hR]
                                        refine s245_373.mpr (s245_375.mpr (s245_376.mpr (s245_377.mpr (s245_378.mpr (s245_379.mpr ?_)))))
                                        try simp (disch := first | decide | assumption | omega) only [kon, knt_some, knt_none, Option.toList_some, Option.toList_none, List.cons_append, List.nil_append, upI_eq, upI_a, upI_i, upR_eq, upR_a, upR_i, fAdd_id, fMul_id, e74, e76, g36]
                                        refine (s245_381 (hA.k (by decide) (by decide) rfl) (by first | assumption | omega) (by first | assumption | omega)).mpr ?_
                                        refine s245_382.mpr (s245_385.mpr ?_)
                                        try simp (disch := first | decide | assumption | omega) only [kon, knt_some, knt_none, Option.toList_some, Option.toList_none, List.cons_append, List.nil_append, upI_eq, upI_a, upI_i, upR_eq, upR_a, upR_i, fAdd_id, fMul_id, e74, e76, g36]
                                        first | (exfalso; omega) | exact er _ _ _ (by assumption) (by omega) _ _ | exact finA (by assumption) (by assumption) (by assumption) _ _ (by omega) | exact finB (by assumption) _ _ (by omega)
                                · first
                                  | (exfalso; omega)
                                  | skip
                                    refine s245_361.mpr (s245_362.mpr ?_)
                                    refine (s245_366 kM (by first | assumption | omega)).mpr ?_
                                    refine s245_369.mpr ((s245_370 kM).mpr ?_)
                                    rw [mr_32 hR]
                                    refine s245_373.mpr (s245_375.mpr (s245_376.mpr (s245_377.mpr (s245_378.mpr (s245_379.mpr ?_)))))
                                    try simp (disch := first | decide | assumption | omega) only [kon, knt_some, knt_none, Option.toList_some, Option.toList_none, List.cons_append, List.nil_append, upI_eq, upI_a, upI_i, upR_eq, upR_a, upR_i, fAdd_id, fMul_id, e74, e76, g36]
                                    refine (s245_381 (hA.k (by decide) (by decide) rfl) (by first | assumption | omega) (by first | assumption | omega)).mpr ?_
                                    refine s245_382.mpr (s245_385.mpr ?_)
                                    try simp (disch := first | decide | assumption | omega) only [kon, knt_some, knt_none, Option.toList_some, Option.toList_none, List.cons_append, List.nil_append, upI_eq, upI_a, upI_i, upR_eq, upR_a, upR_i, fAdd_id, fMul_id, e74, e76, g36]
                                    first | (exfalso; omega) | exact er _ _ _ (by assumption) (by omega) _ _ | exact finA (by assumption) (by assumption) (by assumption) _ _ (by omega) | exact finB (by assumption) _ _ (by omega)
                        · skip
                          refine s245_331.mpr (wif (fun c331 => ?_) (fun c331 => ?_))
                          · first
                            | (exfalso; omega)
                            | skip
                              refine s245_334.mpr (s245_335.mpr ?_)
                              refine (s245_339 (by omega) kM).mpr ?_
                              refine m_wants hA (by omega) (by (try simp (disch := decide) only [upI_eq, upI_a, upI_i, upR_eq, upR_a, upR_i]); first | assumption | rfl) (by omega) (fun y339 => ?_) (fun y339 => ?_)
                              · skip
                                refine s245_342.mpr (s245_344.mpr (s245_346.mpr (s245_347.mpr ?_)))
                                refine (s245_348 kM).mpr ?_
                                try simp (disch := first | decide | assumption | omega) only [kon, knt_some, knt_none, Option.toList_some, Option.toList_none, List.cons_append, List.nil_append, upI_eq, upI_a, upI_i, upR_eq, upR_a, upR_i, fAdd_id, fMul_id, e74, e76, g36]
                                refine s245_351.mpr (wif (fun c351 => ?_) (fun c351 => ?_))
                                · first
                                  | (exfalso; omega)
                                  | skip
                                    refine s245_354.mpr (s245_356.mpr ?_)
                                    refine s245_358.mpr (wif (fun c358 => ?_) (fun c358 => ?_))
                                    · first
                                      | (exfalso; omega)
                                      | skip
                                        refine s245_365.mpr ?_
                                        refine (s245_366 kM (by first | assumption | omega)).mpr ?_
                                        refine s245_369.mpr ((s245_370 kM).mpr ?_)
                                        rw [mr_32 hR]
                                        refine s245_373.mpr (s245_375.mpr (s245_376.mpr (s245_377.mpr (s245_378.mpr (s245_379.mpr ?_)))))
                                        try simp (disch := first | decide | assumption | omega) only [kon, knt_some, knt_none, Option.toList_some, Option.toList_none, List.cons_append, List.nil_append, upI_eq, upI_a, upI_i, upR_eq, upR_a, upR_i, fAdd_id, fMul_id, e74, e76, g36]
                                        refine (s245_381 (hA.k (by decide) (by decide) rfl) (by first | assumption | omega) (by first | assumption | omega)).mpr ?_
                                        refine s245_382.mpr (s245_385.mpr ?_)
                                        try simp (disch := first | decide | assumption | omega) only [kon, knt_some, knt_none, Option.toList_some, Option.toList_none, List.cons_append, List.nil_append, upI_eq, upI_a, upI_i, upR_eq, upR_a, upR_i, fAdd_id, fMul_id, e74, e76, g36]
                                        first | (exfalso; omega) | exact er _ _ _ (by assumption) (by omega) _ _ | exact finA (by assumption) (by assumption) (by assumption) _ _ (by omega) | exact finB (by assumption) _ _ (by omega)
                                    · first
                                      | (exfalso; omega)
                                      | skip
                                        refine s245_361.mpr (s245_362.mpr ?_)
                                        refine (s245_366 kM (by first | assumption | omega)).mpr ?_
                                        refine s245_369.mpr ((s245_370 kM).mpr ?_)
                                        rw [mr_32 hR]
                                        refine s245_373.mpr (s245_375.mpr (s245_376.mpr (s245_377.mpr (s245_378.mpr (s245_379.mpr ?_)))))
                                        try simp (disch := first | decide | assumption | omega) only [kon, knt_some, knt_none, Option.toList_some, Option.toList_none, List.cons_append, List.nil_append, upI_eq, upI_a, upI_i, upR_eq, upR_a, upR_i, fAdd_id, fMul_id, e74, e76, g36]
                                        refine (s245_381 (hA.k (by decide) (by decide) rfl) (by first | assumption | omega) (by first | assumption | omega)).mpr ?_
                                        refine s245_382.mpr (s245_385.mpr ?_)
                                        try simp (disch := first | decide | assumption | omega) only [kon, knt_some, knt_none, Option.toList_some, Option.toList_none, List.cons_append, List.nil_append, upI_eq, upI_a, upI_i, upR_eq, upR_a, upR_i, fAdd_id, fMul_id, e74, e76, g36]
                                        first | (exfalso; omega) | exact er _ _ _ (by assumption) (by omega) _ _ | exact finA (by assumption) (by assumption) (by assumption) _ _ (by omega) | exact finB (by assumption) _ _ (by omega)
                                · first
                                  | (exfalso; omega)
                                  | skip
                                    refine s245_361.mpr (s245_362.mpr ?_)
                                    refine (s245_366 kM (by first | assumption | omega)).mpr ?_
                                    refine s245_369.mpr ((s245_370 kM).mpr ?_)
                                    rw [mr_32 hR]
                                    refine s245_373.mpr (s245_375.mpr (s245_376.mpr (s245_377.mpr (s245_378.mpr (s245_379.mpr ?_)))))
                                    try simp (disch := first | decide | assumption | omega) only [kon, knt_some, knt_none, Option.toList_some, Option.toList_none, List.cons_append, List.nil_append, upI_eq, upI_a, upI_i, upR_eq, upR_a, upR_i, fAdd_id, fMul_id, e74, e76, g36]
                                    refine (s245_381 (hA.k (by decide) (by decide) rfl) (by first | assumption | omega) (by first | assumption | omega)).mpr ?_
                                    refine s245_382.mpr (s245_385.mpr ?_)
                                    try simp (disch := first | decide | assumption | omega) only [kon, knt_some, knt_none, Option.toList_some, Option.toList_none, List.cons_append, List.nil_append, upI_eq, upI_a, upI_i, upR_eq, upR_a, upR_i, fAdd_id, fMul_id, e74, e76, g36]
                                    first | (exfalso; omega) | exact er _ _ _ (by assumption) (by omega) _ _ | exact finA (by assumption) (by assumption) (by assumption) _ _ (by omega) | exact finB (by assumption) _ _ (by omega)
                              · skip
                                refine s245_342.mpr (s245_344.mpr (s245_346.mpr (s245_347.mpr ?_)))
                                refine (s245_348 kM).mpr ?_
                                try simp (disch := first | decide | assumption | omega) only [kon, knt_some, knt_none, Option.toList_some, Option.toList_none, List.cons_append, List.nil_append, upI_eq, upI_a, upI_i, upR_eq, upR_a, upR_i, fAdd_id, fMul_id, e74, e76, g36]
                                refine s245_351.mpr (wif (fun c351 => ?_) (fun c351 => ?_))
                                · first
                                  | (exfalso; omega)
                                  | skip
                                    refine s245_354.mpr (s245_356.mpr ?_)
                                    refine s245_358.mpr (wif (fun c358 => ?_) (fun c358 => ?_))
                                    · first
                                      | (exfalso; omega)
                                      | skip
                                        refine s245_365.mpr ?_
                                        refine (s245_366 kM (by first | assumption | omega)).mpr ?_
                                        refine s245_369.mpr ((s245_370 kM).mpr ?_)
                                        rw [mr_32 hR]
                                        refine s245_373.mpr (s245_375.mpr (s245_376.mpr (s245_377.mpr (s245_378.mpr (s245_379.mpr ?_)))))
                                        try simp (disch := first | decide | assumption | omega) only [kon, knt_some, knt_none, Option.toList_some, Option.toList_none, List.cons_append, List.nil_append, upI_eq, upI_a, upI_i, upR_eq, upR_a, upR_i, fAdd_id, fMul_id, e74, e76, g36]
                                        refine (s245_381 (hA.k (by decide) (by decide) rfl) (by first | assumption | omega) (by first | assumption | omega)).mpr ?_
                                        refine s245_382.mpr (s245_385.mpr ?_)
                                        try simp (disch := first | decide | assumption | omega) only [kon, knt_some, knt_none, Option.toList_some, Option.toList_none, List.cons_append, List.nil_append, upI_eq, upI_a, upI_i, upR_eq, upR_a, upR_i, fAdd_id, fMul_id, e74, e76, g36]
                                        first | (exfalso; omega) | exact er _ _ _ (by assumption) (by omega) _ _ | exact finA (by assumption) (by assumption) (by assumption) _ _ (by omega) | exact finB (by assumption) _ _ (by omega)
                                    · first
                                      | (exfalso; omega)
                                      | skip
                                        refine s245_361.mpr (s245_362.mpr ?_)
                                        refine (s245_366 kM (by first | assumption | omega)).mpr ?_
                                        refine s245_369.mpr ((s245_370 kM).mpr ?_)
                                        rw [mr_32 hR]
                                        refine s245_373.mpr (s245_375.mpr (s245_376.mpr (s245_377.mpr (s245_378.mpr (s245_379.mpr ?_)))))
                                        try simp (disch := first | decide | assumption | omega) only [kon, knt_some, knt_none, Option.toList_some, Option.toList_none, List.cons_append, List.nil_append, upI_eq, upI_a, upI_i, upR_eq, upR_a, upR_i, fAdd_id, fMul_id, e74, e76, g36]
                                        refine (s245_381 (hA.k (by decide) (by decide) rfl) (by first | assumption | omega) (by first | assumption | omega)).mpr ?_
                                        refine s245_382.mpr (s245_385.mpr ?_)
                                        try simp (disch := first | decide | assumption | omega) only [kon, knt_some, knt_none, Option.toList_some, Option.toList_none, List.cons_append, List.nil_append, upI_eq, upI_a, upI_i, upR_eq, upR_a, upR_i, fAdd_id, fMul_id, e74, e76, g36]
                                        first | (exfalso; omega) | exact er _ _ _ (by assumption) (by omega) _ _ | exact finA (by assumption) (by assumption) (by assumption) _ _ (by omega) | exact finB (by assumption) _ _ (by omega)
                                · first
                                  | (exfalso; omega)
                                  | skip
                                    refine s245_361.mpr (s245_362.mpr ?_)
                                    refine (s245_366 kM (by first | assumption | omega)).mpr ?_
                                    refine s245_369.mpr ((s245_370 kM).mpr ?_)
                                    rw [mr_32 hR]
                                    refine s245_373.mpr (s245_375.mpr (s245_376.mpr (s245_377.mpr (s245_378.mpr (s245_379.mpr ?_)))))
                                    try simp (disch := first | decide | assumption | omega) only [kon, knt_some, knt_none, Option.toList_some, Option.toList_none, List.cons_append, List.nil_append, upI_eq, upI_a, upI_i, upR_eq, upR_a, upR_i, fAdd_id, fMul_id, e74, e76, g36]
                                    refine (s245_381 (hA.k (by decide) (by decide) rfl) (by first | assumption | omega) (by first | assumption | omega)).mpr ?_
                                    refine s245_382.mpr (s245_385.mpr ?_)
                                    try simp (disch := first | decide | assumption | omega) only [kon, knt_some, knt_none, Option.toList_some, Option.toList_none, List.cons_append, List.nil_append, upI_eq, upI_a, upI_i, upR_eq, upR_a, upR_i, fAdd_id, fMul_id, e74, e76, g36]
                                    first | (exfalso; omega) | exact er _ _ _ (by assumption) (by omega) _ _ | exact finA (by assumption) (by assumption) (by assumption) _ _ (by omega) | exact finB (by assumption) _ _ (by omega)
                          · first
                            | (exfalso; omega)
                            | skip
                              refine s245_338.mpr ?_
                              refine (s245_339 (by omega) kM).mpr ?_
                              refine m_wants hA (by omega) (by (try simp (disch := decide) only [upI_eq, upI_a, upI_i, upR_eq, upR_a, upR_i]); first | assumption | rfl) (by omega) (fun y339 => ?_) (fun y339 => ?_)
                              · skip
                                refine s245_342.mpr (s245_344.mpr (s245_346.mpr (s245_347.mpr ?_)))
                                refine (s245_348 kM).mpr ?_
                                try simp (disch := first | decide | assumption | omega) only [kon, knt_some, knt_none, Option.toList_some, Option.toList_none, List.cons_append, List.nil_append, upI_eq, upI_a, upI_i, upR_eq, upR_a, upR_i, fAdd_id, fMul_id, e74, e76, g36]
                                refine s245_351.mpr (wif (fun c351 => ?_) (fun c351 => ?_))
                                · first
                                  | (exfalso; omega)
                                  | skip
                                    refine s245_354.mpr (s245_356.mpr ?_)
                                    refine s245_358.mpr (wif (fun c358 => ?_) (fun c358 => ?_))
                                    · first
                                      | (exfalso; omega)
                                      | skip
                                        refine s245_365.mpr ?_
                                        refine (s245_366 kM (by first | assumption | omega)).mpr ?_
                                        refine s245_369.mpr ((s245_370 kM).mpr ?_)
                                        rw [mr_32 hR]
                                        refine s245_373.mpr (s245_375.mpr (s245_376.mpr (s245_377.mpr (s245_378.mpr (s245_379.mpr ?_)))))
                                        try simp (disch := first | decide | assumption | omega) only [kon, knt_some, knt_none, Option.toList_some, Option.toList_none, List.cons_append, List.nil_append, upI_eq, upI_a, upI_i, upR_eq, upR_a, upR_i, fAdd_id, fMul_id, e74, e76, g36]
                                        refine (s245_381 (hA.k (by decide) (by decide) rfl) (by first | assumption | omega) (by first | assumption | omega)).mpr ?_
                                        refine s245_382.mpr (s245_385.mpr ?_)
                                        try simp (disch := first | decide | assumption | omega) only [kon, knt_some, knt_none, Option.toList_some, Option.toList_none, List.cons_append, List.nil_append, upI_eq, upI_a, upI_i, upR_eq, upR_a, upR_i, fAdd_id, fMul_id, e74, e76, g36]
                                        first | (exfalso; omega) | exact er _ _ _ (by assumption) (by omega) _ _ | exact finA (by assumption) (by assumption) (by assumption) _ _ (by omega) | exact finB (by assumption) _ _ (by omega)
                                    · first
                                      | (exfalso; omega)
                                      | skip
                                        refine s245_361.mpr (s245_362.mpr ?_)
                                        refine (s245_366 kM (by first | assumption | omega)).mpr ?_
                                        refine s245_369.mpr ((s245_370 kM).mpr ?_)
                                        rw [mr_32 hR]
                                        refine s245_373.mpr (s245_375.mpr (s245_376.mpr (s245_377.mpr (s245_378.mpr (s245_379.mpr ?_)))))
                                        try simp (disch := first | decide | assumption | omega) only [kon, knt_some, knt_none, Option.toList_some, Option.toList_none, List.cons_append, List.nil_append, upI_eq, upI_a, upI_i, upR_eq, upR_a, upR_i, fAdd_id, fMul_id, e74, e76, g36]
                                        refine (s245_381 (hA.k (by decide) (by decide) rfl) (by first | assumption | omega) (by first | assumption | omega)).mpr ?_
                                        refine s245_382.mpr (s245_385.mpr ?_)
                                        try simp (disch := first | decide | assumption | omega) only [kon, knt_some, knt_none, Option.toList_some, Option.toList_none, List.cons_append, List.nil_append, upI_eq, upI_a, upI_i, upR_eq, upR_a, upR_i, fAdd_id, fMul_id, e74, e76, g36]
                                        first | (exfalso; omega) | exact er _ _ _ (by assumption) (by omega) _ _ | exact finA (by assumption) (by assumption) (by assumption) _ _ (by omega) | exact finB (by assumption) _ _ (by omega)
                                · first
                                  | (exfalso; omega)
                                  | skip
                                    refine s245_361.mpr (s245_362.mpr ?_)
                                    refine (s245_366 kM (by first | assumption | omega)).mpr ?_
                                    refine s245_369.mpr ((s245_370 kM).mpr ?_)
                                    rw [mr_32 hR]
                                    refine s245_373.mpr (s245_375.mpr (s245_376.mpr (s245_377.mpr (s245_378.mpr (s245_379.mpr ?_)))))
                                    try simp (disch := first | decide | assumption | omega) only [kon, knt_some, knt_none, Option.toList_some, Option.toList_none, List.cons_append, List.nil_append, upI_eq, upI_a, upI_i, upR_eq, upR_a, upR_i, fAdd_id, fMul_id, e74, e76, g36]
                                    refine (s245_381 (hA.k (by decide) (by decide) rfl) (by first | assumption | omega) (by first | assumption | omega)).mpr ?_
                                    refine s245_382.mpr (s245_385.mpr ?_)
                                    try simp (disch := first | decide | assumption | omega) only [kon, knt_some, knt_none, Option.toList_some, Option.toList_none, List.cons_append, List.nil_append, upI_eq, upI_a, upI_i, upR_eq, upR_a, upR_i, fAdd_id, fMul_id, e74, e76, g36]
                                    first | (exfalso; omega) | exact er _ _ _ (by assumption) (by omega) _ _ | exact finA (by assumption) (by assumption) (by assumption) _ _ (by omega) | exact finB (by assumption) _ _ (by omega)
                              · skip
                                refine s245_342.mpr (s245_344.mpr (s245_346.mpr (s245_347.mpr ?_)))
                                refine (s245_348 kM).mpr ?_
                                try simp (disch := first | decide | assumption | omega) only [kon, knt_some, knt_none, Option.toList_some, Option.toList_none, List.cons_append, List.nil_append, upI_eq, upI_a, upI_i, upR_eq, upR_a, upR_i, fAdd_id, fMul_id, e74, e76, g36]
                                refine s245_351.mpr (wif (fun c351 => ?_) (fun c351 => ?_))
                                · first
                                  | (exfalso; omega)
                                  | skip
                                    refine s245_354.mpr (s245_356.mpr ?_)
                                    refine s245_358.mpr (wif (fun c358 => ?_) (fun c358 => ?_))
                                    · first
                                      | (exfalso; omega)
                                      | skip
                                        refine s245_365.mpr ?_
                                        refine (s245_366 kM (by first | assumption | omega)).mpr ?_
                                        refine s245_369.mpr ((s245_370 kM).mpr ?_)
                                        rw [mr_32 hR]
                                        refine s245_373.mpr (s245_375.mpr (s245_376.mpr (s245_377.mpr (s245_378.mpr (s245_379.mpr ?_)))))
                                        try simp (disch := first | decide | assumption | omega) only [kon, knt_some, knt_none, Option.toList_some, Option.toList_none, List.cons_append, List.nil_append, upI_eq, upI_a, upI_i, upR_eq, upR_a, upR_i, fAdd_id, fMul_id, e74, e76, g36]
                                        refine (s245_381 (hA.k (by decide) (by decide) rfl) (by first | assumption | omega) (by first | assumption | omega)).mpr ?_
                                        refine s245_382.mpr (s245_385.mpr ?_)
                                        try simp (disch := first | decide | assumption | omega) only [kon, knt_some, knt_none, Option.toList_some, Option.toList_none, List.cons_append, List.nil_append, upI_eq, upI_a, upI_i, upR_eq, upR_a, upR_i, fAdd_id, fMul_id, e74, e76, g36]
                                        first | (exfalso; omega) | exact er _ _ _ (by assumption) (by omega) _ _ | exact finA (by assumption) (by assumption) (by assumption) _ _ (by omega) | exact finB (by assumption) _ _ (by omega)
                                    · first
                                      | (exfalso; omega)
                                      | skip
                                        refine s245_361.mpr (s245_362.mpr ?_)
                                        refine (s245_366 kM (by first | assumption | omega)).mpr ?_
                                        refine s245_369.mpr ((s245_370 kM).mpr ?_)
                                        rw [mr_32 hR]
                                        refine s245_373.mpr (s245_375.mpr (s245_376.mpr (s245_377.mpr (s245_378.mpr (s245_379.mpr ?_)))))
                                        try simp (disch := first | decide | assumption | omega) only [kon, knt_some, knt_none, Option.toList_some, Option.toList_none, List.cons_append, List.nil_append, upI_eq, upI_a, upI_i, upR_eq, upR_a, upR_i, fAdd_id, fMul_id, e74, e76, g36]
                                        refine (s245_381 (hA.k (by decide) (by decide) rfl) (by first | assumption | omega) (by first | assumption | omega)).mpr ?_
                                        refine s245_382.mpr (s245_385.mpr ?_)
                                        try simp (disch := first | decide | assumption | omega) only [kon, knt_some, knt_none, Option.toList_some, Option.toList_none, List.cons_append, List.nil_append, upI_eq, upI_a, upI_i, upR_eq, upR_a, upR_i, fAdd_id, fMul_id, e74, e76, g36]
                                        first | (exfalso; omega) | exact er _ _ _ (by assumption) (by omega) _ _ | exact finA (by assumption) (by assumption) (by assumption) _ _ (by omega) | exact finB (by assumption) _ _ (by omega)
                                · first
                                  | (exfalso; omega)
                                  | skip
                                    refine s245_361.mpr (s245_362.mpr ?_)
                                    refine (s245_366 kM (by first | assumption | omega)).mpr ?_
                                    refine s245_369.mpr ((s245_370 kM).mpr ?_)
                                    rw [mr_32 hR]
                                    refine s245_373.mpr (s245_375.mpr (s245_376.mpr (s245_377.mpr (s245_378.mpr (s245_379.mpr ?_)))))
                                    try simp (disch := first | decide | assumption | omega) only [kon, knt_some, knt_none, Option.toList_some, Option.toList_none, List.cons_append, List.nil_append, upI_eq, upI_a, upI_i, upR_eq, upR_a, upR_i, fAdd_id, fMul_id, e74, e76, g36]
                                    refine (s245_381 (hA.k (by decide) (by decide) rfl) (by first | assumption | omega) (by first | assumption | omega)).mpr ?_
                                    refine s245_382.mpr (s245_385.mpr ?_)
                                    try simp (disch := first | decide | assumption | omega) only [kon, knt_some, knt_none, Option.toList_some, Option.toList_none, List.cons_append, List.nil_append, upI_eq, upI_a, upI_i, upR_eq, upR_a, upR_i, fAdd_id, fMul_id, e74, e76, g36]
                                    first | (exfalso; omega) | exact er _ _ _ (by assumption) (by omega) _ _ | exact finA (by assumption) (by assumption) (by assumption) _ _ (by omega) | exact finB (by assumption) _ _ (by omega)
                    · first
                      | (exfalso; omega)
                      | skip
                        refine s245_338.mpr ?_
                        refine (s245_339 (by omega) kM).mpr ?_
                        refine m_wants hA (by omega) (by (try simp (disch := decide) only [upI_eq, upI_a, upI_i, upR_eq, upR_a, upR_i]); first | assumption | rfl) (by omega) (fun y339 => ?_) (fun y339 => ?_)
                        · skip
                          refine s245_342.mpr (s245_344.mpr (s245_346.mpr (s245_347.mpr ?_)))
                          refine (s245_348 kM).mpr ?_
                          try simp (disch := first | decide | assumption | omega) only [kon, knt_some, knt_none, Option.toList_some, Option.toList_none, List.cons_append, List.nil_append, upI_eq, upI_a, upI_i, upR_eq, upR_a, upR_i, fAdd_id, fMul_id, e74, e76, g36]
                          refine s245_351.mpr (wif (fun c351 => ?_) (fun c351 => ?_))
                          · first
                            | (exfalso; omega)
                            | skip
                              refine s245_354.mpr (s245_356.mpr ?_)
                              refine s245_358.mpr (wif (fun c358 => ?_) (fun c358 => ?_))
                              · first
                                | (exfalso; omega)
                                | skip
                                  refine s245_365.mpr ?_
                                  refine (s245_366 kM (by first | assumption | omega)).mpr ?_
                                  refine s245_369.mpr ((s245_370 kM).mpr ?_)
                                  rw [mr_32 hR]
                                  refine s245_373.mpr (s245_375.mpr (s245_376.mpr (s245_377.mpr (s245_378.mpr (s245_379.mpr ?_)))))
                                  try simp (disch := first | decide | assumption | omega) only [kon, knt_some, knt_none, Option.toList_some, Option.toList_none, List.cons_append, List.nil_append, upI_eq, upI_a, upI_i, upR_eq, upR_a, upR_i, fAdd_id, fMul_id, e74, e76, g36]
                                  refine (s245_381 (hA.k (by decide) (by decide) rfl) (by first | assumption | omega) (by first | assumption | omega)).mpr ?_
                                  refine s245_382.mpr (s245_385.mpr ?_)
                                  try simp (disch := first | decide | assumption | omega) only [kon, knt_some, knt_none, Option.toList_some, Option.toList_none, List.cons_append, List.nil_append, upI_eq, upI_a, upI_i, upR_eq, upR_a, upR_i, fAdd_id, fMul_id, e74, e76, g36]
                                  first | (exfalso; omega) | exact er _ _ _ (by assumption) (by omega) _ _ | exact finA (by assumption) (by assumption) (by assumption) _ _ (by omega) | exact finB (by assumption) _ _ (by omega)
                              · first
                                | (exfalso; omega)
                                | skip
                                  refine s245_361.mpr (s245_362.mpr ?_)
                                  refine (s245_366 kM (by first | assumption | omega)).mpr ?_
                                  refine s245_369.mpr ((s245_370 kM).mpr ?_)
                                  rw [mr_32 hR]
                                  refine s245_373.mpr (s245_375.mpr (s245_376.mpr (s245_377.mpr (s245_378.mpr (s245_379.mpr ?_)))))
                                  try simp (disch := first | decide | assumption | omega) only [kon, knt_some, knt_none, Option.toList_some, Option.toList_none, List.cons_append, List.nil_append, upI_eq, upI_a, upI_i, upR_eq, upR_a, upR_i, fAdd_id, fMul_id, e74, e76, g36]
                                  refine (s245_381 (hA.k (by decide) (by decide) rfl) (by first | assumption | omega) (by first | assumption | omega)).mpr ?_
                                  refine s245_382.mpr (s245_385.mpr ?_)
                                  try simp (disch := first | decide | assumption | omega) only [kon, knt_some, knt_none, Option.toList_some, Option.toList_none, List.cons_append, List.nil_append, upI_eq, upI_a, upI_i, upR_eq, upR_a, upR_i, fAdd_id, fMul_id, e74, e76, g36]
                                  first | (exfalso; omega) | exact er _ _ _ (by assumption) (by omega) _ _ | exact finA (by assumption) (by assumption) (by assumption) _ _ (by omega) | exact finB (by assumption) _ _ (by omega)
                          · first
                            | (exfalso; omega)
                            | skip
                              refine s245_361.mpr (s245_362.mpr ?_)
                              refine (s245_366 kM (by first | assumption | omega)).mpr ?_
                              refine s245_369.mpr ((s245_370 kM).mpr ?_)
                              rw [mr_32 hR]
                              refine s245_373.mpr (s245_375.mpr (s245_376.mpr (s245_377.mpr (s245_378.mpr (s245_379.mpr ?_)))))
                              try simp (disch := first | decide | assumption | omega) only [kon, knt_some, knt_none, Option.toList_some, Option.toList_none, List.cons_append, List.nil_append, upI_eq, upI_a, upI_i, upR_eq, upR_a, upR_i, fAdd_id, fMul_id, e74, e76, g36]
                              refine (s245_381 (hA.k (by decide) (by decide) rfl) (by first | assumption | omega) (by first | assumption | omega)).mpr ?_
                              refine s245_382.mpr (s245_385.mpr ?_)
                              try simp (disch := first | decide | assumption | omega) only [kon, knt_some, knt_none, Option.toList_some, Option.toList_none, List.cons_append, List.nil_append, upI_eq, upI_a, upI_i, upR_eq, upR_a, upR_i, fAdd_id, fMul_id, e74, e76, g36]
                              first | (exfalso; omega) | exact er _ _ _ (by assumption) (by omega) _ _ | exact finA (by assumption) (by assumption) (by assumption) _ _ (by omega) | exact finB (by assumption) _ _ (by omega)
                        · skip
                          refine s245_342.mpr (s245_344.mpr (s245_346.mpr (s245_347.mpr ?_)))
                          refine (s245_348 kM).mpr ?_
                          try simp (disch := first | decide | assumption | omega) only [kon, knt_some, knt_none, Option.toList_some, Option.toList_none, List.cons_append, List.nil_append, upI_eq, upI_a, upI_i, upR_eq, upR_a, upR_i, fAdd_id, fMul_id, e74, e76, g36]
                          refine s245_351.mpr (wif (fun c351 => ?_) (fun c351 => ?_))
                          · first
                            | (exfalso; omega)
                            | skip
                              refine s245_354.mpr (s245_356.mpr ?_)
                              refine s245_358.mpr (wif (fun c358 => ?_) (fun c358 => ?_))
                              · first
                                | (exfalso; omega)
                                | skip
                                  refine s245_365.mpr ?_
                                  refine (s245_366 kM (by first | assumption | omega)).mpr ?_
                                  refine s245_369.mpr ((s245_370 kM).mpr ?_)
                                  rw [mr_32 hR]
                                  refine s245_373.mpr (s245_375.mpr (s245_376.mpr (s245_377.mpr (s245_378.mpr (s245_379.mpr ?_)))))
                                  try simp (disch := first | decide | assumption | omega) only [kon, knt_some, knt_none, Option.toList_some, Option.toList_none, List.cons_append, List.nil_append, upI_eq, upI_a, upI_i, upR_eq, upR_a, upR_i, fAdd_id, fMul_id, e74, e76, g36]
                                  refine (s245_381 (hA.k (by decide) (by decide) rfl) (by first | assumption | omega) (by first | assumption | omega)).mpr ?_
                                  refine s245_382.mpr (s245_385.mpr ?_)
                                  try simp (disch := first | decide | assumption | omega) only [kon, knt_some, knt_none, Option.toList_some, Option.toList_none, List.cons_append, List.nil_append, upI_eq, upI_a, upI_i, upR_eq, upR_a, upR_i, fAdd_id, fMul_id, e74, e76, g36]
                                  first | (exfalso; omega) | exact er _ _ _ (by assumption) (by omega) _ _ | exact finA (by assumption) (by assumption) (by assumption) _ _ (by omega) | exact finB (by assumption) _ _ (by omega)
                              · first
                                | (exfalso; omega)
                                | skip
                                  refine s245_361.mpr (s245_362.mpr ?_)
                                  refine (s245_366 kM (by first | assumption | omega)).mpr ?_
                                  refine s245_369.mpr ((s245_370 kM).mpr ?_)
                                  rw [mr_32 hR]
                                  refine s245_373.mpr (s245_375.mpr (s245_376.mpr (s245_377.mpr (s245_378.mpr (s245_379.mpr ?_)))))
                                  try simp (disch := first | decide | assumption | omega) only [kon, knt_some, knt_none, Option.toList_some, Option.toList_none, List.cons_append, List.nil_append, upI_eq, upI_a, upI_i, upR_eq, upR_a, upR_i, fAdd_id, fMul_id, e74, e76, g36]
                                  refine (s245_381 (hA.k (by decide) (by decide) rfl) (by first | assumption | omega) (by first | assumption | omega)).mpr ?_
                                  refine s245_382.mpr (s245_385.mpr ?_)
                                  try simp (disch := first | decide | assumption | omega) only [kon, knt_some, knt_none, Option.toList_some, Option.toList_none, List.cons_append, List.nil_append, upI_eq, upI_a, upI_i, upR_eq, upR_a, upR_i, fAdd_id, fMul_id, e74, e76, g36]
                                  first | (exfalso; omega) | exact er _ _ _ (by assumption) (by omega) _ _ | exact finA (by assumption) (by assumption) (by assumption) _ _ (by omega) | exact finB (by assumption) _ _ (by omega)
                          · first
                            | (exfalso; omega)
                            | skip
                              refine s245_361.mpr (s245_362.mpr ?_)
                              refine (s245_366 kM (by first | assumption | omega)).mpr ?_
                              refine s245_369.mpr ((s245_370 kM).mpr ?_)
                              rw [mr_32 hR]
                              refine s245_373.mpr (s245_375.mpr (s245_376.mpr (s245_377.mpr (s245_378.mpr (s245_379.mpr ?_)))))
                              try simp (disch := first | decide | assumption | omega) only [kon, knt_some, knt_none, Option.toList_some, Option.toList_none, List.cons_append, List.nil_append, upI_eq, upI_a, upI_i, upR_eq, upR_a, upR_i, fAdd_id, fMul_id, e74, e76, g36]
                              refine (s245_381 (hA.k (by decide) (by decide) rfl) (by first | assumption | omega) (by first | assumption | omega)).mpr ?_
                              refine s245_382.mpr (s245_385.mpr ?_)
                              try simp (disch := first | decide | assumption | omega) only [kon, knt_some, knt_none, Option.toList_some, Option.toList_none, List.cons_append, List.nil_append, upI_eq, upI_a, upI_i, upR_eq, upR_a, upR_i, fAdd_id, fMul_id, e74, e76, g36]
                              first | (exfalso; omega) | exact er _ _ _ (by assumption) (by omega) _ _ | exact finA (by assumption) (by assumption) (by assumption) _ _ (by omega) | exact finB (by assumption) _ _ (by omega)
              · first
                | (exfalso; omega)
                | skip
                  refine s245_346.mpr (s245_347.mpr ?_)
                  refine (s245_348 kM).mpr ?_
                  try simp (disch := first | decide | assumption | omega) only [kon, knt_some, knt_none, Option.toList_some, Option.toList_none, List.cons_append, List.nil_append, upI_eq, upI_a, upI_i, upR_eq, upR_a, upR_i, fAdd_id, fMul_id, e74, e76, g36]
                  refine s245_351.mpr (wif (fun c351 => ?_) (fun c351 => ?_))
                  · first
                    | (exfalso; omega)
                    | skip
                      refine s245_354.mpr (s245_356.mpr ?_)
                      refine s245_358.mpr (wif (fun c358 => ?_) (fun c358 => ?_))
                      · first
                        | (exfalso; omega)
                        | skip
                          refine s245_365.mpr ?_
                          refine (s245_366 kM (by first | assumption | omega)).mpr ?_
                          refine s245_369.mpr ((s245_370 kM).mpr ?_)
                          rw [mr_32 hR]
                          refine s245_373.mpr (s245_375.mpr (s245_376.mpr (s245_377.mpr (s245_378.mpr (s245_379.mpr ?_)))))
                          try simp (disch := first | decide | assumption | omega) only [kon, knt_some, knt_none, Option.toList_some, Option.toList_none, List.cons_append, List.nil_append, upI_eq, upI_a, upI_i, upR_eq, upR_a, upR_i, fAdd_id, fMul_id, e74, e76, g36]
                          refine (s245_381 (hA.k (by decide) (by decide) rfl) (by first | assumption | omega) (by first | assumption | omega)).mpr ?_
                          refine s245_382.mpr (s245_385.mpr ?_)
                          try simp (disch := first | decide | assumption | omega) only [kon, knt_some, knt_none, Option.toList_some, Option.toList_none, List.cons_append, List.nil_append, upI_eq, upI_a, upI_i, upR_eq, upR_a, upR_i, fAdd_id, fMul_id, e74, e76, g36]
                          first | (exfalso; omega) | exact er _ _ _ (by assumption) (by omega) _ _ | exact finA (by assumption) (by assumption) (by assumption) _ _ (by omega) | exact finB (by assumption) _ _ (by omega)
                      · first
                        | (exfalso; omega)
                        | skip
                          refine s245_361.mpr (s245_362.mpr ?_)
                          refine (s245_366 kM (by first | assumption | omega)).mpr ?_
                          refine s245_369.mpr ((s245_370 kM).mpr ?_)
                          rw [mr_32 hR]
                          refine s245_373.mpr (s245_375.mpr (s245_376.mpr (s245_377.mpr (s245_378.mpr (s245_379.mpr ?_)))))
                          try simp (disch := first | decide | assumption | omega) only [kon, knt_some, knt_none, Option.toList_some, Option.toList_none, List.cons_append, List.nil_append, upI_eq, upI_a, upI_i, upR_eq, upR_a, upR_i, fAdd_id, fMul_id, e74, e76, g36]
                          refine (s245_381 (hA.k (by decide) (by decide) rfl) (by first | assumption | omega) (by first | assumption | omega)).mpr ?_
                          refine s245_382.mpr (s245_385.mpr ?_)
                          try simp (disch := first | decide | assumption | omega) only [kon, knt_some, knt_none, Option.toList_some, Option.toList_none, List.cons_append, List.nil_append, upI_eq, upI_a, upI_i, upR_eq, upR_a, upR_i, fAdd_id, fMul_id, e74, e76, g36]
                          first | (exfalso; omega) | exact er _ _ _ (by assumption) (by omega) _ _ | exact finA (by assumption) (by assumption) (by assumption) _ _ (by omega) | exact finB (by assumption) _ _ (by omega)
                  · first
                    | (exfalso; omega)
                    | skip
                      refine s245_361.mpr (s245_362.mpr ?_)
                      refine (s245_366 kM (by first | assumption | omega)).mpr ?_
                      refine s245_369.mpr ((s245_370 kM).mpr ?_)
                      rw [mr_32 hR]
                      refine s245_373.mpr (s245_375.mpr (s245_376.mpr (s245_377.mpr (s245_378.mpr (s245_379.mpr ?_)))))
                      try simp (disch := first | decide | assumption | omega) only [kon, knt_some, knt_none, Option.toList_some, Option.toList_none, List.cons_append, List.nil_append, upI_eq, upI_a, upI_i, upR_eq, upR_a, upR_i, fAdd_id, fMul_id, e74, e76, g36]
                      refine (s245_381 (hA.k (by decide) (by decide) rfl) (by first | assumption | omega) (by first | assumption | omega)).mpr ?_
                      refine s245_382.mpr (s245_385.mpr ?_)
                      try simp (disch := first | decide | assumption | omega) only [kon, knt_some, knt_none, Option.toList_some, Option.toList_none, List.cons_append, List.nil_append, upI_eq, upI_a, upI_i, upR_eq, upR_a, upR_i, fAdd_id, fMul_id, e74, e76, g36]
                      first | (exfalso; omega) | exact er _ _ _ (by assumption) (by omega) _ _ | exact finA (by assumption) (by assumption) (by assumption) _ _ (by omega) | exact finB (by assumption) _ _ (by omega)
      · first
        | (exfalso; omega)
        | skip
          exfalso; omega
    · rintro ls h2 ⟨⟨l4, l5, rfl⟩, hw, g36, a71, a72, a73, a76, a74, hj, hc2⟩
      have hJ : jOK (hi 72 p, memS hi p, memL hi p) (scX hi) := ⟨h72.trans ht.symm, fun j a b => by have b : j < hi 72 p := b; show both (memS hi p j) (hi 75 j) ≠ -1; rw [mS j a (by omega)]; exact hb j a (by omega), fun j a b => by show both (memL hi p j) (hi 76 j) = -1 → ¬ linT (memL hi p j) ∧ ¬ linT (hi 76 j); rw [mL j a b]; exact hj j a b⟩
      have eZ : memA h2 p = some (h2 72 p, memS h2 p, memL h2 p) := if_pos (by rw [a71]; exact hc)
      have zS : ∀ j, 0 ≤ j → j < t → memS h2 p j = both (hi 73 (17 * p + j)) (hi 75 j) := fun j a b => by
        unfold memS
        rw [if_pos (by omega), a73, g73, if_pos (by omega), show 17 * p + j - 17 * p = j by omega]
      have zL : ∀ j, 0 ≤ j → j < 10 → memL h2 p j = bothL (hi 74 (10 * p + j)) (hi 76 j) := fun j a b => by
        unfold memL
        rw [if_pos (by omega), a74, if_pos (by omega), show 10 * p + j - 10 * p = j by omega]
      have hA9 : ArrR (memA hi) p (scX hi) (memA h2) := by
        refine ⟨fun q q0 hq => memA_q (by rw [a71]) (by rw [a72]) (fun k k0 k1 => by rw [a73, g73, if_neg (by omega)]) (fun k k0 k1 => by rw [a74, if_neg (by omega)]), fun hN => ?_, fun Y hY => ?_⟩
        · rw [eY] at hN; cases hN
        · rw [eY] at hY; cases hY
          refine ⟨hJ, _, eZ, by rw [a72]; rfl, fun j a b => ?_, fun j a b => ?_⟩
          · have b : j < h2 72 p := b
            rw [a72, h72] at b
            show memS h2 p j = both (memS hi p j) (hi 75 j)
            rw [zS j a b, mS j a (by omega)]
          · show memL h2 p j = bothL (memL hi p j) (hi 76 j)
            rw [zL j a b, mL j a b]
      have hCH : CHG (hi 49 37) (h2 49 37) (¬ eqX (hi 72 p, memS hi p, memL hi p) (h2 72 p, memS h2 p, memL h2 p)) := by
        have hD : ¬ eqX (hi 72 p, memS hi p, memL hi p) (h2 72 p, memS h2 p, memL h2 p) ↔ ((∃ j, 0 ≤ j ∧ j < t ∧ both (hi 73 (17 * p + j)) (hi 75 j) ≠ hi 73 (17 * p + j)) ∨ (∃ j : Int, 0 ≤ j ∧ j < ((10 : Nat) : Int) ∧ bothL (hi 74 (10 * p + j)) (hi 76 j) ≠ hi 74 (10 * p + j))) := by
          constructor
          · intro hne
            apply Classical.byContradiction
            intro hno
            apply hne
            refine ⟨by rw [a72], fun j a b => ?_, fun j a b => ?_⟩
            · have b : j < hi 72 p := b
              show memS hi p j = memS h2 p j
              rw [zS j a (by omega), mS j a (by omega)]
              apply Classical.byContradiction
              intro q
              exact hno (Or.inl ⟨j, a, by omega, fun e => q e.symm⟩)
            · show memL hi p j = memL h2 p j
              rw [zL j a b, mL j a b]
              apply Classical.byContradiction
              intro q
              exact hno (Or.inr ⟨j, a, by omega, fun e => q e.symm⟩)
          · rintro (⟨j, a, b, e⟩ | ⟨j, a, b, e⟩) q
            · have h9 : memS hi p j = memS h2 p j := q.2.1 j a (by show j < hi 72 p; omega)
              rw [zS j a b, mS j a (by omega)] at h9
              exact e h9.symm
            · have h9 : memL hi p j = memL h2 p j := q.2.2 j a (by omega)
              rw [zL j a (by omega), mL j a (by omega)] at h9
              exact e h9.symm
        refine CHG.mn ?_ hD.symm
        rcases hch with ⟨x1, x2⟩ | ⟨x1, x2, x3⟩
        · rcases hc2 with ⟨z1, z2⟩ | ⟨z1, z2, z3⟩
          · exact Or.inl ⟨z1, x2.imp id Or.inl⟩
          · omega
        · rcases hc2 with ⟨z1, z2⟩ | ⟨z1, z2, z3⟩
          · rcases z2 with z2 | z2
            · omega
            · exact Or.inl ⟨z1, Or.inr (Or.inr z2)⟩
          · exact Or.inr ⟨z1, x2, fun q => q.elim x3 z3⟩
      refine s245_268.mpr (s245_269.mpr ?_)
      refine s245_271.mpr (wif (fun c271 => ?_) (fun c271 => ?_))
      · skip
        exfalso; omega
      · skip
        refine (s245_388).mpr ?_
        exact ok _ hw g36 hA9 a71 ⟨_, _, eY, eZ, hCH⟩
  have T156 : hi 72 p = t → Wp d 245 156 [vR (some 49), vI f, vI p, vI 0, none, none] [] al hi hr Q := by
    intro h72
    refine wp_cnt (N := t.toNat) (fun k ls h2 => (∃ l4 l5, ls = [vR (some 49), vI f, vI p, vI k, l4, l5]) ∧ FW wFl hi h2 ∧ h2 49 35 = t ∧ h2 49 36 = 1 ∧ h2 71 = hi 71 ∧ h2 72 = hi 72 ∧ h2 74 = hi 74 ∧ h2 75 = hi 75 ∧ h2 76 = hi 76 ∧ (∀ i, h2 73 i = if 17 * p ≤ i ∧ i < 17 * p + k then both (hi 73 i) (hi 75 (i - 17 * p)) else hi 73 i) ∧ (∀ j : Int, 0 ≤ j → j < k → both (hi 73 (17 * p + j)) (hi 75 j) ≠ -1) ∧ CHG (hi 49 37) (h2 49 37) (∃ j : Int, 0 ≤ j ∧ j < k ∧ both (hi 73 (17 * p + j)) (hi 75 j) ≠ hi 73 (17 * p + j))) ?_ ?_ _ _ ⟨⟨_, _, rfl⟩, FW.rf, ht, h36, rfl, rfl, rfl, rfl, rfl, fun i => by rw [if_neg (by omega)], fun j a b => by omega, by
      rcases h37 with h | h
      · exact Or.inr ⟨h, h, fun ⟨j, a, b, _⟩ => by omega⟩
      · exact Or.inl ⟨h, Or.inl h⟩⟩
    · rintro k ls h2 hk ⟨⟨l4, l5, rfl⟩, hw, g35, g36, a71, a72, a74, a75, a76, a73, hj, hc2⟩ nx
      have e73 : h2 73 (17 * p + k) = hi 73 (17 * p + k) := by rw [a73, if_neg (by omega)]
      have e75 : h2 75 k = hi 75 k := by rw [a75]
      have hc3 := hc2.b
      have fin : ∀ c l4, both (hi 73 (17 * p + k)) (hi 75 k) ≠ -1 → (c = 1 ∧ (h2 49 37 = 1 ∨ both (hi 73 (17 * p + k)) (hi 75 k) ≠ hi 73 (17 * p + k)) ∨ c = 0 ∧ h2 49 37 = 0 ∧ both (hi 73 (17 * p + k)) (hi 75 k) = hi 73 (17 * p + k)) → Wp d 245 156 [vR (some 49), vI f, vI p, vI ((k + 1 : Nat) : Int), l4, l5] [] al (upI (upI h2 49 37 c) 73 (17 * p + k) (both (hi 73 (17 * p + k)) (hi 75 k))) hr Q := by
        intro c l4 h1 h5
        refine nx _ _ ⟨⟨_, _, rfl⟩, (by repeat' (first | assumption | exact FW.rf | refine FW.up ?_ (by unfold wFl; omega))), by (try simp (disch := decide) only [upI_eq, upI_a, upI_i, upR_eq, upR_a, upR_i]); exact g35, by (try simp (disch := decide) only [upI_eq, upI_a, upI_i, upR_eq, upR_a, upR_i]); exact g36, by simp (disch := decide) only [upI_ro]; exact a71, by simp (disch := decide) only [upI_ro]; exact a72, by simp (disch := decide) only [upI_ro]; exact a74, by simp (disch := decide) only [upI_ro]; exact a75, by simp (disch := decide) only [upI_ro]; exact a76, fun i => ?_, fun j j0 j1 => ?_, ?_⟩
        · by_cases hi9 : i = 17 * p + k
          · subst hi9; rw [upI_eq, if_pos (by omega), show 17 * p + (k : Int) - 17 * p = k by omega]
          · rw [upI_i hi9, upI_a (by decide), a73]
            by_cases h : 17 * p ≤ i ∧ i < 17 * p + k
            · rw [if_pos h, if_pos (by omega)]
            · rw [if_neg h, if_neg (by omega)]
        · by_cases e : j = k
          · subst e; exact h1
          · exact hj j j0 (by omega)
        · simp (disch := decide) only [upI_eq, upI_a, upI_i, upR_eq, upR_a, upR_i]
          have h3 : CHG (hi 49 37) c ((∃ j : Int, 0 ≤ j ∧ j < k ∧ both (hi 73 (17 * p + j)) (hi 75 j) ≠ hi 73 (17 * p + j)) ∨ both (hi 73 (17 * p + k)) (hi 75 k) ≠ hi 73 (17 * p + k)) := by
            rcases h5 with ⟨rfl, h5⟩ | ⟨rfl, h5, h6⟩
            · exact hc2.y h5
            · exact hc2.n h5 (fun q => q h6)
          refine h3.mn ⟨fun q => ?_, fun ⟨j, a, b, e⟩ => ?_⟩
          · rcases q with ⟨j, a, b, e⟩ | e
            · exact ⟨j, a, by omega, e⟩
            · exact ⟨k, by omega, by omega, e⟩
          · by_cases e9 : j = k
            · subst e9; exact Or.inr e
            · exact Or.inl ⟨j, a, by omega, e⟩
      have er : ∀ (x : Int) l4, both (hi 73 (17 * p + k)) (hi 75 k) = -1 → ∀ c v, Wp d 245 156 [vR (some 49), vI f, vI p, vI x, l4, l5] [] al (upI (upI (upI h2 49 36 0) 49 37 c) 73 (17 * p + k) v) hr Q := by
        intro x l4 h1 c v
        refine T156f _ _ _ ⟨_, eY, fun hJ => ?_⟩ (by repeat' (first | assumption | exact FW.rf | refine FW.up ?_ (by unfold wFl; omega))) (by (try simp (disch := decide) only [upI_eq, upI_a, upI_i, upR_eq, upR_a, upR_i])) x
        have h8 : both (memS hi p k) (hi 75 k) ≠ -1 := hJ.2.1 k (by omega) (by show (k : Int) < hi 72 p; omega)
        rw [mS k (by omega) (by omega)] at h8
        exact h8 h1
      refine s245_156.mpr (s245_157.mpr ?_)
      refine (s245_158 kM).mpr ?_
      try simp (disch := first | decide | assumption | omega) only [kon, knt_some, knt_none, Option.toList_some, Option.toList_none, List.cons_append, List.nil_append, upI_eq, upI_a, upI_i, upR_eq, upR_a, upR_i, fAdd_id, fMul_id, e73, e75, g35, g36]
      refine s245_161.mpr (wif (fun c161 => ?_) (fun c161 => ?_))
      · first
        | (exfalso; omega)
        | skip
          refine s245_164.mpr ?_
          refine (s245_165 kM).mpr ?_
          try simp (disch := first | decide | assumption | omega) only [kon, knt_some, knt_none, Option.toList_some, Option.toList_none, List.cons_append, List.nil_append, upI_eq, upI_a, upI_i, upR_eq, upR_a, upR_i, fAdd_id, fMul_id, e73, e75, g35, g36]
          refine s245_168.mpr (wif (fun c168 => ?_) (fun c168 => ?_))
          · first
            | (exfalso; omega)
            | skip
              exfalso; omega
          · first
            | (exfalso; omega)
            | skip
              refine s245_171.mpr ((s245_172 kM).mpr ?_)
              rw [mr_31 hR]
              refine s245_175.mpr (s245_177.mpr (s245_178.mpr (s245_179.mpr (s245_180.mpr ?_))))
              try simp (disch := first | decide | assumption | omega) only [kon, knt_some, knt_none, Option.toList_some, Option.toList_none, List.cons_append, List.nil_append, upI_eq, upI_a, upI_i, upR_eq, upR_a, upR_i, fAdd_id, fMul_id, e73, e75, g35, g36]
              refine (s245_181 (hA.k (by decide) (by decide) rfl) (by first | assumption | omega) (by first | assumption | omega)).mpr ?_
              refine s245_182.mpr ((s245_183 kM).mpr ?_)
              rw [mr_33 hR]
              refine s245_186.mpr ?_
              try simp (disch := first | decide | assumption | omega) only [kon, knt_some, knt_none, Option.toList_some, Option.toList_none, List.cons_append, List.nil_append, upI_eq, upI_a, upI_i, upR_eq, upR_a, upR_i, fAdd_id, fMul_id, e73, e75, g35, g36]
              refine (s245_187 (hA.k (by decide) (by decide) rfl) (by first | assumption | omega) (by first | assumption | omega)).mpr ?_
              try simp (disch := first | decide | assumption | omega) only [kon, knt_some, knt_none, Option.toList_some, Option.toList_none, List.cons_append, List.nil_append, upI_eq, upI_a, upI_i, upR_eq, upR_a, upR_i, fAdd_id, fMul_id, e73, e75, g35, g36]
              refine (s245_188 (by omega)).mpr ?_
              refine m_both (by omega) ?_
              refine s245_191.mpr (s245_193.mpr (s245_194.mpr (s245_196.mpr ?_)))
              refine s245_197.mpr (wif (fun c197 => ?_) (fun c197 => ?_))
              · first
                | (exfalso; omega)
                | skip
                  refine s245_204.mpr ?_
                  refine (s245_205 (by omega) kM).mpr ?_
                  refine m_wants hA (by omega) (by (try simp (disch := decide) only [upI_eq, upI_a, upI_i, upR_eq, upR_a, upR_i]); first | assumption | rfl) (by omega) (fun y205 => ?_) (fun y205 => ?_)
                  · skip
                    refine s245_208.mpr (s245_209.mpr ?_)
                    refine (s245_210 kM).mpr ?_
                    try simp (disch := first | decide | assumption | omega) only [kon, knt_some, knt_none, Option.toList_some, Option.toList_none, List.cons_append, List.nil_append, upI_eq, upI_a, upI_i, upR_eq, upR_a, upR_i, fAdd_id, fMul_id, e73, e75, g35, g36]
                    refine s245_213.mpr (wif (fun c213 => ?_) (fun c213 => ?_))
                    · first
                      | (exfalso; omega)
                      | skip
                        refine s245_216.mpr ?_
                        refine (s245_217 kM).mpr ?_
                        try simp (disch := first | decide | assumption | omega) only [kon, knt_some, knt_none, Option.toList_some, Option.toList_none, List.cons_append, List.nil_append, upI_eq, upI_a, upI_i, upR_eq, upR_a, upR_i, fAdd_id, fMul_id, e73, e75, g35, g36]
                        refine s245_220.mpr (wif (fun c220 => ?_) (fun c220 => ?_))
                        · first
                          | (exfalso; omega)
                          | skip
                            refine s245_243.mpr ?_
                            refine (s245_244 kM (by first | assumption | omega)).mpr ?_
                            refine s245_247.mpr ((s245_248 kM).mpr ?_)
                            rw [mr_31 hR]
                            refine s245_251.mpr (s245_253.mpr (s245_254.mpr (s245_255.mpr (s245_256.mpr (s245_257.mpr ?_)))))
                            try simp (disch := first | decide | assumption | omega) only [kon, knt_some, knt_none, Option.toList_some, Option.toList_none, List.cons_append, List.nil_append, upI_eq, upI_a, upI_i, upR_eq, upR_a, upR_i, fAdd_id, fMul_id, e73, e75, g35, g36]
                            refine (s245_259 (hA.k (by decide) (by decide) rfl) (by first | assumption | omega) (by first | assumption | omega)).mpr ?_
                            refine s245_260.mpr (s245_263.mpr ?_)
                            try simp (disch := first | decide | assumption | omega) only [kon, knt_some, knt_none, Option.toList_some, Option.toList_none, List.cons_append, List.nil_append, upI_eq, upI_a, upI_i, upR_eq, upR_a, upR_i, fAdd_id, fMul_id, e73, e75, g35, g36]
                            first | (exfalso; omega) | exact er _ _ (by assumption) _ _ | exact fin _ _ (by assumption) (by omega)
                        · first
                          | (exfalso; omega)
                          | skip
                            refine s245_223.mpr (s245_225.mpr ((s245_226 kM).mpr ?_))
                            rw [mr_31 hR]
                            refine s245_229.mpr (s245_231.mpr (s245_232.mpr (s245_233.mpr (s245_234.mpr ?_))))
                            try simp (disch := first | decide | assumption | omega) only [kon, knt_some, knt_none, Option.toList_some, Option.toList_none, List.cons_append, List.nil_append, upI_eq, upI_a, upI_i, upR_eq, upR_a, upR_i, fAdd_id, fMul_id, e73, e75, g35, g36]
                            refine (s245_235 (hA.k (by decide) (by decide) rfl) (by first | assumption | omega) (by first | assumption | omega)).mpr ?_
                            try simp (disch := first | decide | assumption | omega) only [kon, knt_some, knt_none, Option.toList_some, Option.toList_none, List.cons_append, List.nil_append, upI_eq, upI_a, upI_i, upR_eq, upR_a, upR_i, fAdd_id, fMul_id, e73, e75, g35, g36]
                            refine s245_236.mpr (wif (fun c236 => ?_) (fun c236 => ?_))
                            · first
                              | (exfalso; omega)
                              | skip
                                refine s245_243.mpr ?_
                                refine (s245_244 kM (by first | assumption | omega)).mpr ?_
                                refine s245_247.mpr ((s245_248 kM).mpr ?_)
                                rw [mr_31 hR]
                                refine s245_251.mpr (s245_253.mpr (s245_254.mpr (s245_255.mpr (s245_256.mpr (s245_257.mpr ?_)))))
                                try simp (disch := first | decide | assumption | omega) only [kon, knt_some, knt_none, Option.toList_some, Option.toList_none, List.cons_append, List.nil_append, upI_eq, upI_a, upI_i, upR_eq, upR_a, upR_i, fAdd_id, fMul_id, e73, e75, g35, g36]
                                refine (s245_259 (hA.k (by decide) (by decide) rfl) (by first | assumption | omega) (by first | assumption | omega)).mpr ?_
                                refine s245_260.mpr (s245_263.mpr ?_)
                                try simp (disch := first | decide | assumption | omega) only [kon, knt_some, knt_none, Option.toList_some, Option.toList_none, List.cons_append, List.nil_append, upI_eq, upI_a, upI_i, upR_eq, upR_a, upR_i, fAdd_id, fMul_id, e73, e75, g35, g36]
                                first | (exfalso; omega) | exact er _ _ (by assumption) _ _ | exact fin _ _ (by assumption) (by omega)
                            · first
                              | (exfalso; omega)
                              | skip
                                refine s245_239.mpr (s245_240.mpr ?_)
                                refine (s245_244 kM (by first | assumption | omega)).mpr ?_
                                refine s245_247.mpr ((s245_248 kM).mpr ?_)
                                rw [mr_31 hR]
                                refine s245_251.mpr (s245_253.mpr (s245_254.mpr (s245_255.mpr (s245_256.mpr (s245_257.mpr ?_)))))
                                try simp (disch := first | decide | assumption | omega) only [kon, knt_some, knt_none, Option.toList_some, Option.toList_none, List.cons_append, List.nil_append, upI_eq, upI_a, upI_i, upR_eq, upR_a, upR_i, fAdd_id, fMul_id, e73, e75, g35, g36]
                                refine (s245_259 (hA.k (by decide) (by decide) rfl) (by first | assumption | omega) (by first | assumption | omega)).mpr ?_
                                refine s245_260.mpr (s245_263.mpr ?_)
                                try simp (disch := first | decide | assumption | omega) only [kon, knt_some, knt_none, Option.toList_some, Option.toList_none, List.cons_append, List.nil_append, upI_eq, upI_a, upI_i, upR_eq, upR_a, upR_i, fAdd_id, fMul_id, e73, e75, g35, g36]
                                first | (exfalso; omega) | exact er _ _ (by assumption) _ _ | exact fin _ _ (by assumption) (by omega)
                    · first
                      | (exfalso; omega)
                      | skip
                        refine s245_239.mpr (s245_240.mpr ?_)
                        refine (s245_244 kM (by first | assumption | omega)).mpr ?_
                        refine s245_247.mpr ((s245_248 kM).mpr ?_)
                        rw [mr_31 hR]
                        refine s245_251.mpr (s245_253.mpr (s245_254.mpr (s245_255.mpr (s245_256.mpr (s245_257.mpr ?_)))))
                        try simp (disch := first | decide | assumption | omega) only [kon, knt_some, knt_none, Option.toList_some, Option.toList_none, List.cons_append, List.nil_append, upI_eq, upI_a, upI_i, upR_eq, upR_a, upR_i, fAdd_id, fMul_id, e73, e75, g35, g36]
                        refine (s245_259 (hA.k (by decide) (by decide) rfl) (by first | assumption | omega) (by first | assumption | omega)).mpr ?_
                        refine s245_260.mpr (s245_263.mpr ?_)
                        try simp (disch := first | decide | assumption | omega) only [kon, knt_some, knt_none, Option.toList_some, Option.toList_none, List.cons_append, List.nil_append, upI_eq, upI_a, upI_i, upR_eq, upR_a, upR_i, fAdd_id, fMul_id, e73, e75, g35, g36]
                        first | (exfalso; omega) | exact er _ _ (by assumption) _ _ | exact fin _ _ (by assumption) (by omega)
                  · skip
                    refine s245_208.mpr (s245_209.mpr ?_)
                    refine (s245_210 kM).mpr ?_
                    try simp (disch := first | decide | assumption | omega) only [kon, knt_some, knt_none, Option.toList_some, Option.toList_none, List.cons_append, List.nil_append, upI_eq, upI_a, upI_i, upR_eq, upR_a, upR_i, fAdd_id, fMul_id, e73, e75, g35, g36]
                    refine s245_213.mpr (wif (fun c213 => ?_) (fun c213 => ?_))
                    · first
                      | (exfalso; omega)
                      | skip
                        refine s245_216.mpr ?_
                        refine (s245_217 kM).mpr ?_
                        try simp (disch := first | decide | assumption | omega) only [kon, knt_some, knt_none, Option.toList_some, Option.toList_none, List.cons_append, List.nil_append, upI_eq, upI_a, upI_i, upR_eq, upR_a, upR_i, fAdd_id, fMul_id, e73, e75, g35, g36]
                        refine s245_220.mpr (wif (fun c220 => ?_) (fun c220 => ?_))
                        · first
                          | (exfalso; omega)
                          | skip
                            refine s245_243.mpr ?_
                            refine (s245_244 kM (by first | assumption | omega)).mpr ?_
                            refine s245_247.mpr ((s245_248 kM).mpr ?_)
                            rw [mr_31 hR]
                            refine s245_251.mpr (s245_253.mpr (s245_254.mpr (s245_255.mpr (s245_256.mpr (s245_257.mpr ?_)))))
                            try simp (disch := first | decide | assumption | omega) only [kon, knt_some, knt_none, Option.toList_some, Option.toList_none, List.cons_append, List.nil_append, upI_eq, upI_a, upI_i, upR_eq, upR_a, upR_i, fAdd_id, fMul_id, e73, e75, g35, g36]
                            refine (s245_259 (hA.k (by decide) (by decide) rfl) (by first | assumption | omega) (by first | assumption | omega)).mpr ?_
                            refine s245_260.mpr (s245_263.mpr ?_)
                            try simp (disch := first | decide | assumption | omega) only [kon, knt_some, knt_none, Option.toList_some, Option.toList_none, List.cons_append, List.nil_append, upI_eq, upI_a, upI_i, upR_eq, upR_a, upR_i, fAdd_id, fMul_id, e73, e75, g35, g36]
                            first | (exfalso; omega) | exact er _ _ (by assumption) _ _ | exact fin _ _ (by assumption) (by omega)
                        · first
                          | (exfalso; omega)
                          | skip
                            refine s245_223.mpr (s245_225.mpr ((s245_226 kM).mpr ?_))
                            rw [mr_31 hR]
                            refine s245_229.mpr (s245_231.mpr (s245_232.mpr (s245_233.mpr (s245_234.mpr ?_))))
                            try simp (disch := first | decide | assumption | omega) only [kon, knt_some, knt_none, Option.toList_some, Option.toList_none, List.cons_append, List.nil_append, upI_eq, upI_a, upI_i, upR_eq, upR_a, upR_i, fAdd_id, fMul_id, e73, e75, g35, g36]
                            refine (s245_235 (hA.k (by decide) (by decide) rfl) (by first | assumption | omega) (by first | assumption | omega)).mpr ?_
                            try simp (disch := first | decide | assumption | omega) only [kon, knt_some, knt_none, Option.toList_some, Option.toList_none, List.cons_append, List.nil_append, upI_eq, upI_a, upI_i, upR_eq, upR_a, upR_i, fAdd_id, fMul_id, e73, e75, g35, g36]
                            refine s245_236.mpr (wif (fun c236 => ?_) (fun c236 => ?_))
                            · first
                              | (exfalso; omega)
                              | skip
                                refine s245_243.mpr ?_
                                refine (s245_244 kM (by first | assumption | omega)).mpr ?_
                                refine s245_247.mpr ((s245_248 kM).mpr ?_)
                                rw [mr_31 hR]
                                refine s245_251.mpr (s245_253.mpr (s245_254.mpr (s245_255.mpr (s245_256.mpr (s245_257.mpr ?_)))))
                                try simp (disch := first | decide | assumption | omega) only [kon, knt_some, knt_none, Option.toList_some, Option.toList_none, List.cons_append, List.nil_append, upI_eq, upI_a, upI_i, upR_eq, upR_a, upR_i, fAdd_id, fMul_id, e73, e75, g35, g36]
                                refine (s245_259 (hA.k (by decide) (by decide) rfl) (by first | assumption | omega) (by first | assumption | omega)).mpr ?_
                                refine s245_260.mpr (s245_263.mpr ?_)
                                try simp (disch := first | decide | assumption | omega) only [kon, knt_some, knt_none, Option.toList_some, Option.toList_none, List.cons_append, List.nil_append, upI_eq, upI_a, upI_i, upR_eq, upR_a, upR_i, fAdd_id, fMul_id, e73, e75, g35, g36]
                                first | (exfalso; omega) | exact er _ _ (by assumption) _ _ | exact fin _ _ (by assumption) (by omega)
                            · first
                              | (exfalso; omega)
                              | skip
                                refine s245_239.mpr (s245_240.mpr ?_)
                                refine (s245_244 kM (by first | assumption | omega)).mpr ?_
                                refine s245_247.mpr ((s245_248 kM).mpr ?_)
                                rw [mr_31 hR]
                                refine s245_251.mpr (s245_253.mpr (s245_254.mpr (s245_255.mpr (s245_256.mpr (s245_257.mpr ?_)))))
                                try simp (disch := first | decide | assumption | omega) only [kon, knt_some, knt_none, Option.toList_some, Option.toList_none, List.cons_append, List.nil_append, upI_eq, upI_a, upI_i, upR_eq, upR_a, upR_i, fAdd_id, fMul_id, e73, e75, g35, g36]
                                refine (s245_259 (hA.k (by decide) (by decide) rfl) (by first | assumption | omega) (by first | assumption | omega)).mpr ?_
                                refine s245_260.mpr (s245_263.mpr ?_)
                                try simp (disch := first | decide | assumption | omega) only [kon, knt_some, knt_none, Option.toList_some, Option.toList_none, List.cons_append, List.nil_append, upI_eq, upI_a, upI_i, upR_eq, upR_a, upR_i, fAdd_id, fMul_id, e73, e75, g35, g36]
                                first | (exfalso; omega) | exact er _ _ (by assumption) _ _ | exact fin _ _ (by assumption) (by omega)
                    · first
                      | (exfalso; omega)
                      | skip
                        refine s245_239.mpr (s245_240.mpr ?_)
                        refine (s245_244 kM (by first | assumption | omega)).mpr ?_
                        refine s245_247.mpr ((s245_248 kM).mpr ?_)
                        rw [mr_31 hR]
                        refine s245_251.mpr (s245_253.mpr (s245_254.mpr (s245_255.mpr (s245_256.mpr (s245_257.mpr ?_)))))
                        try simp (disch := first | decide | assumption | omega) only [kon, knt_some, knt_none, Option.toList_some, Option.toList_none, List.cons_append, List.nil_append, upI_eq, upI_a, upI_i, upR_eq, upR_a, upR_i, fAdd_id, fMul_id, e73, e75, g35, g36]
                        refine (s245_259 (hA.k (by decide) (by decide) rfl) (by first | assumption | omega) (by first | assumption | omega)).mpr ?_
                        refine s245_260.mpr (s245_263.mpr ?_)
                        try simp (disch := first | decide | assumption | omega) only [kon, knt_some, knt_none, Option.toList_some, Option.toList_none, List.cons_append, List.nil_append, upI_eq, upI_a, upI_i, upR_eq, upR_a, upR_i, fAdd_id, fMul_id, e73, e75, g35, g36]
                        first | (exfalso; omega) | exact er _ _ (by assumption) _ _ | exact fin _ _ (by assumption) (by omega)
              · first
                | (exfalso; omega)
                | skip
                  refine s245_200.mpr (s245_201.mpr ?_)
                  refine (s245_205 (by omega) kM).mpr ?_
                  refine m_wants hA (by omega) (by (try simp (disch := decide) only [upI_eq, upI_a, upI_i, upR_eq, upR_a, upR_i]); first | assumption | rfl) (by omega) (fun y205 => ?_) (fun y205 => ?_)
                  · skip
                    refine s245_208.mpr (s245_209.mpr ?_)
                    refine (s245_210 kM).mpr ?_
                    try simp (disch := first | decide | assumption | omega) only [kon, knt_some, knt_none, Option.toList_some, Option.toList_none, List.cons_append, List.nil_append, upI_eq, upI_a, upI_i, upR_eq, upR_a, upR_i, fAdd_id, fMul_id, e73, e75, g35, g36]
                    refine s245_213.mpr (wif (fun c213 => ?_) (fun c213 => ?_))
                    · first
                      | (exfalso; omega)
                      | skip
                        refine s245_216.mpr ?_
                        refine (s245_217 kM).mpr ?_
                        try simp (disch := first | decide | assumption | omega) only [kon, knt_some, knt_none, Option.toList_some, Option.toList_none, List.cons_append, List.nil_append, upI_eq, upI_a, upI_i, upR_eq, upR_a, upR_i, fAdd_id, fMul_id, e73, e75, g35, g36]
                        refine s245_220.mpr (wif (fun c220 => ?_) (fun c220 => ?_))
                        · first
                          | (exfalso; omega)
                          | skip
                            refine s245_243.mpr ?_
                            refine (s245_244 kM (by first | assumption | omega)).mpr ?_
                            refine s245_247.mpr ((s245_248 kM).mpr ?_)
                            rw [mr_31 hR]
                            refine s245_251.mpr (s245_253.mpr (s245_254.mpr (s245_255.mpr (s245_256.mpr (s245_257.mpr ?_)))))
                            try simp (disch := first | decide | assumption | omega) only [kon, knt_some, knt_none, Option.toList_some, Option.toList_none, List.cons_append, List.nil_append, upI_eq, upI_a, upI_i, upR_eq, upR_a, upR_i, fAdd_id, fMul_id, e73, e75, g35, g36]
                            refine (s245_259 (hA.k (by decide) (by decide) rfl) (by first | assumption | omega) (by first | assumption | omega)).mpr ?_
                            refine s245_260.mpr (s245_263.mpr ?_)
                            try simp (disch := first | decide | assumption | omega) only [kon, knt_some, knt_none, Option.toList_some, Option.toList_none, List.cons_append, List.nil_append, upI_eq, upI_a, upI_i, upR_eq, upR_a, upR_i, fAdd_id, fMul_id, e73, e75, g35, g36]
                            first | (exfalso; omega) | exact er _ _ (by assumption) _ _ | exact fin _ _ (by assumption) (by omega)
                        · first
                          | (exfalso; omega)
                          | skip
                            refine s245_223.mpr (s245_225.mpr ((s245_226 kM).mpr ?_))
                            rw [mr_31 hR]
                            refine s245_229.mpr (s245_231.mpr (s245_232.mpr (s245_233.mpr (s245_234.mpr ?_))))
                            try simp (disch := first | decide | assumption | omega) only [kon, knt_some, knt_none, Option.toList_some, Option.toList_none, List.cons_append, List.nil_append, upI_eq, upI_a, upI_i, upR_eq, upR_a, upR_i, fAdd_id, fMul_id, e73, e75, g35, g36]
                            refine (s245_235 (hA.k (by decide) (by decide) rfl) (by first | assumption | omega) (by first | assumption | omega)).mpr ?_
                            try simp (disch := first | decide | assumption | omega) only [kon, knt_some, knt_none, Option.toList_some, Option.toList_none, List.cons_append, List.nil_append, upI_eq, upI_a, upI_i, upR_eq, upR_a, upR_i, fAdd_id, fMul_id, e73, e75, g35, g36]
                            refine s245_236.mpr (wif (fun c236 => ?_) (fun c236 => ?_))
                            · first
                              | (exfalso; omega)
                              | skip
                                refine s245_243.mpr ?_
                                refine (s245_244 kM (by first | assumption | omega)).mpr ?_
                                refine s245_247.mpr ((s245_248 kM).mpr ?_)
                                rw [mr_31 hR]
                                refine s245_251.mpr (s245_253.mpr (s245_254.mpr (s245_255.mpr (s245_256.mpr (s245_257.mpr ?_)))))
                                try simp (disch := first | decide | assumption | omega) only [kon, knt_some, knt_none, Option.toList_some, Option.toList_none, List.cons_append, List.nil_append, upI_eq, upI_a, upI_i, upR_eq, upR_a, upR_i, fAdd_id, fMul_id, e73, e75, g35, g36]
                                refine (s245_259 (hA.k (by decide) (by decide) rfl) (by first | assumption | omega) (by first | assumption | omega)).mpr ?_
                                refine s245_260.mpr (s245_263.mpr ?_)
                                try simp (disch := first | decide | assumption | omega) only [kon, knt_some, knt_none, Option.toList_some, Option.toList_none, List.cons_append, List.nil_append, upI_eq, upI_a, upI_i, upR_eq, upR_a, upR_i, fAdd_id, fMul_id, e73, e75, g35, g36]
                                first | (exfalso; omega) | exact er _ _ (by assumption) _ _ | exact fin _ _ (by assumption) (by omega)
                            · first
                              | (exfalso; omega)
                              | skip
                                refine s245_239.mpr (s245_240.mpr ?_)
                                refine (s245_244 kM (by first | assumption | omega)).mpr ?_
                                refine s245_247.mpr ((s245_248 kM).mpr ?_)
                                rw [mr_31 hR]
                                refine s245_251.mpr (s245_253.mpr (s245_254.mpr (s245_255.mpr (s245_256.mpr (s245_257.mpr ?_)))))
                                try simp (disch := first | decide | assumption | omega) only [kon, knt_some, knt_none, Option.toList_some, Option.toList_none, List.cons_append, List.nil_append, upI_eq, upI_a, upI_i, upR_eq, upR_a, upR_i, fAdd_id, fMul_id, e73, e75, g35, g36]
                                refine (s245_259 (hA.k (by decide) (by decide) rfl) (by first | assumption | omega) (by first | assumption | omega)).mpr ?_
                                refine s245_260.mpr (s245_263.mpr ?_)
                                try simp (disch := first | decide | assumption | omega) only [kon, knt_some, knt_none, Option.toList_some, Option.toList_none, List.cons_append, List.nil_append, upI_eq, upI_a, upI_i, upR_eq, upR_a, upR_i, fAdd_id, fMul_id, e73, e75, g35, g36]
                                first | (exfalso; omega) | exact er _ _ (by assumption) _ _ | exact fin _ _ (by assumption) (by omega)
                    · first
                      | (exfalso; omega)
                      | skip
                        refine s245_239.mpr (s245_240.mpr ?_)
                        refine (s245_244 kM (by first | assumption | omega)).mpr ?_
                        refine s245_247.mpr ((s245_248 kM).mpr ?_)
                        rw [mr_31 hR]
                        refine s245_251.mpr (s245_253.mpr (s245_254.mpr (s245_255.mpr (s245_256.mpr (s245_257.mpr ?_)))))
                        try simp (disch := first | decide | assumption | omega) only [kon, knt_some, knt_none, Option.toList_some, Option.toList_none, List.cons_append, List.nil_append, upI_eq, upI_a, upI_i, upR_eq, upR_a, upR_i, fAdd_id, fMul_id, e73, e75, g35, g36]
                        refine (s245_259 (hA.k (by decide) (by decide) rfl) (by first | assumption | omega) (by first | assumption | omega)).mpr ?_
                        refine s245_260.mpr (s245_263.mpr ?_)
                        try simp (disch := first | decide | assumption | omega) only [kon, knt_some, knt_none, Option.toList_some, Option.toList_none, List.cons_append, List.nil_append, upI_eq, upI_a, upI_i, upR_eq, upR_a, upR_i, fAdd_id, fMul_id, e73, e75, g35, g36]
                        first | (exfalso; omega) | exact er _ _ (by assumption) _ _ | exact fin _ _ (by assumption) (by omega)
                  · skip
                    refine s245_208.mpr (s245_209.mpr ?_)
                    refine (s245_210 kM).mpr ?_
                    try simp (disch := first | decide | assumption | omega) only [kon, knt_some, knt_none, Option.toList_some, Option.toList_none, List.cons_append, List.nil_append, upI_eq, upI_a, upI_i, upR_eq, upR_a, upR_i, fAdd_id, fMul_id, e73, e75, g35, g36]
                    refine s245_213.mpr (wif (fun c213 => ?_) (fun c213 => ?_))
                    · first
                      | (exfalso; omega)
                      | skip
                        refine s245_216.mpr ?_
                        refine (s245_217 kM).mpr ?_
                        try simp (disch := first | decide | assumption | omega) only [kon, knt_some, knt_none, Option.toList_some, Option.toList_none, List.cons_append, List.nil_append, upI_eq, upI_a, upI_i, upR_eq, upR_a, upR_i, fAdd_id, fMul_id, e73, e75, g35, g36]
                        refine s245_220.mpr (wif (fun c220 => ?_) (fun c220 => ?_))
                        · first
                          | (exfalso; omega)
                          | skip
                            refine s245_243.mpr ?_
                            refine (s245_244 kM (by first | assumption | omega)).mpr ?_
                            refine s245_247.mpr ((s245_248 kM).mpr ?_)
                            rw [mr_31 hR]
                            refine s245_251.mpr (s245_253.mpr (s245_254.mpr (s245_255.mpr (s245_256.mpr (s245_257.mpr ?_)))))
                            try simp (disch := first | decide | assumption | omega) only [kon, knt_some, knt_none, Option.toList_some, Option.toList_none, List.cons_append, List.nil_append, upI_eq, upI_a, upI_i, upR_eq, upR_a, upR_i, fAdd_id, fMul_id, e73, e75, g35, g36]
                            refine (s245_259 (hA.k (by decide) (by decide) rfl) (by first | assumption | omega) (by first | assumption | omega)).mpr ?_
                            refine s245_260.mpr (s245_263.mpr ?_)
                            try simp (disch := first | decide | assumption | omega) only [kon, knt_some, knt_none, Option.toList_some, Option.toList_none, List.cons_append, List.nil_append, upI_eq, upI_a, upI_i, upR_eq, upR_a, upR_i, fAdd_id, fMul_id, e73, e75, g35, g36]
                            first | (exfalso; omega) | exact er _ _ (by assumption) _ _ | exact fin _ _ (by assumption) (by omega)
                        · first
                          | (exfalso; omega)
                          | skip
                            refine s245_223.mpr (s245_225.mpr ((s245_226 kM).mpr ?_))
                            rw [mr_31 hR]
                            refine s245_229.mpr (s245_231.mpr (s245_232.mpr (s245_233.mpr (s245_234.mpr ?_))))
                            try simp (disch := first | decide | assumption | omega) only [kon, knt_some, knt_none, Option.toList_some, Option.toList_none, List.cons_append, List.nil_append, upI_eq, upI_a, upI_i, upR_eq, upR_a, upR_i, fAdd_id, fMul_id, e73, e75, g35, g36]
                            refine (s245_235 (hA.k (by decide) (by decide) rfl) (by first | assumption | omega) (by first | assumption | omega)).mpr ?_
                            try simp (disch := first | decide | assumption | omega) only [kon, knt_some, knt_none, Option.toList_some, Option.toList_none, List.cons_append, List.nil_append, upI_eq, upI_a, upI_i, upR_eq, upR_a, upR_i, fAdd_id, fMul_id, e73, e75, g35, g36]
                            refine s245_236.mpr (wif (fun c236 => ?_) (fun c236 => ?_))
                            · first
                              | (exfalso; omega)
                              | skip
                                refine s245_243.mpr ?_
                                refine (s245_244 kM (by first | assumption | omega)).mpr ?_
                                refine s245_247.mpr ((s245_248 kM).mpr ?_)
                                rw [mr_31 hR]
                                refine s245_251.mpr (s245_253.mpr (s245_254.mpr (s245_255.mpr (s245_256.mpr (s245_257.mpr ?_)))))
                                try simp (disch := first | decide | assumption | omega) only [kon, knt_some, knt_none, Option.toList_some, Option.toList_none, List.cons_append, List.nil_append, upI_eq, upI_a, upI_i, upR_eq, upR_a, upR_i, fAdd_id, fMul_id, e73, e75, g35, g36]
                                refine (s245_259 (hA.k (by decide) (by decide) rfl) (by first | assumption | omega) (by first | assumption | omega)).mpr ?_
                                refine s245_260.mpr (s245_263.mpr ?_)
                                try simp (disch := first | decide | assumption | omega) only [kon, knt_some, knt_none, Option.toList_some, Option.toList_none, List.cons_append, List.nil_append, upI_eq, upI_a, upI_i, upR_eq, upR_a, upR_i, fAdd_id, fMul_id, e73, e75, g35, g36]
                                first | (exfalso; omega) | exact er _ _ (by assumption) _ _ | exact fin _ _ (by assumption) (by omega)
                            · first
                              | (exfalso; omega)
                              | skip
                                refine s245_239.mpr (s245_240.mpr ?_)
                                refine (s245_244 kM (by first | assumption | omega)).mpr ?_
                                refine s245_247.mpr ((s245_248 kM).mpr ?_)
                                rw [mr_31 hR]
                                refine s245_251.mpr (s245_253.mpr (s245_254.mpr (s245_255.mpr (s245_256.mpr (s245_257.mpr ?_)))))
                                try simp (disch := first | decide | assumption | omega) only [kon, knt_some, knt_none, Option.toList_some, Option.toList_none, List.cons_append, List.nil_append, upI_eq, upI_a, upI_i, upR_eq, upR_a, upR_i, fAdd_id, fMul_id, e73, e75, g35, g36]
                                refine (s245_259 (hA.k (by decide) (by decide) rfl) (by first | assumption | omega) (by first | assumption | omega)).mpr ?_
                                refine s245_260.mpr (s245_263.mpr ?_)
                                try simp (disch := first | decide | assumption | omega) only [kon, knt_some, knt_none, Option.toList_some, Option.toList_none, List.cons_append, List.nil_append, upI_eq, upI_a, upI_i, upR_eq, upR_a, upR_i, fAdd_id, fMul_id, e73, e75, g35, g36]
                                first | (exfalso; omega) | exact er _ _ (by assumption) _ _ | exact fin _ _ (by assumption) (by omega)
                    · first
                      | (exfalso; omega)
                      | skip
                        refine s245_239.mpr (s245_240.mpr ?_)
                        refine (s245_244 kM (by first | assumption | omega)).mpr ?_
                        refine s245_247.mpr ((s245_248 kM).mpr ?_)
                        rw [mr_31 hR]
                        refine s245_251.mpr (s245_253.mpr (s245_254.mpr (s245_255.mpr (s245_256.mpr (s245_257.mpr ?_)))))
                        try simp (disch := first | decide | assumption | omega) only [kon, knt_some, knt_none, Option.toList_some, Option.toList_none, List.cons_append, List.nil_append, upI_eq, upI_a, upI_i, upR_eq, upR_a, upR_i, fAdd_id, fMul_id, e73, e75, g35, g36]
                        refine (s245_259 (hA.k (by decide) (by decide) rfl) (by first | assumption | omega) (by first | assumption | omega)).mpr ?_
                        refine s245_260.mpr (s245_263.mpr ?_)
                        try simp (disch := first | decide | assumption | omega) only [kon, knt_some, knt_none, Option.toList_some, Option.toList_none, List.cons_append, List.nil_append, upI_eq, upI_a, upI_i, upR_eq, upR_a, upR_i, fAdd_id, fMul_id, e73, e75, g35, g36]
                        first | (exfalso; omega) | exact er _ _ (by assumption) _ _ | exact fin _ _ (by assumption) (by omega)
      · first
        | (exfalso; omega)
        | skip
          exfalso; omega
    · rintro ls h2 ⟨⟨l4, l5, rfl⟩, hw, g35, g36, a71, a72, a74, a75, a76, a73, hj, hc2⟩
      rw [show ((t.toNat : Nat) : Int) = t by omega] at *
      refine s245_156.mpr (s245_157.mpr ?_)
      refine (s245_158 kM).mpr ?_
      try simp (disch := first | decide | assumption | omega) only [g35]
      refine s245_161.mpr (wif (fun c161 => ?_) (fun c161 => ?_))
      · skip
        exfalso; omega
      · skip
        refine s245_266.mpr (s245_267.mpr ?_)
        exact T268 h2 _ _ h72 hw g36 a71 a72 a73 a74 a76 hj hc2
  refine s245_132.mpr (s245_133.mpr ((s245_134 kM).mpr ?_))
  rw [mr_30 hR]
  refine s245_137.mpr ?_
  refine (s245_138 (hA.k (by decide) (by decide) rfl) (by first | assumption | omega) (by first | assumption | omega)).mpr ?_
  refine s245_139.mpr ?_
  try simp (disch := first | decide | assumption | omega) only [kon, knt_some, knt_none, Option.toList_some, Option.toList_none, List.cons_append, List.nil_append, ht]
  refine (s245_140 kM).mpr ?_
  try simp (disch := first | decide | assumption | omega) only [kon, knt_some, knt_none, Option.toList_some, Option.toList_none, List.cons_append, List.nil_append, ht]
  refine s245_143.mpr (wif (fun c143 => ?_) (fun c143 => ?_))
  · first
    | (exfalso; omega)
    | skip
      refine s245_146.mpr (s245_147.mpr ?_)
      refine (s245_151 (by omega) kM).mpr ?_
      refine m_wants hA (by omega) h36 (by omega) (fun y151 => ?_) (fun y151 => ?_)
      · skip
        refine s245_154.mpr (s245_155.mpr ?_)
        first | (exfalso; omega) | exact T156 (by omega) | exact T156f _ _ _ ⟨_, eY, fun hJ => by have h9 : hi 72 p = hi 49 35 := hJ.1; omega⟩ (by repeat' (first | assumption | exact FW.rf | refine FW.up ?_ (by unfold wFl; omega))) (by (try simp (disch := decide) only [upI_eq, upI_a, upI_i, upR_eq, upR_a, upR_i])) _
      · skip
        refine s245_154.mpr (s245_155.mpr ?_)
        first | (exfalso; omega) | exact T156 (by omega) | exact T156f _ _ _ ⟨_, eY, fun hJ => by have h9 : hi 72 p = hi 49 35 := hJ.1; omega⟩ (by repeat' (first | assumption | exact FW.rf | refine FW.up ?_ (by unfold wFl; omega))) (by (try simp (disch := decide) only [upI_eq, upI_a, upI_i, upR_eq, upR_a, upR_i])) _
  · first
    | (exfalso; omega)
    | skip
      refine s245_150.mpr ?_
      refine (s245_151 (by omega) kM).mpr ?_
      refine m_wants hA (by omega) h36 (by omega) (fun y151 => ?_) (fun y151 => ?_)
      · skip
        refine s245_154.mpr (s245_155.mpr ?_)
        first | (exfalso; omega) | exact T156 (by omega) | exact T156f _ _ _ ⟨_, eY, fun hJ => by have h9 : hi 72 p = hi 49 35 := hJ.1; omega⟩ (by repeat' (first | assumption | exact FW.rf | refine FW.up ?_ (by unfold wFl; omega))) (by (try simp (disch := decide) only [upI_eq, upI_a, upI_i, upR_eq, upR_a, upR_i])) _
      · skip
        refine s245_154.mpr (s245_155.mpr ?_)
        first | (exfalso; omega) | exact T156 (by omega) | exact T156f _ _ _ ⟨_, eY, fun hJ => by have h9 : hi 72 p = hi 49 35 := hJ.1; omega⟩ (by repeat' (first | assumption | exact FW.rf | refine FW.up ?_ (by unfold wFl; omega))) (by (try simp (disch := decide) only [upI_eq, upI_a, upI_i, upR_eq, upR_a, upR_i])) _
end MF
