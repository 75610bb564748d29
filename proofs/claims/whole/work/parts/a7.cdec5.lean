section CD5
variable {d : Nat} {al : AL} {hi : HI} {hr : HR} {Q : QQ} {B : Int → Int} {N : Nat} {n nm : Int} {t : Nat}
theorem DC.ub {i x : Int} (h : DC al hi hr N n B nm) (hK : isK al (t + 2) 16) : DC al (upI hi (t + 2) i x) hr N n B nm := by
  obtain ⟨hA, a2, a3, a4, a5, a6, a7, a8, a9⟩ := h
  have n5 : t + 2 ≠ 5 := isK_ne hK (hA.k (c := 4) (by decide) (by decide) rfl) (by decide)
  have n6 : t + 2 ≠ 6 := isK_ne hK (hA.k (c := 2) (by decide) (by decide) rfl) (by decide)
  have n7 : t + 2 ≠ N + 1 := isK_ne hK a6.2.1.2.1 (by decide)
  have n8 : t + 2 ≠ N + 6 := isK_ne hK a6.2.2.2.2.2.2.2 (by decide)
  exact ⟨hA, a2, (upI_a n5.symm).trans a3, a4, a5.up n8 (fun e => absurd e n6), a6, a7, fun r r0 r1 => by rw [upI_a n7.symm]; exact a8 r r0 r1, a9⟩
theorem NF.ub {i x : Int} (h : NF al hi hr N B) (hM : MS al hr N) (hK : isK al (t + 2) 16) : NF al (upI hi (t + 2) i x) hr N B := by
  obtain ⟨a1, a2, a3, a4, a5, a6⟩ := h
  have n6 : t + 2 ≠ N := isK_ne hK hM.1 (by decide)
  have n7 : t + 2 ≠ N + 1 := isK_ne hK hM.2.1.2.1 (by decide)
  have n8 : t + 2 ≠ N + 2 := isK_ne hK hM.2.2.1.2.1 (by decide)
  refine ⟨(upI_a n6.symm).trans a1, (upI_a n6.symm).trans a2, (upI_a n6.symm).trans a3, fun r r0 r1 => ?_, fun c c0 c1 => ?_, a6⟩
  · obtain ⟨b1, b2⟩ := a4 r r0 r1
    exact ⟨(upI_a n7.symm).trans b1, fun j j0 j1 => (upI_a n8.symm).trans (b2 j j0 j1)⟩
  · obtain ⟨o, b1, b2, b3⟩ := a5 c c0 c1
    exact ⟨o, b1, b2, (upI_a (isK_ne b2 hK (by decide))).trans b3⟩
theorem EF.rf {hb : HI} {q : Int} (h4 : hb 6 4 = 1) (h5 : hb 6 5 = q) (h3 : 0 ≤ hb 6 3) : EF hb hb q := ⟨FW.rf, h4, h5, h3⟩
theorem tgD_ok {c l lim p q : Int} (h : tgD B c l nm lim p = .ok q) : q = p + 1 ∧ p < lim ∧ 0 ≤ B p := by
  unfold tgD at h
  split at h
  · rename_i z; cases h; exact ⟨rfl, z.1, z.2.1⟩
  · cases h
theorem d_walkInstruction {p c l L e : Int} (h : DC al hi hr N n B nm) (hO : OPS al hi) (hF : nm = 1 → NF al hi hr N B) (hT : RtS al hr t) (hd : 5 ≤ d)
    (hp : hi 6 3 = p) (h0 : 0 ≤ p) (hl : hi 6 2 = e) (h4 : hi 6 4 = 0) (hc : hi (t + 1) 5 = c) (hL : hi (t + 1) 3 = L) (L0 : 0 ≤ L ∧ L ≤ 10) (hc0 : 0 ≤ c ∧ c ≤ p) (he : e = c + l) (hl2 : (aln al (t + 2) : Int) = l) (hpe : p < e) (hl9 : l ≤ 240 ∧ c ≤ 3000)
    (hb1 : nm = 1 → hi (t + 2) (p - c) = 1) (hG : nm = 1 → ∀ q, bgA al hi t q ↔ bgn B c l q)
    (hq : kEx (insC nm B e L c l p) (fun p' => Q (some none) al (upI (upI hi (t + 2) (p - c) 1) 6 3 p') hr) (fun q => ∀ hi', EF (upI hi (t + 2) (p - c) 1) hi' q → Q (some none) al hi' hr)) : Ev d 34 [vR (some 5), vR (some N), vR (some (t + 1))] al hi hr Q := by
  have hK := hT.2.2.2
  have h' := h.ub (i := p - c) (x := 1) hK
  obtain ⟨hA, a2, a3, a4, a5, a6, a7, a8, a9⟩ := h
  have k6 : isK al 6 2 := hA.k (by decide) (by decide) rfl
  have k5 : isK al 5 4 := hA.k (by decide) (by decide) rfl
  have kN := a6.1
  have kT := hT.1
  have n6 : t + 2 ≠ 6 := isK_ne hK k6 (by decide)
  have n0 : t + 2 ≠ 0 := by omega
  have nN : t + 2 ≠ N := isK_ne hK kN (by decide)
  have nT : t + 1 ≠ t + 2 := by omega
  have n16 : t + 1 ≠ 6 := isK_ne kT k6 (by decide)
  have hx := a5.tx
  have kF : isF al 0 = true := by unfold isF; rw [hO.1]; rfl
  have kR : isR al 0 = true := by unfold isR; rw [kF]; simp
  have l44 : aln al 0 = 44 := by show (al.2.2 0).2 = 44; rw [hO.1]
  have e44 : fSub ((44 : Nat) : Int) 1 = 43 := rfl
  have eps : fSub p c = p - c := fSub_id (by omega) (by omega)
  generalize hhb : upI hi (t + 2) (p - c) 1 = hb at h' hq
  have hop : ∀ k, 0 ≤ k → k < 44 → hb 0 k = oprC k := fun k k0 k1 => by rw [← hhb, upI_a n0.symm]; exact hO.2 k k0 k1
  have b3 : hb 6 3 = p := by rw [← hhb, upI_a n6.symm]; exact hp
  have b2 : hb 6 2 = e := by rw [← hhb, upI_a n6.symm]; exact hl
  have b4 : hb 6 4 = 0 := by rw [← hhb, upI_a n6.symm]; exact h4
  have g2 : ∀ x : Int, (upI hb 6 3 x) N 2 = hi N 2 := fun x => by rw [upI_a (by omega), ← hhb, upI_a nN.symm]
  have g6 : ∀ x : Int, (upI hb 6 3 x) N 6 = hi N 6 := fun x => by rw [upI_a (by omega), ← hhb, upI_a nN.symm]
  have g8 : ∀ x : Int, (upI hb 6 3 x) N 8 = hi N 8 := fun x => by rw [upI_a (by omega), ← hhb, upI_a nN.symm]
  have gL : ∀ x : Int, (upI hb 6 3 x) (t + 1) 3 = L := fun x => by rw [upI_a n16, ← hhb, upI_a nT]; exact hL
  have r3 : ∀ x : Int, (upI hb 6 3 x) 6 3 = x := fun x => upI_eq
  have r4 : ∀ x : Int, (upI hb 6 3 x) 6 4 = 0 := fun x => (upI_i (by decide)).trans b4
  have r2 : ∀ x : Int, (upI hb 6 3 x) 6 2 = e := fun x => (upI_i (by decide)).trans b2
  have hF' : nm = 1 → NF al hb hr N B := fun z => by rw [← hhb]; exact (hF z).ub a6 hK
  have hG' : nm = 1 → ∀ q, bgA al hb t q ↔ bgn B c l q := fun z q => by rw [← hhb, upI_same (hb1 z)]; exact hG z q
  rw [e34]
  -- the loop of targets, behind a fault
  have T214F : ∀ hi' op (k : Nat), FW (wY 6) hb hi' → hi' 6 4 ≠ 0 → 0 ≤ hi' 6 3 → k ≤ 4 → Q (some none) al hi' hr → Wp d 34 214 [vR (some 5), vR (some N), vR (some (t + 1)), vI op, vI k, vI 0] [] al hi' hr Q := by
    intro hi' op k hf e4 e3 hk4 hz
    have hs := h'.fw hf
    refine wp_cnt (N := k) (fun i ls h2 => ls = [vR (some 5), vR (some N), vR (some (t + 1)), vI op, vI k, vI i] ∧ h2 = hi') ?_ ?_ _ _ ⟨rfl, rfl⟩
    · rintro i ls _ hi4 ⟨rfl, rfl⟩ nx
      refine s34_214.mpr (s34_216.mpr ?_)
      refine s34_218.mpr (wif (fun c218 => ?_) (fun c218 => ?_))
      · first
        | (exfalso; omega)
        | skip
          refine s34_221.mpr (s34_222.mpr ?_)
          refine (s34_223 (by first | decide | assumption | omega) (by first | decide | assumption | omega)).mpr ?_
          refine d_takeTarget (c := c) (l := l) hs hT (fun z q => (bgA_fw n6 hf).trans (hG' z q)) (by omega) e3 (fun _ => ?_) (fun q => absurd q e4)
          refine s34_226.mpr (s34_229.mpr ?_)
          try simp (disch := first | decide | assumption | omega) only [kon, knt_some, knt_none, Option.toList_some, Option.toList_none, List.cons_append, List.nil_append, fAdd_id]
          exact nx _ _ ⟨rfl, rfl⟩
      · first
        | (exfalso; omega)
        | skip
          refine s34_232.mpr ?_
          refine (s34_235).mpr ?_
          exfalso; omega
    · rintro ls _ ⟨rfl, rfl⟩
      refine s34_214.mpr (s34_216.mpr ?_)
      refine s34_218.mpr (wif (fun c218 => ?_) (fun c218 => ?_))
      · first
        | (exfalso; omega)
        | skip
          exfalso; omega
      · first
        | (exfalso; omega)
        | skip
          refine s34_232.mpr ?_
          refine (s34_235).mpr ?_
          exact hz
  have T214 : ∀ op q0 (k : Nat), 0 ≤ q0 → k ≤ 4 → kEx (lpE (tgD B c l nm e) k q0) (fun p' => Q (some none) al (upI hb 6 3 p') hr) (fun q => ∀ hi', EF hb hi' q → Q (some none) al hi' hr) → Wp d 34 214 [vR (some 5), vR (some N), vR (some (t + 1)), vI op, vI k, vI 0] [] al (upI hb 6 3 q0) hr Q := by
    intro op q0 k hq0 hk4 hz
    refine wp_cnt (N := k) (fun i ls h2 => ls = [vR (some 5), vR (some N), vR (some (t + 1)), vI op, vI k, vI i] ∧ LJ (tgD B c l nm e) k q0 hb i h2) ?_ ?_ _ _ ⟨rfl, Or.inl ⟨q0, rfl, rfl, hq0⟩⟩
    · rintro i ls h2 hi4 ⟨rfl, hJ⟩ nx
      have hf := hJ.fw
      have hs := h'.fw hf
      rcases hJ with ⟨p', e1, rfl, p0⟩ | ⟨q, e1, hE⟩
      · skip
        refine s34_214.mpr (s34_216.mpr ?_)
        refine s34_218.mpr (wif (fun c218 => ?_) (fun c218 => ?_))
        · first
          | (exfalso; omega)
          | skip
            refine s34_221.mpr (s34_222.mpr ?_)
            refine (s34_223 (by first | decide | assumption | omega) (by first | decide | assumption | omega)).mpr ?_
            refine d_takeTarget (c := c) (l := l) hs hT (fun z q => (bgA_fw n6 hf).trans (hG' z q)) (by omega) (by rw [r3]; exact p0) (fun q => absurd (r4 _) q) (fun _ => ?_)
            rw [r3, r2]
            refine kEx_of (fun qE eE => ?_) (fun qE eE => ?_)
            rotate_left
            intro hE vE
            · skip
              refine s34_226.mpr (s34_229.mpr ?_)
              try simp (disch := first | decide | assumption | omega) only [kon, knt_some, knt_none, Option.toList_some, Option.toList_none, List.cons_append, List.nil_append, fAdd_id]
              first
              | exact nx _ _ ⟨rfl, Or.inr ⟨qE, lpE_err (by omega) e1 eE, vE.up⟩⟩
              | exact nx _ _ ⟨rfl, Or.inl ⟨qE, by rw [lpE_s, e1]; exact eE, by rw [upI_up], by have := tgD_ok eE; omega⟩⟩
            · skip
              refine s34_226.mpr (s34_229.mpr ?_)
              try simp (disch := first | decide | assumption | omega) only [kon, knt_some, knt_none, Option.toList_some, Option.toList_none, List.cons_append, List.nil_append, fAdd_id]
              first
              | exact nx _ _ ⟨rfl, Or.inr ⟨qE, lpE_err (by omega) e1 eE, vE.up⟩⟩
              | exact nx _ _ ⟨rfl, Or.inl ⟨qE, by rw [lpE_s, e1]; exact eE, by rw [upI_up], by have := tgD_ok eE; omega⟩⟩
        · first
          | (exfalso; omega)
          | skip
            refine s34_232.mpr ?_
            refine (s34_235).mpr ?_
            exfalso; omega
      · have e4 : h2 6 4 ≠ 0 := by rw [hE.2.1]; decide
        refine s34_214.mpr (s34_216.mpr ?_)
        refine s34_218.mpr (wif (fun c218 => ?_) (fun c218 => ?_))
        · first
          | (exfalso; omega)
          | skip
            refine s34_221.mpr (s34_222.mpr ?_)
            refine (s34_223 (by first | decide | assumption | omega) (by first | decide | assumption | omega)).mpr ?_
            refine d_takeTarget (c := c) (l := l) hs hT (fun z q => (bgA_fw n6 hf).trans (hG' z q)) (by omega) hE.2.2.2 (fun _ => ?_) (fun q => absurd q e4)
            refine s34_226.mpr (s34_229.mpr ?_)
            try simp (disch := first | decide | assumption | omega) only [kon, knt_some, knt_none, Option.toList_some, Option.toList_none, List.cons_append, List.nil_append, fAdd_id]
            exact nx _ _ ⟨rfl, Or.inr ⟨q, e1, hE⟩⟩
        · first
          | (exfalso; omega)
          | skip
            refine s34_232.mpr ?_
            refine (s34_235).mpr ?_
            exfalso; omega
    · rintro ls h2 ⟨rfl, hJ⟩
      refine s34_214.mpr (s34_216.mpr ?_)
      refine s34_218.mpr (wif (fun c218 => ?_) (fun c218 => ?_))
      · first
        | (exfalso; omega)
        | skip
          exfalso; omega
      · first
        | (exfalso; omega)
        | skip
          refine s34_232.mpr ?_
          refine (s34_235).mpr ?_
          exact LJ.en (P := fun h => Q (some none) al h hr) hJ hz
  have T36F : ∀ hi' x y, FW (wY 6) hb hi' → hi' 6 4 ≠ 0 → 0 ≤ hi' 6 3 → Q (some none) al hi' hr → Wp d 34 36 [vR (some 5), vR (some N), vR (some (t + 1)), vI x, none, none] [vI y] al hi' hr Q := by
    intro hi' x y hf e4 e3 hz
    have hs := h'.fw hf
    have hFF : nm = 1 → NF al hi' hr N B := fun z => (hF' z).fw hA a7 hf
    have c36 : True := trivial
    refine g34_36 (fun c36 => ?_) (fun c36 => ?_) (fun c36 => ?_) (fun c36 => ?_) (fun c36 => ?_) (fun c36 => ?_) (fun c36 => ?_) (fun c36 => ?_) (fun c36 => ?_) (fun c36 => ?_) (fun c36 => ?_)
    · skip
      have c36 := List.mem_singleton.mp c36
      refine s34_92.mpr ?_
      refine (s34_93 (by first | decide | assumption | omega)).mpr ?_
      try simp (disch := first | decide | assumption | omega) only [kon, knt_some, knt_none, Option.toList_some, Option.toList_none, List.cons_append, List.nil_append, a2]
      refine (s34_96 (by first | decide | assumption | omega) (by first | decide | assumption | omega)).mpr ?_
      refine b_takeWord hs.2.2.2.2.1 (by omega) rfl e3 (fun _ x9 => ?_) (fun q => absurd q e4)
      refine s34_99.mpr (s34_100.mpr ?_)
      refine (s34_235).mpr ?_
      exact hz
    · skip
      have c36 := List.mem_singleton.mp c36
      refine s34_103.mpr ?_
      refine (s34_104 (by first | decide | assumption | omega)).mpr ?_
      refine s34_107.mpr (s34_108.mpr ?_)
      try simp (disch := first | decide | assumption | omega) only [kon, knt_some, knt_none, Option.toList_some, Option.toList_none, List.cons_append, List.nil_append, a2]
      refine (s34_109 (by first | decide | assumption | omega)).mpr ?_
      refine s34_112.mpr (s34_113.mpr ?_)
      try simp (disch := first | decide | assumption | omega) only [kon, knt_some, knt_none, Option.toList_some, Option.toList_none, List.cons_append, List.nil_append, a2]
      refine (s34_114 (by first | decide | assumption | omega) (by first | decide | assumption | omega)).mpr ?_
      refine b_within hs.2.2.2.2.1 (by omega) e3 (fun _ x114 y114 => ?_) (fun q => absurd q e4)
      refine s34_117.mpr (s34_118.mpr ?_)
      refine (s34_235).mpr ?_
      exact hz
    · skip
      have c36 := List.mem_singleton.mp c36
      refine s34_121.mpr (s34_122.mpr ?_)
      refine (s34_123 (by first | decide | assumption | omega) (by first | decide | assumption | omega)).mpr ?_
      refine d_takeTarget (c := c) (l := l) hs hT (fun z q => (bgA_fw n6 hf).trans (hG' z q)) (by omega) e3 (fun _ => ?_) (fun q => absurd q e4)
      refine s34_126.mpr ?_
      refine (s34_235).mpr ?_
      exact hz
    · skip
      have c36 := List.mem_singleton.mp c36
      refine s34_129.mpr (s34_130.mpr ?_)
      refine (s34_131 (by first | decide | assumption | omega)).mpr ?_
      try simp (disch := first | decide | assumption | omega) only [kon, knt_some, knt_none, Option.toList_some, Option.toList_none, List.cons_append, List.nil_append, a2]
      refine (s34_134 (by first | decide | assumption | omega) (by first | decide | assumption | omega)).mpr ?_
      refine d_takeName hs (by omega) e3 (fun _ x134 _ _ => ?_) (fun q => absurd q e4)
      refine s34_137.mpr (s34_138.mpr ?_)
      refine (s34_235).mpr ?_
      exact hz
    · skip
      have c36 := List.mem_singleton.mp c36
      refine s34_141.mpr ?_
      refine (s34_142 (by first | decide | assumption | omega)).mpr ?_
      refine s34_145.mpr (s34_146.mpr ?_)
      try simp (disch := first | decide | assumption | omega) only [kon, knt_some, knt_none, Option.toList_some, Option.toList_none, List.cons_append, List.nil_append, a2]
      refine (s34_147 (by first | decide | assumption | omega) (by first | decide | assumption | omega)).mpr ?_
      refine b_within hs.2.2.2.2.1 (by omega) e3 (fun _ x147 y147 => ?_) (fun q => absurd q e4)
      refine s34_150.mpr (s34_151.mpr ?_)
      refine (s34_235).mpr ?_
      exact hz
    · skip
      have c36 := List.mem_singleton.mp c36
      refine s34_154.mpr (s34_155.mpr ?_)
      refine (s34_156 (by first | decide | assumption | omega)).mpr ?_
      try simp (disch := first | decide | assumption | omega) only [kon, knt_some, knt_none, Option.toList_some, Option.toList_none, List.cons_append, List.nil_append, a2]
      refine (s34_159 (by first | decide | assumption | omega) (by first | decide | assumption | omega)).mpr ?_
      refine d_takeName hs (by omega) e3 (fun _ x159 _ _ => ?_) (fun q => absurd q e4)
      refine s34_162.mpr (s34_163.mpr ?_)
      refine (s34_235).mpr ?_
      exact hz
    · skip
      have c36 := List.mem_singleton.mp c36
      refine s34_166.mpr (s34_167.mpr ?_)
      refine (s34_168 (by first | decide | assumption | omega) (by first | decide | assumption | omega)).mpr ?_
      refine d_takeBlockRecord hs hFF (by omega) e3 (fun _ x168 _ _ => ?_) (fun q => absurd q e4)
      refine s34_171.mpr (s34_172.mpr ?_)
      refine (s34_235).mpr ?_
      exact hz
    · skip
      have c36 := List.mem_singleton.mp c36
      refine s34_175.mpr (s34_176.mpr ?_)
      refine (s34_177 (by first | decide | assumption | omega)).mpr ?_
      try simp (disch := first | decide | assumption | omega) only [kon, knt_some, knt_none, Option.toList_some, Option.toList_none, List.cons_append, List.nil_append, a2]
      refine (s34_180 (by first | decide | assumption | omega) (by first | decide | assumption | omega)).mpr ?_
      refine d_takeName hs (by omega) e3 (fun _ x180 _ _ => ?_) (fun q => absurd q e4)
      refine s34_183.mpr (s34_184.mpr ?_)
      refine (s34_235).mpr ?_
      exact hz
    · skip
      have c36 := List.mem_singleton.mp c36
      refine s34_187.mpr ?_
      refine (s34_188 (by first | decide | assumption | omega)).mpr ?_
      refine s34_191.mpr (s34_192.mpr ?_)
      try simp (disch := first | decide | assumption | omega) only [kon, knt_some, knt_none, Option.toList_some, Option.toList_none, List.cons_append, List.nil_append, a2]
      refine (s34_193 (by first | decide | assumption | omega) (by first | decide | assumption | omega)).mpr ?_
      refine b_within hs.2.2.2.2.1 (by omega) e3 (fun _ x193 y193 => ?_) (fun q => absurd q e4)
      refine s34_196.mpr (s34_197.mpr ?_)
      refine (s34_235).mpr ?_
      exact hz
    · skip
      have c36 := List.mem_singleton.mp c36
      refine s34_200.mpr ?_
      refine (s34_201 (by first | decide | assumption | omega)).mpr ?_
      refine s34_204.mpr (s34_205.mpr ?_)
      try simp (disch := first | decide | assumption | omega) only [kon, knt_some, knt_none, Option.toList_some, Option.toList_none, List.cons_append, List.nil_append, a2]
      refine (s34_206 (by first | decide | assumption | omega) (by first | decide | assumption | omega)).mpr ?_
      refine b_within hs.2.2.2.2.1 (by omega) e3 (fun _ x206 y206 => ?_) (fun q => absurd q e4)
      refine s34_209.mpr (s34_211.mpr (s34_212.mpr ?_))
      skip
      have yE := y206 (by decide)
      rw [show x206 = ((x206.toNat : Nat) : Int) by omega]
      exact T214F hi' _ _ hf e4 e3 (by omega) hz
    · skip
      refine (s34_235).mpr ?_
      exact hz
  have hs1 := h'.u3 (p := p + 1)
  have hF1 : nm = 1 → NF al (upI hb 6 3 (p + 1)) hr N B := fun z => (hF' z).u3 hA a7
  have hf1 : FW (wY 6) hb (upI hb 6 3 (p + 1)) := FW.up FW.rf ⟨rfl, by omega⟩
  -- behind the first byte
  have T36 : prL B e 0 43 p = .ok (p + 1) → Wp d 34 36 [vR (some 5), vR (some N), vR (some (t + 1)), vI (B p), none, none] [vI (oprC (B p))] al (upI hb 6 3 (p + 1)) hr Q := by
    intro e27
    unfold insC at hq
    rw [e27, bnd_ok] at hq
    have I92 : oprC (B p) = 1 → kEx (lpE (prL B e 0 255) 4 (p + 1)) (fun p' => Q (some none) al (upI hb 6 3 p') hr) (fun q => ∀ hi', EF hb hi' q → Q (some none) al hi' hr) := fun z => by rw [if_pos z] at hq; exact hq
    have I114 : oprC (B p) = 2 → kEx (prL B e 0 (L - 1) (p + 1)) (fun p' => Q (some none) al (upI hb 6 3 p') hr) (fun q => ∀ hi', EF hb hi' q → Q (some none) al hi' hr) := fun z => by rw [if_neg (by omega), if_pos z] at hq; exact hq
    have I123 : oprC (B p) = 3 → kEx (tgD B c l nm e (p + 1)) (fun p' => Q (some none) al (upI hb 6 3 p') hr) (fun q => ∀ hi', EF hb hi' q → Q (some none) al hi' hr) := fun z => by rw [if_neg (by omega), if_neg (by omega), if_pos z] at hq; exact hq
    have I134 : oprC (B p) = 4 → kEx (naD B nm e (hi N 2) (p + 1)) (fun p' => Q (some none) al (upI hb 6 3 p') hr) (fun q => ∀ hi', EF hb hi' q → Q (some none) al hi' hr) := fun z => by rw [if_neg (by omega), if_neg (by omega), if_neg (by omega), if_pos z] at hq; rw [naD_c (fun y => (hF y).1)]; exact hq
    have I147 : oprC (B p) = 5 → kEx (prL B e 0 5 (p + 1)) (fun p' => Q (some none) al (upI hb 6 3 p') hr) (fun q => ∀ hi', EF hb hi' q → Q (some none) al hi' hr) := fun z => by rw [if_neg (by omega), if_neg (by omega), if_neg (by omega), if_neg (by omega), if_pos z] at hq; exact hq
    have I159 : oprC (B p) = 6 → kEx (naD B nm e (hi N 8) (p + 1)) (fun p' => Q (some none) al (upI hb 6 3 p') hr) (fun q => ∀ hi', EF hb hi' q → Q (some none) al hi' hr) := fun z => by rw [if_neg (by omega), if_neg (by omega), if_neg (by omega), if_neg (by omega), if_neg (by omega), if_pos z] at hq; rw [naD_c (fun y => (hF y).2.2.1)]; exact hq
    have I168 : oprC (B p) = 7 → kEx (blD B nm e (p + 1)) (fun p' => Q (some none) al (upI hb 6 3 p') hr) (fun q => ∀ hi', EF hb hi' q → Q (some none) al hi' hr) := fun z => by rw [if_neg (by omega), if_neg (by omega), if_neg (by omega), if_neg (by omega), if_neg (by omega), if_neg (by omega), if_pos z] at hq; exact hq
    have I180 : oprC (B p) = 8 → kEx (naD B nm e (hi N 6) (p + 1)) (fun p' => Q (some none) al (upI hb 6 3 p') hr) (fun q => ∀ hi', EF hb hi' q → Q (some none) al hi' hr) := fun z => by rw [if_neg (by omega), if_neg (by omega), if_neg (by omega), if_neg (by omega), if_neg (by omega), if_neg (by omega), if_neg (by omega), if_pos z] at hq; rw [naD_c (fun y => (hF y).2.1)]; exact hq
    have I193 : oprC (B p) = 9 → kEx (prL B e 0 3 (p + 1)) (fun p' => Q (some none) al (upI hb 6 3 p') hr) (fun q => ∀ hi', EF hb hi' q → Q (some none) al hi' hr) := fun z => by rw [if_neg (by omega), if_neg (by omega), if_neg (by omega), if_neg (by omega), if_neg (by omega), if_neg (by omega), if_neg (by omega), if_neg (by omega), if_pos z] at hq; exact hq
    have I206 : oprC (B p) = 10 → kEx ((prL B e 1 4 (p + 1)).bind (lpE (tgD B c l nm e) (B (p + 1)).toNat)) (fun p' => Q (some none) al (upI hb 6 3 p') hr) (fun q => ∀ hi', EF hb hi' q → Q (some none) al hi' hr) := fun z => by rw [if_neg (by omega), if_neg (by omega), if_neg (by omega), if_neg (by omega), if_neg (by omega), if_neg (by omega), if_neg (by omega), if_neg (by omega), if_neg (by omega), if_pos z] at hq; exact hq
    have eL : fSub L 1 = L - 1 := fSub_id (by omega) (by omega)
    have T200 : oprC (B p) = 10 → Wp d 34 200 [vR (some 5), vR (some N), vR (some (t + 1)), vI (B p), none, none] [] al (upI hb 6 3 (p + 1)) hr Q := by
      intro z
      have hq := I206 z
      refine s34_200.mpr ?_
      refine (s34_201 (by first | decide | assumption | omega)).mpr ?_
      refine s34_204.mpr (s34_205.mpr ?_)
      try simp (disch := first | decide | assumption | omega) only [kon, knt_some, knt_none, Option.toList_some, Option.toList_none, List.cons_append, List.nil_append, a2]
      refine (s34_206 (by first | decide | assumption | omega) (by first | decide | assumption | omega)).mpr ?_
      refine b_within hs1.2.2.2.2.1 (by omega) (by rw [r3]; omega) (fun q => absurd (r4 _) q) (fun _ => ?_)
      rw [r3, r2]
      refine kEx_of (fun qE eE => ?_) (fun qE eE => ?_)
      rotate_left
      intro xE hE yE zE vE sE tE
      · skip
        refine s34_209.mpr (s34_211.mpr (s34_212.mpr ?_))
        first
        | (have hEF : EF hb hE qE := ⟨hf1.tr zE, vE, sE, tE⟩
           rw [eE, bnd_er, kEx_er] at hq
           have yE := yE (by decide)
           rw [show xE = ((xE.toNat : Nat) : Int) by omega]
           exact T214F hE _ _ hEF.1 (by rw [vE]; decide) tE (by omega) (hq _ hEF))
        | (obtain ⟨rfl, u1, u2, u3, u4⟩ := prL_ok eE
           rw [eE, bnd_ok] at hq
           rw [upI_up, show vI (B (p + 1)) = vI (((B (p + 1)).toNat : Nat) : Int) by congr 1; omega]
           exact T214 _ _ _ (by omega) (by omega) hq)
      · skip
        refine s34_209.mpr (s34_211.mpr (s34_212.mpr ?_))
        first
        | (have hEF : EF hb hE qE := ⟨hf1.tr zE, vE, sE, tE⟩
           rw [eE, bnd_er, kEx_er] at hq
           have yE := yE (by decide)
           rw [show xE = ((xE.toNat : Nat) : Int) by omega]
           exact T214F hE _ _ hEF.1 (by rw [vE]; decide) tE (by omega) (hq _ hEF))
        | (obtain ⟨rfl, u1, u2, u3, u4⟩ := prL_ok eE
           rw [eE, bnd_ok] at hq
           rw [upI_up, show vI (B (p + 1)) = vI (((B (p + 1)).toNat : Nat) : Int) by congr 1; omega]
           exact T214 _ _ _ (by omega) (by omega) hq)
    have c36 : True := trivial
    refine g34_36 (fun c36 => ?_) (fun c36 => ?_) (fun c36 => ?_) (fun c36 => ?_) (fun c36 => ?_) (fun c36 => ?_) (fun c36 => ?_) (fun c36 => ?_) (fun c36 => ?_) (fun c36 => ?_) (fun c36 => ?_)
    · skip
      have c36 := List.mem_singleton.mp c36
      refine s34_92.mpr ?_
      refine (s34_93 (by first | decide | assumption | omega)).mpr ?_
      try simp (disch := first | decide | assumption | omega) only [kon, knt_some, knt_none, Option.toList_some, Option.toList_none, List.cons_append, List.nil_append, a2, g2, g6, g8, gL, eL]
      refine (s34_96 (by first | decide | assumption | omega) (by first | decide | assumption | omega)).mpr ?_
      refine b_takeWord hs1.2.2.2.2.1 (by omega) (r3 _) (by omega) (fun q => absurd (r4 _) q) (fun _ => ?_)
      rw [r2]
      have hq := I92 c36
      refine kEx_of (fun qE eE => ?_) (fun qE eE => ?_)
      rotate_left
      intro hE vE xE
      rotate_left
      intro xE
      rotate_left
      · skip
        refine s34_99.mpr (s34_100.mpr ?_)
        refine (s34_235).mpr ?_
        first
        | (rw [eE, kEx_er] at hq; exact hq _ vE.up)
        | (rw [eE, kEx_ok] at hq; rw [upI_up]; exact hq)
        | (simp only [List.mem_cons, List.not_mem_nil, or_false, not_or] at c36
           rw [if_neg (by omega), if_neg (by omega), if_neg (by omega), if_neg (by omega), if_neg (by omega), if_neg (by omega), if_neg (by omega), if_neg (by omega), if_neg (by omega), if_neg (by omega)] at hq
           exact hq)
      · skip
        refine s34_99.mpr (s34_100.mpr ?_)
        refine (s34_235).mpr ?_
        first
        | (rw [eE, kEx_er] at hq; exact hq _ vE.up)
        | (rw [eE, kEx_ok] at hq; rw [upI_up]; exact hq)
        | (simp only [List.mem_cons, List.not_mem_nil, or_false, not_or] at c36
           rw [if_neg (by omega), if_neg (by omega), if_neg (by omega), if_neg (by omega), if_neg (by omega), if_neg (by omega), if_neg (by omega), if_neg (by omega), if_neg (by omega), if_neg (by omega)] at hq
           exact hq)
    · skip
      have c36 := List.mem_singleton.mp c36
      refine s34_103.mpr ?_
      refine (s34_104 (by first | decide | assumption | omega)).mpr ?_
      refine s34_107.mpr (s34_108.mpr ?_)
      try simp (disch := first | decide | assumption | omega) only [kon, knt_some, knt_none, Option.toList_some, Option.toList_none, List.cons_append, List.nil_append, a2, g2, g6, g8, gL, eL]
      refine (s34_109 (by first | decide | assumption | omega)).mpr ?_
      refine s34_112.mpr (s34_113.mpr ?_)
      try simp (disch := first | decide | assumption | omega) only [kon, knt_some, knt_none, Option.toList_some, Option.toList_none, List.cons_append, List.nil_append, a2, g2, g6, g8, gL, eL]
      refine (s34_114 (by first | decide | assumption | omega) (by first | decide | assumption | omega)).mpr ?_
      refine b_within hs1.2.2.2.2.1 (by omega) (by rw [r3]; omega) (fun q => absurd (r4 _) q) (fun _ => ?_)
      rw [r3, r2]
      have hq := I114 c36
      refine kEx_of (fun qE eE => ?_) (fun qE eE => ?_)
      rotate_left
      intro xE hE yE zE v1 v2 v3
      have vE : EF (upI hb 6 3 (p + 1)) hE qE := ⟨zE, v1, v2, v3⟩
      rotate_left
      rotate_left
      · skip
        refine s34_117.mpr (s34_118.mpr ?_)
        refine (s34_235).mpr ?_
        first
        | (rw [eE, kEx_er] at hq; exact hq _ vE.up)
        | (rw [eE, kEx_ok] at hq; rw [upI_up]; exact hq)
        | (simp only [List.mem_cons, List.not_mem_nil, or_false, not_or] at c36
           rw [if_neg (by omega), if_neg (by omega), if_neg (by omega), if_neg (by omega), if_neg (by omega), if_neg (by omega), if_neg (by omega), if_neg (by omega), if_neg (by omega), if_neg (by omega)] at hq
           exact hq)
      · skip
        refine s34_117.mpr (s34_118.mpr ?_)
        refine (s34_235).mpr ?_
        first
        | (rw [eE, kEx_er] at hq; exact hq _ vE.up)
        | (rw [eE, kEx_ok] at hq; rw [upI_up]; exact hq)
        | (simp only [List.mem_cons, List.not_mem_nil, or_false, not_or] at c36
           rw [if_neg (by omega), if_neg (by omega), if_neg (by omega), if_neg (by omega), if_neg (by omega), if_neg (by omega), if_neg (by omega), if_neg (by omega), if_neg (by omega), if_neg (by omega)] at hq
           exact hq)
    · skip
      have c36 := List.mem_singleton.mp c36
      refine s34_121.mpr (s34_122.mpr ?_)
      refine (s34_123 (by first | decide | assumption | omega) (by first | decide | assumption | omega)).mpr ?_
      refine d_takeTarget (c := c) (l := l) hs1 hT (fun z q => (bgA_fw n6 hf1).trans (hG' z q)) (by omega) (by rw [r3]; omega) (fun q => absurd (r4 _) q) (fun _ => ?_)
      rw [r3, r2]
      have hq := I123 c36
      refine kEx_of (fun qE eE => ?_) (fun qE eE => ?_)
      rotate_left
      intro hE vE
      · skip
        refine s34_126.mpr ?_
        refine (s34_235).mpr ?_
        first
        | (rw [eE, kEx_er] at hq; exact hq _ vE.up)
        | (rw [eE, kEx_ok] at hq; rw [upI_up]; exact hq)
        | (simp only [List.mem_cons, List.not_mem_nil, or_false, not_or] at c36
           rw [if_neg (by omega), if_neg (by omega), if_neg (by omega), if_neg (by omega), if_neg (by omega), if_neg (by omega), if_neg (by omega), if_neg (by omega), if_neg (by omega), if_neg (by omega)] at hq
           exact hq)
      · skip
        refine s34_126.mpr ?_
        refine (s34_235).mpr ?_
        first
        | (rw [eE, kEx_er] at hq; exact hq _ vE.up)
        | (rw [eE, kEx_ok] at hq; rw [upI_up]; exact hq)
        | (simp only [List.mem_cons, List.not_mem_nil, or_false, not_or] at c36
           rw [if_neg (by omega), if_neg (by omega), if_neg (by omega), if_neg (by omega), if_neg (by omega), if_neg (by omega), if_neg (by omega), if_neg (by omega), if_neg (by omega), if_neg (by omega)] at hq
           exact hq)
    · skip
      have c36 := List.mem_singleton.mp c36
      refine s34_129.mpr (s34_130.mpr ?_)
      refine (s34_131 (by first | decide | assumption | omega)).mpr ?_
      try simp (disch := first | decide | assumption | omega) only [kon, knt_some, knt_none, Option.toList_some, Option.toList_none, List.cons_append, List.nil_append, a2, g2, g6, g8, gL, eL]
      refine (s34_134 (by first | decide | assumption | omega) (by first | decide | assumption | omega)).mpr ?_
      refine d_takeName hs1 (by omega) (by rw [r3]; omega) (fun q => absurd (r4 _) q) (fun _ => ?_)
      rw [r3, r2]
      have hq := I134 c36
      refine kEx_of (fun qE eE => ?_) (fun qE eE => ?_)
      rotate_left
      intro xE hE yE zE vE
      · skip
        refine s34_137.mpr (s34_138.mpr ?_)
        refine (s34_235).mpr ?_
        first
        | (rw [eE, kEx_er] at hq; exact hq _ vE.up)
        | (rw [eE, kEx_ok] at hq; rw [upI_up]; exact hq)
        | (simp only [List.mem_cons, List.not_mem_nil, or_false, not_or] at c36
           rw [if_neg (by omega), if_neg (by omega), if_neg (by omega), if_neg (by omega), if_neg (by omega), if_neg (by omega), if_neg (by omega), if_neg (by omega), if_neg (by omega), if_neg (by omega)] at hq
           exact hq)
      · skip
        refine s34_137.mpr (s34_138.mpr ?_)
        refine (s34_235).mpr ?_
        first
        | (rw [eE, kEx_er] at hq; exact hq _ vE.up)
        | (rw [eE, kEx_ok] at hq; rw [upI_up]; exact hq)
        | (simp only [List.mem_cons, List.not_mem_nil, or_false, not_or] at c36
           rw [if_neg (by omega), if_neg (by omega), if_neg (by omega), if_neg (by omega), if_neg (by omega), if_neg (by omega), if_neg (by omega), if_neg (by omega), if_neg (by omega), if_neg (by omega)] at hq
           exact hq)
    · skip
      have c36 := List.mem_singleton.mp c36
      refine s34_141.mpr ?_
      refine (s34_142 (by first | decide | assumption | omega)).mpr ?_
      refine s34_145.mpr (s34_146.mpr ?_)
      try simp (disch := first | decide | assumption | omega) only [kon, knt_some, knt_none, Option.toList_some, Option.toList_none, List.cons_append, List.nil_append, a2, g2, g6, g8, gL, eL]
      refine (s34_147 (by first | decide | assumption | omega) (by first | decide | assumption | omega)).mpr ?_
      refine b_within hs1.2.2.2.2.1 (by omega) (by rw [r3]; omega) (fun q => absurd (r4 _) q) (fun _ => ?_)
      rw [r3, r2]
      have hq := I147 c36
      refine kEx_of (fun qE eE => ?_) (fun qE eE => ?_)
      rotate_left
      intro xE hE yE zE v1 v2 v3
      have vE : EF (upI hb 6 3 (p + 1)) hE qE := ⟨zE, v1, v2, v3⟩
      rotate_left
      rotate_left
      · skip
        refine s34_150.mpr (s34_151.mpr ?_)
        refine (s34_235).mpr ?_
        first
        | (rw [eE, kEx_er] at hq; exact hq _ vE.up)
        | (rw [eE, kEx_ok] at hq; rw [upI_up]; exact hq)
        | (simp only [List.mem_cons, List.not_mem_nil, or_false, not_or] at c36
           rw [if_neg (by omega), if_neg (by omega), if_neg (by omega), if_neg (by omega), if_neg (by omega), if_neg (by omega), if_neg (by omega), if_neg (by omega), if_neg (by omega), if_neg (by omega)] at hq
           exact hq)
      · skip
        refine s34_150.mpr (s34_151.mpr ?_)
        refine (s34_235).mpr ?_
        first
        | (rw [eE, kEx_er] at hq; exact hq _ vE.up)
        | (rw [eE, kEx_ok] at hq; rw [upI_up]; exact hq)
        | (simp only [List.mem_cons, List.not_mem_nil, or_false, not_or] at c36
           rw [if_neg (by omega), if_neg (by omega), if_neg (by omega), if_neg (by omega), if_neg (by omega), if_neg (by omega), if_neg (by omega), if_neg (by omega), if_neg (by omega), if_neg (by omega)] at hq
           exact hq)
    · skip
      have c36 := List.mem_singleton.mp c36
      refine s34_154.mpr (s34_155.mpr ?_)
      refine (s34_156 (by first | decide | assumption | omega)).mpr ?_
      try simp (disch := first | decide | assumption | omega) only [kon, knt_some, knt_none, Option.toList_some, Option.toList_none, List.cons_append, List.nil_append, a2, g2, g6, g8, gL, eL]
      refine (s34_159 (by first | decide | assumption | omega) (by first | decide | assumption | omega)).mpr ?_
      refine d_takeName hs1 (by omega) (by rw [r3]; omega) (fun q => absurd (r4 _) q) (fun _ => ?_)
      rw [r3, r2]
      have hq := I159 c36
      refine kEx_of (fun qE eE => ?_) (fun qE eE => ?_)
      rotate_left
      intro xE hE yE zE vE
      · skip
        refine s34_162.mpr (s34_163.mpr ?_)
        refine (s34_235).mpr ?_
        first
        | (rw [eE, kEx_er] at hq; exact hq _ vE.up)
        | (rw [eE, kEx_ok] at hq; rw [upI_up]; exact hq)
        | (simp only [List.mem_cons, List.not_mem_nil, or_false, not_or] at c36
           rw [if_neg (by omega), if_neg (by omega), if_neg (by omega), if_neg (by omega), if_neg (by omega), if_neg (by omega), if_neg (by omega), if_neg (by omega), if_neg (by omega), if_neg (by omega)] at hq
           exact hq)
      · skip
        refine s34_162.mpr (s34_163.mpr ?_)
        refine (s34_235).mpr ?_
        first
        | (rw [eE, kEx_er] at hq; exact hq _ vE.up)
        | (rw [eE, kEx_ok] at hq; rw [upI_up]; exact hq)
        | (simp only [List.mem_cons, List.not_mem_nil, or_false, not_or] at c36
           rw [if_neg (by omega), if_neg (by omega), if_neg (by omega), if_neg (by omega), if_neg (by omega), if_neg (by omega), if_neg (by omega), if_neg (by omega), if_neg (by omega), if_neg (by omega)] at hq
           exact hq)
    · skip
      have c36 := List.mem_singleton.mp c36
      refine s34_166.mpr (s34_167.mpr ?_)
      refine (s34_168 (by first | decide | assumption | omega) (by first | decide | assumption | omega)).mpr ?_
      refine d_takeBlockRecord hs1 hF1 (by omega) (by rw [r3]; omega) (fun q => absurd (r4 _) q) (fun _ => ?_)
      rw [r3, r2]
      have hq := I168 c36
      refine kEx_of (fun qE eE => ?_) (fun qE eE => ?_)
      rotate_left
      intro xE hE yE zE vE
      · skip
        refine s34_171.mpr (s34_172.mpr ?_)
        refine (s34_235).mpr ?_
        first
        | (rw [eE, kEx_er] at hq; exact hq _ vE.up)
        | (rw [eE, kEx_ok] at hq; rw [upI_up]; exact hq)
        | (simp only [List.mem_cons, List.not_mem_nil, or_false, not_or] at c36
           rw [if_neg (by omega), if_neg (by omega), if_neg (by omega), if_neg (by omega), if_neg (by omega), if_neg (by omega), if_neg (by omega), if_neg (by omega), if_neg (by omega), if_neg (by omega)] at hq
           exact hq)
      · skip
        refine s34_171.mpr (s34_172.mpr ?_)
        refine (s34_235).mpr ?_
        first
        | (rw [eE, kEx_er] at hq; exact hq _ vE.up)
        | (rw [eE, kEx_ok] at hq; rw [upI_up]; exact hq)
        | (simp only [List.mem_cons, List.not_mem_nil, or_false, not_or] at c36
           rw [if_neg (by omega), if_neg (by omega), if_neg (by omega), if_neg (by omega), if_neg (by omega), if_neg (by omega), if_neg (by omega), if_neg (by omega), if_neg (by omega), if_neg (by omega)] at hq
           exact hq)
    · skip
      have c36 := List.mem_singleton.mp c36
      refine s34_175.mpr (s34_176.mpr ?_)
      refine (s34_177 (by first | decide | assumption | omega)).mpr ?_
      try simp (disch := first | decide | assumption | omega) only [kon, knt_some, knt_none, Option.toList_some, Option.toList_none, List.cons_append, List.nil_append, a2, g2, g6, g8, gL, eL]
      refine (s34_180 (by first | decide | assumption | omega) (by first | decide | assumption | omega)).mpr ?_
      refine d_takeName hs1 (by omega) (by rw [r3]; omega) (fun q => absurd (r4 _) q) (fun _ => ?_)
      rw [r3, r2]
      have hq := I180 c36
      refine kEx_of (fun qE eE => ?_) (fun qE eE => ?_)
      rotate_left
      intro xE hE yE zE vE
      · skip
        refine s34_183.mpr (s34_184.mpr ?_)
        refine (s34_235).mpr ?_
        first
        | (rw [eE, kEx_er] at hq; exact hq _ vE.up)
        | (rw [eE, kEx_ok] at hq; rw [upI_up]; exact hq)
        | (simp only [List.mem_cons, List.not_mem_nil, or_false, not_or] at c36
           rw [if_neg (by omega), if_neg (by omega), if_neg (by omega), if_neg (by omega), if_neg (by omega), if_neg (by omega), if_neg (by omega), if_neg (by omega), if_neg (by omega), if_neg (by omega)] at hq
           exact hq)
      · skip
        refine s34_183.mpr (s34_184.mpr ?_)
        refine (s34_235).mpr ?_
        first
        | (rw [eE, kEx_er] at hq; exact hq _ vE.up)
        | (rw [eE, kEx_ok] at hq; rw [upI_up]; exact hq)
        | (simp only [List.mem_cons, List.not_mem_nil, or_false, not_or] at c36
           rw [if_neg (by omega), if_neg (by omega), if_neg (by omega), if_neg (by omega), if_neg (by omega), if_neg (by omega), if_neg (by omega), if_neg (by omega), if_neg (by omega), if_neg (by omega)] at hq
           exact hq)
    · skip
      have c36 := List.mem_singleton.mp c36
      refine s34_187.mpr ?_
      refine (s34_188 (by first | decide | assumption | omega)).mpr ?_
      refine s34_191.mpr (s34_192.mpr ?_)
      try simp (disch := first | decide | assumption | omega) only [kon, knt_some, knt_none, Option.toList_some, Option.toList_none, List.cons_append, List.nil_append, a2, g2, g6, g8, gL, eL]
      refine (s34_193 (by first | decide | assumption | omega) (by first | decide | assumption | omega)).mpr ?_
      refine b_within hs1.2.2.2.2.1 (by omega) (by rw [r3]; omega) (fun q => absurd (r4 _) q) (fun _ => ?_)
      rw [r3, r2]
      have hq := I193 c36
      refine kEx_of (fun qE eE => ?_) (fun qE eE => ?_)
      rotate_left
      intro xE hE yE zE v1 v2 v3
      have vE : EF (upI hb 6 3 (p + 1)) hE qE := ⟨zE, v1, v2, v3⟩
      rotate_left
      rotate_left
      · skip
        refine s34_196.mpr (s34_197.mpr ?_)
        refine (s34_235).mpr ?_
        first
        | (rw [eE, kEx_er] at hq; exact hq _ vE.up)
        | (rw [eE, kEx_ok] at hq; rw [upI_up]; exact hq)
        | (simp only [List.mem_cons, List.not_mem_nil, or_false, not_or] at c36
           rw [if_neg (by omega), if_neg (by omega), if_neg (by omega), if_neg (by omega), if_neg (by omega), if_neg (by omega), if_neg (by omega), if_neg (by omega), if_neg (by omega), if_neg (by omega)] at hq
           exact hq)
      · skip
        refine s34_196.mpr (s34_197.mpr ?_)
        refine (s34_235).mpr ?_
        first
        | (rw [eE, kEx_er] at hq; exact hq _ vE.up)
        | (rw [eE, kEx_ok] at hq; rw [upI_up]; exact hq)
        | (simp only [List.mem_cons, List.not_mem_nil, or_false, not_or] at c36
           rw [if_neg (by omega), if_neg (by omega), if_neg (by omega), if_neg (by omega), if_neg (by omega), if_neg (by omega), if_neg (by omega), if_neg (by omega), if_neg (by omega), if_neg (by omega)] at hq
           exact hq)
    · skip
      have c36 := List.mem_singleton.mp c36
      exact T200 c36
    · skip
      refine (s34_235).mpr ?_
      first
      | (rw [eE, kEx_er] at hq; exact hq _ vE.up)
      | (rw [eE, kEx_ok] at hq; rw [upI_up]; exact hq)
      | (simp only [List.mem_cons, List.not_mem_nil, or_false, not_or] at c36
         rw [if_neg (by omega), if_neg (by omega), if_neg (by omega), if_neg (by omega), if_neg (by omega), if_neg (by omega), if_neg (by omega), if_neg (by omega), if_neg (by omega), if_neg (by omega)] at hq
         exact hq)
  have T31F : ∀ hi' x, FW (wY 6) hb hi' → hi' 6 4 ≠ 0 → 0 ≤ hi' 6 3 → 0 ≤ x → x ≤ 43 → Q (some none) al hi' hr → Wp d 34 31 [vR (some 5), vR (some N), vR (some (t + 1)), vI x, none, none] [] al hi' hr Q := by
    intro hi' x hf e4 e3 x0 x1 hz
    have hs := h'.fw hf
    have hFF : nm = 1 → NF al hi' hr N B := fun z => (hF' z).fw hA a7 hf
    refine s34_31.mpr (s34_34.mpr ?_)
    refine (s34_35F kF (by omega) (by omega)).mpr ?_
    exact T36F hi' _ _ hf e4 e3 hz
  have T16 : Wp d 34 16 [vR (some 5), vR (some N), vR (some (t + 1)), none, none, none] [] al hb hr Q := by
    refine s34_16.mpr ?_
    refine (s34_17 (by first | decide | assumption | omega)).mpr ?_
    refine s34_20.mpr (s34_21.mpr ?_)
    try simp (disch := first | decide | assumption | omega) only [kon, knt_some, knt_none, Option.toList_some, Option.toList_none, List.cons_append, List.nil_append, a2, l44, e44]
    refine (s34_24 (by first | decide | assumption | omega)).mpr ?_
    refine s34_25.mpr (s34_26.mpr ?_)
    try simp (disch := first | decide | assumption | omega) only [kon, knt_some, knt_none, Option.toList_some, Option.toList_none, List.cons_append, List.nil_append, a2, l44, e44]
    refine (s34_27 (by first | decide | assumption | omega) (by first | decide | assumption | omega)).mpr ?_
    refine b_within h'.2.2.2.2.1 (by omega) (by rw [b3]; omega) (fun q => absurd b4 q) (fun _ => ?_)
    rw [b3, b2]
    refine kEx_of (fun qE eE => ?_) (fun qE eE => ?_)
    rotate_left
    intro xE hE yE zE v1 v2 v3
    · skip
      refine s34_30.mpr ?_
      first
      | (have yE := yE (by decide)
         have hEF : EF hb hE qE := ⟨zE, v1, v2, v3⟩
         refine T31F hE xE zE (by rw [v1]; decide) v3 yE.1 yE.2 ?_
         unfold insC at hq
         rw [eE, bnd_er, kEx_er] at hq
         exact hq _ hEF)
      | (obtain ⟨rfl, u1, u2, u3, u4⟩ := prL_ok eE
         refine s34_31.mpr (s34_34.mpr ?_)
         refine (s34_35F kF u4 (by omega)).mpr ?_
         rw [upI_a (by decide), hop _ u4 (by omega)]
         exact T36 eE)
    · skip
      refine s34_30.mpr ?_
      first
      | (have yE := yE (by decide)
         have hEF : EF hb hE qE := ⟨zE, v1, v2, v3⟩
         refine T31F hE xE zE (by rw [v1]; decide) v3 yE.1 yE.2 ?_
         unfold insC at hq
         rw [eE, bnd_er, kEx_er] at hq
         exact hq _ hEF)
      | (obtain ⟨rfl, u1, u2, u3, u4⟩ := prL_ok eE
         refine s34_31.mpr (s34_34.mpr ?_)
         refine (s34_35F kF u4 (by omega)).mpr ?_
         rw [upI_a (by decide), hop _ u4 (by omega)]
         exact T36 eE)
  refine s34_0.mpr (s34_1.mpr ?_)
  refine (s34_2 (by first | decide | assumption | omega)).mpr ?_
  try simp (disch := first | decide | assumption | omega) only [kon, knt_some, knt_none, Option.toList_some, Option.toList_none, List.cons_append, List.nil_append, a2, hp, hc, eps]
  refine (s34_5 (by first | decide | assumption | omega)).mpr ?_
  refine s34_8.mpr ?_
  try simp (disch := first | decide | assumption | omega) only [kon, knt_some, knt_none, Option.toList_some, Option.toList_none, List.cons_append, List.nil_append, a2, hp, hc, eps]
  refine (s34_9 (by first | decide | assumption | omega)).mpr ?_
  refine s34_12.mpr ?_
  try simp (disch := first | decide | assumption | omega) only [kon, knt_some, knt_none, Option.toList_some, Option.toList_none, List.cons_append, List.nil_append, a2, hp, hc, eps]
  refine (s34_13 (by first | decide | assumption | omega) (by first | decide | assumption | omega)).mpr ?_
  refine r_setBegin hT (fun _ _ => ?_) (fun q => absurd ⟨by omega, by omega⟩ q)
  rw [hhb]
  exact T16
end CD5
