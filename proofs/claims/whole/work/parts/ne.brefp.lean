/-! BOOT, the reference: begin's processes -/
section BR3
variable {d : Nat} {al : AL} {hi : HI} {hr : HR} {Q : QQ} {S : Int → Option (Int → Int)} {G s1 s h h0 : HI} {n c e P K : Int}
def wPr (a : Nat) (_ : Int) : Prop := (89 ≤ a ∧ a ≤ 100) ∨ a = 108
theorem sta_fw {m f c9 p : Int} (w : FW wPr h0 h) : FW wPr h0 (staS h p m f c9) := fun a i z => by
  unfold staS actS
  unfold wPr at z
  rw [if_neg (by omega), if_neg (by omega), if_neg (by omega), if_neg (by omega), if_neg (by omega)]
  show (if _ then _ else _) = _
  rw [if_neg (by omega), if_neg (by omega), if_neg (by omega), if_neg (by omega), if_neg (by omega)]
  exact w a i (by unfold wPr; exact z)
theorem st2_fw {i v w9 : Int} (w : FW wPr h0 h) : FW wPr h0 (st2 h i v w9) := fun a j z => by
  rw [st2_n (by unfold wPr at z; omega) (by unfold wPr at z; omega)]
  exact w a j z
theorem r_bgpr (hA : SA al) (hR : MR hr) (hd : 4 ≤ d) (hG : GF S G n) (n6 : 1 ≤ n ∧ n ≤ 6) (hmn : MnP S h0 G n) (h48 : h0 49 48 = n) (hMB : ∀ m b, S m = some b → (0 ≤ m ∧ m < 6) ∧ MB h0 (6 + m) b) (q : ∀ h' s' l2 l3, Ag S G (4 * n) 0 h' s' → BP S G n n (4 * n) 0 s1 s' → FW wPr h0 h' → Wp d 279 254 [vR (some 49), vI n, l2, l3] [] al h' hr Q) : ∀ (j : Nat) (P : Int) (h s : HI) l2 l3, P + j = n → 0 ≤ P → Ag S G (4 * P) 0 h s → BP S G n P (4 * P) 0 s1 s → FW wPr h0 h → Wp d 279 138 [vR (some 49), vI P, l2, l3] [] al h hr Q := by
  have kM : isK al 49 13 := hA.k (by decide) (by decide) rfl
  have l56 := SA.len (a := 56) (n := 13) hA (by decide) (by decide) rfl
  have l109 := SA.len (a := 109) (n := 128) hA (by decide) (by decide) rfl
  have l112 := SA.len (a := 112) (n := 24) hA (by decide) (by decide) rfl
  have l114 := SA.len (a := 114) (n := 24) hA (by decide) (by decide) rfl
  have l89 := SA.len (a := 89) (n := 12) hA (by decide) (by decide) rfl
  have l77 := SA.len (a := 77) (n := 6) hA (by decide) (by decide) rfl
  have l78 := SA.len (a := 78) (n := 6) hA (by decide) (by decide) rfl
  have l79 := SA.len (a := 79) (n := 6) hA (by decide) (by decide) rfl
  have l91 := SA.len (a := 91) (n := 12) hA (by decide) (by decide) rfl
  have l64 := SA.len (a := 64) (n := 130) hA (by decide) (by decide) rfl
  have l80 := SA.len (a := 80) (n := 24) hA (by decide) (by decide) rfl
  have l65 := SA.len (a := 65) (n := 520) hA (by decide) (by decide) rfl
  have l85 := SA.len (a := 85) (n := 8) hA (by decide) (by decide) rfl
  have l83 := SA.len (a := 83) (n := 16) hA (by decide) (by decide) rfl
  have l118 := SA.len (a := 118) (n := 24) hA (by decide) (by decide) rfl
  have l82 := SA.len (a := 82) (n := 16) hA (by decide) (by decide) rfl
  have l113 := SA.len (a := 113) (n := 24) hA (by decide) (by decide) rfl
  have l84 := SA.len (a := 84) (n := 16) hA (by decide) (by decide) rfl
  intro j
  induction j with
  | zero =>
    intro P h s l2 l3 hc P0 ha hb hw
    have eP : P = n := by omega
    have x48 : h 49 48 = n := (hw 49 48 (by unfold wPr; omega)).trans h48
    have E := q h s l2 l3 (eP ▸ ha) (eP ▸ hb) hw
    rw [eP]
    refine s279_138.mpr (s279_139.mpr ?_)
    refine (s279_140 kM).mpr ?_
    try simp (disch := first | decide | assumption | omega) only [x48]
    refine s279_143.mpr (wif (fun c143 => ?_) (fun c143 => ?_))
    · skip
      exfalso; omega
    · skip
      exact E
  | succ j ih =>
    intro P h s l2 l3 hc P0 ha hb hw
    have Pn : 0 ≤ P ∧ P < n := ⟨P0, by omega⟩
    obtain ⟨z77, z78, z79, zf, z80⟩ := hmn P P0 Pn.2
    obtain ⟨b, h1, h2, h3, h4, h5⟩ := hG.1.1.1 P P0 Pn.2
    obtain ⟨hm6, hMb⟩ := hMB _ b h1
    have hS := hG.2.1 _ b h1
    have enp : np S G P = nPar b (G 78 P) := by unfold np; rw [bO_y h1]
    have ept : ∀ k, pt S G P k = pTy b (G 78 P) k := fun k => by unfold pt; rw [bO_y h1]
    have n4 := hG.np4 Pn
    have f10 : nFn b ≤ 10 := hS.2.2.2.2.2.2.2.2.2.1
    obtain ⟨q1, q2, -⟩ := hMb.2.2.2.2.2.2.2.2.2 (G 78 P) h2.1 h2.2
    obtain ⟨m, hm⟩ : ∃ m, G 77 P = m := ⟨_, rfl⟩
    obtain ⟨f, hf⟩ : ∃ f, G 78 P = f := ⟨_, rfl⟩
    obtain ⟨u, hu⟩ : ∃ u, G 79 P = u := ⟨_, rfl⟩
    have B1 := hb.beg P0
    have A1 := ha.beg (m := 6 + G 77 P) (f := G 78 P) (c9 := 16 * G 79 P)
    rw [hm, hf, hu] at B1 A1
    rw [hm] at hm6 z77
    rw [hm, hf] at q1 q2
    rw [hf] at h2 z78 enp ept
    rw [hu] at h4 h5 z79
    have y48 : ∀ h', FW wPr h0 h' → h' 49 48 = n := fun h' w => (w 49 48 (by unfold wPr; omega)).trans h48
    have y77 : ∀ h', FW wPr h0 h' → h' 77 P = m := fun h' w => (w 77 P (by unfold wPr; omega)).trans z77
    have y78 : ∀ h', FW wPr h0 h' → h' 78 P = f := fun h' w => (w 78 P (by unfold wPr; omega)).trans z78
    have y79 : ∀ h', FW wPr h0 h' → h' 79 P = u := fun h' w => (w 79 P (by unfold wPr; omega)).trans z79
    have y64 : ∀ h', FW wPr h0 h' → h' 64 (10 * (6 + m) + f) = np S G P := fun h' w => by rw [w 64 _ (by unfold wPr; omega), enp]; exact q1
    have T194 : ∀ (i : Nat) (k : Int) (h s : HI), k + i = np S G P → 0 ≤ k → Ag S G (4 * P + k) 0 h s → BP S G n (P + 1) (4 * P + k) 0 s1 s → FW wPr h0 h → Wp d 279 194 [vR (some 49), vI P, vI (10 * (6 + m) + f), vI k] [] al h hr Q := by
      intro i
      induction i with
      | zero =>
        intro k h s hk k0 ha hb hw
        have ek : k = np S G P := by omega
        have NX := ih (P + 1) h s (vI (10 * (6 + m) + f)) (vI k) (by omega) (by omega) (ha.mono (by omega)) (BP.tl0 hG Pn (ek ▸ hb)) hw
        have x64 := y64 h hw
        refine s279_194.mpr (s279_195.mpr ((s279_196 kM).mpr ?_))
        rw [mr_16 hR]
        refine s279_199.mpr ?_
        refine (s279_200 (hA.k (by decide) (by decide) rfl) (by first | assumption | omega) (by first | assumption | omega)).mpr ?_
        try simp (disch := first | decide | assumption | omega) only [x64, fAdd_id]
        refine s279_201.mpr (wif (fun c201 => ?_) (fun c201 => ?_))
        · skip
          exfalso; omega
        · skip
          refine s279_248.mpr (s279_251.mpr ?_)
          try simp (disch := first | decide | assumption | omega) only [x64, fAdd_id]
          exact NX
      | succ i ihk =>
        intro k h s hk k0 ha hb hw
        have kn : k < np S G P := by omega
        have x64 := y64 h hw
        have x65 : h 65 (4 * (10 * (6 + m) + f) + k) = pt S G P k := by rw [hw 65 _ (by unfold wPr; omega), ept]; exact q2 k k0 (show k < nPar b f by rw [← enp]; exact kn)
        have hv0 : pt S G P k ≠ 0 → 0 ≤ gvV S G P k := fun z => (hG.pe Pn ⟨k0, kn⟩ z).1.1
        obtain ⟨v, hv⟩ : ∃ v, h 80 (4 * P + k) = v := ⟨_, rfl⟩
        have hve : pt S G P k = 0 → v = gvV S G P k := fun z => by
          rw [← hv, hw 80 _ (by unfold wPr; omega)]
          unfold gvV
          rw [if_pos z]
          exact z80 b k h1 k0 (by rw [hf, ← enp]; exact kn) (by rw [hf, ← ept]; exact z)
        have NX := ihk (k + 1) _ _ (by omega) (by omega) (by rw [← Int.add_assoc]; exact ha.loc ⟨k0, by omega⟩ kn P0 hv0 hve (w := gvW S G P k)) (by rw [← Int.add_assoc]; exact hb.loc0 hG Pn ⟨k0, kn⟩) (st2_fw hw)
        have eloc : 26 * (16 * P + 0) + k = 416 * P + k := by omega
        unfold gvW at NX
        obtain ⟨t, ht⟩ : ∃ t, pt S G P k = t := ⟨_, rfl⟩
        rw [ht] at NX x65
        refine s279_194.mpr (s279_195.mpr ((s279_196 kM).mpr ?_))
        rw [mr_16 hR]
        refine s279_199.mpr ?_
        refine (s279_200 (hA.k (by decide) (by decide) rfl) (by first | assumption | omega) (by first | assumption | omega)).mpr ?_
        try simp (disch := first | decide | assumption | omega) only [kon, knt_some, knt_none, Option.toList_some, Option.toList_none, List.cons_append, List.nil_append, x64, x65, hv, eloc, fMul_id, fAdd_id]
        refine s279_201.mpr (wif (fun c201 => ?_) (fun c201 => ?_))
        · skip
          refine s279_204.mpr (s279_205.mpr (s279_206.mpr (s279_207.mpr ?_)))
          refine (s279_208 (by omega)).mpr ?_
          refine r_local (by omega) (by decide) (by omega) ?_
          simp only [kon, knt_some, knt_none, Option.toList_some, Option.toList_none, List.cons_append, List.nil_append]
          refine s279_211.mpr ((s279_212 kM).mpr ?_)
          rw [mr_42 hR]
          refine s279_215.mpr (s279_216.mpr (s279_217.mpr (s279_218.mpr (s279_219.mpr ?_))))
          try simp (disch := first | decide | assumption | omega) only [kon, knt_some, knt_none, Option.toList_some, Option.toList_none, List.cons_append, List.nil_append, x64, x65, hv, eloc, fMul_id, fAdd_id]
          refine (s279_220 (hA.k (by decide) (by decide) rfl) (by first | assumption | omega) (by first | assumption | omega)).mpr ?_
          refine s279_221.mpr ((s279_222 kM).mpr ?_)
          rw [mr_17 hR]
          refine s279_225.mpr (s279_226.mpr (s279_227.mpr (s279_228.mpr (s279_229.mpr ?_))))
          try simp (disch := first | decide | assumption | omega) only [kon, knt_some, knt_none, Option.toList_some, Option.toList_none, List.cons_append, List.nil_append, x64, x65, hv, eloc, fMul_id, fAdd_id]
          refine (s279_230 (hA.k (by decide) (by decide) rfl) (by first | assumption | omega) (by first | assumption | omega)).mpr ?_
          try simp (disch := first | decide | assumption | omega) only [kon, knt_some, knt_none, Option.toList_some, Option.toList_none, List.cons_append, List.nil_append, x64, x65, hv, eloc, fMul_id, fAdd_id]
          refine s279_231.mpr (wif (fun c231 => ?_) (fun c231 => ?_))
          · skip
            refine s279_234.mpr (s279_235.mpr ?_)
            refine (s279_239 (by omega) kM).mpr ?_
            refine r_set hA hR (by omega) ?_
            simp only [kon, knt_some, knt_none, Option.toList_some, Option.toList_none, List.cons_append, List.nil_append]
            refine s279_242.mpr (s279_245.mpr ?_)
            try simp (disch := first | decide | assumption | omega) only [kon, knt_some, knt_none, Option.toList_some, Option.toList_none, List.cons_append, List.nil_append, x64, x65, hv, eloc, fMul_id, fAdd_id]
            first | (rw [if_pos (by assumption)] at NX; exact NX) | (rw [if_neg (by assumption)] at NX; exact NX)
          · skip
            refine s279_238.mpr ?_
            refine (s279_239 (by omega) kM).mpr ?_
            refine r_set hA hR (by omega) ?_
            simp only [kon, knt_some, knt_none, Option.toList_some, Option.toList_none, List.cons_append, List.nil_append]
            refine s279_242.mpr (s279_245.mpr ?_)
            try simp (disch := first | decide | assumption | omega) only [kon, knt_some, knt_none, Option.toList_some, Option.toList_none, List.cons_append, List.nil_append, x64, x65, hv, eloc, fMul_id, fAdd_id]
            first | (rw [if_pos (by assumption)] at NX; exact NX) | (rw [if_neg (by assumption)] at NX; exact NX)
        · skip
          exfalso; omega
    have W1 := sta_fw (m := 6 + m) (f := f) (c9 := 16 * u) (p := P) hw
    have x91 : staS h P (6 + m) f (16 * u) 91 P = 6 + m := sta_s.2.2.2.1
    have x78' := y78 _ W1
    have NX := T194 (np S G P).toNat 0 _ _ (by omega) (Int.le_refl _) (by rw [Int.add_zero]; exact A1) (by rw [Int.add_zero]; exact B1) W1
    have x48 := y48 h hw
    have x77 := y77 h hw
    have x78 := y78 h hw
    have x79 := y79 h hw
    refine s279_138.mpr (s279_139.mpr ?_)
    refine (s279_140 kM).mpr ?_
    try simp (disch := first | decide | assumption | omega) only [kon, knt_some, knt_none, Option.toList_some, Option.toList_none, List.cons_append, List.nil_append, x48, x77, x78, x79, x91, x78', fMul_id, fAdd_id]
    refine s279_143.mpr (wif (fun c143 => ?_) (fun c143 => ?_))
    · skip
      refine s279_146.mpr (s279_147.mpr (s279_148.mpr (s279_150.mpr ((s279_151 kM).mpr ?_))))
      rw [mr_39 hR]
      refine s279_154.mpr ?_
      refine (s279_155 (hA.k (by decide) (by decide) rfl) (by first | assumption | omega) (by first | assumption | omega)).mpr ?_
      refine s279_156.mpr (s279_157.mpr ((s279_158 kM).mpr ?_))
      rw [mr_40 hR]
      refine s279_161.mpr ?_
      try simp (disch := first | decide | assumption | omega) only [kon, knt_some, knt_none, Option.toList_some, Option.toList_none, List.cons_append, List.nil_append, x48, x77, x78, x79, x91, x78', fMul_id, fAdd_id]
      refine (s279_162 (hA.k (by decide) (by decide) rfl) (by first | assumption | omega) (by first | assumption | omega)).mpr ?_
      refine s279_163.mpr (s279_165.mpr ((s279_166 kM).mpr ?_))
      rw [mr_41 hR]
      refine s279_169.mpr ?_
      try simp (disch := first | decide | assumption | omega) only [kon, knt_some, knt_none, Option.toList_some, Option.toList_none, List.cons_append, List.nil_append, x48, x77, x78, x79, x91, x78', fMul_id, fAdd_id]
      refine (s279_170 (hA.k (by decide) (by decide) rfl) (by first | assumption | omega) (by first | assumption | omega)).mpr ?_
      refine s279_171.mpr ?_
      try simp (disch := first | decide | assumption | omega) only [kon, knt_some, knt_none, Option.toList_some, Option.toList_none, List.cons_append, List.nil_append, x48, x77, x78, x79, x91, x78', fMul_id, fAdd_id]
      refine (s279_172 (by omega) kM).mpr ?_
      refine r_start hA hR (by omega) (by omega) ?_
      simp only [kon, knt_some, knt_none, Option.toList_some, Option.toList_none, List.cons_append, List.nil_append]
      refine s279_175.mpr (s279_177.mpr ((s279_178 kM).mpr ?_))
      rw [mr_61 hR]
      refine s279_181.mpr ?_
      refine (s279_182 (hA.k (by decide) (by decide) rfl) (by first | assumption | omega) (by first | assumption | omega)).mpr ?_
      refine s279_183.mpr (s279_184.mpr ((s279_185 kM).mpr ?_))
      rw [mr_40 hR]
      refine s279_188.mpr ?_
      try simp (disch := first | decide | assumption | omega) only [kon, knt_some, knt_none, Option.toList_some, Option.toList_none, List.cons_append, List.nil_append, x48, x77, x78, x79, x91, x78', fMul_id, fAdd_id]
      refine (s279_189 (hA.k (by decide) (by decide) rfl) (by first | assumption | omega) (by first | assumption | omega)).mpr ?_
      refine s279_190.mpr (s279_191.mpr (s279_192.mpr (s279_193.mpr ?_)))
      try simp (disch := first | decide | assumption | omega) only [kon, knt_some, knt_none, Option.toList_some, Option.toList_none, List.cons_append, List.nil_append, x48, x77, x78, x79, x91, x78', fMul_id, fAdd_id]
      exact NX
    · skip
      exfalso; omega
end BR3
