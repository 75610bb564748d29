section CD10
variable {d : Nat} {al : AL} {hi : HI} {hr : HR} {Q : QQ} {B : Int → Int} {N : Nat} {n nm : Int}
theorem DC.u2 {x : Int} (h : DC al hi hr N n B nm) : DC al (upI hi 6 2 x) hr N n B nm := by
  have hN := h.2.2.2.2.2.2.1
  refine h.fr (w := fun a i => a = 6 ∧ i = 2) (FW.up FW.rf ⟨rfl, rfl⟩) (by omega) (by omega) (fun k => by omega) (fun r r0 r1 => ?_)
  rw [upI_a (by omega)]
  exact h.2.2.2.2.2.2.2.1 r r0 r1
theorem il_gt (hB : ∀ k, -1 ≤ B k ∧ B k ≤ 255) (c : Int) : ∀ q, q < (fun q => q + ilen B (c + q)) q := fun q => by have := ilen_b hB (c + q); show q < q + _; omega
/-- the code of a function, from an instruction on -/
theorem d_code {f c l L e p0 : Int} {t : Nat} {x3 x5 : Int} {x4 : AV} (h : DC al hi hr N n B nm) (hO : OPS al hi) (hF : nm = 1 → NF al hi hr N B) (hT : RtS al hr t) (hd : 6 ≤ d) (ht6 : N + 6 < t) (hne : t + 2 ≠ 6)
    (hc : hi (t + 1) 5 = c) (hL : hi (t + 1) 3 = L) (L0 : 0 ≤ L ∧ L ≤ 10) (c0 : 0 ≤ c ∧ c ≤ 3000) (he : e = c + l) (hl2 : (aln al (t + 2) : Int) = l) (l0 : 1 ≤ l ∧ l ≤ 240) (hl4 : hi (t + 1) 4 = l)
    (hb : nm = 0 → ∀ q, hi (t + 2) q = 0) (hG : nm = 1 → ∀ q, bgA al hi t q ↔ bgn B c l q) (hG2 : ∀ q, hi (t + 2) q = 0 ∨ hi (t + 2) q = 1)
    (hP : nm = 1 → cdP B e L l.toNat c = .ok e) (hp : hi 6 3 = c) (h4 : hi 6 4 = 0)
    (ok : ∀ p' hi', cdC nm B e L c l l.toNat c = .ok p' → FW (fun a i => (a = 6 ∧ 2 ≤ i ∧ i ≤ 5) ∨ (nm = 0 ∧ a = t + 2)) hi hi' → hi' 6 3 = p' → 0 ≤ p' → hi' 6 2 = n → hi' 6 4 = 0 → (∀ q, bgA al hi' t q ↔ bgn B c l q) → (∀ q, hi' (t + 2) q = 0 ∨ hi' (t + 2) q = 1) → Q (some none) al hi' hr)
    (er : ∀ q hi', cdC nm B e L c l l.toNat c = .error q → FW (fun a i => (a = 6 ∧ 2 ≤ i ∧ i ≤ 5) ∨ a = t + 2) hi hi' → hi' 6 4 = 1 → hi' 6 5 = q → 0 ≤ hi' 6 3 → Q (some none) al hi' hr) : Wp d 33 133 [vR (some 5), vR (some N), vI f, vI x3, x4, vI x5, vI L, vI l, vR (some (t + 1)), none] [] al hi hr Q := by
  have h' := h
  obtain ⟨hA, a2, a3, a4, a5, a6, a7, a8, a9⟩ := h
  have k6 : isK al 6 2 := hA.k (by decide) (by decide) rfl
  have k5 : isK al 5 4 := hA.k (by decide) (by decide) rfl
  have kN := a6.1
  have kT := hT.1
  have hK := hT.2.2.2
  have hx := a5.tx
  have hB : ∀ k, -1 ≤ B k ∧ B k ≤ 255 := fun k => (hx k).1
  have h61 : hi 6 1 = n := a5.2.2.2.1
  have eA : fAdd c l = e := by rw [fAdd_id (by omega) (by omega)]; omega
  have n16 : t + 1 ≠ 6 := by omega
  -- behind a fault
  have F154 : ∀ q hi1 (i : Int), cdC nm B e L c l l.toNat c = .error q → FW (fun a i => (a = 6 ∧ 2 ≤ i ∧ i ≤ 5) ∨ a = t + 2) hi hi1 → hi1 6 4 = 1 → hi1 6 5 = q → 0 ≤ hi1 6 3 → Wp d 33 154 [vR (some 5), vR (some N), vI f, vI x3, x4, vI x5, vI L, vI l, vR (some (t + 1)), vI i] [] al hi1 hr Q := by
    intro q hi1 i e1 hf e4 e5 e3
    have E := er q (upI hi1 6 2 (hi1 6 1)) e1 (FW.up hf (by omega)) (by rw [upI_i (by decide)]; exact e4) (by rw [upI_i (by decide)]; exact e5) (by rw [upI_i (by decide)]; exact e3)
    refine s33_154.mpr (s33_156.mpr ?_)
    refine s33_158.mpr (wif (fun c158 => ?_) (fun c158 => ?_))
    · skip
      refine s33_161.mpr ?_
      refine (s33_162 (by first | decide | assumption | omega)).mpr ?_
      try simp (disch := first | decide | assumption | omega) only [kon, knt_some, knt_none, Option.toList_some, Option.toList_none, List.cons_append, List.nil_append, a2]
      refine (s33_165 (by first | decide | assumption | omega) (by first | decide | assumption | omega)).mpr ?_
      refine b_isRight k6 (fun q => absurd q (by rw [e4]; decide)) (fun _ => ?_)
      refine s33_168.mpr (wif (fun c168 => ?_) (fun c168 => ?_))
      · skip
        refine s33_201.mpr ?_
        refine (s33_202 (by first | decide | assumption | omega)).mpr ?_
        refine s33_205.mpr ?_
        try simp (disch := first | decide | assumption | omega) only [kon, knt_some, knt_none, Option.toList_some, Option.toList_none, List.cons_append, List.nil_append, a2]
        refine (s33_206 (by first | decide | assumption | omega)).mpr ?_
        try simp (disch := first | decide | assumption | omega) only [kon, knt_some, knt_none, Option.toList_some, Option.toList_none, List.cons_append, List.nil_append, a2]
        refine (s33_209 (by first | decide | assumption | omega)).mpr ?_
        try simp (disch := first | decide | assumption | omega) only [kon, knt_some, knt_none, Option.toList_some, Option.toList_none, List.cons_append, List.nil_append, a2]
        refine (s33_212 (by first | decide | assumption | omega)).mpr ?_
        try simp (disch := first | decide | assumption | omega) only [kon, knt_some, knt_none, Option.toList_some, Option.toList_none, List.cons_append, List.nil_append, a2]
        refine (s33_215).mpr ?_
        exact E
      · skip
        exact absurd (by assumption) (by decide)
    · skip
      refine s33_201.mpr ?_
      refine (s33_202 (by first | decide | assumption | omega)).mpr ?_
      refine s33_205.mpr ?_
      try simp (disch := first | decide | assumption | omega) only [kon, knt_some, knt_none, Option.toList_some, Option.toList_none, List.cons_append, List.nil_append, a2]
      refine (s33_206 (by first | decide | assumption | omega)).mpr ?_
      try simp (disch := first | decide | assumption | omega) only [kon, knt_some, knt_none, Option.toList_some, Option.toList_none, List.cons_append, List.nil_append, a2]
      refine (s33_209 (by first | decide | assumption | omega)).mpr ?_
      try simp (disch := first | decide | assumption | omega) only [kon, knt_some, knt_none, Option.toList_some, Option.toList_none, List.cons_append, List.nil_append, a2]
      refine (s33_212 (by first | decide | assumption | omega)).mpr ?_
      try simp (disch := first | decide | assumption | omega) only [kon, knt_some, knt_none, Option.toList_some, Option.toList_none, List.cons_append, List.nil_append, a2]
      refine (s33_215).mpr ?_
      exact E
  have EX : ∀ (i : Nat) (p : Int) hi1 (i9 : AV), cdC nm B e L c l l.toNat c = .ok p → FW (fun a i => (a = 6 ∧ 2 ≤ i ∧ i ≤ 5) ∨ (nm = 0 ∧ a = t + 2)) hi hi1 → hi1 6 3 = p → itr (fun q => q + ilen B (c + q)) i 0 = p - c → l ≤ p - c → hi1 6 4 = 0 → (nm = 0 → ∀ q, hi1 (t + 2) q ≠ 0 ↔ ∃ j : Nat, j < i ∧ itr (fun q => q + ilen B (c + q)) j 0 = q) → (∀ q, hi1 (t + 2) q = 0 ∨ hi1 (t + 2) q = 1) → Wp d 33 201 [vR (some 5), vR (some N), vI f, vI x3, x4, vI x5, vI L, vI l, vR (some (t + 1)), i9] [] al hi1 hr Q := by
    intro i p hi1 i9 e1 hf e3 ei hpl e4 hb0 hb1
    have e61 : hi1 6 1 = n := (hf 6 1 (by omega)).trans h61
    have E := ok p (upI hi1 6 2 n) e1 (FW.up hf (by omega)) (by rw [upI_i (by decide)]; exact e3) (by omega) upI_eq (by rw [upI_i (by decide)]; exact e4) (fun q => by
      unfold bgA
      rw [upI_a hne]
      rcases a4 with z | z
      · rw [hb0 z q, hl2]
        unfold bgn
        constructor
        · rintro ⟨y0, y1, j, -, y2⟩
          exact ⟨y0, y1, j, y2⟩
        · rintro ⟨y0, y1, j, y2⟩
          refine ⟨y0, y1, j, ?_, y2⟩
          apply Classical.byContradiction
          intro y3
          have y4 := itr_add (fun q => q + ilen B (c + q)) i (j - i) 0
          rw [show i + (j - i) = j by omega, y2, ei] at y4
          have y5 := itr_inc (il_gt hB c) (j - i) (p - c)
          omega
      · rw [hf (t + 2) q (by omega)]
        exact hG z q) (fun q => by rw [upI_a hne]; exact hb1 q)
    refine s33_201.mpr ?_
    refine (s33_202 (by first | decide | assumption | omega)).mpr ?_
    refine s33_205.mpr ?_
    try simp (disch := first | decide | assumption | omega) only [kon, knt_some, knt_none, Option.toList_some, Option.toList_none, List.cons_append, List.nil_append, a2, e61]
    refine (s33_206 (by first | decide | assumption | omega)).mpr ?_
    try simp (disch := first | decide | assumption | omega) only [kon, knt_some, knt_none, Option.toList_some, Option.toList_none, List.cons_append, List.nil_append, a2, e61]
    refine (s33_209 (by first | decide | assumption | omega)).mpr ?_
    try simp (disch := first | decide | assumption | omega) only [kon, knt_some, knt_none, Option.toList_some, Option.toList_none, List.cons_append, List.nil_append, a2, e61]
    refine (s33_212 (by first | decide | assumption | omega)).mpr ?_
    try simp (disch := first | decide | assumption | omega) only [kon, knt_some, knt_none, Option.toList_some, Option.toList_none, List.cons_append, List.nil_append, a2, e61]
    refine (s33_215).mpr ?_
    exact E
  have L154 : ∀ (k i : Nat) (p : Int) hi1, (i : Int) + k = l → cdC nm B e L c l l.toNat c = cdC nm B e L c l k p → (nm = 1 → cdP B e L k p = .ok e) → FW (fun a i => (a = 6 ∧ 2 ≤ i ∧ i ≤ 5) ∨ (nm = 0 ∧ a = t + 2)) hi hi1 → hi1 6 3 = p → itr (fun q => q + ilen B (c + q)) i 0 = p - c → hi1 6 2 = e → hi1 6 4 = 0 → (nm = 0 → ∀ q, hi1 (t + 2) q ≠ 0 ↔ ∃ j : Nat, j < i ∧ itr (fun q => q + ilen B (c + q)) j 0 = q) → (∀ q, hi1 (t + 2) q = 0 ∨ hi1 (t + 2) q = 1) → Wp d 33 154 [vR (some 5), vR (some N), vI f, vI x3, x4, vI x5, vI L, vI l, vR (some (t + 1)), vI i] [] al hi1 hr Q := by
    intro k
    induction k with
    | zero =>
      intro i p hi1 hik eT hP1 hf e3 ei e2 e4 hb0 hb1
      have y5 := itr_inc (il_gt hB c) i 0
      rw [ei] at y5
      have E := EX i p hi1 (vI i) eT hf e3 ei (by omega) e4 hb0 hb1
      refine s33_154.mpr (s33_156.mpr ?_)
      refine s33_158.mpr (wif (fun c158 => ?_) (fun c158 => ?_))
      · skip
        exfalso; omega
      · skip
        exact E
    | succ k ih =>
      intro i p hi1 hik eT hP1 hf e3 ei e2 e4 hb0 hb1
      have y5 := itr_inc (il_gt hB c) i 0
      rw [ei] at y5
      by_cases c9 : p < e
      · have eT2 : cdC nm B e L c l (k + 1) p = (insC nm B e L c l p).bind (cdC nm B e L c l k) := if_pos c9
        have hD1 : DC al hi1 hr N n B nm := h'.fr hf (by omega) (by omega) (fun k => by omega) (a8.fw hf (fun i => by omega))
        have hO1 : OPS al hi1 := ⟨hO.1, fun k k0 k1 => by rw [hf 0 k (by omega)]; exact hO.2 k k0 k1⟩
        have eL1 : hi1 (t + 1) 3 = L := (hf _ _ (by omega)).trans hL
        have ec1 : hi1 (t + 1) 5 = c := (hf _ _ (by omega)).trans hc
        have hF1 : nm = 1 → NF al hi1 hr N B := fun z => (hF z).ga hA a6 a7 GA.rf (hf.mn (fun a i q => by unfold wG; omega)) (fun _ => rfl)
        have hbg : nm = 1 → hi1 (t + 2) (p - c) = 1 := fun z => by
          have y : bgA al hi t (p - c) := (hG z _).mpr ⟨by omega, by omega, i, ei⟩
          have y2 := y.2.2
          rw [← hf (t + 2) (p - c) (by omega)] at y2
          have := hb1 (p - c)
          omega
        have hGG : nm = 1 → ∀ q, bgA al hi1 t q ↔ bgn B c l q := fun z q => by
          rw [← hG z q]; unfold bgA; rw [hf (t + 2) q (by omega)]
        have hIP : ∀ p1, insC nm B e L c l p = .ok p1 → p1 = p + ilen B p ∧ p1 ≤ e ∧ (nm = 1 → cdP B e L k p1 = .ok e) := by
          intro p1 z1
          rcases a4 with z | z
          · rw [insC_0 hx (by omega) z L0.1] at z1
            have y := ins_inv c9 z1
            exact ⟨y.1, by rw [y.1]; exact y.2.2.2.2.2.2.2.2, fun w => absurd w (by omega)⟩
          · have y := hP1 z
            obtain ⟨y1, y2⟩ := cdP_at y c9
            unfold cdP at y
            rw [if_pos c9] at y
            cases hI : insP B e L p with
            | error q => rw [hI] at y; cases y
            | ok q =>
              rw [insC_1 (by omega) z L0.1 hI] at z1
              have hW := Wk_insN (B := B) (c := c) (n := l) (q := p) hB (fun z => y1.1 (by rw [z]; decide))
              rcases hW.2 with w | ⟨w, w1, -⟩
              · rw [z1] at w; cases w
                exact ⟨rfl, y1.2.2.2.2.2.2.2, fun _ => y2⟩
              · rw [z1] at w1; cases w1
        refine s33_154.mpr (s33_156.mpr ?_)
        refine s33_158.mpr (wif (fun c158 => ?_) (fun c158 => ?_))
        · first
          | (exfalso; omega)
          | skip
            refine s33_161.mpr ?_
            refine (s33_162 (by first | decide | assumption | omega)).mpr ?_
            try simp (disch := first | decide | assumption | omega) only [kon, knt_some, knt_none, Option.toList_some, Option.toList_none, List.cons_append, List.nil_append, a2, e3, e2]
            refine (s33_165 (by first | decide | assumption | omega) (by first | decide | assumption | omega)).mpr ?_
            refine b_isRight k6 (fun _ => ?_) (fun q => absurd e4 q)
            refine s33_168.mpr (wif (fun c168 => ?_) (fun c168 => ?_))
            · first
              | (exfalso; omega)
              | skip
                first | exact absurd (by assumption) (by decide) | (exfalso; omega)
            · first
              | (exfalso; omega)
              | skip
                refine s33_171.mpr ?_
                refine (s33_172 (by first | decide | assumption | omega)).mpr ?_
                try simp (disch := first | decide | assumption | omega) only [kon, knt_some, knt_none, Option.toList_some, Option.toList_none, List.cons_append, List.nil_append, a2, e3, e2]
                refine (s33_175 (by first | decide | assumption | omega)).mpr ?_
                refine s33_178.mpr ?_
                try simp (disch := first | decide | assumption | omega) only [kon, knt_some, knt_none, Option.toList_some, Option.toList_none, List.cons_append, List.nil_append, a2, e3, e2]
                refine (s33_179 (by first | decide | assumption | omega)).mpr ?_
                try simp (disch := first | decide | assumption | omega) only [kon, knt_some, knt_none, Option.toList_some, Option.toList_none, List.cons_append, List.nil_append, a2, e3, e2]
                refine (s33_182 (by first | decide | assumption | omega)).mpr ?_
                try simp (disch := first | decide | assumption | omega) only [kon, knt_some, knt_none, Option.toList_some, Option.toList_none, List.cons_append, List.nil_append, a2, e3, e2]
                refine s33_185.mpr (wif (fun c185 => ?_) (fun c185 => ?_))
                · first
                  | (exfalso; omega)
                  | skip
                    refine s33_188.mpr (s33_189.mpr (s33_190.mpr ?_))
                    refine (s33_192 (by first | decide | assumption | omega) (by first | decide | assumption | omega)).mpr ?_
                    refine d_walkInstruction hD1 hO1 hF1 hT (by omega) e3 (by omega) e2 e4 ec1 eL1 L0 ⟨c0.1, by omega⟩ he hl2 c9 ⟨l0.2, c0.2⟩ hbg hGG ?_
                    refine kEx_of (fun qE eE => ?_) (fun qE eE => ?_)
                    rotate_left
                    intro hE vE
                    · skip
                      first
                      | (have eX : cdC nm B e L c l l.toNat c = .error qE := by rw [eT, eT2, eE]; rfl
                         refine s33_195.mpr ?_
                         refine s33_198.mpr ?_
                         refine F154 qE hE _ eX ?_ vE.2.1 vE.2.2.1 vE.2.2.2
                         exact ((hf.mn (fun a i q => by omega)).up (Or.inr rfl)).tr (vE.1.mn (fun a i q => by unfold wY at q; omega)))
                      | (obtain ⟨u1, u2, u3⟩ := hIP qE eE
                         refine s33_195.mpr ?_
                         rw [fAdd_id (by omega) (by omega)]
                         refine s33_198.mpr ?_
                         refine ih (i + 1) qE _ (by omega) (by rw [eT, eT2, eE]; rfl) u3 ?_ upI_eq ?_ ?_ ?_ (fun z q => ?_) (fun q => ?_)
                         · refine FW.up (FW.sm hf ?_) (by omega)
                           rcases a4 with z | z
                           · exact Or.inl (Or.inr ⟨z, rfl⟩)
                           · refine Or.inr ?_; rw [← hf (t + 2) (p - c) (by omega)]; exact hbg z
                         · rw [itr_s, ei, u1]; show p - c + ilen B (c + (p - c)) = _; rw [show c + (p - c) = p by omega]; omega
                         · rw [upI_i (by decide), upI_a hne.symm]; exact e2
                         · rw [upI_i (by decide), upI_a hne.symm]; exact e4
                         · rw [upI_a hne, upI_self]
                           by_cases y : q = p - c
                           · rw [if_pos y]; exact ⟨fun _ => ⟨i, by omega, by rw [ei, y]⟩, fun _ => by decide⟩
                           · rw [if_neg y, hb0 z q]
                             constructor
                             · rintro ⟨j, j1, j2⟩; exact ⟨j, by omega, j2⟩
                             · rintro ⟨j, j1, j2⟩
                               by_cases w : j = i
                               · subst w; exact absurd (j2.symm.trans ei) y
                               · exact ⟨j, by omega, j2⟩
                         · rw [upI_a hne, upI_self]
                           split
                           · exact Or.inr rfl
                           · exact hb1 q)
                    · skip
                      first
                      | (have eX : cdC nm B e L c l l.toNat c = .error qE := by rw [eT, eT2, eE]; rfl
                         refine s33_195.mpr ?_
                         refine s33_198.mpr ?_
                         refine F154 qE hE _ eX ?_ vE.2.1 vE.2.2.1 vE.2.2.2
                         exact ((hf.mn (fun a i q => by omega)).up (Or.inr rfl)).tr (vE.1.mn (fun a i q => by unfold wY at q; omega)))
                      | (obtain ⟨u1, u2, u3⟩ := hIP qE eE
                         refine s33_195.mpr ?_
                         rw [fAdd_id (by omega) (by omega)]
                         refine s33_198.mpr ?_
                         refine ih (i + 1) qE _ (by omega) (by rw [eT, eT2, eE]; rfl) u3 ?_ upI_eq ?_ ?_ ?_ (fun z q => ?_) (fun q => ?_)
                         · refine FW.up (FW.sm hf ?_) (by omega)
                           rcases a4 with z | z
                           · exact Or.inl (Or.inr ⟨z, rfl⟩)
                           · refine Or.inr ?_; rw [← hf (t + 2) (p - c) (by omega)]; exact hbg z
                         · rw [itr_s, ei, u1]; show p - c + ilen B (c + (p - c)) = _; rw [show c + (p - c) = p by omega]; omega
                         · rw [upI_i (by decide), upI_a hne.symm]; exact e2
                         · rw [upI_i (by decide), upI_a hne.symm]; exact e4
                         · rw [upI_a hne, upI_self]
                           by_cases y : q = p - c
                           · rw [if_pos y]; exact ⟨fun _ => ⟨i, by omega, by rw [ei, y]⟩, fun _ => by decide⟩
                           · rw [if_neg y, hb0 z q]
                             constructor
                             · rintro ⟨j, j1, j2⟩; exact ⟨j, by omega, j2⟩
                             · rintro ⟨j, j1, j2⟩
                               by_cases w : j = i
                               · subst w; exact absurd (j2.symm.trans ei) y
                               · exact ⟨j, by omega, j2⟩
                         · rw [upI_a hne, upI_self]
                           split
                           · exact Or.inr rfl
                           · exact hb1 q)
                · first
                  | (exfalso; omega)
                  | skip
                    first | exact absurd (by assumption) (by decide) | (exfalso; omega)
        · first
          | (exfalso; omega)
          | skip
            first | exact absurd (by assumption) (by decide) | (exfalso; omega)
      · have eT2 : cdC nm B e L c l (k + 1) p = .ok p := if_neg c9
        have E := EX i p hi1 (vI i) (eT.trans eT2) hf e3 ei (by omega) e4 hb0 hb1
        refine s33_154.mpr (s33_156.mpr ?_)
        refine s33_158.mpr (wif (fun c158 => ?_) (fun c158 => ?_))
        · first
          | (exfalso; omega)
          | skip
            refine s33_161.mpr ?_
            refine (s33_162 (by first | decide | assumption | omega)).mpr ?_
            try simp (disch := first | decide | assumption | omega) only [kon, knt_some, knt_none, Option.toList_some, Option.toList_none, List.cons_append, List.nil_append, a2, e3, e2]
            refine (s33_165 (by first | decide | assumption | omega) (by first | decide | assumption | omega)).mpr ?_
            refine b_isRight k6 (fun _ => ?_) (fun q => absurd e4 q)
            refine s33_168.mpr (wif (fun c168 => ?_) (fun c168 => ?_))
            · first
              | (exfalso; omega)
              | skip
                exact E
            · first
              | (exfalso; omega)
              | skip
                refine s33_171.mpr ?_
                refine (s33_172 (by first | decide | assumption | omega)).mpr ?_
                try simp (disch := first | decide | assumption | omega) only [kon, knt_some, knt_none, Option.toList_some, Option.toList_none, List.cons_append, List.nil_append, a2, e3, e2]
                refine (s33_175 (by first | decide | assumption | omega)).mpr ?_
                refine s33_178.mpr ?_
                try simp (disch := first | decide | assumption | omega) only [kon, knt_some, knt_none, Option.toList_some, Option.toList_none, List.cons_append, List.nil_append, a2, e3, e2]
                refine (s33_179 (by first | decide | assumption | omega)).mpr ?_
                try simp (disch := first | decide | assumption | omega) only [kon, knt_some, knt_none, Option.toList_some, Option.toList_none, List.cons_append, List.nil_append, a2, e3, e2]
                refine (s33_182 (by first | decide | assumption | omega)).mpr ?_
                try simp (disch := first | decide | assumption | omega) only [kon, knt_some, knt_none, Option.toList_some, Option.toList_none, List.cons_append, List.nil_append, a2, e3, e2]
                refine s33_185.mpr (wif (fun c185 => ?_) (fun c185 => ?_))
                · first
                  | (exfalso; omega)
                  | skip
                    exfalso; omega
                · first
                  | (exfalso; omega)
                  | skip
                    exact E
        · first
          | (exfalso; omega)
          | skip
            exact E
  refine s33_133.mpr ?_
  refine (s33_134 (by first | decide | assumption | omega)).mpr ?_
  refine s33_137.mpr ?_
  try simp (disch := first | decide | assumption | omega) only [kon, knt_some, knt_none, Option.toList_some, Option.toList_none, List.cons_append, List.nil_append, a2, hc, hl4, eA]
  refine (s33_139 (by first | decide | assumption | omega)).mpr ?_
  refine s33_142.mpr ?_
  try simp (disch := first | decide | assumption | omega) only [kon, knt_some, knt_none, Option.toList_some, Option.toList_none, List.cons_append, List.nil_append, a2, hc, hl4, eA]
  refine (s33_144 (by first | decide | assumption | omega)).mpr ?_
  refine s33_147.mpr ?_
  try simp (disch := first | decide | assumption | omega) only [kon, knt_some, knt_none, Option.toList_some, Option.toList_none, List.cons_append, List.nil_append, a2, hc, hl4, eA]
  refine (s33_148 (by first | decide | assumption | omega)).mpr ?_
  refine s33_151.mpr (s33_152.mpr ?_)
  try simp (disch := first | decide | assumption | omega) only [kon, knt_some, knt_none, Option.toList_some, Option.toList_none, List.cons_append, List.nil_append, a2, hc, hl4, eA]
  refine L154 l.toNat 0 c _ (by omega) rfl hP (FW.up FW.rf (by omega)) (by rw [upI_i (by decide)]; exact hp) (by show (0 : Int) = _; omega) upI_eq (by rw [upI_i (by decide)]; exact h4) (fun z q => ?_) (fun q => by rw [upI_a hne]; exact hG2 q)
  rw [upI_a hne, hb z q]
  exact ⟨fun y => absurd rfl y, fun ⟨j, j1, _⟩ => absurd j1 (by omega)⟩
end CD10
