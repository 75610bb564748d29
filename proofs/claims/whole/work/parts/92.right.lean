/-! THE REFERENCE: is a function right -/
section MRT
variable {d : Nat} {al : AL} {hi : HI} {hr : HR} {Q : QQ} {B : Int → Int}
theorem wif2 {c A B : Prop} {inst : Decidable c} (h1 : c → A) (h2 : ¬ c → B) : @ite _ c inst A B := by
  split
  · exact h1 (by assumption)
  · exact h2 (by assumption)
theorem bgn_nx {c n p p' : Int} (hB : ∀ k, -1 ≤ B k ∧ B k ≤ 255) (h : bgn B c n p) (h' : bgn B c n p') (hlt : p < p') : p + ilen B (c + p) ≤ p' := by
  obtain ⟨h0, h1, j, hj⟩ := h
  obtain ⟨h0', h1', j', hj'⟩ := h'
  have hg : ∀ q, q < (fun q => q + ilen B (c + q)) q := fun q => by have := ilen_b hB (c + q); show q < q + ilen B (c + q); omega
  by_cases e : j' ≤ j
  · have := itr_inc hg (j - j') p'
    rw [← hj', ← itr_add, show j' + (j - j') = j by omega, hj] at this
    omega
  · have := itr_inc hg (j' - (j + 1)) (p + ilen B (c + p))
    have e2 : itr (fun q => q + ilen B (c + q)) (j + 1) 0 = p + ilen B (c + p) := by rw [itr_s, hj]
    rw [← e2, ← itr_add, show j + 1 + (j' - (j + 1)) = j' by omega, hj', e2] at this
    omega
theorem fl_P {n : Int} {P : Int → Prop} : ∀ (fl : List (Int × Tst)) (A A' : Asg), FlR n A fl A' → (∀ q ∈ fl, q.1 < n → P q.1) → (∀ p X, 0 ≤ p → A p = some X → X.1 ≤ 16 ∧ P p) → ∀ p X, 0 ≤ p → A' p = some X → X.1 ≤ 16 ∧ P p
  | [], A, A', h, _, hP => fun p X hp hX => hP p X hp (by rw [← h p hp]; exact hX)
  | q :: fl, A, A', ⟨a, b, A1, h1, h2⟩, h0, hP => by
    refine fl_P fl A1 A' h2 (fun r hr => h0 r (List.mem_cons_of_mem _ hr)) (fun p X hp hX => ?_)
    by_cases e : p = q.1
    · subst e
      refine ⟨?_, h0 q (List.mem_cons_self ..) a⟩
      cases hY : A q.1 with
      | none => obtain ⟨Z, z1, z2⟩ := h1.2.1 hY; rw [z1] at hX; cases hX; rw [z2.1]; exact b
      | some Y =>
        obtain ⟨-, Z, z1, z2⟩ := h1.2.2 Y hY
        rw [z1] at hX; cases hX
        rw [z2.1]
        exact (hP _ Y hp hY).1
    · rw [h1.1 p hp e] at hX; exact hP p X hp hX
/-- what holds while right goes on -/
def RI (B : Int → Int) (g : Int) (hi h : HI) : Prop := FW wT hi h ∧ h 49 36 = 1 ∧ (h 49 37 = 0 ∨ h 49 37 = 1) ∧ bool71 h ∧ vA B (memA h) ∧ (∀ p X, 0 ≤ p → memA h p = some X → X.1 ≤ 16 ∧ bgn B (cAt B g) (cLen B g) p) ∧ (∃ Z, memA h 0 = some Z ∧ leX (0, fun _ => 0, ent B g) Z) ∧ ∀ W, Clo B g W → leA (memA h) W
def SW (B : Int → Int) (g : Int) (h0 h : HI) (p : Int) : Prop := (h 49 37 = 0 ∧ eqA (memA h0) (memA h) ∧ ∀ p' X, 0 ≤ p' → p' < p → memA h p' = some X → Acc B g (memA h) p' X) ∨ (h 49 37 = 1 ∧ rkA (memA h0) < rkA (memA h))
theorem RI.up37 {g x : Int} {h : HI} (hx : x = 0 ∨ x = 1) (H : RI B g hi h) : RI B g hi (upI h 49 37 x) := by
  obtain ⟨a, b, c, d, e, f, k, l⟩ := H
  have eM : memA (upI h 49 37 x) = memA h := memA_u (by decide)
  refine ⟨FW.up a (by unfold wT wS wFl; omega), by (try simp (disch := decide) only [upI_eq, upI_a, upI_i, upR_eq, upR_a, upR_i]); exact b, by rw [upI_eq]; exact hx, fun q q0 q1 => by rw [upI_a (by decide)]; exact d q q0 q1, ?_⟩
  rw [eM]; exact ⟨e, f, k, l⟩
set_option maxRecDepth 8000 in
theorem m_right {m g : Int} (hA : SA al) (hR : MR hr) (hd : 8 ≤ d) (hM : MB hi m B) (hS : Sh B) (hN : NV B) (hg : 0 ≤ g ∧ g < nFn B) (hC : ∀ q, 240 ≤ q → hi 71 q ≠ 1)
    (ok : ∀ hi', FW wT hi hi' → Clo B g (memA hi') → (∀ W, Clo B g W → leA (memA hi') W) → vA B (memA hi') → (∀ p X, 0 ≤ p → memA hi' p = some X → X.1 ≤ 16 ∧ bgn B (cAt B g) (cLen B g) p) → bool71 hi' → Q (some (some (vI 1))) al hi' hr)
    (no : ∀ hi', FW wT hi hi' → (∀ W, ¬ Clo B g W) → Q (some (some (vI 0))) al hi' hr) : Ev d 243 [vR (some 49), vI m, vI (10 * m + g)] al hi hr Q := by
  have kM : isK al 49 13 := hA.k (by decide) (by decide) rfl
  obtain ⟨hm0, hm1, h52, hB, hMD⟩ := id hM
  have hrg : ∀ k, -1 ≤ B k ∧ B k ≤ 255 := fun k => by rw [← hB]; exact bAt_rng m k
  have f1 : nFn B ≤ 10 := hS.2.2.2.2.2.2.2.2.2.1
  obtain ⟨s1, s2, s3, s4, s5, s6, s7, s8, s9, s10, s11, s12, s13, s14⟩ := hS.2.2.2.2.2.2.2.2.2.2 g hg.1 hg.2
  obtain ⟨d1, d2, d3, d4, d5, d6⟩ := hMD.2.2.2.2.2 g hg.1 hg.2
  have d1 : hi 64 (10 * m + g) = nPar B g := d1
  have d2 : ∀ k, 0 ≤ k → k < nPar B g → hi 65 (4 * (10 * m + g) + k) = pTy B g k := d2
  have d5 : hi 68 (10 * m + g) = cLen B g := d5
  have d6 : hi 69 (10 * m + g) = cAt B g := d6
  have hcn : cAt B g + cLen B g ≤ 2000 := by
    have h9 := (hN.2.2 g hg.1 hg.2).2.2
    have hx := (cd_end _ _ _ (by omega) (by omega) s13).2 (by omega)
    have : bAt hi m (cAt B g + cLen B g - 1) ≠ -1 := by rw [hB]; omega
    have := bAt_lt this
    omega
  have ho : ∀ p, bgn B (cAt B g) (cLen B g) p → Opk B g p := fun p hp => opk_of hS hN hrg hg.1 hg.2 hp
  have l71 := SA.len (a := 71) (n := 240) hA (by decide) (by decide) rfl
  have l76 := SA.len (a := 76) (n := 10) hA (by decide) (by decide) rfl
  have l64 := SA.len (a := 64) (n := 130) hA (by decide) (by decide) rfl
  have l65 := SA.len (a := 65) (n := 520) hA (by decide) (by decide) rfl
  have l68 := SA.len (a := 68) (n := 130) hA (by decide) (by decide) rfl
  have l69 := SA.len (a := 69) (n := 130) hA (by decide) (by decide) rfl
  -- the end
  have T164 : ∀ h l3, RI B g hi h → (∀ p X, 0 ≤ p → memA h p = some X → Acc B g (memA h) p X) → Wp d 243 164 [vR (some 49), vI m, vI (10 * m + g), l3] [] al h hr Q := by
    rintro h l3 ⟨a, b, c, d, e, f, k, l⟩ hacc
    refine s243_164.mpr ?_
    refine (s243_165 kM).mpr ?_
    try simp (disch := first | decide | assumption | omega) only [b]
    refine (s243_168 (by first | assumption | omega)).mpr ?_
    exact ok h a ⟨k, hacc⟩ l e f d
  have N164 : ∀ h l3, FW wT hi h → h 49 36 = 0 → (∀ W, ¬ Clo B g W) → Wp d 243 164 [vR (some 49), vI m, vI (10 * m + g), l3] [] al h hr Q := by
    intro h l3 hw h36 hno
    refine s243_164.mpr ?_
    refine (s243_165 kM).mpr ?_
    try simp (disch := first | decide | assumption | omega) only [h36]
    refine (s243_168 (by first | assumption | omega)).mpr ?_
    exact no h hw hno
  -- one sweep
  have T109 : ∀ (h0 : HI) (K : ∀ h l3, RI B g hi h → SW B g h0 h (cLen B g) → Wp d 243 88 [vR (some 49), vI m, vI (10 * m + g), l3] [] al h hr Q) (k : Nat) (p : Int) (h : HI), (bgn B (cAt B g) (cLen B g) p ∨ cLen B g ≤ p ∧ p ≤ 2000) → cLen B g - p ≤ k → RI B g hi h → SW B g h0 h p → Wp d 243 109 [vR (some 49), vI m, vI (10 * m + g), vI p] [] al h hr Q := by
    intro h0 K k
    induction k with
    | zero =>
      intro p h hp hk hI hS9
      have hp1 : cLen B g ≤ p := by omega
      have e68 : h 68 (10 * m + g) = cLen B g := (hI.1 68 _ (wT_n (by decide) (by decide))).trans d5
      refine s243_109.mpr (s243_110.mpr ((s243_111 kM).mpr ?_))
      rw [mr_20 hR]
      refine s243_114.mpr ?_
      refine (s243_115 (hA.k (by decide) (by decide) rfl) (by first | assumption | omega) (by first | assumption | omega)).mpr ?_
      try simp (disch := first | decide | assumption | omega) only [e68]
      refine s243_116.mpr (wif (fun c116 => ?_) (fun c116 => ?_))
      · first
        | (exfalso; omega)
        | skip
          exfalso; omega
      · first
        | (exfalso; omega)
        | skip
          refine s243_161.mpr ?_
          refine K h _ hI ?_
          rcases hS9 with ⟨x1, x2, x3⟩ | x
          · exact Or.inl ⟨x1, x2, fun p' X a b => x3 p' X a (by omega)⟩
          · exact Or.inr x
    | succ k ih =>
      intro p h hp hk hI hS9
      have e68 : h 68 (10 * m + g) = cLen B g := (hI.1 68 _ (wT_n (by decide) (by decide))).trans d5
      by_cases hp1 : cLen B g ≤ p
      · skip
        refine s243_109.mpr (s243_110.mpr ((s243_111 kM).mpr ?_))
        rw [mr_20 hR]
        refine s243_114.mpr ?_
        refine (s243_115 (hA.k (by decide) (by decide) rfl) (by first | assumption | omega) (by first | assumption | omega)).mpr ?_
        try simp (disch := first | decide | assumption | omega) only [e68]
        refine s243_116.mpr (wif (fun c116 => ?_) (fun c116 => ?_))
        · first
          | (exfalso; omega)
          | skip
            exfalso; omega
        · first
          | (exfalso; omega)
          | skip
            refine s243_161.mpr ?_
            refine K h _ hI ?_
            rcases hS9 with ⟨x1, x2, x3⟩ | x
            · exact Or.inl ⟨x1, x2, fun p' X a b => x3 p' X a (by omega)⟩
            · exact Or.inr x
      have hbg : bgn B (cAt B g) (cLen B g) p := by rcases hp with hp | hp; exact hp; omega
      have p0 := hbg.1
      have hil := ilen_b hrg (cAt B g + p)
      have e69 : h 69 (10 * m + g) = cAt B g := (hI.1 69 _ (wT_n (by decide) (by decide))).trans d6
      have hMh : MB h m B := hM.wt hI.1
      -- to the next
      have T142 : ∀ h', RI B g hi h' → SW B g h0 h' (p + ilen B (cAt B g + p)) → Wp d 243 142 [vR (some 49), vI m, vI (10 * m + g), vI p] [] al h' hr Q := by
        intro h' hI' hS'
        have hM' : MB h' m B := hM.wt hI'.1
        have e69 : h' 69 (10 * m + g) = cAt B g := (hI'.1 69 _ (wT_n (by decide) (by decide))).trans d6
        refine s243_142.mpr (s243_143.mpr (s243_144.mpr (s243_145.mpr ((s243_146 kM).mpr ?_))))
        rw [mr_21 hR]
        refine s243_149.mpr ?_
        refine (s243_150 (hA.k (by decide) (by decide) rfl) (by first | assumption | omega) (by first | assumption | omega)).mpr ?_
        refine s243_151.mpr (s243_152.mpr ?_)
        try simp (disch := first | decide | assumption | omega) only [kon, knt_some, knt_none, Option.toList_some, Option.toList_none, List.cons_append, List.nil_append, e69, fAdd_id]
        refine (s243_153 (by omega) kM).mpr ?_
        refine m_length (B := B) hA hR (by omega) ⟨hm0, hm1⟩ hM'.2.2.1 hM'.2.2.2.1 (by omega) ?_
        refine s243_156.mpr (s243_157.mpr (s243_158.mpr ?_))
        try simp (disch := first | decide | assumption | omega) only [kon, knt_some, knt_none, Option.toList_some, Option.toList_none, List.cons_append, List.nil_append, e69, fAdd_id]
        refine ih _ h' ?_ (by omega) hI' hS'
        by_cases c : p + ilen B (cAt B g + p) < cLen B g
        · exact Or.inl (bgn_s hrg hbg c)
        · exact Or.inr ⟨by omega, by omega⟩
      have hnoth : ∀ A : Asg, (∀ p X, 0 ≤ p → A p = some X → X.1 ≤ 16 ∧ bgn B (cAt B g) (cLen B g) p) → ∀ p' X, 0 ≤ p' → p' < p + ilen B (cAt B g + p) → A p' = some X → p' < p ∨ p' = p := by
        intro A hA9 p' X a b hX
        have hb' := (hA9 p' X a hX).2
        by_cases c : p < p'
        · have := bgn_nx hrg hbg hb' c; omega
        · omega
      obtain ⟨i1, i2, i3, i4, i5, i6, i7, i8⟩ := id hI
      cases hX : memA h p with
      | none =>
        have h71 : h 71 p = 0 := by
          rcases i4 p p0 (by omega) with e | e
          · exact e
          · unfold memA at hX; rw [if_pos e] at hX; cases hX
        refine s243_109.mpr (s243_110.mpr ((s243_111 kM).mpr ?_))
        rw [mr_20 hR]
        refine s243_114.mpr ?_
        refine (s243_115 (hA.k (by decide) (by decide) rfl) (by first | assumption | omega) (by first | assumption | omega)).mpr ?_
        try simp (disch := first | decide | assumption | omega) only [e68, i2, h71]
        refine s243_116.mpr (wif (fun c116 => ?_) (fun c116 => ?_))
        · first
          | (exfalso; omega)
          | skip
            refine s243_119.mpr ?_
            refine (s243_120 kM).mpr ?_
            try simp (disch := first | decide | assumption | omega) only [e68, i2, h71]
            refine s243_123.mpr (wif (fun c123 => ?_) (fun c123 => ?_))
            · first
              | (exfalso; omega)
              | skip
                exfalso; omega
            · first
              | (exfalso; omega)
              | skip
                refine s243_126.mpr ((s243_127 kM).mpr ?_)
                rw [mr_29 hR]
                refine s243_130.mpr ?_
                refine (s243_131Z (hA.k (by decide) (by decide) rfl) (by first | assumption | omega) (by first | assumption | omega)).mpr ?_
                try simp (disch := first | decide | assumption | omega) only [e68, i2, h71]
                refine s243_132.mpr (wif (fun c132 => ?_) (fun c132 => ?_))
                · first
                  | (exfalso; omega)
                  | skip
                    refine T142 h hI ?_
                    rcases hS9 with ⟨x1, x2, x3⟩ | x
                    · refine Or.inl ⟨x1, x2, fun p' X a b hX' => ?_⟩
                      rcases hnoth _ i6 p' X a b hX' with c | c
                      · exact x3 p' X a c hX'
                      · subst c; rw [hX] at hX'; cases hX'
                    · exact Or.inr x
                · first
                  | (exfalso; omega)
                  | skip
                    exfalso; omega
        · first
          | (exfalso; omega)
          | skip
            exfalso; omega
      | some Xp =>
        have h71 : h 71 p = 1 := by
          unfold memA at hX
          by_cases e : h 71 p = 1
          · exact e
          · rw [if_neg e] at hX; cases hX
        have hI9 := ((hN.2.2 g hg.1 hg.2).2.2 p hbg)
        have hop := ho p hbg
        have R1 : Ev (d - 1) 253 [vR (some 49), vI m, vI (10 * m + g), vI p] al h hr (kon d 243 139 142 [vR (some 49), vI m, vI (10 * m + g), vI p] [] Q) := by
          refine m_step (B := B) hA hR (by omega) hMh hS hg e68 (by omega) (by omega) (by omega) hI9.1 hI9.2.2.2.2.2.1 hop i2 i3 i4 i5 hX (i6 p Xp p0 hX).1 (fun X fl h' x1 x2 x3 x4 x5 x6 x7 x8 => ?_) (fun X h' x1 x2 x3 x4 => ?_)
          · simp only [kon, knt_some, knt_none, Option.toList_some, Option.toList_none, List.cons_append, List.nil_append]
            have hXv := eqX_v x1 (i5 p Xp p0 hX)
            have hfv := hop.2.2 X fl hXv x2
            have hle := fl_le fl _ _ x3
            have v' := fl_v fl _ _ x3 hfv i5
            have P' := fl_P (P := bgn B (cAt B g) (cLen B g)) fl _ _ x3 (ts_bgn hrg hN hg.1 hg.2 hbg x2) i6
            have hI' : RI B g hi h' := by
              refine ⟨i1.tr x4, x5, x6, x8, v', P', ?_, fun W hW => ?_⟩
              · obtain ⟨Z, z1, z2⟩ := i7
                obtain ⟨Z', z3, z4⟩ := hle 0 Z (by omega) z1
                exact ⟨Z', z3, z2.tr z4⟩
              · obtain ⟨fl', g1, -, g2⟩ := step_lub2 hop p0 i5 hX x1.le (eqX_v x1 (i5 p Xp p0 hX)) hW (i8 W hW)
                rw [x2] at g1; cases g1
                exact g2 _ x3
            refine T142 h' hI' ?_
            have hra := rkA_le i5 hle
            rcases hS9 with ⟨y1, y2, y3⟩ | ⟨y1, y2⟩
            · have hr0 : rkA (memA h0) ≤ rkA (memA h) := by
                refine smN_le 240 (fun k _ => ?_)
                have := y2 (k : Int) (by omega)
                cases e1 : memA h0 k with
                | none => exact Nat.zero_le _
                | some X1 =>
                  cases e2 : memA h k with
                  | none => rw [this.1.mpr e2] at e1; cases e1
                  | some X2 =>
                    have e3 := this.2 X1 X2 e1 e2
                    have v2 := i5 k X2 (by omega) e2
                    exact rkX_le (by rw [e3.1]; exact v2.1) e3.le
              rcases x7 with ⟨z1, z2⟩ | ⟨z1, z2⟩
              · refine Or.inl ⟨by rw [z1]; exact y1, y2.tr z2, fun p' X' a b hX' => ?_⟩
                have z3 := z2 p' a
                cases e1 : memA h p' with
                | none => rw [z3.1.mp e1] at hX'; cases hX'
                | some X1 =>
                  have e3 := z3.2 X1 X' e1 hX'
                  have hbp := (i6 p' X1 a e1).2
                  rcases hnoth _ P' p' X' a b hX' with c | c
                  · exact acc_eq (ho p' hbp) e3.sy.le (acc_le hle (ho p' hbp) (i5 p' X1 a e1) (y3 p' X1 a c e1))
                  · subst c
                    rw [hX] at e1; cases e1
                    exact acc_eq hop (e3.sy.tr x1.sy).le (step_acc hop hXv x2 x3)
              · exact Or.inr ⟨z1, by omega⟩
            · right
              rcases x7 with ⟨z1, z2⟩ | ⟨z1, z2⟩
              · exact ⟨by rw [z1]; exact y1, by omega⟩
              · exact ⟨z1, by omega⟩
          · simp only [kon, knt_some, knt_none, Option.toList_some, Option.toList_none, List.cons_append, List.nil_append]
            have hno : ∀ W, ¬ Clo B g W := by
              intro W hW
              obtain ⟨fl', g1, g2, -⟩ := step_lub2 hop p0 i5 hX x1.le (eqX_v x1 (i5 p Xp p0 hX)) hW (i8 W hW)
              rcases x2 with e | ⟨fl, e, e2⟩
              · rw [g1] at e; cases e
              · rw [g1] at e; cases e; exact g2 e2
            have hM' : MB h' m B := hMh.wt x3
            have e68' : h' 68 (10 * m + g) = cLen B g := (x3 68 _ (wT_n (by decide) (by decide))).trans e68
            have e69' : h' 69 (10 * m + g) = cAt B g := (x3 69 _ (wT_n (by decide) (by decide))).trans e69
            refine s243_142.mpr (s243_143.mpr (s243_144.mpr (s243_145.mpr ((s243_146 kM).mpr ?_))))
            rw [mr_21 hR]
            refine s243_149.mpr ?_
            refine (s243_150 (hA.k (by decide) (by decide) rfl) (by first | assumption | omega) (by first | assumption | omega)).mpr ?_
            refine s243_151.mpr (s243_152.mpr ?_)
            try simp (disch := first | decide | assumption | omega) only [kon, knt_some, knt_none, Option.toList_some, Option.toList_none, List.cons_append, List.nil_append, e69', e68', x4, fAdd_id]
            refine (s243_153 (by omega) kM).mpr ?_
            refine m_length (B := B) hA hR (by omega) ⟨hm0, hm1⟩ hM'.2.2.1 hM'.2.2.2.1 (by omega) ?_
            refine s243_156.mpr (s243_157.mpr (s243_158.mpr (s243_109.mpr (s243_110.mpr ((s243_111 kM).mpr ?_)))))
            rw [mr_20 hR]
            refine s243_114.mpr ?_
            try simp (disch := first | decide | assumption | omega) only [kon, knt_some, knt_none, Option.toList_some, Option.toList_none, List.cons_append, List.nil_append, e69', e68', x4, fAdd_id]
            refine (s243_115 (hA.k (by decide) (by decide) rfl) (by first | assumption | omega) (by first | assumption | omega)).mpr ?_
            try simp (disch := first | decide | assumption | omega) only [kon, knt_some, knt_none, Option.toList_some, Option.toList_none, List.cons_append, List.nil_append, e69', e68', x4, fAdd_id]
            refine s243_116.mpr (wif (fun c116 => ?_) (fun c116 => ?_))
            · first
              | (exfalso; omega)
              | skip
                refine s243_119.mpr ?_
                refine (s243_120 kM).mpr ?_
                try simp (disch := first | decide | assumption | omega) only [kon, knt_some, knt_none, Option.toList_some, Option.toList_none, List.cons_append, List.nil_append, e69', e68', x4, fAdd_id]
                refine s243_123.mpr (wif (fun c123 => ?_) (fun c123 => ?_))
                · first
                  | (exfalso; omega)
                  | skip
                    refine s243_161.mpr (s243_88.mpr ?_)
                    refine (s243_89 kM).mpr ?_
                    try simp (disch := first | decide | assumption | omega) only [kon, knt_some, knt_none, Option.toList_some, Option.toList_none, List.cons_append, List.nil_append, e69', e68', x4, fAdd_id]
                    refine s243_92.mpr (wif (fun c92 => ?_) (fun c92 => ?_))
                    · first
                      | (exfalso; omega)
                      | skip
                        exact N164 _ _ (i1.tr x3) x4 hno
                    · first
                      | (exfalso; omega)
                      | skip
                        exfalso; omega
                · first
                  | (exfalso; omega)
                  | skip
                    exfalso; omega
            · first
              | (exfalso; omega)
              | skip
                refine s243_161.mpr (s243_88.mpr ?_)
                refine (s243_89 kM).mpr ?_
                try simp (disch := first | decide | assumption | omega) only [kon, knt_some, knt_none, Option.toList_some, Option.toList_none, List.cons_append, List.nil_append, e69', e68', x4, fAdd_id]
                refine s243_92.mpr (wif (fun c92 => ?_) (fun c92 => ?_))
                · first
                  | (exfalso; omega)
                  | skip
                    exact N164 _ _ (i1.tr x3) x4 hno
                · first
                  | (exfalso; omega)
                  | skip
                    exfalso; omega
        refine s243_109.mpr (s243_110.mpr ((s243_111 kM).mpr ?_))
        rw [mr_20 hR]
        refine s243_114.mpr ?_
        refine (s243_115 (hA.k (by decide) (by decide) rfl) (by first | assumption | omega) (by first | assumption | omega)).mpr ?_
        try simp (disch := first | decide | assumption | omega) only [e68, i2, h71]
        refine s243_116.mpr (wif (fun c116 => ?_) (fun c116 => ?_))
        · first
          | (exfalso; omega)
          | skip
            refine s243_119.mpr ?_
            refine (s243_120 kM).mpr ?_
            try simp (disch := first | decide | assumption | omega) only [e68, i2, h71]
            refine s243_123.mpr (wif (fun c123 => ?_) (fun c123 => ?_))
            · first
              | (exfalso; omega)
              | skip
                exfalso; omega
            · first
              | (exfalso; omega)
              | skip
                refine s243_126.mpr ((s243_127 kM).mpr ?_)
                rw [mr_29 hR]
                refine s243_130.mpr ?_
                refine (s243_131Z (hA.k (by decide) (by decide) rfl) (by first | assumption | omega) (by first | assumption | omega)).mpr ?_
                try simp (disch := first | decide | assumption | omega) only [e68, i2, h71]
                refine s243_132.mpr (wif (fun c132 => ?_) (fun c132 => ?_))
                · first
                  | (exfalso; omega)
                  | skip
                    exfalso; omega
                · first
                  | (exfalso; omega)
                  | skip
                    refine s243_135.mpr (s243_136.mpr (s243_137.mpr (s243_138.mpr ?_)))
                    refine (s243_139 (by omega) kM).mpr ?_
                    exact R1
        · first
          | (exfalso; omega)
          | skip
            exfalso; omega
  have T88z : ∀ (h : HI) (l3 : AV), RI B g hi h → h 49 37 = 0 → (∀ p X, 0 ≤ p → memA h p = some X → Acc B g (memA h) p X) → Wp d 243 88 [vR (some 49), vI m, vI (10 * m + g), l3] [] al h hr Q := by
    intro h l3 hI i3 hacc
    have i2 := hI.2.1
    refine s243_88.mpr ?_
    refine (s243_89 kM).mpr ?_
    try simp (disch := first | decide | assumption | omega) only [i2, i3]
    refine s243_92.mpr (wif (fun c92 => ?_) (fun c92 => ?_))
    · first
      | (exfalso; omega)
      | skip
        first | (exfalso; omega) | exact T164 h _ hI hacc
    · first
      | (exfalso; omega)
      | skip
        refine s243_95.mpr ?_
        refine (s243_96 kM).mpr ?_
        try simp (disch := first | decide | assumption | omega) only [i2, i3]
        refine s243_99.mpr (wif (fun c99 => ?_) (fun c99 => ?_))
        · first
          | (exfalso; omega)
          | skip
            first | (exfalso; omega) | exact T164 h _ hI hacc
        · first
          | (exfalso; omega)
          | skip
            exfalso; omega
  -- the sweeps
  have T88 : ∀ (k : Nat) (h : HI) (l3 : AV), 8880 < rkA (memA h) + k → RI B g hi h → h 49 37 = 1 → Wp d 243 88 [vR (some 49), vI m, vI (10 * m + g), l3] [] al h hr Q := by
    intro k
    induction k with
    | zero =>
      intro h l3 hk hI _
      have := rkA_ub (A := memA h) (fun p X hp hX => (hI.2.2.2.2.2.1 p X hp hX).1)
      omega
    | succ k ih =>
      intro h l3 hk hI i3
      have i2 := hI.2.1
      have eM : memA (upI h 49 37 0) = memA h := memA_u (by decide)
      refine s243_88.mpr ?_
      refine (s243_89 kM).mpr ?_
      try simp (disch := first | decide | assumption | omega) only [i2, i3]
      refine s243_92.mpr (wif (fun c92 => ?_) (fun c92 => ?_))
      · first
        | (exfalso; omega)
        | skip
          exfalso; omega
      · first
        | (exfalso; omega)
        | skip
          refine s243_95.mpr ?_
          refine (s243_96 kM).mpr ?_
          try simp (disch := first | decide | assumption | omega) only [i2, i3]
          refine s243_99.mpr (wif (fun c99 => ?_) (fun c99 => ?_))
          · first
            | (exfalso; omega)
            | skip
              exfalso; omega
          · first
            | (exfalso; omega)
            | skip
              refine s243_102.mpr (s243_103.mpr ?_)
              refine (s243_104 kM (by first | assumption | omega)).mpr ?_
              refine s243_107.mpr (s243_108.mpr ?_)
              refine T109 (upI h 49 37 0) (fun h' l3 hI' hS' => ?_) (cLen B g).toNat 0 _ (Or.inl (bgn_0 (by omega))) (by omega) (hI.up37 (Or.inl rfl)) (Or.inl ⟨upI_eq, eqA.rf, fun p' X a b => absurd b (by omega)⟩)
              rcases hS' with ⟨y1, y2, y3⟩ | ⟨y1, y2⟩
              · exact T88z h' l3 hI' y1 (fun p X a hX => y3 p X a (hI'.2.2.2.2.2.1 p X a hX).2.2.1 hX)
              · rw [eM] at y2
                exact ih h' l3 (by omega) hI' y1
  -- the entry's types
  have T82 : ∀ h l3, FW wT hi h → h 49 36 = 1 → h 49 37 = 1 → h 49 35 = 0 → (∀ q, 0 ≤ q → q < 240 → h 71 q = 0) → (∀ k, 0 ≤ k → k < 10 → h 76 k = ent B g k) → Wp d 243 82 [vR (some 49), vI m, vI (10 * m + g), l3] [] al h hr Q := by
    intro h l3 hw h36 h37 h35 h71 h76
    have e68 : h 68 (10 * m + g) = cLen B g := (hw 68 _ (wT_n (by decide) (by decide))).trans d5
    have mN : ∀ q, 0 ≤ q → memA h q = none := by
      intro q q0
      unfold memA
      refine if_neg ?_
      by_cases c : q < 240
      · rw [h71 q q0 c]; decide
      · rw [hw 71 q (by unfold wT wS wFl; omega)]; exact hC q (by omega)
    have hb : bool71 h := fun q q0 q1 => Or.inl (h71 q q0 q1)
    have hv : vA B (memA h) := fun p X hp hX => by rw [mN p hp] at hX; cases hX
    have hE : eqX (scX h) (0, fun _ => 0, ent B g) := ⟨h35, fun k a b => by
      have b : k < h 49 35 := b
      omega, fun k a b => h76 k a b⟩
    have hv0 : vX B (scX h) := by
      refine eqX_v hE ⟨Int.le_refl _, fun k a b => absurd b (by show ¬ k < 0; omega), fun k a b => ?_⟩
      show vT B (ent B g k)
      unfold ent
      split
      · exact ((hN.2.2 g hg.1 hg.2).1 k a (by assumption)).1
      · exact vT_of (by omega)
    have R1 : Ev (d - 1) 245 [vR (some 49), vI (10 * m + g), vI 0] al h hr (kon d 243 85 88 [vR (some 49), vI m, vI (10 * m + g), l3] [] Q) := by
      refine m_flow (B := B) hA hR (by omega) (by omega) e68 (by omega) (Int.le_refl _) h36 (Or.inr h37) h35 (by omega) hb hv (fun h4 x1 x2 x3 x4 x5 x6 x7 x8 => ?_) (fun h4 x1 x3 x4 => ?_)
      · simp only [kon, knt_some, knt_none, Option.toList_some, Option.toList_none, List.cons_append, List.nil_append]
        have hI : RI B g hi h4 := by
          refine ⟨hw.tr x3.ft, x4, x5, x8, arr_v x6 hv (Int.le_refl _) hv0, ?_, ?_, ?_⟩
          · exact fl_P (P := bgn B (cAt B g) (cLen B g)) (n := cLen B g) [(0, scX h)] (memA h) (memA h4) ⟨x1, by show h 49 35 ≤ 16; omega, memA h4, x6, fun _ _ => rfl⟩ (fun q hq _ => by rw [List.mem_singleton] at hq; subst hq; exact bgn_0 (by omega)) (fun p X hp hX => by rw [mN p hp] at hX; cases hX)
          · obtain ⟨Z, z1, z2⟩ := arr_at x6
            exact ⟨Z, z1, hE.sy.le.tr z2⟩
          · intro W hW
            obtain ⟨Z, z1, z2⟩ := hW.1
            exact arr_lub x6 hv (Int.le_refl _) (fun p X hp hX => by rw [mN p hp] at hX; cases hX) z1 (hE.le.tr z2)
        have x37 : h4 49 37 = 1 := by
          rcases x7 with ⟨z1, -⟩ | ⟨z1, -⟩
          · rw [z1]; exact h37
          · exact z1
        exact T88 8881 h4 l3 (by omega) hI x37
      · exfalso
        rcases x1 with z | ⟨Y, z, -⟩
        · omega
        · rw [mN 0 (Int.le_refl _)] at z; cases z
    refine s243_82.mpr (s243_83.mpr (s243_84.mpr ?_))
    refine (s243_85 (by omega) kM).mpr ?_
    exact R1
  have T39 : ∀ h, FW wT hi h → h 49 36 = 1 → h 49 37 = 1 → h 49 35 = 0 → (∀ q, 0 ≤ q → q < 240 → h 71 q = 0) → Wp d 243 39 [vR (some 49), vI m, vI (10 * m + g), vI 0] [] al h hr Q := by
    intro h hw h36 h37 h35 h71
    refine wp_cnt (N := 10) (fun k ls h3 => ls = [vR (some 49), vI m, vI (10 * m + g), vI k] ∧ FW wT hi h3 ∧ h3 49 36 = 1 ∧ h3 49 37 = 1 ∧ h3 49 35 = 0 ∧ (∀ q, 0 ≤ q → q < 240 → h3 71 q = 0) ∧ (∀ j : Int, 0 ≤ j → j < k → h3 76 j = ent B g j)) ?_ ?_ _ _ ⟨rfl, hw, h36, h37, h35, h71, fun j a b => absurd b (by omega)⟩
    · rintro k ls h3 hk ⟨rfl, w3, a36, a37, a35, a71, a76⟩ nx
      have e64 : h3 64 (10 * m + g) = nPar B g := (w3 64 _ (wT_n (by decide) (by decide))).trans d1
      have e65 : (k : Int) < nPar B g → h3 65 (4 * (10 * m + g) + k) = pTy B g k := fun c => (w3 65 _ (wT_n (by decide) (by decide))).trans (d2 k (by omega) c)
      have fin : ∀ x, x = ent B g k → Wp d 243 39 [vR (some 49), vI m, vI (10 * m + g), vI ((k : Int) + 1)] [] al (upI h3 76 k x) hr Q := by
        intro x hx
        refine nx _ _ ⟨by rw [cast1], FW.up w3 (by unfold wT wS wFl; omega), by (try simp (disch := decide) only [upI_eq, upI_a, upI_i, upR_eq, upR_a, upR_i]); exact a36, by (try simp (disch := decide) only [upI_eq, upI_a, upI_i, upR_eq, upR_a, upR_i]); exact a37, by (try simp (disch := decide) only [upI_eq, upI_a, upI_i, upR_eq, upR_a, upR_i]); exact a35, fun q q0 q1 => by rw [upI_a (by decide)]; exact a71 q q0 q1, fun j a b => ?_⟩
        by_cases e : j = k
        · subst e; rw [upI_eq]; exact hx
        · rw [upI_i e]; exact a76 j a (by omega)
      refine s243_39.mpr (s243_40.mpr ?_)
      refine s243_42.mpr (wif (fun c42 => ?_) (fun c42 => ?_))
      · skip
        refine s243_45.mpr ((s243_46 kM).mpr ?_)
        rw [mr_34 hR]
        refine s243_49.mpr (s243_50.mpr (s243_51.mpr ((s243_52 kM).mpr ?_)))
        rw [mr_16 hR]
        refine s243_55.mpr ?_
        refine (s243_56 (hA.k (by decide) (by decide) rfl) (by first | assumption | omega) (by first | assumption | omega)).mpr ?_
        try simp (disch := first | decide | assumption | omega) only [upI_eq, upI_a, upI_i, upR_eq, upR_a, upR_i, e64, e65, fAdd_id, fMul_id]
        refine s243_57.mpr (wif (fun c57 => ?_) (fun c57 => ?_))
        · skip
          refine s243_60.mpr ((s243_61 kM).mpr ?_)
          rw [mr_17 hR]
          refine s243_64.mpr (s243_65.mpr (s243_66.mpr (s243_67.mpr (s243_68.mpr ?_))))
          try simp (disch := first | decide | assumption | omega) only [upI_eq, upI_a, upI_i, upR_eq, upR_a, upR_i, e64, e65, fAdd_id, fMul_id]
          refine (s243_69 (hA.k (by decide) (by decide) rfl) (by first | assumption | omega) (by first | assumption | omega)).mpr ?_
          refine s243_70.mpr ?_
          try simp (disch := first | decide | assumption | omega) only [upI_eq, upI_a, upI_i, upR_eq, upR_a, upR_i, e64, e65, fAdd_id, fMul_id]
          refine (s243_75 (hA.k (by decide) (by decide) rfl) (by first | assumption | omega) (by first | assumption | omega)).mpr ?_
          refine s243_76.mpr (s243_79.mpr ?_)
          try simp (disch := first | decide | assumption | omega) only [upI_eq, upI_a, upI_i, upR_eq, upR_a, upR_i, e64, e65, fAdd_id, fMul_id]
          refine fin _ (by unfold ent; first | rw [if_pos (by assumption)] | rw [if_neg (by assumption)])
        · skip
          refine s243_73.mpr ?_
          refine (s243_75 (hA.k (by decide) (by decide) rfl) (by first | assumption | omega) (by first | assumption | omega)).mpr ?_
          refine s243_76.mpr (s243_79.mpr ?_)
          try simp (disch := first | decide | assumption | omega) only [upI_eq, upI_a, upI_i, upR_eq, upR_a, upR_i, e64, e65, fAdd_id, fMul_id]
          refine fin _ (by unfold ent; first | rw [if_pos (by assumption)] | rw [if_neg (by assumption)])
      · skip
        exfalso; omega
    · rintro ls h3 ⟨rfl, w3, a36, a37, a35, a71, a76⟩
      refine s243_39.mpr (s243_40.mpr ?_)
      refine s243_42.mpr (wif (fun c42 => ?_) (fun c42 => ?_))
      · skip
        exfalso; omega
      · skip
        exact T82 h3 _ w3 a36 a37 a35 a71 a76
  rw [e243]
  have T2 : Wp d 243 2 [vR (some 49), vI m, vI (10 * m + g), vI 0] [] al hi hr Q := by
    obtain ⟨N, hN9⟩ : ∃ N : Nat, (N : Int) = 240 := ⟨240, rfl⟩
    refine wp_cnt (N := N) (fun k ls h3 => ls = [vR (some 49), vI m, vI (10 * m + g), vI k] ∧ FW wT hi h3 ∧ (∀ q : Int, 0 ≤ q → q < k → h3 71 q = 0)) ?_ ?_ _ _ ⟨rfl, FW.rf, fun j a b => absurd b (by omega)⟩
    · rintro k ls h3 hk ⟨rfl, w3, a71⟩ nx
      refine s243_2.mpr (s243_3.mpr ?_)
      refine s243_6.mpr (wif2 (fun c6 => ?_) (fun c6 => ?_))
      · skip
        refine s243_9.mpr ((s243_10 kM).mpr ?_)
        rw [mr_29 hR]
        refine s243_13.mpr (s243_14.mpr ?_)
        refine (s243_15Z (hA.k (by decide) (by decide) rfl) (by first | assumption | omega) (by first | assumption | omega)).mpr ?_
        refine s243_16.mpr (s243_19.mpr ?_)
        try simp (disch := first | decide | assumption | omega) only [upI_eq, upI_a, upI_i, upR_eq, upR_a, upR_i, fAdd_id]
        refine nx _ _ ⟨by rw [cast1], FW.up w3 (by unfold wT wS wFl; omega), fun j a b => ?_⟩
        by_cases e : j = k
        · subst e; rw [upI_eq]; rfl
        · rw [upI_i e]; exact a71 j a (by omega)
      · skip
        exfalso; omega
    · rintro ls h3 ⟨rfl, w3, a71⟩
      refine s243_2.mpr (s243_3.mpr ?_)
      refine s243_6.mpr (wif2 (fun c6 => ?_) (fun c6 => ?_))
      · skip
        exfalso; omega
      · skip
        refine s243_22.mpr (s243_23.mpr ?_)
        refine (s243_24 kM (by first | assumption | omega)).mpr ?_
        refine s243_27.mpr (s243_28.mpr ?_)
        refine (s243_29 kM (by first | assumption | omega)).mpr ?_
        refine s243_32.mpr (s243_33.mpr ?_)
        refine (s243_34 kM).mpr ?_
        refine s243_37.mpr (s243_38.mpr ?_)
        refine T39 _ (FW.up (FW.up (FW.up w3 (by unfold wT wS wFl; omega)) (by unfold wT wS wFl; omega)) (by unfold wT wS wFl; omega)) (by (try simp (disch := decide) only [upI_eq, upI_a, upI_i, upR_eq, upR_a, upR_i])) (by (try simp (disch := decide) only [upI_eq, upI_a, upI_i, upR_eq, upR_a, upR_i])) (by (try simp (disch := decide) only [upI_eq, upI_a, upI_i, upR_eq, upR_a, upR_i])) (fun q q0 q1 => by simp (disch := decide) only [upI_a]; exact a71 q q0 (by omega))
  refine s243_0.mpr (s243_1.mpr ?_)
  exact T2
end MRT
