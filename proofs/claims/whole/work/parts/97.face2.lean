/-! THE REFERENCE: module, typeAt -/
section MF2
variable {d : Nat} {al : AL} {hi : HI} {hr : HR} {Q : QQ} {B : Int → Int}
/-- the least assignment that holds -/
def LC (B : Int → Int) (f : Int) (A : Asg) : Prop := Clo B f A ∧ (∀ W, Clo B f W → leA A W) ∧ (∀ p X, 0 ≤ p → A p = some X → X.1 ≤ 16 ∧ bgn B (cAt B f) (cLen B f) p) ∧ vA B A
theorem LC.u {f : Int} {A A' : Asg} (h : LC B f A) (h' : LC B f A') : eqA A A' := (h.2.1 _ h'.1).as (h'.2.1 _ h.1)
/-- the highest stack -/
def HG (B : Int → Int) (f x : Int) : Prop := ∃ A, LC B f A ∧ 0 ≤ x ∧ (∀ p X, 0 ≤ p → A p = some X → X.1 ≤ x) ∧ (x = 0 ∨ ∃ p X, 0 ≤ p ∧ A p = some X ∧ X.1 = x)
/-- .. is somewhere -/
def hgE (A : Asg) (x : Int) : Prop := x = 0 ∨ ∃ p X, 0 ≤ p ∧ A p = some X ∧ X.1 = x
theorem HG_u {f x y : Int} (h : HG B f x) (h' : HG B f y) : x = y := by
  have key : ∀ x y, HG B f x → HG B f y → x ≤ y := by
    rintro x y ⟨A, hA, h0, h1, h2⟩ ⟨A', hA', g0, g1, g2⟩
    rcases h2 with rfl | ⟨p, X, hp, hX, rfl⟩
    · exact g0
    · obtain ⟨Z, z1, z2⟩ := hA.2.1 _ hA'.1 p X hp hX
      rw [z2.1]; exact g1 p Z hp z1
  have := key x y h h'
  have := key y x h' h
  omega
/-- the answer of typeAt, in a function of a module -/
def TA (B : Int → Int) (f p w i v : Int) : Prop := ∃ A, LC B f A ∧ v = (match A p with
  | none => -1
  | some X => if w = 0 then (if i < X.1 then kindM (X.2.1 i) else -1) else (if i < nLoc B f then kindM (X.2.2 i) else -1))
theorem TA_u {f p w i v v' : Int} (hp : 0 ≤ p) (hi0 : 0 ≤ i) (hL : nLoc B f ≤ 10) (h : TA B f p w i v) (h' : TA B f p w i v') : v = v' := by
  obtain ⟨A, hA, rfl⟩ := h
  obtain ⟨A', hA', rfl⟩ := h'
  have e := hA.u hA' p hp
  cases h1 : A p with
  | none => rw [e.1.mp h1]
  | some X =>
    cases h2 : A' p with
    | none => rw [e.1.mpr h2] at h1; cases h1
    | some Y =>
      have e3 := e.2 X Y h1 h2
      simp only
      split
      · rw [← e3.1]
        split
        · rw [e3.2.1 i hi0 (by assumption)]
        · rfl
      · split
        · rw [e3.2.2 i hi0 (by omega)]
        · rfl
def GMod (hi : HI) (m : Int) (B : Int → Int) : Prop := MB hi m B ∧ Sh B ∧ NV B ∧ ∀ f, 0 ≤ f → f < nFn B → ∃ W, Clo B f W
theorem m_highest {m g : Int} (hA : SA al) (hR : MR hr) (hd : 9 ≤ d) (hG : GMod hi m B) (hg : 0 ≤ g ∧ g < nFn B) (hC : ∀ q, 240 ≤ q → hi 71 q ≠ 1)
    (ok : ∀ x hi', FW wT hi hi' → HG B g x → Q (some (some (vI x))) al hi' hr) : Ev d 271 [vR (some 49), vI m, vI (10 * m + g)] al hi hr Q := by
  have kM : isK al 49 13 := hA.k (by decide) (by decide) rfl
  obtain ⟨hM, hS, hN, hW⟩ := hG
  obtain ⟨hm0, hm1, h52, hB, hMD⟩ := id hM
  have f1 : nFn B ≤ 10 := hS.2.2.2.2.2.2.2.2.2.1
  obtain ⟨s1, s2, s3, s4, s5, s6, s7, s8, s9, s10, s11, s12, s13, s14⟩ := hS.2.2.2.2.2.2.2.2.2.2 g hg.1 hg.2
  obtain ⟨d1, d2, d3, d4, d5, d6⟩ := hMD.2.2.2.2.2 g hg.1 hg.2
  have d5 : hi 68 (10 * m + g) = cLen B g := d5
  have l68 := SA.len (a := 68) (n := 130) hA (by decide) (by decide) rfl
  have l71 := SA.len (a := 71) (n := 240) hA (by decide) (by decide) rfl
  have l72 := SA.len (a := 72) (n := 240) hA (by decide) (by decide) rfl
  rw [e271]
  have T13 : ∀ h l3, FW wT hi h → LC B g (memA h) → bool71 h → Wp d 271 13 [vR (some 49), vI m, vI (10 * m + g), l3, vI 0, vI 0] [] al h hr Q := by
    intro h l3 hw hL hb
    have e68 : h 68 (10 * m + g) = cLen B g := (hw 68 _ (wT_n (by decide) (by decide))).trans d5
    refine wp_cnt (N := (cLen B g).toNat) (fun k ls h3 => (∃ x, ls = [vR (some 49), vI m, vI (10 * m + g), l3, vI x, vI k] ∧ 0 ≤ x ∧ (∀ (p : Int) X, 0 ≤ p → p < k → memA h p = some X → X.1 ≤ x) ∧ hgE (memA h) x) ∧ h3 = h) ?_ ?_ _ _ ⟨⟨0, rfl, Int.le_refl _, fun p X a b => absurd b (by omega), Or.inl rfl⟩, rfl⟩
    · rintro k ls h3 hk ⟨⟨x, rfl, x0, x1, x2⟩, rfl⟩ nx
      rcases hb k (by omega) (by omega) with c | c
      · have hno : memA h3 k = none := by unfold memA; rw [c]; rfl
        refine s271_13.mpr (s271_15.mpr ((s271_16 kM).mpr ?_))
        rw [mr_20 hR]
        refine s271_19.mpr ?_
        refine (s271_20 (hA.k (by decide) (by decide) rfl) (by first | assumption | omega) (by first | assumption | omega)).mpr ?_
        try simp (disch := first | decide | assumption | omega) only [upI_eq, upI_a, upI_i, upR_eq, upR_a, upR_i, e68, c, fAdd_id]
        refine s271_21.mpr (wif (fun c21 => ?_) (fun c21 => ?_))
        · first
          | (exfalso; omega)
          | skip
            refine s271_24.mpr ((s271_25 kM).mpr ?_)
            rw [mr_29 hR]
            refine s271_28.mpr ?_
            refine (s271_30Z (hA.k (by decide) (by decide) rfl) (by first | assumption | omega) (by first | assumption | omega)).mpr ?_
            try simp (disch := first | decide | assumption | omega) only [upI_eq, upI_a, upI_i, upR_eq, upR_a, upR_i, e68, c, fAdd_id]
            refine s271_31.mpr (wif (fun c31 => ?_) (fun c31 => ?_))
            · first
              | (exfalso; omega)
              | skip
                refine s271_48.mpr (s271_51.mpr ?_)
                try simp (disch := first | decide | assumption | omega) only [upI_eq, upI_a, upI_i, upR_eq, upR_a, upR_i, e68, c, fAdd_id]
                refine nx _ _ ⟨⟨x, by rw [cast1], x0, fun p X a b hX => ?_, x2⟩, rfl⟩
                by_cases e : p = k
                · rw [e, hno] at hX; cases hX
                · exact x1 p X a (by omega) hX
            · first
              | (exfalso; omega)
              | skip
                exfalso; omega
        · first
          | (exfalso; omega)
          | skip
            exfalso; omega
      · have hX : memA h3 k = some (h3 72 k, memS h3 k, memL h3 k) := by unfold memA; rw [if_pos c]
        have h16 := (hL.2.2.1 k _ (by omega) hX).1
        have hmx : fMax x (h3 72 k) = x ∨ fMax x (h3 72 k) = h3 72 k := by unfold fMax; split <;> omega
        have hm2 : x ≤ fMax x (h3 72 k) ∧ h3 72 k ≤ fMax x (h3 72 k) := by unfold fMax; split <;> omega
        refine s271_13.mpr (s271_15.mpr ((s271_16 kM).mpr ?_))
        rw [mr_20 hR]
        refine s271_19.mpr ?_
        refine (s271_20 (hA.k (by decide) (by decide) rfl) (by first | assumption | omega) (by first | assumption | omega)).mpr ?_
        try simp (disch := first | decide | assumption | omega) only [upI_eq, upI_a, upI_i, upR_eq, upR_a, upR_i, e68, c, fAdd_id]
        refine s271_21.mpr (wif (fun c21 => ?_) (fun c21 => ?_))
        · first
          | (exfalso; omega)
          | skip
            refine s271_24.mpr ((s271_25 kM).mpr ?_)
            rw [mr_29 hR]
            refine s271_28.mpr ?_
            refine (s271_30Z (hA.k (by decide) (by decide) rfl) (by first | assumption | omega) (by first | assumption | omega)).mpr ?_
            try simp (disch := first | decide | assumption | omega) only [upI_eq, upI_a, upI_i, upR_eq, upR_a, upR_i, e68, c, fAdd_id]
            refine s271_31.mpr (wif (fun c31 => ?_) (fun c31 => ?_))
            · first
              | (exfalso; omega)
              | skip
                refine s271_48.mpr (s271_51.mpr ?_)
                try simp (disch := first | decide | assumption | omega) only [upI_eq, upI_a, upI_i, upR_eq, upR_a, upR_i, e68, c, fAdd_id]
                refine nx _ _ ⟨⟨fMax x (h3 72 k), by rw [cast1], by omega, fun p X a b hX' => ?_, ?_⟩, rfl⟩
                · by_cases e : p = k
                  · rw [e, hX] at hX'; cases hX'; exact hm2.2
                  · have := x1 p X a (by omega) hX'; omega
                · rcases hmx with e | e
                  · rw [e]; exact x2
                  · rw [e]; exact Or.inr ⟨k, _, by omega, hX, rfl⟩
            · first
              | (exfalso; omega)
              | skip
                refine s271_34.mpr (s271_36.mpr ((s271_37 kM).mpr ?_))
                rw [mr_30 hR]
                refine s271_40.mpr ?_
                refine (s271_42 (hA.k (by decide) (by decide) rfl) (by first | assumption | omega) (by first | assumption | omega)).mpr ?_
                refine s271_43.mpr (s271_46.mpr (s271_48.mpr (s271_51.mpr ?_)))
                try simp (disch := first | decide | assumption | omega) only [upI_eq, upI_a, upI_i, upR_eq, upR_a, upR_i, e68, c, fAdd_id]
                refine nx _ _ ⟨⟨fMax x (h3 72 k), by rw [cast1], by omega, fun p X a b hX' => ?_, ?_⟩, rfl⟩
                · by_cases e : p = k
                  · rw [e, hX] at hX'; cases hX'; exact hm2.2
                  · have := x1 p X a (by omega) hX'; omega
                · rcases hmx with e | e
                  · rw [e]; exact x2
                  · rw [e]; exact Or.inr ⟨k, _, by omega, hX, rfl⟩
        · first
          | (exfalso; omega)
          | skip
            exfalso; omega
    · rintro ls h3 ⟨⟨x, rfl, x0, x1, x2⟩, rfl⟩
      refine s271_13.mpr (s271_15.mpr ((s271_16 kM).mpr ?_))
      rw [mr_20 hR]
      refine s271_19.mpr ?_
      refine (s271_20 (hA.k (by decide) (by decide) rfl) (by first | assumption | omega) (by first | assumption | omega)).mpr ?_
      try simp (disch := first | decide | assumption | omega) only [e68]
      refine s271_21.mpr (wif (fun c21 => ?_) (fun c21 => ?_))
      · first
        | (exfalso; omega)
        | skip
          exfalso; omega
      · first
        | (exfalso; omega)
        | skip
          refine s271_54.mpr ?_
          refine (s271_56).mpr ?_
          exact ok x h3 hw ⟨memA h3, hL, x0, fun p X a hX => x1 p X a (by have := (hL.2.2.1 p X a hX).2.2.1; omega) hX, x2⟩
  refine s271_0.mpr (s271_1.mpr (s271_2.mpr ?_))
  refine (s271_3 (by omega) kM).mpr ?_
  refine m_right (B := B) (m := m) (g := g) hA hR (by omega) hM hS hN hg hC (fun h4 x1 x2 x3 x4 x5 x6 => ?_) (fun h4 x1 x2 => (by obtain ⟨W, hW⟩ := hW g hg.1 hg.2; exact absurd hW (x2 W)))
  simp only [kon, knt_some, knt_none, Option.toList_some, Option.toList_none, List.cons_append, List.nil_append]
  refine s271_6.mpr (s271_7.mpr (s271_8.mpr (s271_10.mpr (s271_11.mpr ?_))))
  exact T13 h4 _ x1 ⟨x2, x3, x5, x4⟩ x6
/-- the answer of module -/
def MO (B : Int → Int) (n f w v : Int) : Prop := if w = 0 then v = nRec B else if w = 1 then v = nCtr B else if w = 2 then v = nFn B else if w = 3 then v = n else if ¬ (0 ≤ f ∧ f < nFn B) then v = -1 else if w = 10 then v = nPar B f else if w = 11 then v = nLoc B f else if w = 12 then v = cLen B f else if w = 13 then v = cAt B f else if w = 14 then HG B f v else v = -1
theorem MO_u {n f w v v' : Int} (h : MO B n f w v) (h' : MO B n f w v') : v = v' := by
  unfold MO at h h'
  by_cases c0 : w = 0
  · rw [if_pos c0] at h h'; omega
  rw [if_neg c0] at h h'
  by_cases c1 : w = 1
  · rw [if_pos c1] at h h'; omega
  rw [if_neg c1] at h h'
  by_cases c2 : w = 2
  · rw [if_pos c2] at h h'; omega
  rw [if_neg c2] at h h'
  by_cases c3 : w = 3
  · rw [if_pos c3] at h h'; omega
  rw [if_neg c3] at h h'
  by_cases cf : ¬ (0 ≤ f ∧ f < nFn B)
  · rw [if_pos cf] at h h'; omega
  rw [if_neg cf] at h h'
  by_cases c10 : w = 10
  · rw [if_pos c10] at h h'; omega
  rw [if_neg c10] at h h'
  by_cases c11 : w = 11
  · rw [if_pos c11] at h h'; omega
  rw [if_neg c11] at h h'
  by_cases c12 : w = 12
  · rw [if_pos c12] at h h'; omega
  rw [if_neg c12] at h h'
  by_cases c13 : w = 13
  · rw [if_pos c13] at h h'; omega
  rw [if_neg c13] at h h'
  by_cases c14 : w = 14
  · rw [if_pos c14] at h h'; exact HG_u h h'
  rw [if_neg c14] at h h'
  omega
section
variable {n f w : Int}
theorem MO_0 (h : w = 0) : MO B n f w (nRec B) := by subst h; exact rfl
theorem MO_1 (h : w = 1) : MO B n f w (nCtr B) := by subst h; exact rfl
theorem MO_2 (h : w = 2) : MO B n f w (nFn B) := by subst h; exact rfl
theorem MO_3 (h : w = 3) : MO B n f w n := by subst h; exact rfl
theorem MO_n (h : w ∉ ([0, 1, 2, 3] : List Int)) (hf : ¬ (0 ≤ f ∧ f < nFn B)) : MO B n f w (-1) := by
  simp only [List.mem_cons, List.not_mem_nil, or_false, not_or] at h
  unfold MO; rw [if_neg h.1, if_neg h.2.1, if_neg h.2.2.1, if_neg h.2.2.2, if_pos hf]
theorem MO_f (hf : 0 ≤ f ∧ f < nFn B) (h : w ∉ ([0, 1, 2, 3] : List Int)) : MO B n f w = fun v => if w = 10 then v = nPar B f else if w = 11 then v = nLoc B f else if w = 12 then v = cLen B f else if w = 13 then v = cAt B f else if w = 14 then HG B f v else v = -1 := by
  simp only [List.mem_cons, List.not_mem_nil, or_false, not_or] at h
  funext v
  unfold MO; rw [if_neg h.1, if_neg h.2.1, if_neg h.2.2.1, if_neg h.2.2.2, if_neg (fun q => q hf)]
theorem MO_10 (hf : 0 ≤ f ∧ f < nFn B) (h : w ∉ ([0, 1, 2, 3] : List Int)) (h2 : w = 10) : MO B n f w (nPar B f) := by rw [MO_f hf h]; subst h2; exact rfl
theorem MO_11 (hf : 0 ≤ f ∧ f < nFn B) (h : w ∉ ([0, 1, 2, 3] : List Int)) (h2 : w = 11) : MO B n f w (nLoc B f) := by rw [MO_f hf h]; subst h2; exact rfl
theorem MO_12 (hf : 0 ≤ f ∧ f < nFn B) (h : w ∉ ([0, 1, 2, 3] : List Int)) (h2 : w = 12) : MO B n f w (cLen B f) := by rw [MO_f hf h]; subst h2; exact rfl
theorem MO_13 (hf : 0 ≤ f ∧ f < nFn B) (h : w ∉ ([0, 1, 2, 3] : List Int)) (h2 : w = 13) : MO B n f w (cAt B f) := by rw [MO_f hf h]; subst h2; exact rfl
theorem MO_14 {x : Int} (hf : 0 ≤ f ∧ f < nFn B) (h : w ∉ ([0, 1, 2, 3] : List Int)) (h2 : w = 14) (hx : HG B f x) : MO B n f w x := by rw [MO_f hf h]; subst h2; exact hx
theorem MO_d (hf : 0 ≤ f ∧ f < nFn B) (h : w ∉ ([0, 1, 2, 3] : List Int)) (h2 : w ∉ ([10, 11, 12, 13, 14] : List Int)) : MO B n f w (-1) := by
  rw [MO_f hf h]
  simp only [List.mem_cons, List.not_mem_nil, or_false, not_or] at h2
  show (if w = 10 then _ else _)
  rw [if_neg h2.1, if_neg h2.2.1, if_neg h2.2.2.1, if_neg h2.2.2.2.1, if_neg h2.2.2.2.2]
end
theorem m_module2 {m f w : Int} (hA : SA al) (hR : MR hr) (hd : 10 ≤ d) (hsh : ∀ m, 0 ≤ m → m < 6 → hi 56 m = 0 ∨ hi 56 m = 1) (hC : ∀ q, 240 ≤ q → hi 71 q ≠ 1) (no : ¬ isM hi m → Q (some (some (vI (-1)))) al (upI hi 49 0 0) hr)
    (hG : isM hi m → GMod hi m B) (ok : ∀ v hi', isM hi m → FW (fun a i => wT a i ∨ (a = 49 ∧ i = 0)) hi hi' → MO B (hi 52 m) f w v → Q (some (some (vI v))) al hi' hr) : Ev d 270 [vR (some 49), vI m, vI f, vI w] al hi hr Q := by
  have kM : isK al 49 13 := hA.k (by decide) (by decide) rfl
  have hsh' : ∀ m, 0 ≤ m → m < 6 → (upI hi 49 0 0) 56 m = 0 ∨ (upI hi 49 0 0) 56 m = 1 := fun m a b => by rw [upI_a (by decide)]; exact hsh m a b
  rw [e270]
  by_cases c : isM hi m
  case neg =>
    refine s270_0.mpr (s270_1.mpr ?_)
    refine (s270_2 kM).mpr ?_
    refine s270_5.mpr (s270_6.mpr ?_)
    try simp (disch := first | decide | assumption | omega) only [kon, knt_some, knt_none, Option.toList_some, Option.toList_none, List.cons_append, List.nil_append, upI_eq, upI_a, upI_i, upR_eq, upR_a, upR_i]
    refine (s270_7 (by omega) kM).mpr ?_
    refine m_isModule hA hR hsh' (fun h => absurd (by unfold isM at h ⊢; rw [upI_a (by decide)] at h; exact h) c) (fun _ => ?_)
    refine s270_10.mpr (wif (fun c10 => ?_) (fun c10 => ?_))
    · first
      | (exfalso; omega)
      | skip
        refine s270_13.mpr ?_
        refine (s270_14).mpr ?_
        exact no c
    · first
      | (exfalso; omega)
      | skip
        refine s270_15.mpr ?_
        refine g270_16 (fun c16 => ?_) (fun c16 => ?_) (fun c16 => ?_) (fun c16 => ?_) (fun c16 => ?_)
        · skip
          have c16 := List.mem_singleton.mp c16
          refine s270_48.mpr ((s270_49 kM).mpr ?_)
          rw [mr_5 hR]
          refine s270_52.mpr ?_
          refine (s270_53 (hA.k (by decide) (by decide) rfl) (by first | assumption | omega) (by first | assumption | omega)).mpr ?_
          try simp (disch := first | decide | assumption | omega) only [kon, knt_some, knt_none, Option.toList_some, Option.toList_none, List.cons_append, List.nil_append, upI_eq, upI_a, upI_i, upR_eq, upR_a, upR_i]
          refine (s270_54).mpr ?_
          exact no c
        · skip
          have c16 := List.mem_singleton.mp c16
          refine s270_55.mpr ((s270_56 kM).mpr ?_)
          rw [mr_6 hR]
          refine s270_59.mpr ?_
          refine (s270_60 (hA.k (by decide) (by decide) rfl) (by first | assumption | omega) (by first | assumption | omega)).mpr ?_
          try simp (disch := first | decide | assumption | omega) only [kon, knt_some, knt_none, Option.toList_some, Option.toList_none, List.cons_append, List.nil_append, upI_eq, upI_a, upI_i, upR_eq, upR_a, upR_i]
          refine (s270_61).mpr ?_
          exact no c
        · skip
          have c16 := List.mem_singleton.mp c16
          refine s270_62.mpr ((s270_63 kM).mpr ?_)
          rw [mr_7 hR]
          refine s270_66.mpr ?_
          refine (s270_67 (hA.k (by decide) (by decide) rfl) (by first | assumption | omega) (by first | assumption | omega)).mpr ?_
          try simp (disch := first | decide | assumption | omega) only [kon, knt_some, knt_none, Option.toList_some, Option.toList_none, List.cons_append, List.nil_append, upI_eq, upI_a, upI_i, upR_eq, upR_a, upR_i]
          refine (s270_68).mpr ?_
          exact no c
        · skip
          have c16 := List.mem_singleton.mp c16
          refine s270_69.mpr ((s270_70 kM).mpr ?_)
          rw [mr_4 hR]
          refine s270_73.mpr ?_
          refine (s270_74 (hA.k (by decide) (by decide) rfl) (by first | assumption | omega) (by first | assumption | omega)).mpr ?_
          try simp (disch := first | decide | assumption | omega) only [kon, knt_some, knt_none, Option.toList_some, Option.toList_none, List.cons_append, List.nil_append, upI_eq, upI_a, upI_i, upR_eq, upR_a, upR_i]
          refine (s270_75).mpr ?_
          exact no c
        · skip
          refine s270_76.mpr ?_
          refine s270_77.mpr (wif (fun c77 => ?_) (fun c77 => ?_))
          · first
            | (exfalso; omega)
            | skip
              refine s270_90.mpr ?_
              refine (s270_91).mpr ?_
              exact no c
          · first
            | (exfalso; omega)
            | skip
              refine s270_80.mpr (s270_81.mpr ((s270_82 kM).mpr ?_))
              rw [mr_7 hR]
              refine s270_85.mpr ?_
              refine (s270_86 (hA.k (by decide) (by decide) rfl) (by first | assumption | omega) (by first | assumption | omega)).mpr ?_
              try simp (disch := first | decide | assumption | omega) only [kon, knt_some, knt_none, Option.toList_some, Option.toList_none, List.cons_append, List.nil_append, upI_eq, upI_a, upI_i, upR_eq, upR_a, upR_i]
              refine s270_87.mpr (wif (fun c87 => ?_) (fun c87 => ?_))
              · first
                | (exfalso; omega)
                | skip
                  refine s270_92.mpr (s270_94.mpr (s270_95.mpr (s270_96.mpr (s270_97.mpr (s270_98.mpr ?_)))))
                  refine s270_100.mpr ?_
                  try simp (disch := first | decide | assumption | omega) only [kon, knt_some, knt_none, Option.toList_some, Option.toList_none, List.cons_append, List.nil_append, upI_eq, upI_a, upI_i, upR_eq, upR_a, upR_i]
                  refine g270_101 (fun c101 => ?_) (fun c101 => ?_) (fun c101 => ?_) (fun c101 => ?_) (fun c101 => ?_) (fun c101 => ?_)
                  · skip
                    have c101 := List.mem_singleton.mp c101
                    refine s270_136.mpr ((s270_137 kM).mpr ?_)
                    rw [mr_16 hR]
                    refine s270_140.mpr ?_
                    refine (s270_142 (hA.k (by decide) (by decide) rfl) (by first | assumption | omega) (by first | assumption | omega)).mpr ?_
                    try simp (disch := first | decide | assumption | omega) only [kon, knt_some, knt_none, Option.toList_some, Option.toList_none, List.cons_append, List.nil_append, upI_eq, upI_a, upI_i, upR_eq, upR_a, upR_i]
                    refine (s270_143).mpr ?_
                    exact no c
                  · skip
                    have c101 := List.mem_singleton.mp c101
                    refine s270_144.mpr ((s270_145 kM).mpr ?_)
                    rw [mr_19 hR]
                    refine s270_148.mpr ?_
                    refine (s270_150 (hA.k (by decide) (by decide) rfl) (by first | assumption | omega) (by first | assumption | omega)).mpr ?_
                    try simp (disch := first | decide | assumption | omega) only [kon, knt_some, knt_none, Option.toList_some, Option.toList_none, List.cons_append, List.nil_append, upI_eq, upI_a, upI_i, upR_eq, upR_a, upR_i]
                    refine (s270_151).mpr ?_
                    exact no c
                  · skip
                    have c101 := List.mem_singleton.mp c101
                    refine s270_152.mpr ((s270_153 kM).mpr ?_)
                    rw [mr_20 hR]
                    refine s270_156.mpr ?_
                    refine (s270_158 (hA.k (by decide) (by decide) rfl) (by first | assumption | omega) (by first | assumption | omega)).mpr ?_
                    try simp (disch := first | decide | assumption | omega) only [kon, knt_some, knt_none, Option.toList_some, Option.toList_none, List.cons_append, List.nil_append, upI_eq, upI_a, upI_i, upR_eq, upR_a, upR_i]
                    refine (s270_159).mpr ?_
                    exact no c
                  · skip
                    have c101 := List.mem_singleton.mp c101
                    refine s270_160.mpr ((s270_161 kM).mpr ?_)
                    rw [mr_21 hR]
                    refine s270_164.mpr ?_
                    refine (s270_166 (hA.k (by decide) (by decide) rfl) (by first | assumption | omega) (by first | assumption | omega)).mpr ?_
                    try simp (disch := first | decide | assumption | omega) only [kon, knt_some, knt_none, Option.toList_some, Option.toList_none, List.cons_append, List.nil_append, upI_eq, upI_a, upI_i, upR_eq, upR_a, upR_i]
                    refine (s270_167).mpr ?_
                    exact no c
                  · skip
                    have c101 := List.mem_singleton.mp c101
                    refine s270_168.mpr (s270_169.mpr (s270_170.mpr ?_))
                    refine (s270_172 (by omega) kM).mpr ?_
                    exfalso; omega
                  · skip
                    refine s270_176.mpr ?_
                    refine (s270_177).mpr ?_
                    exact no c
              · first
                | (exfalso; omega)
                | skip
                  refine s270_90.mpr ?_
                  refine (s270_91).mpr ?_
                  exact no c
  have hG := hG c
  obtain ⟨c0, c1, c2⟩ := id c
  have ok := fun v hi' => ok v hi' c
  have w0 : FW (fun a i => wT a i ∨ (a = 49 ∧ i = 0)) hi (upI hi 49 0 0) := FW.up FW.rf (Or.inr ⟨rfl, rfl⟩)
  have hM' : MB (upI hi 49 0 0) m B := hG.1.fw (fun a i h1 h2 => upI_a (by omega))
  obtain ⟨hM, hS, hN, hW⟩ := id hG
  obtain ⟨hm0, hm1, h52, hB, hMD⟩ := id hM
  have f1 : nFn B ≤ 10 := hS.2.2.2.2.2.2.2.2.2.1
  have e53 : hi 53 m = nRec B := hMD.1
  have e54 : hi 54 m = nCtr B := hMD.2.2.1
  have e55 : hi 55 m = nFn B := hMD.2.2.2.2.1
  have l53 := SA.len (a := 53) (n := 13) hA (by decide) (by decide) rfl
  have l54 := SA.len (a := 54) (n := 13) hA (by decide) (by decide) rfl
  have l55 := SA.len (a := 55) (n := 13) hA (by decide) (by decide) rfl
  have l52 := SA.len (a := 52) (n := 13) hA (by decide) (by decide) rfl
  have l64 := SA.len (a := 64) (n := 130) hA (by decide) (by decide) rfl
  have l67 := SA.len (a := 67) (n := 130) hA (by decide) (by decide) rfl
  have l68 := SA.len (a := 68) (n := 130) hA (by decide) (by decide) rfl
  have l69 := SA.len (a := 69) (n := 130) hA (by decide) (by decide) rfl
  have hF : 0 ≤ f → f < nFn B → hi 64 (10 * m + f) = nPar B f ∧ hi 67 (10 * m + f) = nLoc B f ∧ hi 68 (10 * m + f) = cLen B f ∧ hi 69 (10 * m + f) = cAt B f := fun a b => by
    obtain ⟨d1, d2, d3, d4, d5, d6⟩ := hMD.2.2.2.2.2 f a b
    exact ⟨d1, d4, d5, d6⟩
  have T : ∀ v, MO B (hi 52 m) f w v → Q (some (some (vI v))) al (upI hi 49 0 0) hr := fun v hv => ok v _ w0 hv
  by_cases cf : 0 ≤ f ∧ f < nFn B
  · obtain ⟨e64, e67, e68, e69⟩ := hF cf.1 cf.2
    refine s270_0.mpr (s270_1.mpr ?_)
    refine (s270_2 kM).mpr ?_
    refine s270_5.mpr (s270_6.mpr ?_)
    try simp (disch := first | decide | assumption | omega) only [kon, knt_some, knt_none, Option.toList_some, Option.toList_none, List.cons_append, List.nil_append, upI_eq, upI_a, upI_i, upR_eq, upR_a, upR_i, e53, e54, e55, e64, e67, e68, e69, fAdd_id, fMul_id]
    refine (s270_7 (by omega) kM).mpr ?_
    refine m_isModule hA hR hsh' (fun _ => ?_) (fun h => absurd (show isM (upI hi 49 0 0) m from by unfold isM at c ⊢; rw [upI_a (by decide)]; exact c) h)
    refine s270_10.mpr (wif (fun c10 => ?_) (fun c10 => ?_))
    · first
      | (exfalso; omega)
      | skip
        refine s270_13.mpr ?_
        refine (s270_14).mpr ?_
        first | exact T _ (MO_0 c16) | exact T _ (MO_1 c16) | exact T _ (MO_2 c16) | exact T _ (MO_3 c16) | exact T _ (MO_10 cf c16 c101) | exact T _ (MO_11 cf c16 c101) | exact T _ (MO_12 cf c16 c101) | exact T _ (MO_13 cf c16 c101) | exact T _ (MO_d cf c16 c101) | exact ok _ _ (w0.tr (x1.mn (fun a i q => Or.inl q))) (MO_14 cf c16 c101 x2)
    · first
      | (exfalso; omega)
      | skip
        refine s270_15.mpr ?_
        refine g270_16 (fun c16 => ?_) (fun c16 => ?_) (fun c16 => ?_) (fun c16 => ?_) (fun c16 => ?_)
        · skip
          have c16 := List.mem_singleton.mp c16
          refine s270_48.mpr ((s270_49 kM).mpr ?_)
          rw [mr_5 hR]
          refine s270_52.mpr ?_
          refine (s270_53 (hA.k (by decide) (by decide) rfl) (by first | assumption | omega) (by first | assumption | omega)).mpr ?_
          try simp (disch := first | decide | assumption | omega) only [kon, knt_some, knt_none, Option.toList_some, Option.toList_none, List.cons_append, List.nil_append, upI_eq, upI_a, upI_i, upR_eq, upR_a, upR_i, e53, e54, e55, e64, e67, e68, e69, fAdd_id, fMul_id]
          refine (s270_54).mpr ?_
          first | exact T _ (MO_0 c16) | exact T _ (MO_1 c16) | exact T _ (MO_2 c16) | exact T _ (MO_3 c16) | exact T _ (MO_10 cf c16 c101) | exact T _ (MO_11 cf c16 c101) | exact T _ (MO_12 cf c16 c101) | exact T _ (MO_13 cf c16 c101) | exact T _ (MO_d cf c16 c101) | exact ok _ _ (w0.tr (x1.mn (fun a i q => Or.inl q))) (MO_14 cf c16 c101 x2)
        · skip
          have c16 := List.mem_singleton.mp c16
          refine s270_55.mpr ((s270_56 kM).mpr ?_)
          rw [mr_6 hR]
          refine s270_59.mpr ?_
          refine (s270_60 (hA.k (by decide) (by decide) rfl) (by first | assumption | omega) (by first | assumption | omega)).mpr ?_
          try simp (disch := first | decide | assumption | omega) only [kon, knt_some, knt_none, Option.toList_some, Option.toList_none, List.cons_append, List.nil_append, upI_eq, upI_a, upI_i, upR_eq, upR_a, upR_i, e53, e54, e55, e64, e67, e68, e69, fAdd_id, fMul_id]
          refine (s270_61).mpr ?_
          first | exact T _ (MO_0 c16) | exact T _ (MO_1 c16) | exact T _ (MO_2 c16) | exact T _ (MO_3 c16) | exact T _ (MO_10 cf c16 c101) | exact T _ (MO_11 cf c16 c101) | exact T _ (MO_12 cf c16 c101) | exact T _ (MO_13 cf c16 c101) | exact T _ (MO_d cf c16 c101) | exact ok _ _ (w0.tr (x1.mn (fun a i q => Or.inl q))) (MO_14 cf c16 c101 x2)
        · skip
          have c16 := List.mem_singleton.mp c16
          refine s270_62.mpr ((s270_63 kM).mpr ?_)
          rw [mr_7 hR]
          refine s270_66.mpr ?_
          refine (s270_67 (hA.k (by decide) (by decide) rfl) (by first | assumption | omega) (by first | assumption | omega)).mpr ?_
          try simp (disch := first | decide | assumption | omega) only [kon, knt_some, knt_none, Option.toList_some, Option.toList_none, List.cons_append, List.nil_append, upI_eq, upI_a, upI_i, upR_eq, upR_a, upR_i, e53, e54, e55, e64, e67, e68, e69, fAdd_id, fMul_id]
          refine (s270_68).mpr ?_
          first | exact T _ (MO_0 c16) | exact T _ (MO_1 c16) | exact T _ (MO_2 c16) | exact T _ (MO_3 c16) | exact T _ (MO_10 cf c16 c101) | exact T _ (MO_11 cf c16 c101) | exact T _ (MO_12 cf c16 c101) | exact T _ (MO_13 cf c16 c101) | exact T _ (MO_d cf c16 c101) | exact ok _ _ (w0.tr (x1.mn (fun a i q => Or.inl q))) (MO_14 cf c16 c101 x2)
        · skip
          have c16 := List.mem_singleton.mp c16
          refine s270_69.mpr ((s270_70 kM).mpr ?_)
          rw [mr_4 hR]
          refine s270_73.mpr ?_
          refine (s270_74 (hA.k (by decide) (by decide) rfl) (by first | assumption | omega) (by first | assumption | omega)).mpr ?_
          try simp (disch := first | decide | assumption | omega) only [kon, knt_some, knt_none, Option.toList_some, Option.toList_none, List.cons_append, List.nil_append, upI_eq, upI_a, upI_i, upR_eq, upR_a, upR_i, e53, e54, e55, e64, e67, e68, e69, fAdd_id, fMul_id]
          refine (s270_75).mpr ?_
          first | exact T _ (MO_0 c16) | exact T _ (MO_1 c16) | exact T _ (MO_2 c16) | exact T _ (MO_3 c16) | exact T _ (MO_10 cf c16 c101) | exact T _ (MO_11 cf c16 c101) | exact T _ (MO_12 cf c16 c101) | exact T _ (MO_13 cf c16 c101) | exact T _ (MO_d cf c16 c101) | exact ok _ _ (w0.tr (x1.mn (fun a i q => Or.inl q))) (MO_14 cf c16 c101 x2)
        · skip
          refine s270_76.mpr ?_
          refine s270_77.mpr (wif (fun c77 => ?_) (fun c77 => ?_))
          · first
            | (exfalso; omega)
            | skip
              refine s270_90.mpr ?_
              refine (s270_91).mpr ?_
              first | exact T _ (MO_0 c16) | exact T _ (MO_1 c16) | exact T _ (MO_2 c16) | exact T _ (MO_3 c16) | exact T _ (MO_10 cf c16 c101) | exact T _ (MO_11 cf c16 c101) | exact T _ (MO_12 cf c16 c101) | exact T _ (MO_13 cf c16 c101) | exact T _ (MO_d cf c16 c101) | exact ok _ _ (w0.tr (x1.mn (fun a i q => Or.inl q))) (MO_14 cf c16 c101 x2)
          · first
            | (exfalso; omega)
            | skip
              refine s270_80.mpr (s270_81.mpr ((s270_82 kM).mpr ?_))
              rw [mr_7 hR]
              refine s270_85.mpr ?_
              refine (s270_86 (hA.k (by decide) (by decide) rfl) (by first | assumption | omega) (by first | assumption | omega)).mpr ?_
              try simp (disch := first | decide | assumption | omega) only [kon, knt_some, knt_none, Option.toList_some, Option.toList_none, List.cons_append, List.nil_append, upI_eq, upI_a, upI_i, upR_eq, upR_a, upR_i, e53, e54, e55, e64, e67, e68, e69, fAdd_id, fMul_id]
              refine s270_87.mpr (wif (fun c87 => ?_) (fun c87 => ?_))
              · first
                | (exfalso; omega)
                | skip
                  refine s270_92.mpr (s270_94.mpr (s270_95.mpr (s270_96.mpr (s270_97.mpr (s270_98.mpr ?_)))))
                  refine s270_100.mpr ?_
                  try simp (disch := first | decide | assumption | omega) only [kon, knt_some, knt_none, Option.toList_some, Option.toList_none, List.cons_append, List.nil_append, upI_eq, upI_a, upI_i, upR_eq, upR_a, upR_i, e53, e54, e55, e64, e67, e68, e69, fAdd_id, fMul_id]
                  refine g270_101 (fun c101 => ?_) (fun c101 => ?_) (fun c101 => ?_) (fun c101 => ?_) (fun c101 => ?_) (fun c101 => ?_)
                  · skip
                    have c101 := List.mem_singleton.mp c101
                    refine s270_136.mpr ((s270_137 kM).mpr ?_)
                    rw [mr_16 hR]
                    refine s270_140.mpr ?_
                    refine (s270_142 (hA.k (by decide) (by decide) rfl) (by first | assumption | omega) (by first | assumption | omega)).mpr ?_
                    try simp (disch := first | decide | assumption | omega) only [kon, knt_some, knt_none, Option.toList_some, Option.toList_none, List.cons_append, List.nil_append, upI_eq, upI_a, upI_i, upR_eq, upR_a, upR_i, e53, e54, e55, e64, e67, e68, e69, fAdd_id, fMul_id]
                    refine (s270_143).mpr ?_
                    first | exact T _ (MO_0 c16) | exact T _ (MO_1 c16) | exact T _ (MO_2 c16) | exact T _ (MO_3 c16) | exact T _ (MO_10 cf c16 c101) | exact T _ (MO_11 cf c16 c101) | exact T _ (MO_12 cf c16 c101) | exact T _ (MO_13 cf c16 c101) | exact T _ (MO_d cf c16 c101) | exact ok _ _ (w0.tr (x1.mn (fun a i q => Or.inl q))) (MO_14 cf c16 c101 x2)
                  · skip
                    have c101 := List.mem_singleton.mp c101
                    refine s270_144.mpr ((s270_145 kM).mpr ?_)
                    rw [mr_19 hR]
                    refine s270_148.mpr ?_
                    refine (s270_150 (hA.k (by decide) (by decide) rfl) (by first | assumption | omega) (by first | assumption | omega)).mpr ?_
                    try simp (disch := first | decide | assumption | omega) only [kon, knt_some, knt_none, Option.toList_some, Option.toList_none, List.cons_append, List.nil_append, upI_eq, upI_a, upI_i, upR_eq, upR_a, upR_i, e53, e54, e55, e64, e67, e68, e69, fAdd_id, fMul_id]
                    refine (s270_151).mpr ?_
                    first | exact T _ (MO_0 c16) | exact T _ (MO_1 c16) | exact T _ (MO_2 c16) | exact T _ (MO_3 c16) | exact T _ (MO_10 cf c16 c101) | exact T _ (MO_11 cf c16 c101) | exact T _ (MO_12 cf c16 c101) | exact T _ (MO_13 cf c16 c101) | exact T _ (MO_d cf c16 c101) | exact ok _ _ (w0.tr (x1.mn (fun a i q => Or.inl q))) (MO_14 cf c16 c101 x2)
                  · skip
                    have c101 := List.mem_singleton.mp c101
                    refine s270_152.mpr ((s270_153 kM).mpr ?_)
                    rw [mr_20 hR]
                    refine s270_156.mpr ?_
                    refine (s270_158 (hA.k (by decide) (by decide) rfl) (by first | assumption | omega) (by first | assumption | omega)).mpr ?_
                    try simp (disch := first | decide | assumption | omega) only [kon, knt_some, knt_none, Option.toList_some, Option.toList_none, List.cons_append, List.nil_append, upI_eq, upI_a, upI_i, upR_eq, upR_a, upR_i, e53, e54, e55, e64, e67, e68, e69, fAdd_id, fMul_id]
                    refine (s270_159).mpr ?_
                    first | exact T _ (MO_0 c16) | exact T _ (MO_1 c16) | exact T _ (MO_2 c16) | exact T _ (MO_3 c16) | exact T _ (MO_10 cf c16 c101) | exact T _ (MO_11 cf c16 c101) | exact T _ (MO_12 cf c16 c101) | exact T _ (MO_13 cf c16 c101) | exact T _ (MO_d cf c16 c101) | exact ok _ _ (w0.tr (x1.mn (fun a i q => Or.inl q))) (MO_14 cf c16 c101 x2)
                  · skip
                    have c101 := List.mem_singleton.mp c101
                    refine s270_160.mpr ((s270_161 kM).mpr ?_)
                    rw [mr_21 hR]
                    refine s270_164.mpr ?_
                    refine (s270_166 (hA.k (by decide) (by decide) rfl) (by first | assumption | omega) (by first | assumption | omega)).mpr ?_
                    try simp (disch := first | decide | assumption | omega) only [kon, knt_some, knt_none, Option.toList_some, Option.toList_none, List.cons_append, List.nil_append, upI_eq, upI_a, upI_i, upR_eq, upR_a, upR_i, e53, e54, e55, e64, e67, e68, e69, fAdd_id, fMul_id]
                    refine (s270_167).mpr ?_
                    first | exact T _ (MO_0 c16) | exact T _ (MO_1 c16) | exact T _ (MO_2 c16) | exact T _ (MO_3 c16) | exact T _ (MO_10 cf c16 c101) | exact T _ (MO_11 cf c16 c101) | exact T _ (MO_12 cf c16 c101) | exact T _ (MO_13 cf c16 c101) | exact T _ (MO_d cf c16 c101) | exact ok _ _ (w0.tr (x1.mn (fun a i q => Or.inl q))) (MO_14 cf c16 c101 x2)
                  · skip
                    have c101 := List.mem_singleton.mp c101
                    refine s270_168.mpr (s270_169.mpr (s270_170.mpr ?_))
                    refine (s270_172 (by omega) kM).mpr ?_
                    refine m_highest (B := B) (m := m) (g := f) hA hR (by omega) ⟨hM', hS, hN, hW⟩ cf (fun q hq => by rw [upI_a (by decide)]; exact hC q hq) (fun x h4 x1 x2 => ?_)
                    simp only [kon, knt_some, knt_none, Option.toList_some, Option.toList_none, List.cons_append, List.nil_append]
                    refine (s270_175).mpr ?_
                    first | exact T _ (MO_0 c16) | exact T _ (MO_1 c16) | exact T _ (MO_2 c16) | exact T _ (MO_3 c16) | exact T _ (MO_10 cf c16 c101) | exact T _ (MO_11 cf c16 c101) | exact T _ (MO_12 cf c16 c101) | exact T _ (MO_13 cf c16 c101) | exact T _ (MO_d cf c16 c101) | exact ok _ _ (w0.tr (x1.mn (fun a i q => Or.inl q))) (MO_14 cf c16 c101 x2)
                  · skip
                    refine s270_176.mpr ?_
                    refine (s270_177).mpr ?_
                    first | exact T _ (MO_0 c16) | exact T _ (MO_1 c16) | exact T _ (MO_2 c16) | exact T _ (MO_3 c16) | exact T _ (MO_10 cf c16 c101) | exact T _ (MO_11 cf c16 c101) | exact T _ (MO_12 cf c16 c101) | exact T _ (MO_13 cf c16 c101) | exact T _ (MO_d cf c16 c101) | exact ok _ _ (w0.tr (x1.mn (fun a i q => Or.inl q))) (MO_14 cf c16 c101 x2)
              · first
                | (exfalso; omega)
                | skip
                  refine s270_90.mpr ?_
                  refine (s270_91).mpr ?_
                  first | exact T _ (MO_0 c16) | exact T _ (MO_1 c16) | exact T _ (MO_2 c16) | exact T _ (MO_3 c16) | exact T _ (MO_10 cf c16 c101) | exact T _ (MO_11 cf c16 c101) | exact T _ (MO_12 cf c16 c101) | exact T _ (MO_13 cf c16 c101) | exact T _ (MO_d cf c16 c101) | exact ok _ _ (w0.tr (x1.mn (fun a i q => Or.inl q))) (MO_14 cf c16 c101 x2)
  · skip
    refine s270_0.mpr (s270_1.mpr ?_)
    refine (s270_2 kM).mpr ?_
    refine s270_5.mpr (s270_6.mpr ?_)
    try simp (disch := first | decide | assumption | omega) only [kon, knt_some, knt_none, Option.toList_some, Option.toList_none, List.cons_append, List.nil_append, upI_eq, upI_a, upI_i, upR_eq, upR_a, upR_i, e53, e54, e55, fAdd_id, fMul_id]
    refine (s270_7 (by omega) kM).mpr ?_
    refine m_isModule hA hR hsh' (fun _ => ?_) (fun h => absurd (show isM (upI hi 49 0 0) m from by unfold isM at c ⊢; rw [upI_a (by decide)]; exact c) h)
    refine s270_10.mpr (wif (fun c10 => ?_) (fun c10 => ?_))
    · first
      | (exfalso; omega)
      | skip
        refine s270_13.mpr ?_
        refine (s270_14).mpr ?_
        first | exact T _ (MO_0 c16) | exact T _ (MO_1 c16) | exact T _ (MO_2 c16) | exact T _ (MO_3 c16) | exact T _ (MO_n c16 cf) | (exfalso; omega)
    · first
      | (exfalso; omega)
      | skip
        refine s270_15.mpr ?_
        refine g270_16 (fun c16 => ?_) (fun c16 => ?_) (fun c16 => ?_) (fun c16 => ?_) (fun c16 => ?_)
        · skip
          have c16 := List.mem_singleton.mp c16
          refine s270_48.mpr ((s270_49 kM).mpr ?_)
          rw [mr_5 hR]
          refine s270_52.mpr ?_
          refine (s270_53 (hA.k (by decide) (by decide) rfl) (by first | assumption | omega) (by first | assumption | omega)).mpr ?_
          try simp (disch := first | decide | assumption | omega) only [kon, knt_some, knt_none, Option.toList_some, Option.toList_none, List.cons_append, List.nil_append, upI_eq, upI_a, upI_i, upR_eq, upR_a, upR_i, e53, e54, e55, fAdd_id, fMul_id]
          refine (s270_54).mpr ?_
          first | exact T _ (MO_0 c16) | exact T _ (MO_1 c16) | exact T _ (MO_2 c16) | exact T _ (MO_3 c16) | exact T _ (MO_n c16 cf) | (exfalso; omega)
        · skip
          have c16 := List.mem_singleton.mp c16
          refine s270_55.mpr ((s270_56 kM).mpr ?_)
          rw [mr_6 hR]
          refine s270_59.mpr ?_
          refine (s270_60 (hA.k (by decide) (by decide) rfl) (by first | assumption | omega) (by first | assumption | omega)).mpr ?_
          try simp (disch := first | decide | assumption | omega) only [kon, knt_some, knt_none, Option.toList_some, Option.toList_none, List.cons_append, List.nil_append, upI_eq, upI_a, upI_i, upR_eq, upR_a, upR_i, e53, e54, e55, fAdd_id, fMul_id]
          refine (s270_61).mpr ?_
          first | exact T _ (MO_0 c16) | exact T _ (MO_1 c16) | exact T _ (MO_2 c16) | exact T _ (MO_3 c16) | exact T _ (MO_n c16 cf) | (exfalso; omega)
        · skip
          have c16 := List.mem_singleton.mp c16
          refine s270_62.mpr ((s270_63 kM).mpr ?_)
          rw [mr_7 hR]
          refine s270_66.mpr ?_
          refine (s270_67 (hA.k (by decide) (by decide) rfl) (by first | assumption | omega) (by first | assumption | omega)).mpr ?_
          try simp (disch := first | decide | assumption | omega) only [kon, knt_some, knt_none, Option.toList_some, Option.toList_none, List.cons_append, List.nil_append, upI_eq, upI_a, upI_i, upR_eq, upR_a, upR_i, e53, e54, e55, fAdd_id, fMul_id]
          refine (s270_68).mpr ?_
          first | exact T _ (MO_0 c16) | exact T _ (MO_1 c16) | exact T _ (MO_2 c16) | exact T _ (MO_3 c16) | exact T _ (MO_n c16 cf) | (exfalso; omega)
        · skip
          have c16 := List.mem_singleton.mp c16
          refine s270_69.mpr ((s270_70 kM).mpr ?_)
          rw [mr_4 hR]
          refine s270_73.mpr ?_
          refine (s270_74 (hA.k (by decide) (by decide) rfl) (by first | assumption | omega) (by first | assumption | omega)).mpr ?_
          try simp (disch := first | decide | assumption | omega) only [kon, knt_some, knt_none, Option.toList_some, Option.toList_none, List.cons_append, List.nil_append, upI_eq, upI_a, upI_i, upR_eq, upR_a, upR_i, e53, e54, e55, fAdd_id, fMul_id]
          refine (s270_75).mpr ?_
          first | exact T _ (MO_0 c16) | exact T _ (MO_1 c16) | exact T _ (MO_2 c16) | exact T _ (MO_3 c16) | exact T _ (MO_n c16 cf) | (exfalso; omega)
        · skip
          refine s270_76.mpr ?_
          refine s270_77.mpr (wif (fun c77 => ?_) (fun c77 => ?_))
          · first
            | (exfalso; omega)
            | skip
              refine s270_90.mpr ?_
              refine (s270_91).mpr ?_
              first | exact T _ (MO_0 c16) | exact T _ (MO_1 c16) | exact T _ (MO_2 c16) | exact T _ (MO_3 c16) | exact T _ (MO_n c16 cf) | (exfalso; omega)
          · first
            | (exfalso; omega)
            | skip
              refine s270_80.mpr (s270_81.mpr ((s270_82 kM).mpr ?_))
              rw [mr_7 hR]
              refine s270_85.mpr ?_
              refine (s270_86 (hA.k (by decide) (by decide) rfl) (by first | assumption | omega) (by first | assumption | omega)).mpr ?_
              try simp (disch := first | decide | assumption | omega) only [kon, knt_some, knt_none, Option.toList_some, Option.toList_none, List.cons_append, List.nil_append, upI_eq, upI_a, upI_i, upR_eq, upR_a, upR_i, e53, e54, e55, fAdd_id, fMul_id]
              refine s270_87.mpr (wif (fun c87 => ?_) (fun c87 => ?_))
              · first
                | (exfalso; omega)
                | skip
                  refine s270_92.mpr (s270_94.mpr (s270_95.mpr (s270_96.mpr (s270_97.mpr (s270_98.mpr ?_)))))
                  refine s270_100.mpr ?_
                  try simp (disch := first | decide | assumption | omega) only [kon, knt_some, knt_none, Option.toList_some, Option.toList_none, List.cons_append, List.nil_append, upI_eq, upI_a, upI_i, upR_eq, upR_a, upR_i, e53, e54, e55, fAdd_id, fMul_id]
                  refine g270_101 (fun c101 => ?_) (fun c101 => ?_) (fun c101 => ?_) (fun c101 => ?_) (fun c101 => ?_) (fun c101 => ?_)
                  · skip
                    have c101 := List.mem_singleton.mp c101
                    refine s270_136.mpr ((s270_137 kM).mpr ?_)
                    rw [mr_16 hR]
                    refine s270_140.mpr ?_
                    refine (s270_142 (hA.k (by decide) (by decide) rfl) (by first | assumption | omega) (by first | assumption | omega)).mpr ?_
                    try simp (disch := first | decide | assumption | omega) only [kon, knt_some, knt_none, Option.toList_some, Option.toList_none, List.cons_append, List.nil_append, upI_eq, upI_a, upI_i, upR_eq, upR_a, upR_i, e53, e54, e55, fAdd_id, fMul_id]
                    refine (s270_143).mpr ?_
                    first | exact T _ (MO_0 c16) | exact T _ (MO_1 c16) | exact T _ (MO_2 c16) | exact T _ (MO_3 c16) | exact T _ (MO_n c16 cf) | (exfalso; omega)
                  · skip
                    have c101 := List.mem_singleton.mp c101
                    refine s270_144.mpr ((s270_145 kM).mpr ?_)
                    rw [mr_19 hR]
                    refine s270_148.mpr ?_
                    refine (s270_150 (hA.k (by decide) (by decide) rfl) (by first | assumption | omega) (by first | assumption | omega)).mpr ?_
                    try simp (disch := first | decide | assumption | omega) only [kon, knt_some, knt_none, Option.toList_some, Option.toList_none, List.cons_append, List.nil_append, upI_eq, upI_a, upI_i, upR_eq, upR_a, upR_i, e53, e54, e55, fAdd_id, fMul_id]
                    refine (s270_151).mpr ?_
                    first | exact T _ (MO_0 c16) | exact T _ (MO_1 c16) | exact T _ (MO_2 c16) | exact T _ (MO_3 c16) | exact T _ (MO_n c16 cf) | (exfalso; omega)
                  · skip
                    have c101 := List.mem_singleton.mp c101
                    refine s270_152.mpr ((s270_153 kM).mpr ?_)
                    rw [mr_20 hR]
                    refine s270_156.mpr ?_
                    refine (s270_158 (hA.k (by decide) (by decide) rfl) (by first | assumption | omega) (by first | assumption | omega)).mpr ?_
                    try simp (disch := first | decide | assumption | omega) only [kon, knt_some, knt_none, Option.toList_some, Option.toList_none, List.cons_append, List.nil_append, upI_eq, upI_a, upI_i, upR_eq, upR_a, upR_i, e53, e54, e55, fAdd_id, fMul_id]
                    refine (s270_159).mpr ?_
                    first | exact T _ (MO_0 c16) | exact T _ (MO_1 c16) | exact T _ (MO_2 c16) | exact T _ (MO_3 c16) | exact T _ (MO_n c16 cf) | (exfalso; omega)
                  · skip
                    have c101 := List.mem_singleton.mp c101
                    refine s270_160.mpr ((s270_161 kM).mpr ?_)
                    rw [mr_21 hR]
                    refine s270_164.mpr ?_
                    refine (s270_166 (hA.k (by decide) (by decide) rfl) (by first | assumption | omega) (by first | assumption | omega)).mpr ?_
                    try simp (disch := first | decide | assumption | omega) only [kon, knt_some, knt_none, Option.toList_some, Option.toList_none, List.cons_append, List.nil_append, upI_eq, upI_a, upI_i, upR_eq, upR_a, upR_i, e53, e54, e55, fAdd_id, fMul_id]
                    refine (s270_167).mpr ?_
                    first | exact T _ (MO_0 c16) | exact T _ (MO_1 c16) | exact T _ (MO_2 c16) | exact T _ (MO_3 c16) | exact T _ (MO_n c16 cf) | (exfalso; omega)
                  · skip
                    have c101 := List.mem_singleton.mp c101
                    refine s270_168.mpr (s270_169.mpr (s270_170.mpr ?_))
                    refine (s270_172 (by omega) kM).mpr ?_
                    exfalso; omega
                  · skip
                    refine s270_176.mpr ?_
                    refine (s270_177).mpr ?_
                    first | exact T _ (MO_0 c16) | exact T _ (MO_1 c16) | exact T _ (MO_2 c16) | exact T _ (MO_3 c16) | exact T _ (MO_n c16 cf) | (exfalso; omega)
              · first
                | (exfalso; omega)
                | skip
                  refine s270_90.mpr ?_
                  refine (s270_91).mpr ?_
                  first | exact T _ (MO_0 c16) | exact T _ (MO_1 c16) | exact T _ (MO_2 c16) | exact T _ (MO_3 c16) | exact T _ (MO_n c16 cf) | (exfalso; omega)
end MF2
