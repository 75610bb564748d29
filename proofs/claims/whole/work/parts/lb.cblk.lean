/-! RUNNING, the class: blocks -/
section CB0
variable {d : Nat} {Q : QQ} {T : TXs} {al al' : AL} {hi hi' : HI} {hr hr' : HR} {s s' : HI} {A A' : Int → Int → Int} {NN : Int → Option Nat} {E E' : Int → Prop} {p q m f v w x i b : Int} {B : Int → Int} {X Y : Tst} {t t' N : Nat} {al0 : AL} {hi0 : HI} {hr0 : HR}
/-- the blocks' sizes -/
def BkI (s : HI) : Prop := ∀ b, 0 ≤ b → b < 128 → s 109 b = -1 ∨ (1 ≤ s 109 b ∧ s 109 b ≤ 6)
theorem BkI.o (h : BkI s) : BkO s := fun b b0 b1 => by have := h b b0 b1; omega
theorem BlC.bd (h : BlC hi s) (hB : BkI s) : (∀ b, 0 ≤ b → b < 128 → (s 109 b = -1 ∧ hi 30 b = 0) ∨ (s 109 b ≠ -1 ∧ hi 30 b = s 109 b ∧ 1 ≤ hi 30 b ∧ hi 30 b ≤ 6)) ∧ (0 ≤ hi 29 3 ∧ hi 29 3 ≤ 128) ∧ 0 ≤ hi 29 4 ∧ hi 29 4 ≤ 40000 := by
  obtain ⟨h1, h2, h3⟩ := h
  have := bcn_b (s := s) 128
  have := bcl_b hB.o 128 (by omega)
  refine ⟨fun b b0 b1 => ?_, by omega, by omega⟩
  have e := (h1 b b0 b1).1
  rcases hB b b0 b1 with z | z
  · rw [if_pos z] at e; exact Or.inl ⟨z, e⟩
  · rw [if_neg (by omega)] at e; exact Or.inr ⟨by omega, e, by omega, by omega⟩
theorem b_free (hA : SA al) (hC : CR hr) (hb : 0 ≤ b → b < 128 → 0 ≤ hi 30 b ∧ hi 30 b ≤ 6) (h3 : 0 ≤ hi 29 3 ∧ hi 29 3 ≤ 128) (h4 : 0 ≤ hi 29 4 ∧ hi 29 4 ≤ 40000) (no : ¬ (0 ≤ b ∧ b < 128 ∧ 1 ≤ hi 30 b) → Q (some none) al hi hr) (yes : 0 ≤ b → b < 128 → 1 ≤ hi 30 b → Q (some none) al (upI (upI (upI hi 29 4 (hi 29 4 - (hi 30 b + 1))) 29 3 (hi 29 3 - 1)) 30 b 0) hr) : Ev d 8 [vR (some 29), vI b] al hi hr Q := by
  have k29 : isK al 29 1 := hA.k (by decide) (by decide) rfl
  have l30 := SA.len (a := 30) (n := 128) hA (by decide) (by decide) rfl
  have R30 : isR al 30 = true := hA.r (by decide) (by decide) (by decide); have R31 : isR al 31 = true := hA.r (by decide) (by decide) (by decide); have R32 : isR al 32 = true := hA.r (by decide) (by decide) (by decide)
  have K30 : isK al 30 15 := hA.k (by decide) (by decide) rfl; have K31 : isK al 31 15 := hA.k (by decide) (by decide) rfl; have K32 : isK al 32 15 := hA.k (by decide) (by decide) rfl
  have g30 := cr_29_0 hC; have g31 := cr_29_1 hC; have g32 := cr_29_2 hC
  rw [e8]
  by_cases c : 0 ≤ b ∧ b < 128
  · have hb' := hb c.1 c.2
    have c1 := c.1
    have c2 := c.2
    clear hb
    by_cases c3 : 1 ≤ hi 30 b
    · have E := yes c1 c2 c3
      refine s8_0.mpr ?_
      refine s8_1.mpr (wif (fun c1 => ?_) (fun c1 => ?_))
      · first
        | (exfalso; omega)
        | skip
          refine (s8_54).mpr ?_
          first | exact E | (exfalso; omega)
      · first
        | (exfalso; omega)
        | skip
          refine s8_4.mpr (s8_5.mpr ?_)
          refine s8_8.mpr (wif (fun c8 => ?_) (fun c8 => ?_))
          · first
            | (exfalso; omega)
            | skip
              refine s8_11.mpr ?_
              refine (s8_12 (by first | decide | assumption | omega)).mpr ?_
              refine s8_15.mpr ?_
              try simp (disch := first | decide | assumption | omega) only [g30, upI_a, upI_i, fAdd_id, fSub_id]
              refine (s8_16 (by first | decide | assumption | omega) (by first | decide | assumption | omega) (by first | decide | assumption | omega)).mpr ?_
              try simp (disch := first | decide | assumption | omega) only [g30, upI_a, upI_i, fAdd_id, fSub_id]
              refine s8_17.mpr (wif (fun c17 => ?_) (fun c17 => ?_))
              · first
                | (exfalso; omega)
                | skip
                  refine s8_20.mpr (s8_21.mpr ?_)
                  refine (s8_22 (by first | decide | assumption | omega)).mpr ?_
                  refine s8_25.mpr ?_
                  try simp (disch := first | decide | assumption | omega) only [g30, upI_a, upI_i, fAdd_id, fSub_id]
                  refine (s8_26 (by first | decide | assumption | omega)).mpr ?_
                  refine s8_29.mpr ?_
                  try simp (disch := first | decide | assumption | omega) only [g30, upI_a, upI_i, fAdd_id, fSub_id]
                  refine (s8_30 (by first | decide | assumption | omega) (by first | decide | assumption | omega) (by first | decide | assumption | omega)).mpr ?_
                  refine s8_31.mpr (s8_32.mpr (s8_33.mpr ?_))
                  try simp (disch := first | decide | assumption | omega) only [g30, upI_a, upI_i, fAdd_id, fSub_id]
                  refine (s8_34 (by first | decide | assumption | omega)).mpr ?_
                  refine s8_37.mpr (s8_38.mpr ?_)
                  try simp (disch := first | decide | assumption | omega) only [g30, upI_a, upI_i, fAdd_id, fSub_id]
                  refine (s8_39 (by first | decide | assumption | omega)).mpr ?_
                  refine s8_42.mpr (s8_43.mpr ?_)
                  try simp (disch := first | decide | assumption | omega) only [g30, upI_a, upI_i, fAdd_id, fSub_id]
                  refine (s8_44 (by first | decide | assumption | omega)).mpr ?_
                  refine s8_47.mpr ?_
                  try simp (disch := first | decide | assumption | omega) only [g30, upI_a, upI_i, fAdd_id, fSub_id]
                  refine (s8_48 (by first | decide | assumption | omega)).mpr ?_
                  refine s8_51.mpr (s8_52.mpr ?_)
                  try simp (disch := first | decide | assumption | omega) only [g30, upI_a, upI_i, fAdd_id, fSub_id]
                  refine (s8_53 (by first | decide | assumption | omega) (by first | decide | assumption | omega) (by first | decide | assumption | omega)).mpr ?_
                  try simp (disch := first | decide | assumption | omega) only [g30, upI_a, upI_i, fAdd_id, fSub_id]
                  refine (s8_54).mpr ?_
                  first | exact E | (exfalso; omega)
              · first
                | (exfalso; omega)
                | skip
                  refine (s8_54).mpr ?_
                  first | exact E | (exfalso; omega)
          · first
            | (exfalso; omega)
            | skip
              refine (s8_54).mpr ?_
              first | exact E | (exfalso; omega)
    · have E := no (fun z => c3 z.2.2)
      refine s8_0.mpr ?_
      refine s8_1.mpr (wif (fun c1 => ?_) (fun c1 => ?_))
      · first
        | (exfalso; omega)
        | skip
          refine (s8_54).mpr ?_
          first | exact E | (exfalso; omega)
      · first
        | (exfalso; omega)
        | skip
          refine s8_4.mpr (s8_5.mpr ?_)
          refine s8_8.mpr (wif (fun c8 => ?_) (fun c8 => ?_))
          · first
            | (exfalso; omega)
            | skip
              refine s8_11.mpr ?_
              refine (s8_12 (by first | decide | assumption | omega)).mpr ?_
              refine s8_15.mpr ?_
              try simp (disch := first | decide | assumption | omega) only [g30, upI_a, upI_i, fAdd_id, fSub_id]
              refine (s8_16 (by first | decide | assumption | omega) (by first | decide | assumption | omega) (by first | decide | assumption | omega)).mpr ?_
              try simp (disch := first | decide | assumption | omega) only [g30, upI_a, upI_i, fAdd_id, fSub_id]
              refine s8_17.mpr (wif (fun c17 => ?_) (fun c17 => ?_))
              · first
                | (exfalso; omega)
                | skip
                  refine s8_20.mpr (s8_21.mpr ?_)
                  refine (s8_22 (by first | decide | assumption | omega)).mpr ?_
                  refine s8_25.mpr ?_
                  try simp (disch := first | decide | assumption | omega) only [g30, upI_a, upI_i, fAdd_id, fSub_id]
                  refine (s8_26 (by first | decide | assumption | omega)).mpr ?_
                  refine s8_29.mpr ?_
                  try simp (disch := first | decide | assumption | omega) only [g30, upI_a, upI_i, fAdd_id, fSub_id]
                  refine (s8_30 (by first | decide | assumption | omega) (by first | decide | assumption | omega) (by first | decide | assumption | omega)).mpr ?_
                  refine s8_31.mpr (s8_32.mpr (s8_33.mpr ?_))
                  try simp (disch := first | decide | assumption | omega) only [g30, upI_a, upI_i, fAdd_id, fSub_id]
                  refine (s8_34 (by first | decide | assumption | omega)).mpr ?_
                  refine s8_37.mpr (s8_38.mpr ?_)
                  try simp (disch := first | decide | assumption | omega) only [g30, upI_a, upI_i, fAdd_id, fSub_id]
                  refine (s8_39 (by first | decide | assumption | omega)).mpr ?_
                  refine s8_42.mpr (s8_43.mpr ?_)
                  try simp (disch := first | decide | assumption | omega) only [g30, upI_a, upI_i, fAdd_id, fSub_id]
                  refine (s8_44 (by first | decide | assumption | omega)).mpr ?_
                  refine s8_47.mpr ?_
                  try simp (disch := first | decide | assumption | omega) only [g30, upI_a, upI_i, fAdd_id, fSub_id]
                  refine (s8_48 (by first | decide | assumption | omega)).mpr ?_
                  refine s8_51.mpr (s8_52.mpr ?_)
                  try simp (disch := first | decide | assumption | omega) only [g30, upI_a, upI_i, fAdd_id, fSub_id]
                  refine (s8_53 (by first | decide | assumption | omega) (by first | decide | assumption | omega) (by first | decide | assumption | omega)).mpr ?_
                  try simp (disch := first | decide | assumption | omega) only [g30, upI_a, upI_i, fAdd_id, fSub_id]
                  refine (s8_54).mpr ?_
                  first | exact E | (exfalso; omega)
              · first
                | (exfalso; omega)
                | skip
                  refine (s8_54).mpr ?_
                  first | exact E | (exfalso; omega)
          · first
            | (exfalso; omega)
            | skip
              refine (s8_54).mpr ?_
              first | exact E | (exfalso; omega)
  · have E := no (fun z => c ⟨z.1, z.2.1⟩)
    clear hb
    refine s8_0.mpr ?_
    refine s8_1.mpr (wif (fun c1 => ?_) (fun c1 => ?_))
    · first
      | (exfalso; omega)
      | skip
        refine (s8_54).mpr ?_
        exact E
    · first
      | (exfalso; omega)
      | skip
        refine s8_4.mpr (s8_5.mpr ?_)
        refine s8_8.mpr (wif (fun c8 => ?_) (fun c8 => ?_))
        · first
          | (exfalso; omega)
          | skip
            exfalso; omega
        · first
          | (exfalso; omega)
          | skip
            refine (s8_54).mpr ?_
            exact E
theorem bcn_out (h : ¬ (0 ≤ b ∧ b < 128)) : bcn (upI s 109 b x) 128 = bcn s 128 ∧ bcl (upI s 109 b x) 128 = bcl s 128 := ⟨bcn_cg 128 (fun k z => upI_i (by omega)), bcl_cg2 128 (fun k z => upI_i (by omega))⟩
theorem upI_id {a : Nat} {i x : Int} (h : hi a i = x) : upI hi a i x = hi := upI_same h
/-- a block goes, if there is one -/
theorem x_free (h : RelS T NN al0 hi0 hr0 E A al hi hr s) (hP : AllP s) (hB : BkI s) (q : ∀ hi', RelS T NN al0 hi0 hr0 E A al hi' hr (upI s 109 b (-1)) → (∀ (a : Nat) i, a ≠ 29 → a ≠ 30 → hi' a i = hi a i) → Q (some none) al hi' hr) : Ev d 8 [vR (some 29), vI b] al hi hr Q := by
  obtain ⟨d1, d2, d3⟩ := h.2.2.1.bd hB
  have R : ∀ hi', BlC hi' (upI s 109 b (-1)) → (∀ (a : Nat) i, a ≠ 29 → a ≠ 30 → hi' a i = hi a i) → RelS T NN al0 hi0 hr0 E A al hi' hr (upI s 109 b (-1)) := fun hi' hb hw =>
    h.glo hP (fun a i z => hw a i (by unfold gC at z; omega) (by unfold gC at z; omega)) (fun _ _ _ => rfl) (fun a i z => upI_a (by unfold gS at z; omega)) (upI_a (by decide)) (h.2.1.cg (fun a i z => hw a i (by omega) (by omega)) (fun a i z => upI_a (by omega))) hb (h.2.2.2.1.cg (fun a i z1 z2 => hw a i (by omega) (by omega)) (fun e => upI_a (by decide)) (fun e => upI_a (by decide)) (fun e _ => ⟨upI_a (by decide), upI_a (by decide), fun k _ _ => ⟨upI_a (by decide), upI_a (by decide), upI_a (by decide)⟩⟩))
  refine b_free h.1.1 h.1.2.1 (fun b0 b1 => by have := d1 b b0 b1; omega) d2 d3 (fun no => ?_) (fun b0 b1 b2 => ?_)
  · refine q hi (R hi ?_ (fun _ _ _ _ => rfl)) (fun _ _ _ _ => rfl)
    by_cases c : 0 ≤ b ∧ b < 128
    · have e : s 109 b = -1 := by have := d1 b c.1 c.2; omega
      rw [upI_same e]; exact h.2.2.1
    · obtain ⟨h1, h2, h3⟩ := h.2.2.1
      obtain ⟨z1, z2⟩ := bcn_out (s := s) (x := -1) c
      refine ⟨fun b' b0 b1 => ?_, by rw [z1]; exact h2, by rw [z2]; exact h3⟩
      rw [upI_i (show b' ≠ b by omega), upI_a (by decide)]
      obtain ⟨y1, y2⟩ := h1 b' b0 b1
      refine ⟨y1, fun z => ⟨(y2 z).1, fun j j0 j1 => ?_⟩⟩
      rw [upI_a (by decide)]
      exact (y2 z).2 j j0 j1
  · have e := d1 b b0 b1
    have en : s 109 b ≠ -1 := by omega
    have e9 : hi 30 b = s 109 b := by omega
    have hw : ∀ (a : Nat) i, a ≠ 29 → a ≠ 30 → upI (upI (upI hi 29 4 (hi 29 4 - (hi 30 b + 1))) 29 3 (hi 29 3 - 1)) 30 b 0 a i = hi a i := fun a i z1 z2 => by rw [upI_a (by omega), upI_a (by omega), upI_a (by omega)]
    refine q _ (R _ ?_ hw) hw
    rw [e9]
    exact h.2.2.1.fre ⟨b0, b1⟩ en
/-- all that a process owned below b went -/
noncomputable def frG (s : HI) (p b : Int) : HI := fun a i => cif (a = 109 ∧ 0 ≤ i ∧ i < b ∧ s 109 i ≠ -1 ∧ s 110 i = p) (-1) (s a i)
theorem frG_n {a : Nat} {b i : Int} (h : a ≠ 109) : frG s p b a i = s a i := cif_n (fun z => h z.1)
theorem frG_0 : frG s p 0 = s := by funext a i; exact cif_n (fun z => by omega)
theorem frG_1 : frG s p 128 = frbS s p := rfl
theorem frG_s {b : Int} (b0 : 0 ≤ b) : frG s p (b + 1) = if s 109 b ≠ -1 ∧ s 110 b = p then upI (frG s p b) 109 b (-1) else frG s p b := by
  funext a i
  by_cases c : s 109 b ≠ -1 ∧ s 110 b = p
  · rw [if_pos c]
    unfold upI
    by_cases z : a = 109 ∧ i = b
    · rw [if_pos z]; obtain ⟨rfl, rfl⟩ := z; exact cif_y ⟨rfl, b0, by omega, c⟩
    · rw [if_neg z]
      unfold frG
      by_cases y : a = 109 ∧ 0 ≤ i ∧ i < b ∧ s 109 i ≠ -1 ∧ s 110 i = p
      · rw [cif_y y, cif_y ⟨y.1, y.2.1, by omega, y.2.2.2⟩]
      · rw [cif_n y, cif_n (fun u => y ⟨u.1, u.2.1, by omega, u.2.2.2⟩)]
  · rw [if_neg c]
    unfold frG
    by_cases y : a = 109 ∧ 0 ≤ i ∧ i < b ∧ s 109 i ≠ -1 ∧ s 110 i = p
    · rw [cif_y y, cif_y ⟨y.1, y.2.1, by omega, y.2.2.2⟩]
    · rw [cif_n y, cif_n (fun u => y ⟨u.1, u.2.1, by
        by_cases w : i = b
        · subst w; exact absurd u.2.2.2 c
        · omega, u.2.2.2⟩)]
theorem BkI.g {b : Int} (h : BkI s) : BkI (frG s p b) := fun b' b0 b1 => by
  unfold frG cif
  split
  · exact Or.inl rfl
  · exact h b' b0 b1
set_option maxRecDepth 8000 in
theorem x_freeAllOf (h : RelS T NN al0 hi0 hr0 E A al hi hr s) (hP : AllP s) (hB : BkI s) (hd : 1 ≤ d) (q : ∀ hi', RelS T NN al0 hi0 hr0 E A al hi' hr (frbS s p) → (∀ (a : Nat) i, a ≠ 29 → a ≠ 30 → hi' a i = hi a i) → Q (some none) al hi' hr) : Ev d 9 [vR (some 29), vI p] al hi hr Q := by
  have hA := h.1.1
  have hC := h.1.2.1
  have k29 : isK al 29 1 := hA.k (by decide) (by decide) rfl
  have l30 := SA.len (a := 30) (n := 128) hA (by decide) (by decide) rfl
  have l31 := SA.len (a := 31) (n := 128) hA (by decide) (by decide) rfl
  have R30 : isR al 30 = true := hA.r (by decide) (by decide) (by decide); have R31 : isR al 31 = true := hA.r (by decide) (by decide) (by decide); have R32 : isR al 32 = true := hA.r (by decide) (by decide) (by decide)
  have K30 : isK al 30 15 := hA.k (by decide) (by decide) rfl; have K31 : isK al 31 15 := hA.k (by decide) (by decide) rfl; have K32 : isK al 32 15 := hA.k (by decide) (by decide) rfl
  have g30 := cr_29_0 hC; have g31 := cr_29_1 hC; have g32 := cr_29_2 hC
  have T2 : Wp d 9 2 [vR (some 29), vI p, vI 0] [] al hi hr Q := by
    refine wp_cnt (N := 128) (fun i ls h3 => ls = [vR (some 29), vI p, vI i] ∧ RelS T NN al0 hi0 hr0 E A al h3 hr (frG s p i) ∧ ∀ (a : Nat) i, a ≠ 29 → a ≠ 30 → h3 a i = hi a i) ?_ ?_ _ _ ⟨rfl, by rw [show ((0 : Nat) : Int) = 0 by rfl, frG_0]; exact h, fun _ _ _ _ => rfl⟩
    · rintro i ls h3 hi9 ⟨rfl, w3, a3⟩ nx
      have hs := frG_s (s := s) (p := p) (b := (i : Int)) (by omega)
      have hP3 : AllP (frG s p i) := hP.glo (fun a i z => frG_n (by unfold gS at z; omega)) (frG_n (by decide))
      obtain ⟨d1, d2, d3⟩ := w3.2.2.1.bd hB.g
      have e0 := d1 i (by omega) (by omega)
      have ei : frG s p i 109 i = s 109 i := cif_n (fun z => by omega)
      rw [ei] at e0
      have e1 := (w3.2.2.1.1 i (by omega) (by omega)).2
      rw [ei, frG_n (by decide)] at e1
      by_cases c : s 109 i ≠ -1 ∧ s 110 i = p
      · rw [if_pos c] at hs
        have c1 := e1 c.1
        have X := x_free (d := d - 1) (Q := kon d 9 30 33 [vR (some 29), vI p, vI i] [] Q) (b := i) w3 hP3 hB.g (fun h4 z1 z2 => by
          have N := nx [vR (some 29), vI p, vI (i + 1)] h4 ⟨by rw [cast1], by rw [cast1, hs]; exact z1, fun a j y1 y2 => (z2 a j y1 y2).trans (a3 a j y1 y2)⟩
          simp only [kon, knt_some, knt_none, Option.toList_some, Option.toList_none, List.cons_append, List.nil_append]
          refine s9_33.mpr (s9_36.mpr ?_)
          try simp (disch := first | decide | assumption | omega) only [fAdd_id]
          exact N
          )
        have c2 := c.2
        have c3 := c1.1
        rw [c2] at c3
        refine s9_2.mpr (s9_3.mpr ?_)
        refine s9_6.mpr (wif (fun c6 => ?_) (fun c6 => ?_))
        · first
          | (exfalso; omega)
          | skip
            refine s9_9.mpr ?_
            refine (s9_10 (by first | decide | assumption | omega)).mpr ?_
            refine s9_13.mpr ?_
            try simp (disch := first | decide | assumption | omega) only [g30, g31, c3]
            refine (s9_14 (by first | decide | assumption | omega) (by first | decide | assumption | omega) (by first | decide | assumption | omega)).mpr ?_
            try simp (disch := first | decide | assumption | omega) only [g30, g31, c3]
            refine s9_15.mpr (wif (fun c15 => ?_) (fun c15 => ?_))
            · first
              | (exfalso; omega)
              | skip
                refine s9_18.mpr ?_
                refine (s9_19 (by first | decide | assumption | omega)).mpr ?_
                refine s9_22.mpr ?_
                try simp (disch := first | decide | assumption | omega) only [g30, g31, c3]
                refine (s9_23 (by first | decide | assumption | omega) (by first | decide | assumption | omega) (by first | decide | assumption | omega)).mpr ?_
                refine s9_24.mpr ?_
                try simp (disch := first | decide | assumption | omega) only [g30, g31, c3]
                refine s9_25.mpr (wif (fun c25 => ?_) (fun c25 => ?_))
                · first
                  | (exfalso; omega)
                  | skip
                    refine s9_28.mpr (s9_29.mpr ?_)
                    refine (s9_30 (by first | decide | assumption | omega) (by first | decide | assumption | omega)).mpr ?_
                    exact X
                · first
                  | (exfalso; omega)
                  | skip
                    exfalso; omega
            · first
              | (exfalso; omega)
              | skip
                exfalso; omega
        · first
          | (exfalso; omega)
          | skip
            refine (s9_39).mpr ?_
            exfalso; omega
      · rw [if_neg c] at hs
        have N := nx [vR (some 29), vI p, vI (i + 1)] h3 ⟨by rw [cast1], by rw [cast1, hs]; exact w3, a3⟩
        have T33 : Wp d 9 33 [vR (some 29), vI p, vI i] [] al h3 hr Q := by
          refine s9_33.mpr (s9_36.mpr ?_)
          try simp (disch := first | decide | assumption | omega) only [fAdd_id]
          exact N
        refine s9_2.mpr (s9_3.mpr ?_)
        refine s9_6.mpr (wif (fun c6 => ?_) (fun c6 => ?_))
        · first
          | (exfalso; omega)
          | skip
            refine s9_9.mpr ?_
            refine (s9_10 (by first | decide | assumption | omega)).mpr ?_
            refine s9_13.mpr ?_
            try simp (disch := first | decide | assumption | omega) only [g30, g31]
            refine (s9_14 (by first | decide | assumption | omega) (by first | decide | assumption | omega) (by first | decide | assumption | omega)).mpr ?_
            try simp (disch := first | decide | assumption | omega) only [g30, g31]
            refine s9_15.mpr (wif (fun c15 => ?_) (fun c15 => ?_))
            · first
              | (exfalso; omega)
              | skip
                refine s9_18.mpr ?_
                refine (s9_19 (by first | decide | assumption | omega)).mpr ?_
                refine s9_22.mpr ?_
                try simp (disch := first | decide | assumption | omega) only [g30, g31]
                refine (s9_23 (by first | decide | assumption | omega) (by first | decide | assumption | omega) (by first | decide | assumption | omega)).mpr ?_
                refine s9_24.mpr ?_
                try simp (disch := first | decide | assumption | omega) only [g30, g31]
                refine s9_25.mpr (wif (fun c25 => ?_) (fun c25 => ?_))
                · first
                  | (exfalso; omega)
                  | skip
                    exfalso; exact c ⟨by omega, by have := e1 (by omega); omega⟩
                · first
                  | (exfalso; omega)
                  | skip
                    exact T33
            · first
              | (exfalso; omega)
              | skip
                exact T33
        · first
          | (exfalso; omega)
          | skip
            refine (s9_39).mpr ?_
            exfalso; omega
    · rintro ls h3 ⟨rfl, w3, a3⟩
      have E := q h3 (by rw [← frG_1]; exact w3) a3
      refine s9_2.mpr (s9_3.mpr ?_)
      refine s9_6.mpr (wif (fun c6 => ?_) (fun c6 => ?_))
      · skip
        exfalso; omega
      · skip
        refine (s9_39).mpr ?_
        exact E
  rw [e9]
  refine s9_0.mpr (s9_1.mpr ?_)
  exact T2
end CB0
