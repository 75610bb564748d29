section MF2
variable {d : Nat} {al : AL} {hi : HI} {hr : HR} {Q : QQ} {B : Int → Int}
/-- joining looks at what is there alone -/
theorem jOK_eq {Y X X' : Tst} (h : eqX X X') (hj : jOK Y X) : jOK Y X' := ⟨hj.1.trans h.1, fun k a b => by rw [← h.2.1 k a (by rw [← hj.1]; exact b)]; exact hj.2.1 k a b, fun k a b => by rw [← h.2.2 k a b]; exact hj.2.2 k a b⟩
theorem jX_eq {Y X X' : Tst} (h : eqX X X') (hj : jOK Y X) : eqX (jX Y X) (jX Y X') := ⟨rfl, fun k a b => by show both _ _ = both _ _; rw [h.2.1 k a (by rw [← hj.1]; exact b)], fun k a b => by show bothL _ _ = bothL _ _; rw [h.2.2 k a b]⟩
theorem eqX.tr {X Y Z : Tst} (h1 : eqX X Y) (h2 : eqX Y Z) : eqX X Z := ⟨h1.1.trans h2.1, fun k a b => (h1.2.1 k a b).trans (h2.2.1 k a (by rw [← h1.1]; exact b)), fun k a b => (h1.2.2 k a b).trans (h2.2.2 k a b)⟩
theorem eqX.rf {X : Tst} : eqX X X := ⟨rfl, fun _ _ _ => rfl, fun _ _ _ => rfl⟩
theorem ArrR_eq {A A' : Asg} {p : Int} {X X' : Tst} (h : eqX X X') (ha : ArrR A p X A') : ArrR A p X' A' := by
  refine ⟨ha.1, fun hN => ?_, fun Y hY => ?_⟩
  · obtain ⟨Z, z1, z2⟩ := ha.2.1 hN; exact ⟨Z, z1, z2.tr h⟩
  · obtain ⟨j, Z, z1, z2⟩ := ha.2.2 Y hY
    exact ⟨jOK_eq h j, Z, z1, z2.tr (jX_eq h j)⟩
theorem ArrX_eq {A : Asg} {p : Int} {X X' : Tst} (h : eqX X X') (ha : ArrX A p X) : ArrX A p X' := by
  obtain ⟨Y, h1, h2⟩ := ha
  exact ⟨Y, h1, fun q => h2 (jOK_eq h.sy q)⟩
theorem FlR_sn {n : Int} {q : Int × Tst} : ∀ (fl : List (Int × Tst)) (A A1 A2 : Asg), FlR n A fl A1 → q.1 < n → q.2.1 ≤ 16 → 0 ≤ q.1 → ArrR A1 q.1 q.2 A2 → FlR n A (fl ++ [q]) A2
  | [], A, A1, A2, h, h1, h2, h0, ha => by
    refine ⟨h1, h2, A2, ?_, fun _ _ => rfl⟩
    refine ⟨fun r r0 hr => (ha.1 r r0 hr).trans (h r r0), fun hN => ha.2.1 (by rw [h _ h0]; exact hN), fun Y hY => ha.2.2 Y (by rw [h _ h0]; exact hY)⟩
  | r :: fl, A, A1, A2, ⟨a, b, A3, h3, h4⟩, h1, h2, h0, ha => ⟨a, b, A3, h3, FlR_sn fl A3 A1 A2 h4 h1 h2 h0 ha⟩
theorem FlX_sn {n : Int} {q : Int × Tst} (h0 : 0 ≤ q.1) : ∀ (fl fl2 : List (Int × Tst)) (A A1 : Asg), FlR n A fl A1 → (¬ (q.1 < n ∧ q.2.1 ≤ 16) ∨ ArrX A1 q.1 q.2) → FlX n A (fl ++ q :: fl2)
  | [], fl2, A, A1, h, hx => by
    rcases hx with hx | ⟨Y, y1, y2⟩
    · exact Or.inl hx
    · exact Or.inr (Or.inl ⟨Y, by rw [← h _ h0]; exact y1, y2⟩)
  | r :: fl, fl2, A, A1, ⟨a, b, A3, h3, h4⟩, hx => Or.inr (Or.inr ⟨A3, h3, FlX_sn h0 fl fl2 A3 A1 h4 hx⟩)
theorem acc_eq {f p : Int} {A : Asg} {X X' : Tst} (ho : Opk B f p) (h : leX X X') (ha : Acc B f A p X') : Acc B f A p X := by
  obtain ⟨fl', a1, a2⟩ := ha
  obtain ⟨fl, b1, b2⟩ := ts_mono ho.1 ho.2.1 h a1
  refine ⟨fl, b1, fun q hq => ?_⟩
  obtain ⟨V, v1, v2⟩ := b2 q hq
  obtain ⟨c1, c2, Z, c3, c4⟩ := a2 _ v1
  exact ⟨c1, by rw [v2.1]; exact c2, Z, c3, v2.tr c4⟩
/-- the same, for what lies below -/
theorem step_lub2 {f p : Int} {A W : Asg} {X X' : Tst} (ho : Opk B f p) (hp : 0 ≤ p) (hv : vA B A) (hX : A p = some X) (hle : leX X' X) (hvX : vX B X') (hW : Clo B f W) (hw : leA A W) : ∃ fl, tstep B f p X' = some fl ∧ ¬ FlX (cLen B f) A fl ∧ ∀ A', FlR (cLen B f) A fl A' → leA A' W := by
  obtain ⟨Z, z1, z2⟩ := hw p X hp hX
  obtain ⟨fl', f1, f2⟩ := hW.2 p Z hp z1
  obtain ⟨fl, g1, g2⟩ := ts_mono ho.1 ho.2.1 (hle.tr z2) f1
  refine ⟨fl, g1, fl_lub fl A (ho.2.2 X' fl hvX g1) hv hw (fun q hq => ?_)⟩
  obtain ⟨V, v1, v2⟩ := g2 q hq
  obtain ⟨a, b, Z', c, d⟩ := f2 _ v1
  exact ⟨a, by rw [v2.1]; exact b, Z', c, v2.tr d⟩
theorem eqA.rf {A : Asg} : eqA A A := fun p hp => ⟨Iff.rfl, fun X Y h1 h2 => by rw [h1] at h2; cases h2; exact eqX.rf⟩
theorem eqA.tr {A A1 A2 : Asg} (h1 : eqA A A1) (h2 : eqA A1 A2) : eqA A A2 := fun p hp => by
  refine ⟨(h1 p hp).1.trans (h2 p hp).1, fun X Y hX hY => ?_⟩
  cases hZ : A1 p with
  | none => rw [(h1 p hp).1.mpr hZ] at hX; cases hX
  | some Z => exact ((h1 p hp).2 X Z hX hZ).tr ((h2 p hp).2 Z Y hZ hY)
theorem eqA.le {A A1 : Asg} (h : eqA A A1) : leA A A1 := fun p X hp hX => by
  cases hZ : A1 p with
  | none => rw [(h p hp).1.mpr hZ] at hX; cases hX
  | some Z => exact ⟨Z, rfl, ((h p hp).2 X Z hX hZ).le⟩
theorem eqA.sy {A A1 : Asg} (h : eqA A A1) : eqA A1 A := fun p hp => ⟨(h p hp).1.symm, fun X Y hX hY => ((h p hp).2 Y X hY hX).sy⟩
/-- whether the reference's note of changes is right -/
def CS (hi hi' : HI) : Prop := (hi' 49 37 = hi 49 37 ∧ eqA (memA hi) (memA hi')) ∨ (hi' 49 37 = 1 ∧ rkA (memA hi) < rkA (memA hi'))
theorem CS.rf : CS hi hi := Or.inl ⟨rfl, eqA.rf⟩
theorem CS.tr {h1 h2 h3 : HI} (hv : vA B (memA h1)) (hv2 : vA B (memA h2)) (hl : leA (memA h2) (memA h3)) (a : CS h1 h2) (b : CS h2 h3) : CS h1 h3 := by
  rcases a with ⟨a1, a2⟩ | ⟨a1, a2⟩
  · have e := rkA_le hv a2.le
    rcases b with ⟨b1, b2⟩ | ⟨b1, b2⟩
    · exact Or.inl ⟨b1.trans a1, a2.tr b2⟩
    · exact Or.inr ⟨b1, by omega⟩
  · have e := rkA_le hv2 hl
    rcases b with ⟨b1, b2⟩ | ⟨b1, b2⟩
    · exact Or.inr ⟨b1.trans a1, by omega⟩
    · exact Or.inr ⟨b1, by omega⟩
def bool71 (hi : HI) : Prop := ∀ q, 0 ≤ q → q < 240 → hi 71 q = 0 ∨ hi 71 q = 1
theorem cs_of {hi' : HI} {p : Int} {X Y Z : Tst} (hv : vA B (memA hi)) (hp : 0 ≤ p) (h2 : p < 240) (e : ArrR (memA hi) p X (memA hi')) (y1 : memA hi p = some Y) (z1 : memA hi' p = some Z) (h37 : hi 49 37 = 0 ∨ hi 49 37 = 1) (hch : CHG (hi 49 37) (hi' 49 37) (¬ eqX Y Z)) : CS hi hi' := by
  by_cases hD : eqX Y Z
  · left
    refine ⟨?_, fun q hq => ?_⟩
    · rcases hch with ⟨a, b⟩ | ⟨a, b, c⟩
      · rcases b with b | b
        · omega
        · exact absurd hD b
      · omega
    · by_cases hqp : q = p
      · subst hqp
        rw [y1, z1]
        exact ⟨by simp, fun X' Y' h1 h2 => by cases h1; cases h2; exact hD⟩
      · rw [e.1 q hq hqp]
        exact ⟨Iff.rfl, fun X' Y' h1 h2 => by rw [h1] at h2; cases h2; exact eqX.rf⟩
  · right
    refine ⟨?_, arr_rk hv e hp h2 (Or.inr ⟨Y, Z, y1, z1, hD⟩)⟩
    rcases hch with ⟨a, b⟩ | ⟨a, b, c⟩
    · exact a
    · exact absurd hD c
theorem m_flow {f p t n : Int} (hA : SA al) (hR : MR hr) (hd : 3 ≤ d) (hf : 0 ≤ f ∧ f < 130) (h68 : hi 68 f = n) (hn : n ≤ 240) (hp : 0 ≤ p) (h36 : hi 49 36 = 1) (h37 : hi 49 37 = 0 ∨ hi 49 37 = 1) (ht : hi 49 35 = t) (ht0 : 0 ≤ t ∧ t ≤ 20) (hb : bool71 hi) (hv : vA B (memA hi))
    (ok : ∀ hi', p < n → t ≤ 16 → FW wFl hi hi' → hi' 49 36 = 1 → (hi' 49 37 = 0 ∨ hi' 49 37 = 1) → ArrR (memA hi) p (scX hi) (memA hi') → CS hi hi' → bool71 hi' → Q (some none) al hi' hr)
    (no : ∀ hi', (¬ (p < n ∧ t ≤ 16) ∨ ArrX (memA hi) p (scX hi)) → FW wFl hi hi' → hi' 49 36 = 0 → Q (some none) al hi' hr) : Ev d 245 [vR (some 49), vI f, vI p] al hi hr Q := by
  have kM : isK al 49 13 := hA.k (by decide) (by decide) rfl
  have l68 := SA.len (a := 68) (n := 130) hA (by decide) (by decide) rfl
  have l71 := SA.len (a := 71) (n := 240) hA (by decide) (by decide) rfl
  rw [e245]
  refine s245_0.mpr (s245_1.mpr (s245_2.mpr ((s245_3 kM).mpr ?_)))
  rw [mr_20 hR]
  refine s245_6.mpr ?_
  refine (s245_7 (hA.k (by decide) (by decide) rfl) (by first | assumption | omega) (by first | assumption | omega)).mpr ?_
  try simp (disch := first | decide | assumption | omega) only [kon, knt_some, knt_none, Option.toList_some, Option.toList_none, List.cons_append, List.nil_append, upI_eq, upI_a, upI_i, upR_eq, upR_a, upR_i, h68, ht, h36]
  refine s245_8.mpr (wif (fun c8 => ?_) (fun c8 => ?_))
  · first
    | (exfalso; omega)
    | skip
      refine s245_11.mpr ?_
      refine (s245_12 kM).mpr ?_
      refine s245_15.mpr ?_
      try simp (disch := first | decide | assumption | omega) only [kon, knt_some, knt_none, Option.toList_some, Option.toList_none, List.cons_append, List.nil_append, upI_eq, upI_a, upI_i, upR_eq, upR_a, upR_i, h68, ht, h36]
      refine s245_17.mpr (wif (fun c17 => ?_) (fun c17 => ?_))
      · first
        | (exfalso; omega)
        | skip
          refine s245_24.mpr ?_
          refine (s245_25 (by omega) kM).mpr ?_
          refine m_wants hA (by omega) h36 (by omega) (fun y25 => ?_) (fun y25 => ?_)
          · skip
            refine s245_28.mpr ?_
            refine (s245_29 kM).mpr ?_
            try simp (disch := first | decide | assumption | omega) only [kon, knt_some, knt_none, Option.toList_some, Option.toList_none, List.cons_append, List.nil_append, upI_eq, upI_a, upI_i, upR_eq, upR_a, upR_i, h68, ht, h36]
            refine s245_32.mpr (wif (fun c32 => ?_) (fun c32 => ?_))
            · first
              | (exfalso; omega)
              | skip
                refine (s245_35).mpr ?_
                first | (exfalso; omega) | exact no _ (Or.inl (by omega)) (by repeat' (first | assumption | exact FW.rf | refine FW.up ?_ (by unfold wFl; omega))) (by (try simp (disch := decide) only [upI_eq, upI_a, upI_i, upR_eq, upR_a, upR_i]))
            · first
              | (exfalso; omega)
              | skip
                refine s245_36.mpr ((s245_37 kM).mpr ?_)
                rw [mr_29 hR]
                refine s245_40.mpr ?_
                refine (s245_41Z (hA.k (by decide) (by decide) rfl) (by first | assumption | omega) (by first | assumption | omega)).mpr ?_
                try simp (disch := first | decide | assumption | omega) only [kon, knt_some, knt_none, Option.toList_some, Option.toList_none, List.cons_append, List.nil_append, upI_eq, upI_a, upI_i, upR_eq, upR_a, upR_i, h68, ht, h36]
                refine s245_42.mpr (wif (fun c42 => ?_) (fun c42 => ?_))
                · first
                  | (exfalso; omega)
                  | skip
                    refine m_flow1 hA hR hf hn ⟨hp, by omega⟩ h36 ht (by omega) (by omega) (fun hi' w a b e f71 g71 => ok hi' (by omega) (by omega) w a (by omega) e (Or.inr ⟨b, arr_rk hv e hp (by omega) (Or.inl (if_neg (by omega)))⟩) (fun q q0 q1 => ?_))
                    by_cases hq : q = p
                    · subst hq; exact Or.inr f71
                    · rw [g71 q hq]; exact hb q q0 q1
                · first
                  | (exfalso; omega)
                  | skip
                    refine m_flow2 hA hR (by omega) hf hn ⟨hp, by omega⟩ h36 h37 ht (by omega) (by have := hb p hp (by omega); omega) (fun hi' w a e g71 ⟨Y, Z, y1, z1, hch⟩ => ok hi' (by omega) (by omega) w a hch.b e ?_ (fun q q0 q1 => by rw [g71]; exact hb q q0 q1)) (fun hi' x w z => no hi' (Or.inr x) w z)
                    exact cs_of hv hp (by omega) e y1 z1 h37 hch
          · skip
            refine s245_28.mpr ?_
            refine (s245_29 kM).mpr ?_
            try simp (disch := first | decide | assumption | omega) only [kon, knt_some, knt_none, Option.toList_some, Option.toList_none, List.cons_append, List.nil_append, upI_eq, upI_a, upI_i, upR_eq, upR_a, upR_i, h68, ht, h36]
            refine s245_32.mpr (wif (fun c32 => ?_) (fun c32 => ?_))
            · first
              | (exfalso; omega)
              | skip
                refine (s245_35).mpr ?_
                first | (exfalso; omega) | exact no _ (Or.inl (by omega)) (by repeat' (first | assumption | exact FW.rf | refine FW.up ?_ (by unfold wFl; omega))) (by (try simp (disch := decide) only [upI_eq, upI_a, upI_i, upR_eq, upR_a, upR_i]))
            · first
              | (exfalso; omega)
              | skip
                refine s245_36.mpr ((s245_37 kM).mpr ?_)
                rw [mr_29 hR]
                refine s245_40.mpr ?_
                refine (s245_41Z (hA.k (by decide) (by decide) rfl) (by first | assumption | omega) (by first | assumption | omega)).mpr ?_
                try simp (disch := first | decide | assumption | omega) only [kon, knt_some, knt_none, Option.toList_some, Option.toList_none, List.cons_append, List.nil_append, upI_eq, upI_a, upI_i, upR_eq, upR_a, upR_i, h68, ht, h36]
                refine s245_42.mpr (wif (fun c42 => ?_) (fun c42 => ?_))
                · first
                  | (exfalso; omega)
                  | skip
                    refine m_flow1 hA hR hf hn ⟨hp, by omega⟩ h36 ht (by omega) (by omega) (fun hi' w a b e f71 g71 => ok hi' (by omega) (by omega) w a (by omega) e (Or.inr ⟨b, arr_rk hv e hp (by omega) (Or.inl (if_neg (by omega)))⟩) (fun q q0 q1 => ?_))
                    by_cases hq : q = p
                    · subst hq; exact Or.inr f71
                    · rw [g71 q hq]; exact hb q q0 q1
                · first
                  | (exfalso; omega)
                  | skip
                    refine m_flow2 hA hR (by omega) hf hn ⟨hp, by omega⟩ h36 h37 ht (by omega) (by have := hb p hp (by omega); omega) (fun hi' w a e g71 ⟨Y, Z, y1, z1, hch⟩ => ok hi' (by omega) (by omega) w a hch.b e ?_ (fun q q0 q1 => by rw [g71]; exact hb q q0 q1)) (fun hi' x w z => no hi' (Or.inr x) w z)
                    exact cs_of hv hp (by omega) e y1 z1 h37 hch
      · first
        | (exfalso; omega)
        | skip
          refine s245_20.mpr (s245_21.mpr ?_)
          refine (s245_25 (by omega) kM).mpr ?_
          refine m_wants hA (by omega) h36 (by omega) (fun y25 => ?_) (fun y25 => ?_)
          · skip
            refine s245_28.mpr ?_
            refine (s245_29 kM).mpr ?_
            try simp (disch := first | decide | assumption | omega) only [kon, knt_some, knt_none, Option.toList_some, Option.toList_none, List.cons_append, List.nil_append, upI_eq, upI_a, upI_i, upR_eq, upR_a, upR_i, h68, ht, h36]
            refine s245_32.mpr (wif (fun c32 => ?_) (fun c32 => ?_))
            · first
              | (exfalso; omega)
              | skip
                refine (s245_35).mpr ?_
                first | (exfalso; omega) | exact no _ (Or.inl (by omega)) (by repeat' (first | assumption | exact FW.rf | refine FW.up ?_ (by unfold wFl; omega))) (by (try simp (disch := decide) only [upI_eq, upI_a, upI_i, upR_eq, upR_a, upR_i]))
            · first
              | (exfalso; omega)
              | skip
                refine s245_36.mpr ((s245_37 kM).mpr ?_)
                rw [mr_29 hR]
                refine s245_40.mpr ?_
                refine (s245_41Z (hA.k (by decide) (by decide) rfl) (by first | assumption | omega) (by first | assumption | omega)).mpr ?_
                try simp (disch := first | decide | assumption | omega) only [kon, knt_some, knt_none, Option.toList_some, Option.toList_none, List.cons_append, List.nil_append, upI_eq, upI_a, upI_i, upR_eq, upR_a, upR_i, h68, ht, h36]
                refine s245_42.mpr (wif (fun c42 => ?_) (fun c42 => ?_))
                · first
                  | (exfalso; omega)
                  | skip
                    refine m_flow1 hA hR hf hn ⟨hp, by omega⟩ h36 ht (by omega) (by omega) (fun hi' w a b e f71 g71 => ok hi' (by omega) (by omega) w a (by omega) e (Or.inr ⟨b, arr_rk hv e hp (by omega) (Or.inl (if_neg (by omega)))⟩) (fun q q0 q1 => ?_))
                    by_cases hq : q = p
                    · subst hq; exact Or.inr f71
                    · rw [g71 q hq]; exact hb q q0 q1
                · first
                  | (exfalso; omega)
                  | skip
                    refine m_flow2 hA hR (by omega) hf hn ⟨hp, by omega⟩ h36 h37 ht (by omega) (by have := hb p hp (by omega); omega) (fun hi' w a e g71 ⟨Y, Z, y1, z1, hch⟩ => ok hi' (by omega) (by omega) w a hch.b e ?_ (fun q q0 q1 => by rw [g71]; exact hb q q0 q1)) (fun hi' x w z => no hi' (Or.inr x) w z)
                    exact cs_of hv hp (by omega) e y1 z1 h37 hch
          · skip
            refine s245_28.mpr ?_
            refine (s245_29 kM).mpr ?_
            try simp (disch := first | decide | assumption | omega) only [kon, knt_some, knt_none, Option.toList_some, Option.toList_none, List.cons_append, List.nil_append, upI_eq, upI_a, upI_i, upR_eq, upR_a, upR_i, h68, ht, h36]
            refine s245_32.mpr (wif (fun c32 => ?_) (fun c32 => ?_))
            · first
              | (exfalso; omega)
              | skip
                refine (s245_35).mpr ?_
                first | (exfalso; omega) | exact no _ (Or.inl (by omega)) (by repeat' (first | assumption | exact FW.rf | refine FW.up ?_ (by unfold wFl; omega))) (by (try simp (disch := decide) only [upI_eq, upI_a, upI_i, upR_eq, upR_a, upR_i]))
            · first
              | (exfalso; omega)
              | skip
                refine s245_36.mpr ((s245_37 kM).mpr ?_)
                rw [mr_29 hR]
                refine s245_40.mpr ?_
                refine (s245_41Z (hA.k (by decide) (by decide) rfl) (by first | assumption | omega) (by first | assumption | omega)).mpr ?_
                try simp (disch := first | decide | assumption | omega) only [kon, knt_some, knt_none, Option.toList_some, Option.toList_none, List.cons_append, List.nil_append, upI_eq, upI_a, upI_i, upR_eq, upR_a, upR_i, h68, ht, h36]
                refine s245_42.mpr (wif (fun c42 => ?_) (fun c42 => ?_))
                · first
                  | (exfalso; omega)
                  | skip
                    refine m_flow1 hA hR hf hn ⟨hp, by omega⟩ h36 ht (by omega) (by omega) (fun hi' w a b e f71 g71 => ok hi' (by omega) (by omega) w a (by omega) e (Or.inr ⟨b, arr_rk hv e hp (by omega) (Or.inl (if_neg (by omega)))⟩) (fun q q0 q1 => ?_))
                    by_cases hq : q = p
                    · subst hq; exact Or.inr f71
                    · rw [g71 q hq]; exact hb q q0 q1
                · first
                  | (exfalso; omega)
                  | skip
                    refine m_flow2 hA hR (by omega) hf hn ⟨hp, by omega⟩ h36 h37 ht (by omega) (by have := hb p hp (by omega); omega) (fun hi' w a e g71 ⟨Y, Z, y1, z1, hch⟩ => ok hi' (by omega) (by omega) w a hch.b e ?_ (fun q q0 q1 => by rw [g71]; exact hb q q0 q1)) (fun hi' x w z => no hi' (Or.inr x) w z)
                    exact cs_of hv hp (by omega) e y1 z1 h37 hch
  · first
    | (exfalso; omega)
    | skip
      refine s245_24.mpr ?_
      refine (s245_25 (by omega) kM).mpr ?_
      refine m_wants hA (by omega) h36 (by omega) (fun y25 => ?_) (fun y25 => ?_)
      · skip
        refine s245_28.mpr ?_
        refine (s245_29 kM).mpr ?_
        try simp (disch := first | decide | assumption | omega) only [kon, knt_some, knt_none, Option.toList_some, Option.toList_none, List.cons_append, List.nil_append, upI_eq, upI_a, upI_i, upR_eq, upR_a, upR_i, h68, ht, h36]
        refine s245_32.mpr (wif (fun c32 => ?_) (fun c32 => ?_))
        · first
          | (exfalso; omega)
          | skip
            refine (s245_35).mpr ?_
            first | (exfalso; omega) | exact no _ (Or.inl (by omega)) (by repeat' (first | assumption | exact FW.rf | refine FW.up ?_ (by unfold wFl; omega))) (by (try simp (disch := decide) only [upI_eq, upI_a, upI_i, upR_eq, upR_a, upR_i]))
        · first
          | (exfalso; omega)
          | skip
            refine s245_36.mpr ((s245_37 kM).mpr ?_)
            rw [mr_29 hR]
            refine s245_40.mpr ?_
            refine (s245_41Z (hA.k (by decide) (by decide) rfl) (by first | assumption | omega) (by first | assumption | omega)).mpr ?_
            try simp (disch := first | decide | assumption | omega) only [kon, knt_some, knt_none, Option.toList_some, Option.toList_none, List.cons_append, List.nil_append, upI_eq, upI_a, upI_i, upR_eq, upR_a, upR_i, h68, ht, h36]
            refine s245_42.mpr (wif (fun c42 => ?_) (fun c42 => ?_))
            · first
              | (exfalso; omega)
              | skip
                refine m_flow1 hA hR hf hn ⟨hp, by omega⟩ h36 ht (by omega) (by omega) (fun hi' w a b e f71 g71 => ok hi' (by omega) (by omega) w a (by omega) e (Or.inr ⟨b, arr_rk hv e hp (by omega) (Or.inl (if_neg (by omega)))⟩) (fun q q0 q1 => ?_))
                by_cases hq : q = p
                · subst hq; exact Or.inr f71
                · rw [g71 q hq]; exact hb q q0 q1
            · first
              | (exfalso; omega)
              | skip
                refine m_flow2 hA hR (by omega) hf hn ⟨hp, by omega⟩ h36 h37 ht (by omega) (by have := hb p hp (by omega); omega) (fun hi' w a e g71 ⟨Y, Z, y1, z1, hch⟩ => ok hi' (by omega) (by omega) w a hch.b e ?_ (fun q q0 q1 => by rw [g71]; exact hb q q0 q1)) (fun hi' x w z => no hi' (Or.inr x) w z)
                exact cs_of hv hp (by omega) e y1 z1 h37 hch
      · skip
        refine s245_28.mpr ?_
        refine (s245_29 kM).mpr ?_
        try simp (disch := first | decide | assumption | omega) only [kon, knt_some, knt_none, Option.toList_some, Option.toList_none, List.cons_append, List.nil_append, upI_eq, upI_a, upI_i, upR_eq, upR_a, upR_i, h68, ht, h36]
        refine s245_32.mpr (wif (fun c32 => ?_) (fun c32 => ?_))
        · first
          | (exfalso; omega)
          | skip
            refine (s245_35).mpr ?_
            first | (exfalso; omega) | exact no _ (Or.inl (by omega)) (by repeat' (first | assumption | exact FW.rf | refine FW.up ?_ (by unfold wFl; omega))) (by (try simp (disch := decide) only [upI_eq, upI_a, upI_i, upR_eq, upR_a, upR_i]))
        · first
          | (exfalso; omega)
          | skip
            refine s245_36.mpr ((s245_37 kM).mpr ?_)
            rw [mr_29 hR]
            refine s245_40.mpr ?_
            refine (s245_41Z (hA.k (by decide) (by decide) rfl) (by first | assumption | omega) (by first | assumption | omega)).mpr ?_
            try simp (disch := first | decide | assumption | omega) only [kon, knt_some, knt_none, Option.toList_some, Option.toList_none, List.cons_append, List.nil_append, upI_eq, upI_a, upI_i, upR_eq, upR_a, upR_i, h68, ht, h36]
            refine s245_42.mpr (wif (fun c42 => ?_) (fun c42 => ?_))
            · first
              | (exfalso; omega)
              | skip
                refine m_flow1 hA hR hf hn ⟨hp, by omega⟩ h36 ht (by omega) (by omega) (fun hi' w a b e f71 g71 => ok hi' (by omega) (by omega) w a (by omega) e (Or.inr ⟨b, arr_rk hv e hp (by omega) (Or.inl (if_neg (by omega)))⟩) (fun q q0 q1 => ?_))
                by_cases hq : q = p
                · subst hq; exact Or.inr f71
                · rw [g71 q hq]; exact hb q q0 q1
            · first
              | (exfalso; omega)
              | skip
                refine m_flow2 hA hR (by omega) hf hn ⟨hp, by omega⟩ h36 h37 ht (by omega) (by have := hb p hp (by omega); omega) (fun hi' w a e g71 ⟨Y, Z, y1, z1, hch⟩ => ok hi' (by omega) (by omega) w a hch.b e ?_ (fun q q0 q1 => by rw [g71]; exact hb q q0 q1)) (fun hi' x w z => no hi' (Or.inr x) w z)
                exact cs_of hv hp (by omega) e y1 z1 h37 hch
end MF2
