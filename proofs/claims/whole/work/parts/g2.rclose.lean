/-! RUNNING, the reference: ends and blocks that go -/
section RC0
variable {d : Nat} {al : AL} {hi : HI} {hr : HR} {Q : QQ}
/-- what waits is in order -/
def QB (s : HI) : Prop := ∀ x, opn s x → (0 ≤ s 114 x ∧ s 114 x ≤ 4) ∧ ∀ k, 0 ≤ k → k < s 114 x → (s 117 (4 * x + k) = 2 → 0 ≤ s 116 (4 * x + k) ∧ s 116 (4 * x + k) < 128) ∧ (s 117 (4 * x + k) = 3 → 0 ≤ s 116 (4 * x + k) ∧ s 116 (4 * x + k) < 24)
/-- h is s, but the ends N are closed and the blocks F are gone -/
def ClR (s h : HI) (N F : Int → Prop) : Prop := ∀ a i, h a i = cif (a = 112 ∧ N i) (-1) (cif (a = 114 ∧ N i) 0 (cif (a = 109 ∧ F i) (-1) (s a i)))
theorem ClR.o {s h : HI} {N F : Int → Prop} (H : ClR s h N F) {a : Nat} {i : Int} (h1 : a ≠ 112) (h2 : a ≠ 114) (h3 : a ≠ 109) : h a i = s a i := by
  rw [H, cif_n (fun z => h1 z.1), cif_n (fun z => h2 z.1), cif_n (fun z => h3 z.1)]
theorem ClR.y {s h : HI} {N F : Int → Prop} (H : ClR s h N F) {i : Int} (hN : N i) : h 112 i = -1 := by rw [H, cif_y ⟨rfl, hN⟩]
theorem ClR.n {s h : HI} {N F : Int → Prop} (H : ClR s h N F) {i : Int} (hN : ¬ N i) : h 112 i = s 112 i ∧ h 114 i = s 114 i := by
  refine ⟨?_, ?_⟩
  · rw [H, cif_n (fun z => hN z.2), cif_n (fun z => absurd z.1 (by decide)), cif_n (fun z => absurd z.1 (by decide))]
  · rw [H, cif_n (fun z => absurd z.1 (by decide)), cif_n (fun z => hN z.2), cif_n (fun z => absurd z.1 (by decide))]
theorem ClR.rf {s : HI} : ClR s s (fun _ => False) (fun _ => False) := fun a i => by rw [cif_n (fun z => z.2), cif_n (fun z => z.2), cif_n (fun z => z.2)]
theorem ClR.f {s h : HI} {N F : Int → Prop} (H : ClR s h N F) (v : Int) : ClR s (upI h 109 v (-1)) N (fun b => F b ∨ b = v) := fun a i => by
  by_cases c : a = 109 ∧ i = v
  · obtain ⟨rfl, rfl⟩ := c
    rw [upI_eq, cif_n (fun z => absurd z.1 (by decide)), cif_n (fun z => absurd z.1 (by decide)), cif_y ⟨rfl, Or.inr rfl⟩]
  · have e : upI h 109 v (-1) a i = h a i := if_neg c
    rw [e, H]
    by_cases c1 : a = 112 ∧ N i
    · rw [cif_y c1, cif_y c1]
    · rw [cif_n c1, cif_n c1]
      by_cases c2 : a = 114 ∧ N i
      · rw [cif_y c2, cif_y c2]
      · rw [cif_n c2, cif_n c2]
        by_cases c3 : a = 109 ∧ F i
        · rw [cif_y c3, cif_y ⟨c3.1, Or.inl c3.2⟩]
        · rw [cif_n c3, cif_n]
          rintro ⟨z1, z2 | z2⟩
          · exact c3 ⟨z1, z2⟩
          · exact c ⟨z1, z2⟩
theorem ClR.cl {s h : HI} {N F : Int → Prop} (H : ClR s h N F) (e : Int) : ClR s (upI (upI h 112 e (-1)) 114 e 0) (fun x => N x ∨ x = e) F := fun a i => by
  by_cases c : i = e ∧ (a = 112 ∨ a = 114)
  · obtain ⟨rfl, rfl | rfl⟩ := c
    · rw [upI_a (by decide), upI_eq, cif_y ⟨rfl, Or.inr rfl⟩]
    · rw [upI_eq, cif_n (fun z => absurd z.1 (by decide)), cif_y ⟨rfl, Or.inr rfl⟩]
  · have e1 : upI (upI h 112 e (-1)) 114 e 0 a i = h a i := by
      unfold upI; rw [if_neg (fun z => c ⟨z.2, Or.inr z.1⟩), if_neg (fun z => c ⟨z.2, Or.inl z.1⟩)]
    rw [e1, H]
    by_cases c1 : a = 112 ∧ N i
    · rw [cif_y c1, cif_y ⟨c1.1, Or.inl c1.2⟩]
    · rw [cif_n c1, cif_n (a := (-1 : Int)) (c := a = 112 ∧ (N i ∨ i = e)) (by rintro ⟨z1, z2 | z2⟩; exact c1 ⟨z1, z2⟩; exact c ⟨z2, Or.inl z1⟩)]
      by_cases c2 : a = 114 ∧ N i
      · rw [cif_y c2, cif_y ⟨c2.1, Or.inl c2.2⟩]
      · rw [cif_n c2, cif_n (a := (0 : Int)) (c := a = 114 ∧ (N i ∨ i = e)) (by rintro ⟨z1, z2 | z2⟩; exact c2 ⟨z1, z2⟩; exact c ⟨z2, Or.inr z1⟩)]
/-- the end x is done with -/
def dnE (s : HI) (N F : Int → Prop) (x m : Int) : Prop := ∀ k, 0 ≤ k → k < m → (s 117 (4 * x + k) = 2 → F (s 116 (4 * x + k))) ∧ (s 117 (4 * x + k) = 3 → opn s (s 116 (4 * x + k)) → N (s 116 (4 * x + k)))
theorem dnE.mn {s : HI} {N F N' F' : Int → Prop} {x m : Int} (h : dnE s N F x m) (hN : ∀ y, N y → N' y) (hF : ∀ y, F y → F' y) : dnE s N' F' x m := fun k k0 k1 => ⟨fun z => hF _ ((h k k0 k1).1 z), fun z o => hN _ ((h k k0 k1).2 z o)⟩
/-- what a closing leaves -/
def ClP (s : HI) (E N F N' F' : Int → Prop) : Prop := (∀ y, N y → N' y) ∧ (∀ y, F y → F' y) ∧ (∀ y, N' y → N y ∨ clo s E y) ∧ (∀ y, N' y → N y ∨ dnE s N' F' y (s 114 y)) ∧ ∀ b, F' b → F b ∨ ∃ x, clo s E x ∧ N' x ∧ ∃ k, 0 ≤ k ∧ k < s 114 x ∧ s 117 (4 * x + k) = 2 ∧ s 116 (4 * x + k) = b
theorem ClP.rf {s : HI} {E N F : Int → Prop} : ClP s E N F N F := ⟨fun _ h => h, fun _ h => h, fun _ h => Or.inl h, fun _ h => Or.inl h, fun _ h => Or.inl h⟩
theorem clo_mn {s : HI} {E E' : Int → Prop} {y : Int} (h : clo s E y) (hE : ∀ x, E x → opn s x → clo s E' x) : clo s E' y := h (clo s E') (fun x hx ho => hE x hx ho) (fun x k hx k0 k1 h3 ho => clo_k hx k0 k1 h3 ho)
theorem ClP.tr {s : HI} {E N F N1 F1 N2 F2 : Int → Prop} (a : ClP s E N F N1 F1) (b : ClP s E N1 F1 N2 F2) : ClP s E N F N2 F2 := by
  refine ⟨fun y h => b.1 y (a.1 y h), fun y h => b.2.1 y (a.2.1 y h), fun y h => ?_, fun y h => ?_, fun x h => ?_⟩
  · rcases b.2.2.1 y h with z | z
    · exact a.2.2.1 y z
    · exact Or.inr z
  · rcases b.2.2.2.1 y h with z | z
    · rcases a.2.2.2.1 y z with z | z
      · exact Or.inl z
      · exact Or.inr (z.mn b.1 b.2.1)
    · exact Or.inr z
  · rcases b.2.2.2.2 x h with z | ⟨y, z1, z2, z3⟩
    · rcases a.2.2.2.2 x z with z | ⟨y, z1, z2, z3⟩
      · exact Or.inl z
      · exact Or.inr ⟨y, z1, b.1 y z2, z3⟩
    · exact Or.inr ⟨y, z1, z2, z3⟩
theorem ClP.mn {s : HI} {E E' N F N' F' : Int → Prop} (a : ClP s E N F N' F') (hE : ∀ x, E x → opn s x → clo s E' x) : ClP s E' N F N' F' := ⟨a.1, a.2.1, fun y h => (a.2.2.1 y h).imp id (fun z => clo_mn z hE), a.2.2.2.1, fun b h => (a.2.2.2.2 b h).imp id (fun ⟨x, z1, z2⟩ => ⟨x, clo_mn z1 hE, z2⟩)⟩
noncomputable def nN (s : HI) (N : Int → Prop) : Nat := smN (fun k => cif (opn s k ∧ ¬ N k) 1 0) 24
theorem nN_lt {s : HI} {N N' : Int → Prop} {e : Int} (ho : opn s e) (h1 : ¬ N e) (h2 : N' e) (hm : ∀ y, N y → N' y) : nN s N' < nN s N := by
  obtain ⟨e0, e1, -⟩ := id ho
  refine smN_lt (j := e.toNat) 24 (fun k _ => ?_) (by omega) ?_
  · by_cases c : opn s k ∧ ¬ N' k
    · rw [cif_y c, cif_y ⟨c.1, fun z => c.2 (hm _ z)⟩]; exact Nat.le_refl _
    · rw [cif_n c]; exact Nat.zero_le _
  · rw [Int.toNat_of_nonneg e0, cif_n (fun z => z.2 h2), cif_y ⟨ho, h1⟩]; decide
theorem nN_le {s : HI} {N N' : Int → Prop} (hm : ∀ y, N y → N' y) : nN s N' ≤ nN s N := by
  refine smN_le 24 (fun k _ => ?_)
  by_cases c : opn s k ∧ ¬ N' k
  · rw [cif_y c, cif_y ⟨c.1, fun z => c.2 (hm _ z)⟩]; exact Nat.le_refl _
  · rw [cif_n c]; exact Nat.zero_le _
theorem nN_ub {s : HI} {N : Int → Prop} : nN s N ≤ 24 := smN_ub (c := 1) 24 (fun k _ => by by_cases c : opn s k ∧ ¬ N k; rw [cif_y c]; exact Nat.le_refl _; rw [cif_n c]; exact Nat.zero_le _)
set_option maxRecDepth 8000 in
theorem r_close {s : HI} (hA : SA al) (hR : MR hr) (hq : QB s) : ∀ (m d : Nat) (e : Int) (hi : HI) (N F : Int → Prop), ClR s hi N F → (0 ≤ e ∧ e < 24) → nN s N ≤ m → 2 * m + 2 ≤ d → Ev d 295 [vR (some 49), vI e] al hi hr (fun r a h b => r = some none ∧ a = al ∧ b = hr ∧ ∃ N' F', ClR s h N' F' ∧ ClP s (fun x => x = e) N F N' F' ∧ (opn s e → N' e)) := by
  have kM : isK al 49 13 := hA.k (by decide) (by decide) rfl
  have l112 := SA.len (a := 112) (n := 24) hA (by decide) (by decide) rfl
  have l114 := SA.len (a := 114) (n := 24) hA (by decide) (by decide) rfl
  have l116 := SA.len (a := 116) (n := 96) hA (by decide) (by decide) rfl
  have l117 := SA.len (a := 117) (n := 96) hA (by decide) (by decide) rfl
  have l109 : aln al 109 = 128 := hA.len (by decide) (by decide) rfl
  have k109 : isK al 109 15 := hA.k (by decide) (by decide) rfl
  intro m
  induction m with
  | zero =>
    intro d e hi N F hC he hm hd
    have hcl : hi 112 e = -1 := by
      by_cases c : N e
      · exact hC.y c
      · rw [(hC.n c).1]
        apply Classical.byContradiction
        intro z
        have := nN_lt (s := s) (N' := fun _ => True) ⟨he.1, he.2, z⟩ c trivial (fun _ _ => trivial)
        omega
    have hoe : opn s e → N e := fun ho => by
      apply Classical.byContradiction
      intro c
      have := nN_lt (s := s) (N' := fun _ => True) ho c trivial (fun _ _ => trivial)
      omega
    rw [e295]
    refine s295_0.mpr ((s295_1 kM).mpr ?_)
    rw [mr_82 hR]
    refine s295_4.mpr ?_
    refine (s295_5 (hA.k (by decide) (by decide) rfl) (by first | assumption | omega) (by first | assumption | omega)).mpr ?_
    refine s295_6.mpr ?_
    try simp (disch := first | decide | assumption | omega) only [hcl]
    refine s295_7.mpr (wif (fun c7 => ?_) (fun c7 => ?_))
    · skip
      refine (s295_10).mpr ?_
      exact ⟨rfl, rfl, rfl, N, F, hC, ClP.rf, hoe⟩
    · skip
      exact absurd rfl (by assumption)
  | succ m ih =>
    intro d e hi N F hC he hm hd
    rw [e295]
    by_cases c : opn s e ∧ ¬ N e
    case neg =>
      have hcl : hi 112 e = -1 := by
        by_cases c2 : N e
        · exact hC.y c2
        · rw [(hC.n c2).1]
          apply Classical.byContradiction
          intro z
          exact c ⟨⟨he.1, he.2, z⟩, c2⟩
      have hoe : opn s e → N e := fun ho => Classical.byContradiction fun c2 => c ⟨ho, c2⟩
      refine s295_0.mpr ((s295_1 kM).mpr ?_)
      rw [mr_82 hR]
      refine s295_4.mpr ?_
      refine (s295_5 (hA.k (by decide) (by decide) rfl) (by first | assumption | omega) (by first | assumption | omega)).mpr ?_
      refine s295_6.mpr ?_
      try simp (disch := first | decide | assumption | omega) only [hcl]
      refine s295_7.mpr (wif (fun c7 => ?_) (fun c7 => ?_))
      · skip
        refine (s295_10).mpr ?_
        exact ⟨rfl, rfl, rfl, N, F, hC, ClP.rf, hoe⟩
      · skip
        exact absurd rfl (by assumption)
    obtain ⟨ho, hNe⟩ := c
    obtain ⟨⟨w0, w4⟩, hq2⟩ := hq e ho
    have e112 : hi 112 e = s 112 e := (hC.n hNe).1
    have e114 : (upI hi 112 e (-1)) 114 e = s 114 e := by rw [upI_a (by decide)]; exact (hC.n hNe).2
    obtain ⟨h1, hh1⟩ : ∃ h1, h1 = upI (upI hi 112 e (-1)) 114 e 0 := ⟨_, rfl⟩
    have hC1 : ClR s h1 (fun x => N x ∨ x = e) F := by rw [hh1]; exact hC.cl e
    have hm1 : nN s (fun x => N x ∨ x = e) ≤ m := by
      have := nN_lt (s := s) (N := N) (N' := fun x => N x ∨ x = e) ho hNe (Or.inr rfl) (fun _ z => Or.inl z)
      omega
    have hce : clo s (fun x => x = e) e := clo_s (E := fun x => x = e) rfl ho
    -- the waiting ones
    let QF : QQ := fun r a h b => r = some none ∧ a = al ∧ b = hr ∧ ∃ N' F', ClR s h N' F' ∧ ClP s (fun x => x = e) N F N' F' ∧ (opn s e → N' e)
    have T34 : ∀ (j : Nat) (k : Int) h N2 F2, k + j = s 114 e → 0 ≤ k → ClR s h N2 F2 → ClP s (fun x => x = e) (fun x => N x ∨ x = e) F N2 F2 → dnE s N2 F2 e k → Wp d 295 34 [vR (some 49), vI e, vI (s 114 e), vI k] [] al h hr QF := by
      intro j
      induction j with
      | zero =>
        intro k h N2 F2 hk k0 hC2 hP hdn
        have E : QF (some none) al h hr := by
          refine ⟨rfl, rfl, rfl, N2, F2, hC2, ⟨fun y z => hP.1 y (Or.inl z), hP.2.1, fun y z => ?_, fun y z => ?_, hP.2.2.2.2⟩, fun _ => hP.1 e (Or.inr rfl)⟩
          · rcases hP.2.2.1 y z with (z | rfl) | z
            · exact Or.inl z
            · exact Or.inr hce
            · exact Or.inr z
          · rcases hP.2.2.2.1 y z with (z | rfl) | z
            · exact Or.inl z
            · right; rw [show s 114 y = k by omega]; exact hdn
            · exact Or.inr z
        refine s295_34.mpr (s295_35.mpr ?_)
        refine s295_36.mpr (wif (fun c36 => ?_) (fun c36 => ?_))
        · skip
          exfalso; omega
        · skip
          refine (s295_69).mpr ?_
          exact E
      | succ j ihj =>
        intro k h N2 F2 hk k0 hC2 hP hdn
        obtain ⟨b2, b3⟩ := hq2 k k0 (by omega)
        obtain ⟨v, hv⟩ : ∃ v, s 116 (4 * e + k) = v := ⟨_, rfl⟩
        obtain ⟨w, hw⟩ : ∃ w, s 117 (4 * e + k) = w := ⟨_, rfl⟩
        rw [hv, hw] at b2 b3
        have x116 : h 116 (4 * e + k) = v := (hC2.o (by decide) (by decide) (by decide)).trans hv
        have x117 : h 117 (4 * e + k) = w := (hC2.o (by decide) (by decide) (by decide)).trans hw
        have NX : ∀ h' N3 F3, ClR s h' N3 F3 → ClP s (fun x => x = e) N2 F2 N3 F3 → (w = 2 → F3 v) → (w = 3 → opn s v → N3 v) → Wp d 295 34 [vR (some 49), vI e, vI (s 114 e), vI (k + 1)] [] al h' hr QF := by
          intro h' N3 F3 hC3 hP3 z2 z3
          refine ihj (k + 1) h' N3 F3 (by omega) (by omega) hC3 (hP.tr hP3) (fun k' y0 y1 => ?_)
          by_cases y : k' = k
          · subst y; rw [hv, hw]; exact ⟨z2, z3⟩
          · exact (hdn.mn hP3.1 hP3.2.1) k' y0 (by omega)
        have R60 : Ev (d - 1) 296 [vR (some 49), vI v, vI w] al h hr (kon d 295 60 63 [vR (some 49), vI e, vI (s 114 e), vI k] [] QF) := by
          have Y : ∀ h' N3 F3, ClR s h' N3 F3 → ClP s (fun x => x = e) N2 F2 N3 F3 → (w = 2 → F3 v) → (w = 3 → opn s v → N3 v) → kon d 295 60 63 [vR (some 49), vI e, vI (s 114 e), vI k] [] QF (some none) al h' hr := by
            intro h' N3 F3 y1 y2 y3 y4
            have R := NX h' N3 F3 y1 y2 y3 y4
            simp only [kon, knt_some, knt_none, Option.toList_some, Option.toList_none, List.cons_append, List.nil_append]
            refine s295_63.mpr (s295_66.mpr ?_)
            try simp (disch := first | decide | assumption | omega) only [fAdd_id]
            exact R
          rw [e296]
          by_cases z2 : w = 2
          · have := b2 z2
            have E := Y (upI h 109 v (-1)) N2 (fun b => F2 b ∨ b = v) (hC2.f v) ⟨fun _ z => z, fun _ z => Or.inl z, fun _ z => Or.inl z, fun _ z => Or.inl z, fun b z => z.imp id (fun z => ⟨e, hce, hP.1 e (Or.inr rfl), k, k0, by omega, by rw [hw]; exact z2, by rw [hv]; exact z.symm⟩)⟩ (fun _ => Or.inr rfl) (fun z => by omega)
            refine s296_0.mpr (s296_1.mpr ?_)
            refine s296_2.mpr (wif (fun c2 => ?_) (fun c2 => ?_))
            · skip
              refine s296_5.mpr ((s296_6 kM).mpr ?_)
              rw [mr_79 hR]
              refine s296_9.mpr (s296_10.mpr ?_)
              refine (s296_11 (hA.k (by decide) (by decide) rfl) (by first | assumption | omega) (by first | assumption | omega)).mpr ?_
              refine s296_12.mpr ?_
              refine (s296_25).mpr ?_
              exact E
            · skip
              exact absurd z2 (by assumption)
          by_cases z3 : w = 3
          · have hv24 := b3 z3
            have R22 : Ev (d - 1 - 1) 295 [vR (some 49), vI v] al h hr (kon (d - 1) 296 22 25 [vR (some 49), vI v, vI w] [] (kon d 295 60 63 [vR (some 49), vI e, vI (s 114 e), vI k] [] QF)) := by
              have hnn : nN s N2 ≤ m := Nat.le_trans (nN_le hP.1) hm1
              refine ev_mono (ih (d - 1 - 1) v h N2 F2 hC2 hv24 hnn (by omega)) (fun r a h3 b q => ?_)
              obtain ⟨rfl, rfl, rfl, N3, F3, q1, q2, q3⟩ := q
              have E := Y h3 N3 F3 q1 (q2.mn (fun x hx ho => by
                subst hx
                have := clo_k (k := k) hce k0 (by omega) (by rw [hw]; exact z3) (by rw [hv]; exact ho)
                rw [hv] at this; exact this)) (fun z => by omega) (fun _ => q3)
              simp only [kon, knt_some, knt_none, Option.toList_some, Option.toList_none, List.cons_append, List.nil_append]
              simp only [kon, knt_some, knt_none, Option.toList_some, Option.toList_none, List.cons_append, List.nil_append] at E
              refine s296_25.mpr ?_
              simp only [kon, knt_some, knt_none, Option.toList_some, Option.toList_none, List.cons_append, List.nil_append]
              exact E
            refine s296_0.mpr (s296_1.mpr ?_)
            refine s296_2.mpr (wif (fun c2 => ?_) (fun c2 => ?_))
            · skip
              exact absurd (by assumption) z2
            · skip
              refine s296_15.mpr (s296_16.mpr ?_)
              refine s296_17.mpr (wif (fun c17 => ?_) (fun c17 => ?_))
              · skip
                refine s296_20.mpr (s296_21.mpr ?_)
                refine (s296_22 (by omega) kM).mpr ?_
                exact R22
              · skip
                exact absurd z3 (by assumption)
          · have E := Y h N2 F2 hC2 ClP.rf (fun z => absurd z z2) (fun z => absurd z z3)
            refine s296_0.mpr (s296_1.mpr ?_)
            refine s296_2.mpr (wif (fun c2 => ?_) (fun c2 => ?_))
            · skip
              exact absurd (by assumption) z2
            · skip
              refine s296_15.mpr (s296_16.mpr ?_)
              refine s296_17.mpr (wif (fun c17 => ?_) (fun c17 => ?_))
              · skip
                exact absurd (by assumption) z3
              · skip
                refine (s296_25).mpr ?_
                exact E
        refine s295_34.mpr (s295_35.mpr ?_)
        refine s295_36.mpr (wif (fun c36 => ?_) (fun c36 => ?_))
        · skip
          refine s295_39.mpr (s295_40.mpr ((s295_41 kM).mpr ?_))
          rw [mr_86 hR]
          refine s295_44.mpr (s295_45.mpr (s295_46.mpr (s295_47.mpr (s295_48.mpr ?_))))
          try simp (disch := first | decide | assumption | omega) only [x116, x117, fAdd_id, fMul_id]
          refine (s295_49 (hA.k (by decide) (by decide) rfl) (by first | assumption | omega) (by first | assumption | omega)).mpr ?_
          refine s295_50.mpr ((s295_51 kM).mpr ?_)
          rw [mr_87 hR]
          refine s295_54.mpr (s295_55.mpr (s295_56.mpr (s295_57.mpr (s295_58.mpr ?_))))
          try simp (disch := first | decide | assumption | omega) only [x116, x117, fAdd_id, fMul_id]
          refine (s295_59 (hA.k (by decide) (by decide) rfl) (by first | assumption | omega) (by first | assumption | omega)).mpr ?_
          try simp (disch := first | decide | assumption | omega) only [x116, x117, fAdd_id, fMul_id]
          refine (s295_60 (by omega) kM).mpr ?_
          exact R60
        · skip
          refine (s295_69).mpr ?_
          exfalso; omega
    have NX := T34 (s 114 e).toNat 0 h1 _ F (by omega) (Int.le_refl _) hC1 ClP.rf (fun k' y0 y1 => absurd y1 (by omega))
    have hne : hi 112 e ≠ -1 := by rw [e112]; exact ho.2.2
    refine s295_0.mpr ((s295_1 kM).mpr ?_)
    rw [mr_82 hR]
    refine s295_4.mpr ?_
    refine (s295_5 (hA.k (by decide) (by decide) rfl) (by first | assumption | omega) (by first | assumption | omega)).mpr ?_
    refine s295_6.mpr ?_
    try simp (disch := first | decide | assumption | omega) only [e114]
    refine s295_7.mpr (wif (fun c7 => ?_) (fun c7 => ?_))
    · skip
      exact absurd (by assumption) hne
    · skip
      refine s295_11.mpr ((s295_12 kM).mpr ?_)
      rw [mr_82 hR]
      refine s295_15.mpr (s295_16.mpr ?_)
      refine (s295_17 (hA.k (by decide) (by decide) rfl) (by first | assumption | omega) (by first | assumption | omega)).mpr ?_
      refine s295_18.mpr ((s295_19 kM).mpr ?_)
      rw [mr_84 hR]
      refine s295_22.mpr ?_
      try simp (disch := first | decide | assumption | omega) only [e114]
      refine (s295_23 (hA.k (by decide) (by decide) rfl) (by first | assumption | omega) (by first | assumption | omega)).mpr ?_
      refine s295_24.mpr (s295_25.mpr ((s295_26 kM).mpr ?_))
      rw [mr_84 hR]
      refine s295_29.mpr (s295_30.mpr ?_)
      try simp (disch := first | decide | assumption | omega) only [e114]
      refine (s295_31 (hA.k (by decide) (by decide) rfl) (by first | assumption | omega) (by first | assumption | omega)).mpr ?_
      refine s295_32.mpr (s295_33.mpr ?_)
      try simp (disch := first | decide | assumption | omega) only [e114]
      rw [← hh1]
      exact NX
end RC0
