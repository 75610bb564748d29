section DV9
variable {d : Nat} {al : AL} {hi : HI} {hr : HR} {Q : QQ} {B : Int → Int} {N : Nat} {n : Int} {f : Int} {t H C : Nat} {l : Int}
theorem VF.ofP {op v p : Int} {X : Tst} (h : VS (nxO (tsP op v p X)) hi) : VF (tsP op v p X) 1 hi := by
  unfold tsP at h ⊢
  repeat' (split at h <;> rename_i c <;> first | (rw [if_pos c]; exact VF.of h) | (rw [if_neg c]; skip))
  exact VF.of h
theorem tsP_v {op v v' p : Int} {X : Tst} (h2 : op ≠ 2) (h3 : op ≠ 3) : tsP op v p X = tsP op v' p X := by
  unfold tsP
  simp only [h2, h3, if_false]
theorem tsH_v {op v v' p : Int} {X : Tst} (h : op ∉ ([20, 21, 22, 23, 24, 26, 30] : List Int)) : tsH B f op v p X = tsH B f op v' p X := by
  simp only [List.mem_cons, List.not_mem_nil, or_false, not_or] at h
  unfold tsH
  simp only [h, if_false]
theorem tsL_v {op v v' p : Int} {X : Tst} (h : op ∉ ([32, 33, 34, 36, 37, 38, 40] : List Int)) : tsL B f op v p X = tsL B f op v' p X := by
  simp only [List.mem_cons, List.not_mem_nil, or_false, not_or] at h
  unfold tsL
  simp only [h, if_false]
set_option maxRecDepth 20000 in
theorem opr_0 (x : Int) (h0 : 0 ≤ x) (h1 : x ≤ 43) (h : oprn x = 0) : x ≠ 2 ∧ x ≠ 3 ∧ x ∉ ([20, 21, 22, 23, 24, 26, 30] : List Int) ∧ x ∉ ([32, 33, 34, 36, 37, 38, 40] : List Int) := by
  have hh : ∀ y : Fin 44, oprn ((y.val : Nat) : Int) = 0 → ((y.val : Nat) : Int) ≠ 2 ∧ ((y.val : Nat) : Int) ≠ 3 ∧ ((y.val : Nat) : Int) ∉ ([20, 21, 22, 23, 24, 26, 30] : List Int) ∧ ((y.val : Nat) : Int) ∉ ([32, 33, 34, 36, 37, 38, 40] : List Int) := by decide
  have := hh ⟨x.toNat, by omega⟩
  rw [show (((⟨x.toNat, by omega⟩ : Fin 44).val : Nat) : Int) = x from by show ((x.toNat : Nat) : Int) = x; omega] at this
  exact this h
/-- behind an instruction's work: on to the next, if it goes on -/
theorem v_next {p l2 x : Int} {X : Tst} {A : Asg} {M : Nat} (h : VR al hr) (hd : 4 ≤ d) (hM : ModV al hi hr N n B M) (hT : TxV B n) (hN : hr 8 7 = some N) (hk : hr 8 8 = some (t + 1)) (hV : RV al hr t H C l) (hR : RoutOK al hi hr B f t) (hl : l = cLen B f) (hc : 0 ≤ cAt B f ∧ cAt B f ≤ 3000) (p0 : 0 ≤ p ∧ p ≤ 300) (hop : 0 ≤ B (cAt B f + p) ∧ B (cAt B f + p) ≤ 43) (h38 : B (cAt B f + p) = 38 → 0 ≤ B (cAt B f + p + 1)) (hm : MC A hi t H C l) (hvA : vA B A)
    (hO : ∀ fl, tstep B f p X = some fl → ∀ q ∈ fl, 0 ≤ q.1 ∧ vX B q.2) (hn : ∀ q Y, tstep B f p X = some [(q, Y)] → q = p + ilen B (cAt B f + p)) (hF : VF (tstep B f p X) x hi)
    (ok : ∀ fl A' hi', tstep B f p X = some fl → FlR l A fl A' → hi' 8 5 = 0 → MC A' hi' t H C l → FW (wB t H C) hi hi' → FS A hi A' hi' → Q (some none) al hi' hr)
    (no : ∀ hi', (tstep B f p X = none ∨ ∃ fl, tstep B f p X = some fl ∧ FlX l A fl) → VS none hi' → FW (wB t H C) hi hi' → Q (some none) al hi' hr) : Wp d 169 130 [vR (some 8), vI p, vI l2, vI x] [] al hi hr Q := by
  have k8 := h.k8; have k11 := h.k11; have k12 := h.k12; have l11 := h.l11; have l12 := h.l12; have r1 := h.2.2.1; have r2 := h.2.2.2.1
  have kT := hR.1.1
  have kN := hM.1.1.1
  have l240 : l ≤ 240 := hV.2.2.2.2.2.2.2.2
  have e5 : hi (t + 1) 5 = cAt B f := hR.2.2.2.2.2.2.2.1
  have hl4 : hi (t + 1) 4 = l := by rw [hR.2.2.2.2.2.2.1]; exact hl.symm
  have il := ilen_b hT.rg (cAt B f + p)
  rcases hF with ⟨q, Y, h1, h2, h3, rfl⟩ | ⟨h1, ⟨Y, h3⟩, rfl⟩ | ⟨h1, h3, hx⟩
  · have hq := hn q Y h1
    have hqY := hO _ h1 (q, Y) (List.mem_singleton.mpr rfl)
    refine s169_130.mpr ?_
    refine s169_131.mpr (wif (fun c131 => ?_) (fun c131 => ?_))
    · first
      | (exfalso; omega)
      | skip
        exfalso; omega
    · first
      | (exfalso; omega)
      | skip
        refine s169_134.mpr (s169_135.mpr (s169_136.mpr ?_))
        refine (s169_137 (by first | decide | assumption | omega)).mpr ?_
        refine s169_140.mpr ?_
        try simp (disch := first | decide | assumption | omega) only [kon, knt_some, knt_none, Option.toList_some, Option.toList_none, List.cons_append, List.nil_append, hN, hk, e5, fAdd_id]
        refine (s169_141 (by first | decide | assumption | omega)).mpr ?_
        try simp (disch := first | decide | assumption | omega) only [kon, knt_some, knt_none, Option.toList_some, Option.toList_none, List.cons_append, List.nil_append, hN, hk, e5, fAdd_id]
        refine (s169_144 (by first | decide | assumption | omega)).mpr ?_
        refine s169_147.mpr (s169_148.mpr ?_)
        try simp (disch := first | decide | assumption | omega) only [kon, knt_some, knt_none, Option.toList_some, Option.toList_none, List.cons_append, List.nil_append, hN, hk, e5, fAdd_id]
        refine (s169_149 (by first | decide | assumption | omega) (by first | decide | assumption | omega)).mpr ?_
        refine t_lengthOf hM hT (by omega) ⟨by omega, by omega⟩ hop h38 ?_
        simp only [kon, knt_some, knt_none, Option.toList_some, Option.toList_none, List.cons_append, List.nil_append]
        refine s169_152.mpr ?_
        try simp (disch := first | decide | assumption | omega) only [kon, knt_some, knt_none, Option.toList_some, Option.toList_none, List.cons_append, List.nil_append, hN, hk, e5, fAdd_id]
        refine (s169_153 (by first | decide | assumption | omega) (by first | decide | assumption | omega)).mpr ?_
        skip
        rw [← hq]
        refine v_arrive h hV hk hl4 (by omega) hqY.1 (by omega) h3 hm hqY.2 hvA (fun A2 h6 y1 y2 y3 y4 y5 y6 => ?_) (fun h6 y1 y2 y3 => ?_)
        · simp only [kon, knt_some, knt_none, Option.toList_some, Option.toList_none, List.cons_append, List.nil_append]
          refine s169_156.mpr ?_
          exact ok _ A2 h6 h1 ⟨y1, h2, A2, y2, fun _ _ => rfl⟩ y3.1 y4 (wB_a y5) (FS.of hvA y2 hqY.1 (by omega) y6)
        · simp only [kon, knt_some, knt_none, Option.toList_some, Option.toList_none, List.cons_append, List.nil_append]
          refine s169_156.mpr ?_
          refine no h6 (Or.inr ⟨_, h1, ?_⟩) y2 (wB_a y3)
          rcases y1 with z | z
          · exact Or.inl (fun w => z w.1)
          · exact Or.inr (Or.inl z)
  · have E := ok _ A hi h1 (fun _ _ => rfl) h3.1 hm FW.rf FS.rf
    refine s169_130.mpr ?_
    refine s169_131.mpr (wif (fun c131 => ?_) (fun c131 => ?_))
    · first
      | (exfalso; omega)
      | skip
        refine (s169_156).mpr ?_
        exact E
    · first
      | (exfalso; omega)
      | skip
        exfalso; omega
  · have NO : ∀ h6, VS none h6 → FW (wB t H C) hi h6 → Q (some none) al h6 hr := fun h6 s6 g6 => no h6 (by
      rcases h1 with z | ⟨q, Y, z1, z2⟩
      · exact Or.inl z
      · exact Or.inr ⟨_, z1, Or.inl (fun w => z2 w.2)⟩) s6 g6
    refine s169_130.mpr ?_
    refine s169_131.mpr (wif (fun c131 => ?_) (fun c131 => ?_))
    · skip
      refine (s169_156).mpr ?_
      first | exact NO _ y2 (wB_a y3) | exact NO _ h3 FW.rf
    · skip
      refine s169_134.mpr (s169_135.mpr (s169_136.mpr ?_))
      refine (s169_137 (by first | decide | assumption | omega)).mpr ?_
      refine s169_140.mpr ?_
      try simp (disch := first | decide | assumption | omega) only [kon, knt_some, knt_none, Option.toList_some, Option.toList_none, List.cons_append, List.nil_append, hN, hk, e5, fAdd_id]
      refine (s169_141 (by first | decide | assumption | omega)).mpr ?_
      try simp (disch := first | decide | assumption | omega) only [kon, knt_some, knt_none, Option.toList_some, Option.toList_none, List.cons_append, List.nil_append, hN, hk, e5, fAdd_id]
      refine (s169_144 (by first | decide | assumption | omega)).mpr ?_
      refine s169_147.mpr (s169_148.mpr ?_)
      try simp (disch := first | decide | assumption | omega) only [kon, knt_some, knt_none, Option.toList_some, Option.toList_none, List.cons_append, List.nil_append, hN, hk, e5, fAdd_id]
      refine (s169_149 (by first | decide | assumption | omega) (by first | decide | assumption | omega)).mpr ?_
      refine t_lengthOf hM hT (by omega) ⟨by omega, by omega⟩ hop h38 ?_
      refine s169_152.mpr ?_
      try simp (disch := first | decide | assumption | omega) only [kon, knt_some, knt_none, Option.toList_some, Option.toList_none, List.cons_append, List.nil_append, hN, hk, e5, fAdd_id]
      refine (s169_153 (by first | decide | assumption | omega) (by first | decide | assumption | omega)).mpr ?_
      refine v_arriveW (t := t) (H := H) (C := C) h h3 (fun h6 y2 y3 => ?_)
      refine (s169_156).mpr ?_
      first | exact NO _ y2 (wB_a y3) | exact NO _ h3 FW.rf
end DV9
