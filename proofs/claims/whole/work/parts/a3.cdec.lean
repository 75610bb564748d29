/-! THE CLASS: names and types are read -/
section CD1
variable {d : Nat} {al : AL} {hi : HI} {hr : HR} {Q : QQ} {B : Int → Int} {N : Nat} {n nm : Int}
/-- a fault was told at q -/
def EF (hi hi' : HI) (q : Int) : Prop := FW (wY 6) hi hi' ∧ hi' 6 4 = 1 ∧ hi' 6 5 = q ∧ 0 ≤ hi' 6 3
theorem wY_6 {a : Nat} {i : Int} (h : a ≠ 6) : ¬ wY 6 a i := fun q => h q.1
theorem wY_i {a : Nat} {i : Int} (h : i < 3 ∨ 5 < i) : ¬ wY 6 a i := fun q => by have := q.2; omega
theorem EF.a {hi' : HI} {q : Int} (h : EF hi hi' q) {a : Nat} {i : Int} (ha : a ≠ 6) : hi' a i = hi a i := h.1 a i (wY_6 ha)
theorem EF.tr {h1 h2 h3 : HI} {q : Int} (a : FW (wY 6) h1 h2) (b : EF h2 h3 q) : EF h1 h3 q := ⟨a.tr b.1, b.2⟩
theorem EF.up {hi' : HI} {q p : Int} (a : EF (upI hi 6 3 p) hi' q) : EF hi hi' q := EF.tr (FW.up FW.rf ⟨rfl, by omega⟩) a
theorem BY.fw {hi' : HI} {b : Nat} (h : BY al hi hr 6 b n B) (hf : FW (wY 6) hi hi') : BY al hi' hr 6 b n B := by
  have hb := h.ne
  obtain ⟨a1, a2, a3, a4, a5, a6, a7⟩ := h
  exact ⟨a1, a2, a3, (hf 6 1 (wY_i (by decide))).trans a4, a5, fun k k0 k1 => (hf b k (wY_6 hb)).trans (a6 k k0 k1), a7⟩
/-- the decoder's things stand -/
def DC (al : AL) (hi : HI) (hr : HR) (N : Nat) (n : Int) (B : Int → Int) (nm : Int) : Prop := SA al ∧ hr 5 0 = some 6 ∧ hi 5 1 = nm ∧ (nm = 0 ∨ nm = 1) ∧ BY al hi hr 6 (N + 6) n B ∧ MS al hr N ∧ 119 ≤ N ∧ szOK hi N ∧ (∀ c o, 0 ≤ c → c < 4 → hr (N + 4) c = some o → isK al o 3)
theorem DC.fw {hi' : HI} (h : DC al hi hr N n B nm) (hf : FW (wY 6) hi hi') : DC al hi' hr N n B nm := by
  obtain ⟨a1, a2, a3, a4, a5, a6, a7, a8, a9⟩ := h
  exact ⟨a1, a2, (hf 5 1 (wY_6 (by decide))).trans a3, a4, a5.fw hf, a6, a7, fun r r0 r1 => by rw [hf (N + 1) r (wY_6 (by omega))]; exact a8 r r0 r1, a9⟩
theorem DC.u3 {p : Int} (h : DC al hi hr N n B nm) : DC al (upI hi 6 3 p) hr N n B nm := h.fw (FW.up FW.rf ⟨rfl, by omega⟩)
/-- what the first pass has found: records, contracts, their counts -/
def RecOK (hi : HI) (N : Nat) (B : Int → Int) (r : Int) : Prop := hi (N + 1) r = nFld B r ∧ ∀ j, 0 ≤ j → j < nFld B r → hi (N + 2) (6 * r + j) = tyC B (pFld B r j)
def NF (al : AL) (hi : HI) (hr : HR) (N : Nat) (B : Int → Int) : Prop := hi N 2 = nRec B ∧ hi N 6 = nCtr B ∧ hi N 8 = nFn B ∧ (∀ r, 0 ≤ r → r < nRec B → RecOK hi N B r) ∧ (∀ c, 0 ≤ c → c < nCtr B → ∃ o, hr (N + 4) c = some o ∧ isK al o 3 ∧ hi o 0 = nSt B c) ∧ Sh B
theorem NF.fw {hi' : HI} (hA : SA al) (hN : 119 ≤ N) (h : NF al hi hr N B) (hf : FW (wY 6) hi hi') : NF al hi' hr N B := by
  obtain ⟨a1, a2, a3, a4, a5, a6⟩ := h
  have k6 : isK al 6 2 := hA.k (by decide) (by decide) rfl
  refine ⟨(hf N 2 (wY_6 (by omega))).trans a1, (hf N 6 (wY_6 (by omega))).trans a2, (hf N 8 (wY_6 (by omega))).trans a3, fun r r0 r1 => ?_, fun c c0 c1 => ?_, a6⟩
  · obtain ⟨b1, b2⟩ := a4 r r0 r1
    exact ⟨(hf (N + 1) r (wY_6 (by omega))).trans b1, fun j j0 j1 => (hf (N + 2) _ (wY_6 (by omega))).trans (b2 j j0 j1)⟩
  · obtain ⟨o, b1, b2, b3⟩ := a5 c c0 c1
    exact ⟨o, b1, b2, (hf o 0 (wY_6 (isK_ne b2 k6 (by decide)))).trans b3⟩
theorem NF.u3 {p : Int} (hA : SA al) (hN : 119 ≤ N) (h : NF al hi hr N B) : NF al (upI hi 6 3 p) hr N B := h.fw hA hN (FW.up FW.rf ⟨rfl, by omega⟩)
def naD (B : Int → Int) (nm lim c p : Int) : Ex := if p < lim ∧ 0 ≤ B p ∧ (nm = 1 → B p < c) then .ok (p + 1) else .error p
theorem naD_y {lim c p : Int} (h : p < lim) (h1 : 0 ≤ B p) (h2 : nm = 1 → B p < c) : naD B nm lim c p = .ok (p + 1) := if_pos ⟨h, h1, h2⟩
theorem d_takeName {c : Int} (h : DC al hi hr N n B nm) (hd : 2 ≤ d) (h0 : 0 ≤ hi 6 3)
    (fm : hi 6 4 ≠ 0 → ∀ x, 0 ≤ x → x < 256 → Q (some (some (vI x))) al hi hr)
    (hq : hi 6 4 = 0 → kEx (naD B nm (hi 6 2) c (hi 6 3)) (fun p' => Q (some (some (vI (B (hi 6 3))))) al (upI hi 6 3 p') hr) (fun q => ∀ x hi', 0 ≤ x → x < 256 → EF hi hi' q → Q (some (some (vI x))) al hi' hr)) : Ev d 36 [vR (some 5), vI c] al hi hr Q := by
  obtain ⟨hA, a2, a3, a4, a5, a6, a7, a8, a9⟩ := h
  have k6 : isK al 6 2 := hA.k (by decide) (by decide) rfl
  have k5 : isK al 5 4 := hA.k (by decide) (by decide) rfl
  have hrg := a5.rg (hi 6 3)
  have u51 : ∀ i x h', (upI h' 6 i x) 5 1 = h' 5 1 := fun _ _ _ => upI_a (by decide)
  rw [e36]
  by_cases c4 : hi 6 4 = 0
  · have hq := hq c4
    by_cases c : hi 6 3 < hi 6 2 ∧ 0 ≤ B (hi 6 3)
    · by_cases c9 : nm = 1 → B (hi 6 3) < ‹Int›
      · rw [naD_y c.1 c.2 c9, kEx_ok] at hq
        refine s36_0.mpr ?_
        refine (s36_1 (by first | decide | assumption | omega)).mpr ?_
        try simp (disch := first | decide | assumption | omega) only [kon, knt_some, knt_none, Option.toList_some, Option.toList_none, List.cons_append, List.nil_append, a2, u51, a3]
        refine (s36_4 (by first | decide | assumption | omega)).mpr ?_
        refine s36_7.mpr (s36_8.mpr ?_)
        try simp (disch := first | decide | assumption | omega) only [kon, knt_some, knt_none, Option.toList_some, Option.toList_none, List.cons_append, List.nil_append, a2, u51, a3]
        refine (s36_9 (by first | decide | assumption | omega)).mpr ?_
        try simp (disch := first | decide | assumption | omega) only [kon, knt_some, knt_none, Option.toList_some, Option.toList_none, List.cons_append, List.nil_append, a2, u51, a3]
        refine (s36_12 (by first | decide | assumption | omega) (by first | decide | assumption | omega)).mpr ?_
        refine b_take a5 (by omega) h0 (fun q => absurd c4 q) (fun _ q => absurd c q) (fun _ _ _ => ?_)
        refine s36_15.mpr (s36_16.mpr ?_)
        refine (s36_17 (by first | decide | assumption | omega)).mpr ?_
        try simp (disch := first | decide | assumption | omega) only [kon, knt_some, knt_none, Option.toList_some, Option.toList_none, List.cons_append, List.nil_append, a2, u51, a3]
        refine s36_20.mpr (wif (fun c20 => ?_) (fun c20 => ?_))
        · first
          | (exfalso; omega)
          | skip
            refine s36_37.mpr ?_
            refine (s36_38).mpr ?_
            exact hq
        · first
          | (exfalso; omega)
          | skip
            refine s36_23.mpr (s36_24.mpr ?_)
            refine s36_25.mpr (wif (fun c25 => ?_) (fun c25 => ?_))
            · first
              | (exfalso; omega)
              | skip
                refine s36_37.mpr ?_
                refine (s36_38).mpr ?_
                exact hq
            · first
              | (exfalso; omega)
              | skip
                refine s36_28.mpr ?_
                refine (s36_29 (by first | decide | assumption | omega)).mpr ?_
                refine s36_32.mpr (s36_33.mpr ?_)
                try simp (disch := first | decide | assumption | omega) only [kon, knt_some, knt_none, Option.toList_some, Option.toList_none, List.cons_append, List.nil_append, a2, u51, a3]
                refine (s36_34 (by first | decide | assumption | omega) (by first | decide | assumption | omega)).mpr ?_
                refine b_fail k6 (fun q => ?_) (fun q => ?_)
                refine s36_37.mpr ?_
                refine (s36_38).mpr ?_
                exact hq
      · rw [show naD B nm (hi 6 2) _ (hi 6 3) = .error (hi 6 3) from if_neg (fun q => c9 q.2.2), kEx_er] at hq
        refine s36_0.mpr ?_
        refine (s36_1 (by first | decide | assumption | omega)).mpr ?_
        try simp (disch := first | decide | assumption | omega) only [kon, knt_some, knt_none, Option.toList_some, Option.toList_none, List.cons_append, List.nil_append, a2, u51, a3]
        refine (s36_4 (by first | decide | assumption | omega)).mpr ?_
        refine s36_7.mpr (s36_8.mpr ?_)
        try simp (disch := first | decide | assumption | omega) only [kon, knt_some, knt_none, Option.toList_some, Option.toList_none, List.cons_append, List.nil_append, a2, u51, a3]
        refine (s36_9 (by first | decide | assumption | omega)).mpr ?_
        try simp (disch := first | decide | assumption | omega) only [kon, knt_some, knt_none, Option.toList_some, Option.toList_none, List.cons_append, List.nil_append, a2, u51, a3]
        refine (s36_12 (by first | decide | assumption | omega) (by first | decide | assumption | omega)).mpr ?_
        refine b_take a5 (by omega) h0 (fun q => absurd c4 q) (fun _ q => absurd c q) (fun _ _ _ => ?_)
        refine s36_15.mpr (s36_16.mpr ?_)
        refine (s36_17 (by first | decide | assumption | omega)).mpr ?_
        try simp (disch := first | decide | assumption | omega) only [kon, knt_some, knt_none, Option.toList_some, Option.toList_none, List.cons_append, List.nil_append, a2, u51, a3]
        refine s36_20.mpr (wif (fun c20 => ?_) (fun c20 => ?_))
        · first
          | (exfalso; omega)
          | skip
            refine s36_37.mpr ?_
            refine (s36_38).mpr ?_
            refine hq _ _ (by omega) (by omega) ⟨FW.up (FW.up (FW.up FW.rf ⟨rfl, by omega⟩) ⟨rfl, by omega⟩) ⟨rfl, by omega⟩, by (try simp (disch := decide) only [upI_eq, upI_a, upI_i, upR_eq, upR_a, upR_i]), by (try simp (disch := decide) only [upI_eq, upI_a, upI_i, upR_eq, upR_a, upR_i]), by (try simp (disch := decide) only [upI_eq, upI_a, upI_i, upR_eq, upR_a, upR_i]); omega⟩
        · first
          | (exfalso; omega)
          | skip
            refine s36_23.mpr (s36_24.mpr ?_)
            refine s36_25.mpr (wif (fun c25 => ?_) (fun c25 => ?_))
            · first
              | (exfalso; omega)
              | skip
                refine s36_37.mpr ?_
                refine (s36_38).mpr ?_
                refine hq _ _ (by omega) (by omega) ⟨FW.up (FW.up (FW.up FW.rf ⟨rfl, by omega⟩) ⟨rfl, by omega⟩) ⟨rfl, by omega⟩, by (try simp (disch := decide) only [upI_eq, upI_a, upI_i, upR_eq, upR_a, upR_i]), by (try simp (disch := decide) only [upI_eq, upI_a, upI_i, upR_eq, upR_a, upR_i]), by (try simp (disch := decide) only [upI_eq, upI_a, upI_i, upR_eq, upR_a, upR_i]); omega⟩
            · first
              | (exfalso; omega)
              | skip
                refine s36_28.mpr ?_
                refine (s36_29 (by first | decide | assumption | omega)).mpr ?_
                refine s36_32.mpr (s36_33.mpr ?_)
                try simp (disch := first | decide | assumption | omega) only [kon, knt_some, knt_none, Option.toList_some, Option.toList_none, List.cons_append, List.nil_append, a2, u51, a3]
                refine (s36_34 (by first | decide | assumption | omega) (by first | decide | assumption | omega)).mpr ?_
                refine b_fail k6 (fun q => ?_) (fun q => absurd (by (try simp (disch := decide) only [upI_eq, upI_a, upI_i, upR_eq, upR_a, upR_i]); exact c4) q)
                refine s36_37.mpr ?_
                refine (s36_38).mpr ?_
                refine hq _ _ (by omega) (by omega) ⟨FW.up (FW.up (FW.up FW.rf ⟨rfl, by omega⟩) ⟨rfl, by omega⟩) ⟨rfl, by omega⟩, by (try simp (disch := decide) only [upI_eq, upI_a, upI_i, upR_eq, upR_a, upR_i]), by (try simp (disch := decide) only [upI_eq, upI_a, upI_i, upR_eq, upR_a, upR_i]), by (try simp (disch := decide) only [upI_eq, upI_a, upI_i, upR_eq, upR_a, upR_i]); omega⟩
    · rw [show naD B nm (hi 6 2) _ (hi 6 3) = .error (hi 6 3) from if_neg (fun q => c ⟨q.1, q.2.1⟩), kEx_er] at hq
      have hE : EF hi (upI (upI hi 6 4 1) 6 5 (hi 6 3)) (hi 6 3) := ⟨FW.up (FW.up FW.rf ⟨rfl, by omega⟩) ⟨rfl, by omega⟩, by (try simp (disch := decide) only [upI_eq, upI_a, upI_i, upR_eq, upR_a, upR_i]), by (try simp (disch := decide) only [upI_eq, upI_a, upI_i, upR_eq, upR_a, upR_i]), by (try simp (disch := decide) only [upI_eq, upI_a, upI_i, upR_eq, upR_a, upR_i]); omega⟩
      refine s36_0.mpr ?_
      refine (s36_1 (by first | decide | assumption | omega)).mpr ?_
      try simp (disch := first | decide | assumption | omega) only [kon, knt_some, knt_none, Option.toList_some, Option.toList_none, List.cons_append, List.nil_append, a2, u51, a3]
      refine (s36_4 (by first | decide | assumption | omega)).mpr ?_
      refine s36_7.mpr (s36_8.mpr ?_)
      try simp (disch := first | decide | assumption | omega) only [kon, knt_some, knt_none, Option.toList_some, Option.toList_none, List.cons_append, List.nil_append, a2, u51, a3]
      refine (s36_9 (by first | decide | assumption | omega)).mpr ?_
      try simp (disch := first | decide | assumption | omega) only [kon, knt_some, knt_none, Option.toList_some, Option.toList_none, List.cons_append, List.nil_append, a2, u51, a3]
      refine (s36_12 (by first | decide | assumption | omega) (by first | decide | assumption | omega)).mpr ?_
      refine b_take a5 (by omega) h0 (fun q => absurd c4 q) (fun _ _ => ?_) (fun _ q1 q2 => absurd ⟨q1, q2⟩ c)
      refine s36_15.mpr (s36_16.mpr ?_)
      refine (s36_17 (by first | decide | assumption | omega)).mpr ?_
      try simp (disch := first | decide | assumption | omega) only [kon, knt_some, knt_none, Option.toList_some, Option.toList_none, List.cons_append, List.nil_append, a2, u51, a3]
      refine s36_20.mpr (wif (fun c20 => ?_) (fun c20 => ?_))
      · skip
        refine s36_37.mpr ?_
        refine (s36_38).mpr ?_
        exact hq _ _ (by omega) (by omega) hE
      · skip
        refine s36_23.mpr (s36_24.mpr ?_)
        refine s36_25.mpr (wif (fun c25 => ?_) (fun c25 => ?_))
        · skip
          refine s36_37.mpr ?_
          refine (s36_38).mpr ?_
          exact hq _ _ (by omega) (by omega) hE
        · skip
          refine s36_28.mpr ?_
          refine (s36_29 (by first | decide | assumption | omega)).mpr ?_
          refine s36_32.mpr (s36_33.mpr ?_)
          try simp (disch := first | decide | assumption | omega) only [kon, knt_some, knt_none, Option.toList_some, Option.toList_none, List.cons_append, List.nil_append, a2, u51, a3]
          refine (s36_34 (by first | decide | assumption | omega) (by first | decide | assumption | omega)).mpr ?_
          refine b_fail k6 (fun q => absurd q (by (try simp (disch := decide) only [upI_eq, upI_a, upI_i, upR_eq, upR_a, upR_i]); decide)) (fun _ => ?_)
          refine s36_37.mpr ?_
          refine (s36_38).mpr ?_
          exact hq _ _ (by omega) (by omega) hE
  · have fm := fm c4
    refine s36_0.mpr ?_
    refine (s36_1 (by first | decide | assumption | omega)).mpr ?_
    try simp (disch := first | decide | assumption | omega) only [kon, knt_some, knt_none, Option.toList_some, Option.toList_none, List.cons_append, List.nil_append, a2, a3]
    refine (s36_4 (by first | decide | assumption | omega)).mpr ?_
    refine s36_7.mpr (s36_8.mpr ?_)
    try simp (disch := first | decide | assumption | omega) only [kon, knt_some, knt_none, Option.toList_some, Option.toList_none, List.cons_append, List.nil_append, a2, a3]
    refine (s36_9 (by first | decide | assumption | omega)).mpr ?_
    try simp (disch := first | decide | assumption | omega) only [kon, knt_some, knt_none, Option.toList_some, Option.toList_none, List.cons_append, List.nil_append, a2, a3]
    refine (s36_12 (by first | decide | assumption | omega) (by first | decide | assumption | omega)).mpr ?_
    refine b_take a5 (by omega) h0 (fun _ => ?_) (fun q => absurd q c4) (fun q => absurd q c4)
    refine s36_15.mpr (s36_16.mpr ?_)
    refine (s36_17 (by first | decide | assumption | omega)).mpr ?_
    try simp (disch := first | decide | assumption | omega) only [kon, knt_some, knt_none, Option.toList_some, Option.toList_none, List.cons_append, List.nil_append, a2, a3]
    refine s36_20.mpr (wif (fun c20 => ?_) (fun c20 => ?_))
    · skip
      refine s36_37.mpr ?_
      refine (s36_38).mpr ?_
      exact fm _ (by omega) (by omega)
    · skip
      refine s36_23.mpr (s36_24.mpr ?_)
      refine s36_25.mpr (wif (fun c25 => ?_) (fun c25 => ?_))
      · skip
        refine s36_37.mpr ?_
        refine (s36_38).mpr ?_
        exact fm _ (by omega) (by omega)
      · skip
        refine s36_28.mpr ?_
        refine (s36_29 (by first | decide | assumption | omega)).mpr ?_
        refine s36_32.mpr (s36_33.mpr ?_)
        try simp (disch := first | decide | assumption | omega) only [kon, knt_some, knt_none, Option.toList_some, Option.toList_none, List.cons_append, List.nil_append, a2, a3]
        refine (s36_34 (by first | decide | assumption | omega) (by first | decide | assumption | omega)).mpr ?_
        refine b_fail k6 (fun q => absurd q c4) (fun _ => ?_)
        refine s36_37.mpr ?_
        refine (s36_38).mpr ?_
        exact fm _ (by omega) (by omega)
end CD1
