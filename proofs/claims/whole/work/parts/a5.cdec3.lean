section CD3
variable {d : Nat} {al : AL} {hi : HI} {hr : HR} {Q : QQ} {B : Int → Int} {N : Nat} {n nm : Int}
noncomputable def tyD (nm : Int) (B : Int → Int) (ks no p : Int) : Ex := if nm = 0 then tyP B ks no p else nmT B p
theorem tyD_0 {ks no p : Int} (h : nm = 0) : tyD nm B ks no p = tyP B ks no p := if_pos h
theorem tyD_1 {ks no p : Int} (h : nm = 1) : tyD nm B ks no p = nmT B p := if_neg (by omega)
/-- a text of n bytes -/
def TX (B : Int → Int) (n : Int) : Prop := ∀ k, (-1 ≤ B k ∧ B k ≤ 255) ∧ (0 ≤ B k → k < n)
theorem BY.tx {y b : Nat} (h : BY al hi hr y b n B) : TX B n := fun k => ⟨h.rg k, fun q => (h.lt (by omega)).2⟩
theorem naD_c {lim c c' p : Int} (h : nm = 1 → c = c') : naD B nm lim c p = naD B nm lim c' p := by
  unfold naD
  by_cases e : nm = 1
  · rw [h e]
  · by_cases c9 : p < lim ∧ 0 ≤ B p
    · rw [if_pos ⟨c9.1, c9.2, fun z => absurd z e⟩, if_pos ⟨c9.1, c9.2, fun z => absurd z e⟩]
    · rw [if_neg (fun q => c9 ⟨q.1, q.2.1⟩), if_neg (fun q => c9 ⟨q.1, q.2.1⟩)]
theorem tyD_n {ks no p : Int} (hx : TX B n) (h01 : nm = 0 ∨ nm = 1) (hT : nm = 1 → ∃ q, tyP B ks no p = .ok q) (hv : B p = 1 ∨ B p = 3) (hb : ks / 2 ^ (B p).toNat % 2 ≠ 0) : tyD nm B ks no p = naD B nm n (nRec B) (p + 1) := by
  rcases h01 with h | h
  · rw [tyD_0 h]
    unfold tyP naD
    rw [if_neg (by omega), if_neg (by omega), if_neg (by omega)]
    have := (hx (p + 1)).2
    by_cases c : B (p + 1) < 0
    · rw [if_pos c, if_neg (by omega)]
    · rw [if_neg c, if_pos (by omega), if_pos ⟨by omega, by omega, by omega⟩]
      congr 1; omega
  · rw [tyD_1 h]
    obtain ⟨q, hq⟩ := hT h
    have h2 := (tyP_v hq).2.1 (by omega)
    have := (hx (p + 1)).2
    unfold nmT naD
    rw [if_neg (by omega), if_pos (by omega)]
    by_cases c : B (p + 1) < nRec B
    · rw [ckE_y ⟨c, by omega⟩, if_pos ⟨by omega, by omega, fun _ => c⟩]
      congr 1; omega
    · rw [ckE_n (fun q => c q.1), if_neg (fun q => c (q.2.2 h))]
theorem tyD_b {ks no p : Int} (hx : TX B n) (h01 : nm = 0 ∨ nm = 1) (hT : nm = 1 → ∃ q, tyP B ks no p = .ok q) (hv : B p = 4) (hb : ks / 2 ^ (B p).toNat % 2 ≠ 0) : tyD nm B ks no p = blD B nm n (p + 1) := by
  rcases h01 with h | h
  · rw [tyD_0 h]
    unfold tyP blD
    rw [if_neg (by omega), if_neg (by omega), if_neg (by omega)]
    have := (hx (p + 1)).2
    by_cases c : B (p + 1) < 0
    · rw [if_pos c, if_neg (by omega)]
    · rw [if_neg c, if_pos (by omega), if_pos ⟨by omega, by omega, by omega⟩]
      congr 1; omega
  · rw [tyD_1 h]
    obtain ⟨q, hq⟩ := hT h
    have h2 := (tyP_v hq).2.1 (by omega)
    have := (hx (p + 1)).2
    unfold nmT blD
    rw [if_neg (by omega), if_pos (by omega)]
    by_cases c : B (p + 1) < nRec B ∧ plainR B (B (p + 1))
    · rw [ckE_y ⟨c.1, fun _ => c.2⟩, if_pos ⟨by omega, by omega, fun _ => c⟩]
      congr 1; omega
    · rw [ckE_n (fun q => c ⟨q.1, q.2 hv⟩), if_neg (fun q => c (q.2.2 h))]
theorem tyD_e {ks no p : Int} (hx : TX B n) (h01 : nm = 0 ∨ nm = 1) (hT : nm = 1 → ∃ q, tyP B ks no p = .ok q) (hv : B p = 5) (hb : ks / 2 ^ (B p).toNat % 2 ≠ 0) : tyD nm B ks no p = (naD B nm n (nCtr B) (p + 1)).bind fun p2 => (naD B nm n (nSt B (B (p + 1))) p2).bind (prL B n 0 1) := by
  have x1 := (hx (p + 1)).2
  have x2 := (hx (p + 2)).2
  have x3 := (hx (p + 3)).2
  rcases h01 with h | h
  · rw [tyD_0 h]
    unfold tyP
    rw [if_neg (by omega), if_neg (by omega), if_neg (by omega)]
    by_cases c : B (p + 1) < 0
    · rw [if_pos c, show naD B nm n (nCtr B) (p + 1) = .error (p + 1) from if_neg (by omega)]; rfl
    · rw [if_neg c, if_neg (by omega), naD_y (by omega) (by omega) (by omega), bnd_ok, show p + 1 + 1 = p + 2 by omega]
      by_cases c2 : B (p + 2) < 0
      · rw [if_pos c2, show naD B nm n (nSt B (B (p + 1))) (p + 2) = .error (p + 2) from if_neg (by omega)]; rfl
      · rw [if_neg c2, naD_y (by omega) (by omega) (by omega), bnd_ok, show p + 2 + 1 = p + 3 by omega]
        unfold nmb prL
        by_cases c3 : 0 ≤ B (p + 3) ∧ B (p + 3) ≤ 1
        · rw [if_pos c3, if_pos (by omega)]
        · rw [if_neg c3, if_neg (by omega)]
  · rw [tyD_1 h]
    obtain ⟨q, hq⟩ := hT h
    have h2 := (tyP_v hq).2.1 (by omega)
    have h3 := (tyP_v hq).2.2 (by omega)
    unfold nmT
    rw [if_neg (by omega), if_neg (by omega)]
    by_cases c : nCtr B ≤ B (p + 1)
    · rw [if_pos c, show naD B nm n (nCtr B) (p + 1) = .error (p + 1) from if_neg (fun q => by have := q.2.2 h; omega)]; rfl
    · rw [if_neg c, naD_y (by omega) (by omega) (by omega), bnd_ok, show p + 1 + 1 = p + 2 by omega]
      by_cases c2 : B (p + 2) < nSt B (B (p + 1))
      · rw [ckE_y c2, naD_y (by omega) (by omega) (fun _ => c2), bnd_ok, show p + 2 + 1 = p + 3 by omega]
        unfold prL
        rw [if_pos (by omega)]
        congr 1; omega
      · rw [ckE_n c2, show naD B nm n (nSt B (B (p + 1))) (p + 2) = .error (p + 2) from if_neg (fun q => c2 (q.2.2 h))]; rfl
def alw (A ks no : Int) : Prop := (A = 15 ∧ ks = 15 ∧ no = 0) ∨ (A = 63 ∧ ks = 63 ∧ no = 0) ∨ (A = 113 ∧ ks = 49 ∧ no = 1) ∨ (A = 127 ∧ ks = 63 ∧ no = 1)
theorem alw_64 {A ks no : Int} (h : alw A ks no) : fAnd A 64 ≠ 0 ↔ no ≠ 0 := by
  rcases h with ⟨rfl, rfl, rfl⟩ | ⟨rfl, rfl, rfl⟩ | ⟨rfl, rfl, rfl⟩ | ⟨rfl, rfl, rfl⟩ <;> decide
theorem alw_b {A ks no v : Int} (h : alw A ks no) (h0 : 0 ≤ v) (h5 : v ≤ 5) : fAnd (fShr A v) 1 = ks / 2 ^ v.toNat % 2 := by
  have : v = 0 ∨ v = 1 ∨ v = 2 ∨ v = 3 ∨ v = 4 ∨ v = 5 := by omega
  rcases h with ⟨rfl, rfl, rfl⟩ | ⟨rfl, rfl, rfl⟩ | ⟨rfl, rfl, rfl⟩ | ⟨rfl, rfl, rfl⟩ <;> rcases this with rfl | rfl | rfl | rfl | rfl | rfl <;> decide
theorem alw_0 {A ks no : Int} (h : alw A ks no) : fAnd (fShr A 0) 1 ≠ 0 := by
  rcases h with ⟨rfl, rfl, rfl⟩ | ⟨rfl, rfl, rfl⟩ | ⟨rfl, rfl, rfl⟩ | ⟨rfl, rfl, rfl⟩ <;> decide
theorem d_takeType {A ks no p : Int} (h : DC al hi hr N n B nm) (hF : nm = 1 → NF al hi hr N B) (hd : 5 ≤ d) (hp : hi 6 3 = p) (h0 : 0 ≤ p) (hl : hi 6 2 = n) (hw : alw A ks no) (hT : nm = 1 → hi 6 4 = 0 → ∃ q, tyP B ks no p = .ok q)
    (fm : hi 6 4 ≠ 0 → ∀ x, Q (some (some (vI x))) al hi hr)
    (hq : hi 6 4 = 0 → kEx (tyD nm B ks no p) (fun p' => Q (some (some (vI (tyC B p)))) al (upI hi 6 3 p') hr) (fun q => ∀ x hi', EF hi hi' q → Q (some (some (vI x))) al hi' hr)) : Ev d 35 [vR (some 5), vR (some N), vI A] al hi hr Q := by
  have h' := h
  obtain ⟨hA, a2, a3, a4, a5, a6, a7, a8, a9⟩ := h
  have k6 : isK al 6 2 := hA.k (by decide) (by decide) rfl
  have k5 : isK al 5 4 := hA.k (by decide) (by decide) rfl
  have kN := a6.1
  have hx := a5.tx
  have hrg := a5.rg p
  have w0 := alw_0 hw
  rw [e35]
  by_cases c4 : hi 6 4 = 0
  · have hq := hq c4
    have hT := fun e => hT e c4
    -- no byte
    by_cases cb : B p < 0
    · have e9 : tyD nm B ks no p = .error p := by
        rcases a4 with e | e
        · rw [tyD_0 e]; unfold tyP; rw [if_neg (by omega), if_pos (by omega)]
        · obtain ⟨q, hq⟩ := hT e
          have := (tyP_v hq).1
          omega
      rw [e9, kEx_er] at hq
      have hE : EF hi (upI (upI hi 6 4 1) 6 5 p) p := ⟨FW.up (FW.up FW.rf ⟨rfl, by omega⟩) ⟨rfl, by omega⟩, by (try simp (disch := decide) only [upI_eq, upI_a, upI_i, upR_eq, upR_a, upR_i]), by (try simp (disch := decide) only [upI_eq, upI_a, upI_i, upR_eq, upR_a, upR_i]), by (try simp (disch := decide) only [upI_eq, upI_a, upI_i, upR_eq, upR_a, upR_i]); omega⟩
      refine s35_0.mpr ?_
      refine (s35_1 (by first | decide | assumption | omega)).mpr ?_
      try simp (disch := first | decide | assumption | omega) only [kon, knt_some, knt_none, Option.toList_some, Option.toList_none, List.cons_append, List.nil_append, a2, hp]
      refine (s35_4 (by first | decide | assumption | omega)).mpr ?_
      refine s35_7.mpr (s35_8.mpr ?_)
      try simp (disch := first | decide | assumption | omega) only [kon, knt_some, knt_none, Option.toList_some, Option.toList_none, List.cons_append, List.nil_append, a2, hp]
      refine (s35_9 (by first | decide | assumption | omega)).mpr ?_
      try simp (disch := first | decide | assumption | omega) only [kon, knt_some, knt_none, Option.toList_some, Option.toList_none, List.cons_append, List.nil_append, a2, hp]
      refine (s35_12 (by first | decide | assumption | omega) (by first | decide | assumption | omega)).mpr ?_
      refine b_take a5 (by omega) (by omega) (fun q => absurd c4 q) (fun _ _ => ?_) (fun _ q1 q2 => by rw [hp] at q2; omega)
      rw [hp]
      refine s35_15.mpr (s35_17.mpr (s35_19.mpr ?_))
      refine s35_22.mpr (wif (fun c22 => ?_) (fun c22 => ?_))
      · first
        | (exfalso; omega)
        | skip
          refine s35_25.mpr (s35_26.mpr (s35_28.mpr ?_))
          try simp (disch := first | decide | assumption | omega) only [kon, knt_some, knt_none, Option.toList_some, Option.toList_none, List.cons_append, List.nil_append, a2, hp]
          refine s35_29.mpr (wif (fun c29 => ?_) (fun c29 => ?_))
          · first
            | (exfalso; omega)
            | skip
              refine s35_34.mpr (s35_36.mpr ?_)
              refine s35_37.mpr (wif (fun c37 => ?_) (fun c37 => ?_))
              · first
                | (exfalso; omega)
                | skip
                  refine s35_49.mpr ?_
                  refine (s35_50 (by first | decide | assumption | omega)).mpr ?_
                  refine s35_53.mpr (s35_54.mpr ?_)
                  try simp (disch := first | decide | assumption | omega) only [kon, knt_some, knt_none, Option.toList_some, Option.toList_none, List.cons_append, List.nil_append, a2, hp]
                  refine (s35_55 (by first | decide | assumption | omega) (by first | decide | assumption | omega)).mpr ?_
                  exfalso; omega
              · first
                | (exfalso; omega)
                | skip
                  refine s35_40.mpr (s35_41.mpr (s35_43.mpr (s35_44.mpr (s35_45.mpr ?_))))
                  try simp (disch := first | decide | assumption | omega) only [kon, knt_some, knt_none, Option.toList_some, Option.toList_none, List.cons_append, List.nil_append, a2, hp]
                  refine s35_46.mpr (wif (fun c46 => ?_) (fun c46 => ?_))
                  · first
                    | (exfalso; omega)
                    | skip
                      refine s35_49.mpr ?_
                      refine (s35_50 (by first | decide | assumption | omega)).mpr ?_
                      refine s35_53.mpr (s35_54.mpr ?_)
                      try simp (disch := first | decide | assumption | omega) only [kon, knt_some, knt_none, Option.toList_some, Option.toList_none, List.cons_append, List.nil_append, a2, hp]
                      refine (s35_55 (by first | decide | assumption | omega) (by first | decide | assumption | omega)).mpr ?_
                      exfalso; omega
                  · first
                    | (exfalso; omega)
                    | skip
                      refine s35_60.mpr ?_
                      refine g35_62 (fun c62 => ?_) (fun c62 => ?_) (fun c62 => ?_) (fun c62 => ?_)
                      · skip
                        exfalso; simp at c62
                      · skip
                        have c62 := List.mem_singleton.mp c62
                        exfalso; simp at c62
                      · skip
                        have c62 := List.mem_singleton.mp c62
                        exfalso; simp at c62
                      · skip
                        refine s35_178.mpr ?_
                        refine (s35_180).mpr ?_
                        exact hq _ _ hE
          · first
            | (exfalso; omega)
            | skip
              refine s35_32.mpr ?_
              refine (s35_33).mpr ?_
              exact hq _ _ hE
      · first
        | (exfalso; omega)
        | skip
          refine s35_34.mpr (s35_36.mpr ?_)
          refine s35_37.mpr (wif (fun c37 => ?_) (fun c37 => ?_))
          · first
            | (exfalso; omega)
            | skip
              refine s35_49.mpr ?_
              refine (s35_50 (by first | decide | assumption | omega)).mpr ?_
              refine s35_53.mpr (s35_54.mpr ?_)
              try simp (disch := first | decide | assumption | omega) only [kon, knt_some, knt_none, Option.toList_some, Option.toList_none, List.cons_append, List.nil_append, a2, hp]
              refine (s35_55 (by first | decide | assumption | omega) (by first | decide | assumption | omega)).mpr ?_
              exfalso; omega
          · first
            | (exfalso; omega)
            | skip
              refine s35_40.mpr (s35_41.mpr (s35_43.mpr (s35_44.mpr (s35_45.mpr ?_))))
              try simp (disch := first | decide | assumption | omega) only [kon, knt_some, knt_none, Option.toList_some, Option.toList_none, List.cons_append, List.nil_append, a2, hp]
              refine s35_46.mpr (wif (fun c46 => ?_) (fun c46 => ?_))
              · first
                | (exfalso; omega)
                | skip
                  refine s35_49.mpr ?_
                  refine (s35_50 (by first | decide | assumption | omega)).mpr ?_
                  refine s35_53.mpr (s35_54.mpr ?_)
                  try simp (disch := first | decide | assumption | omega) only [kon, knt_some, knt_none, Option.toList_some, Option.toList_none, List.cons_append, List.nil_append, a2, hp]
                  refine (s35_55 (by first | decide | assumption | omega) (by first | decide | assumption | omega)).mpr ?_
                  exfalso; omega
              · first
                | (exfalso; omega)
                | skip
                  refine s35_60.mpr ?_
                  refine g35_62 (fun c62 => ?_) (fun c62 => ?_) (fun c62 => ?_) (fun c62 => ?_)
                  · skip
                    exfalso; simp at c62
                  · skip
                    have c62 := List.mem_singleton.mp c62
                    exfalso; simp at c62
                  · skip
                    have c62 := List.mem_singleton.mp c62
                    exfalso; simp at c62
                  · skip
                    refine s35_178.mpr ?_
                    refine (s35_180).mpr ?_
                    exact hq _ _ hE
    · have hpn := (hx p).2 (by omega)
      have hs1 := h'.u3 (p := p + 1)
      have hF1 : nm = 1 → NF al (upI hi 6 3 (p + 1)) hr N B := fun e => (hF e).u3 hA a7
      have g2 : ∀ x : Int, (upI hi 6 3 x) N 2 = hi N 2 := fun x => upI_a (by omega)
      have g6 : ∀ x : Int, (upI hi 6 3 x) N 6 = hi N 6 := fun x => upI_a (by omega)
      have r3 : ∀ x : Int, (upI hi 6 3 x) 6 3 = x := fun x => upI_eq
      have r4 : ∀ x : Int, (upI hi 6 3 x) 6 4 = hi 6 4 := fun x => upI_i (by decide)
      have r2 : ∀ x : Int, (upI hi 6 3 x) 6 2 = n := fun x => (upI_i (by decide)).trans hl
      have hR : ∀ p' : Int, upI (upI hi 6 3 (p + 1)) 6 3 p' = upI hi 6 3 p' := fun p' => upI_up
      -- 17: behind the kind
      have TN : (B p = 1 ∨ B p = 3) → ks / 2 ^ (B p).toNat % 2 ≠ 0 → Wp d 35 60 [vR (some 5), vR (some N), vI A, vI p, vI (B p), none, none, none] [] al (upI hi 6 3 (p + 1)) hr Q := by
        intro hv hb
        rw [tyD_n hx a4 hT hv hb] at hq
        refine s35_60.mpr ?_
        refine g35_62 (fun c62 => ?_) (fun c62 => ?_) (fun c62 => ?_) (fun c62 => ?_)
        · skip
          refine s35_96.mpr (s35_98.mpr (s35_99.mpr ?_))
          refine (s35_100 (by first | decide | assumption | omega)).mpr ?_
          try simp (disch := first | decide | assumption | omega) only [kon, knt_some, knt_none, Option.toList_some, Option.toList_none, List.cons_append, List.nil_append, a2, g2]
          refine (s35_103 (by first | decide | assumption | omega) (by first | decide | assumption | omega)).mpr ?_
          refine d_takeName hs1 (by omega) (by rw [r3]; omega) (fun q => absurd c4 (by rw [r4] at q; exact q)) (fun _ => ?_)
          rw [r3, r2, naD_c (c' := nRec B) (fun e => (hF e).1)]
          refine kEx_of (fun q103 e103 => ?_) (fun q103 e103 => ?_)
          rotate_left
          intro x103 h103 y103 z103 v103
          · skip
            refine (s35_106 (by omega)).mpr ?_
            refine c_typeOf.mpr ?_
            refine (s35_109).mpr ?_
            first
            | (rw [e103, kEx_er] at hq; exact hq _ _ v103.up)
            | (rw [e103, kEx_ok] at hq
               obtain ⟨rfl, -, u2, -⟩ := naD_ok e103
               have := hrg
               have := (hx (p + 1)).1
               have e9 : tyC B p = B p + 16 * B (p + 1) := by unfold tyC; rw [if_neg (by omega), if_neg (by omega), if_pos (by omega)]
               rw [hR, tyO_v (by omega) (by omega) u2 (by omega), ← e9]
               exact hq)
          · skip
            refine (s35_106 (by omega)).mpr ?_
            refine c_typeOf.mpr ?_
            refine (s35_109).mpr ?_
            first
            | (rw [e103, kEx_er] at hq; exact hq _ _ v103.up)
            | (rw [e103, kEx_ok] at hq
               obtain ⟨rfl, -, u2, -⟩ := naD_ok e103
               have := hrg
               have := (hx (p + 1)).1
               have e9 : tyC B p = B p + 16 * B (p + 1) := by unfold tyC; rw [if_neg (by omega), if_neg (by omega), if_pos (by omega)]
               rw [hR, tyO_v (by omega) (by omega) u2 (by omega), ← e9]
               exact hq)
        · skip
          have c62 := List.mem_singleton.mp c62
          exfalso; omega
        · skip
          have c62 := List.mem_singleton.mp c62
          exfalso; omega
        · skip
          exfalso; simp at c62; omega
      have TB : B p = 4 → ks / 2 ^ (B p).toNat % 2 ≠ 0 → Wp d 35 60 [vR (some 5), vR (some N), vI A, vI p, vI (B p), none, none, none] [] al (upI hi 6 3 (p + 1)) hr Q := by
        intro hv hb
        rw [tyD_b hx a4 hT hv hb] at hq
        refine s35_60.mpr ?_
        refine g35_62 (fun c62 => ?_) (fun c62 => ?_) (fun c62 => ?_) (fun c62 => ?_)
        · skip
          exfalso; simp at c62; omega
        · skip
          have c62 := List.mem_singleton.mp c62
          refine s35_110.mpr (s35_112.mpr (s35_113.mpr ?_))
          refine (s35_114 (by first | decide | assumption | omega) (by first | decide | assumption | omega)).mpr ?_
          refine d_takeBlockRecord hs1 hF1 (by omega) (by rw [r3]; omega) (fun q => absurd c4 (by rw [r4] at q; exact q)) (fun _ => ?_)
          rw [r3, r2]
          refine kEx_of (fun q114 e114 => ?_) (fun q114 e114 => ?_)
          rotate_left
          intro x114 h114 y114 z114 v114
          · skip
            refine (s35_117 (by omega)).mpr ?_
            refine c_typeOf.mpr ?_
            refine (s35_120).mpr ?_
            first
            | (rw [e114, kEx_er] at hq; exact hq _ _ v114.up)
            | (rw [e114, kEx_ok] at hq
               unfold blD at e114
               split at e114
               · rename_i u9
                 have u2 := u9.2.1
                 cases e114
                 have := (hx (p + 1)).1
                 have e9 : tyC B p = B p + 16 * B (p + 1) := by unfold tyC; rw [if_neg (by omega), if_neg (by omega), if_pos (by omega)]
                 rw [hR, tyO_v (by omega) (by omega) u2 (by omega), ← e9]
                 exact hq
               · cases e114)
          · skip
            refine (s35_117 (by omega)).mpr ?_
            refine c_typeOf.mpr ?_
            refine (s35_120).mpr ?_
            first
            | (rw [e114, kEx_er] at hq; exact hq _ _ v114.up)
            | (rw [e114, kEx_ok] at hq
               unfold blD at e114
               split at e114
               · rename_i u9
                 have u2 := u9.2.1
                 cases e114
                 have := (hx (p + 1)).1
                 have e9 : tyC B p = B p + 16 * B (p + 1) := by unfold tyC; rw [if_neg (by omega), if_neg (by omega), if_pos (by omega)]
                 rw [hR, tyO_v (by omega) (by omega) u2 (by omega), ← e9]
                 exact hq
               · cases e114)
        · skip
          have c62 := List.mem_singleton.mp c62
          exfalso; omega
        · skip
          exfalso; simp at c62; omega
      have TE : B p = 5 → ks / 2 ^ (B p).toNat % 2 ≠ 0 → Wp d 35 60 [vR (some 5), vR (some N), vI A, vI p, vI (B p), none, none, none] [] al (upI hi 6 3 (p + 1)) hr Q := by
        intro hv hb
        rw [tyD_e hx a4 hT hv hb] at hq
        have x1 := hx (p + 1)
        have x2 := hx (p + 1 + 1)
        have x3 := hx (p + 1 + 1 + 1)
        -- behind a fault
        have F159 : ∀ hi' x y l6, FW (wY 6) hi hi' → hi' 6 4 ≠ 0 → 0 ≤ hi' 6 3 → (∀ z, Q (some (some (vI z))) al hi' hr) → Wp d 35 159 [vR (some 5), vR (some N), vI A, vI p, vI (B p), vI x, vR l6, none] [vI y] al hi' hr Q := by
          intro hi' x y l6 hf e4 e3 hz
          have hs := h'.fw hf
          have b5 := hs.2.2.2.2.1
          refine s35_159.mpr (s35_161.mpr (s35_163.mpr (s35_165.mpr ?_)))
          refine (s35_166 (by first | decide | assumption | omega)).mpr ?_
          refine s35_169.mpr (s35_170.mpr ?_)
          try simp (disch := first | decide | assumption | omega) only [kon, knt_some, knt_none, Option.toList_some, Option.toList_none, List.cons_append, List.nil_append, a2]
          refine (s35_171 (by first | decide | assumption | omega) (by first | decide | assumption | omega)).mpr ?_
          refine b_within b5 (by omega) e3 (fun _ z _ => ?_) (fun q => absurd q e4)
          refine (s35_174 (by omega)).mpr ?_
          refine c_endType.mpr ?_
          refine (s35_177).mpr ?_
          exact hz _
        have F129 : ∀ hi' x, FW (wY 6) hi hi' → hi' 6 4 ≠ 0 → 0 ≤ hi' 6 3 → (∀ z, Q (some (some (vI z))) al hi' hr) → Wp d 35 129 [vR (some 5), vR (some N), vI A, vI p, vI (B p), none, none, none] [vI x] al hi' hr Q := by
          intro hi' x hf e4 e3 hz
          have hs := h'.fw hf
          have hK : ∀ o, ctA hi' hr N x = some o → isK al o 3 := by
            intro o ho
            unfold ctA at ho
            split at ho
            · exact a9 x o (by omega) (by omega) ho
            · cases ho
          cases hc : ctA hi' hr N x with
          | none =>
            refine s35_129.mpr (s35_131.mpr (s35_132.mpr ?_))
            refine (s35_134 (by first | decide | assumption | omega) (by first | decide | assumption | omega)).mpr ?_
            refine t_contractAt a6 ?_
            rw [hc]
            refine s35_137.mpr (s35_139.mpr (s35_140.mpr ?_))
            refine s35_142.mpr (wif (fun c142 => ?_) (fun c142 => ?_))
            · skip
              refine s35_145.mpr (s35_148.mpr ?_)
              refine (s35_156 (by first | decide | assumption | omega) (by first | decide | assumption | omega)).mpr ?_
              refine d_takeName hs (by omega) e3 (fun _ y156 _ _ => ?_) (fun q => absurd q e4)
              exact F159 _ _ _ _ hf e4 e3 hz
            · skip
              exact absurd rfl c142
          | some o =>
            have ko := hK o hc
            refine s35_129.mpr (s35_131.mpr (s35_132.mpr ?_))
            refine (s35_134 (by first | decide | assumption | omega) (by first | decide | assumption | omega)).mpr ?_
            refine t_contractAt a6 ?_
            rw [hc]
            refine s35_137.mpr (s35_139.mpr (s35_140.mpr ?_))
            refine s35_142.mpr (wif (fun c142 => ?_) (fun c142 => ?_))
            · skip
              cases c142
            · skip
              refine s35_151.mpr ?_
              refine (s35_153 (by first | decide | assumption | omega)).mpr ?_
              try simp (disch := first | decide | assumption | omega) only [kon, knt_some, knt_none, Option.toList_some, Option.toList_none, List.cons_append, List.nil_append, a2, hc]
              refine (s35_156 (by first | decide | assumption | omega) (by first | decide | assumption | omega)).mpr ?_
              refine d_takeName hs (by omega) e3 (fun _ y156 _ _ => ?_) (fun q => absurd q e4)
              exact F159 _ _ _ _ hf e4 e3 hz
        cases e1 : naD B nm n (nCtr B) (p + 1) with
        | error q1 =>
          rw [e1, bnd_er, kEx_er] at hq
          refine s35_60.mpr ?_
          refine g35_62 (fun c62 => ?_) (fun c62 => ?_) (fun c62 => ?_) (fun c62 => ?_)
          · skip
            exfalso; simp at c62; omega
          · skip
            have c62 := List.mem_singleton.mp c62
            exfalso; omega
          · skip
            have c62 := List.mem_singleton.mp c62
            refine s35_121.mpr (s35_122.mpr ?_)
            refine (s35_123 (by first | decide | assumption | omega)).mpr ?_
            try simp (disch := first | decide | assumption | omega) only [kon, knt_some, knt_none, Option.toList_some, Option.toList_none, List.cons_append, List.nil_append, a2, g6]
            refine (s35_126 (by first | decide | assumption | omega) (by first | decide | assumption | omega)).mpr ?_
            refine d_takeName hs1 (by omega) (by rw [r3]; omega) (fun q => absurd c4 (by rw [r4] at q; exact q)) (fun _ => ?_)
            rw [r3, r2, naD_c (c' := nCtr B) (fun e => (hF e).2.1), e1, kEx_er]
            intro x126 h126 y126 z126 v126
            exact F129 _ _ v126.up.1 (by rw [v126.2.1]; decide) v126.2.2.2 (fun z => hq z _ v126.up)
          · skip
            exfalso; simp at c62; omega
        | ok q1 =>
          obtain ⟨rfl, u1, u2, u3⟩ := naD_ok e1
          rw [e1, bnd_ok] at hq
          have hs2 := h'.u3 (p := p + 1 + 1)
          have T156 : ∀ c l6, (nm = 1 → c = nSt B (B (p + 1))) → Wp d 35 156 [vR (some 5), vR (some N), vI A, vI p, vI (B p), vI (B (p + 1)), vR l6, none] [vI c, vR (some 5)] al (upI hi 6 3 (p + 1 + 1)) hr Q := by
            intro c l6 hc
            cases e2 : naD B nm n (nSt B (B (p + 1))) (p + 1 + 1) with
            | error q2 =>
              rw [e2, bnd_er, kEx_er] at hq
              refine (s35_156 (by first | decide | assumption | omega) (by first | decide | assumption | omega)).mpr ?_
              refine d_takeName hs2 (by omega) (by rw [r3]; omega) (fun q => absurd c4 (by rw [r4] at q; exact q)) (fun _ => ?_)
              rw [r3, r2, naD_c hc, e2, kEx_er]
              intro x156 h156 y156 z156 v156
              exact F159 _ _ _ _ v156.up.1 (by rw [v156.2.1]; decide) v156.2.2.2 (fun z => hq z _ v156.up)
            | ok q2 =>
              obtain ⟨rfl, w1, w2, w3⟩ := naD_ok e2
              rw [e2, bnd_ok] at hq
              have hs3 := (h'.u3 (p := p + 1 + 1 + 1)).2.2.2.2.1
              refine (s35_156 (by first | decide | assumption | omega) (by first | decide | assumption | omega)).mpr ?_
              refine d_takeName hs2 (by omega) (by rw [r3]; omega) (fun q => absurd c4 (by rw [r4] at q; exact q)) (fun _ => ?_)
              rw [r3, r2, naD_c hc, e2, kEx_ok, upI_up]
              refine s35_159.mpr (s35_161.mpr (s35_163.mpr (s35_165.mpr ?_)))
              refine (s35_166 (by first | decide | assumption | omega)).mpr ?_
              refine s35_169.mpr (s35_170.mpr ?_)
              try simp (disch := first | decide | assumption | omega) only [kon, knt_some, knt_none, Option.toList_some, Option.toList_none, List.cons_append, List.nil_append, a2]
              refine (s35_171 (by first | decide | assumption | omega) (by first | decide | assumption | omega)).mpr ?_
              refine b_within hs3 (by omega) (by rw [r3]; omega) (fun q => absurd c4 (by rw [r4] at q; exact q)) (fun _ => ?_)
              rw [r3, r2]
              refine kEx_of (fun q171 e171 => ?_) (fun q171 e171 => ?_)
              rotate_left
              intro x171 h171 y171 z171 v171 s171 t171
              · skip
                refine (s35_174 (by omega)).mpr ?_
                refine c_endType.mpr ?_
                refine (s35_177).mpr ?_
                first
                | (rw [e171, kEx_er] at hq; exact hq _ _ ⟨(FW.up FW.rf ⟨rfl, by omega⟩ : FW (wY 6) hi (upI hi 6 3 _)).tr z171, v171, s171, t171⟩)
                | (rw [e171, kEx_ok] at hq
                   unfold prL at e171
                   split at e171
                   · rename_i c9
                     cases e171
                     have e9 : tyC B p = 5 + 16 * B (p + 1) + 4096 * B (p + 1 + 1) + 1048576 * B (p + 1 + 1 + 1) := by
                       unfold tyC
                       rw [if_neg (by omega), if_neg (by omega), if_neg (by omega), hv, show p + 1 + 1 + 1 = p + 3 by omega, show p + 1 + 1 = p + 2 by omega]
                     rw [upI_up, enO_v u2 (by omega) w2 (by omega) (by omega) (by omega), ← e9]
                     exact hq
                   · cases e171)
              · skip
                refine (s35_174 (by omega)).mpr ?_
                refine c_endType.mpr ?_
                refine (s35_177).mpr ?_
                first
                | (rw [e171, kEx_er] at hq; exact hq _ _ ⟨(FW.up FW.rf ⟨rfl, by omega⟩ : FW (wY 6) hi (upI hi 6 3 _)).tr z171, v171, s171, t171⟩)
                | (rw [e171, kEx_ok] at hq
                   unfold prL at e171
                   split at e171
                   · rename_i c9
                     cases e171
                     have e9 : tyC B p = 5 + 16 * B (p + 1) + 4096 * B (p + 1 + 1) + 1048576 * B (p + 1 + 1 + 1) := by
                       unfold tyC
                       rw [if_neg (by omega), if_neg (by omega), if_neg (by omega), hv, show p + 1 + 1 + 1 = p + 3 by omega, show p + 1 + 1 = p + 2 by omega]
                     rw [upI_up, enO_v u2 (by omega) w2 (by omega) (by omega) (by omega), ← e9]
                     exact hq
                   · cases e171)
          have hcv : nm = 1 → ∃ o, hr (N + 4) (B (p + 1)) = some o ∧ isK al o 3 ∧ hi o 0 = nSt B (B (p + 1)) := fun e => (hF e).2.2.2.2.1 _ u2 (u3 e)
          have hc4 : nm = 1 → nCtr B ≤ 4 := fun e => (hF e).2.2.2.2.2.2.2.2.2.2.1
          have hgo : ∀ x o, ctA (upI hi 6 3 x) hr N (B (p + 1)) = some o → isK al o 3 ∧ (nm = 1 → (upI hi 6 3 x) o 0 = nSt B (B (p + 1))) := by
            intro x o ho
            unfold ctA at ho
            split at ho
            · have ko := a9 (B (p + 1)) o (by omega) (by omega) ho
              refine ⟨ko, fun e => ?_⟩
              obtain ⟨o', q1, q2, q3⟩ := hcv e
              rw [ho] at q1
              cases q1
              rw [upI_a (isK_ne ko k6 (by decide))]
              exact q3
            · cases ho
          have hno : ∀ x, ctA (upI hi 6 3 x) hr N (B (p + 1)) = none → nm ≠ 1 := by
            intro x ho e
            obtain ⟨o', q1, q2, q3⟩ := hcv e
            unfold ctA at ho
            have u3 := u3 e
            have hc4 := hc4 e
            have := (hF e).2.1
            rw [if_pos (by rw [g6]; omega), q1] at ho
            cases ho
          cases hc : ctA (upI hi 6 3 (p + 1 + 1)) hr N (B (p + 1)) with
          | none =>
            refine s35_60.mpr ?_
            refine g35_62 (fun c62 => ?_) (fun c62 => ?_) (fun c62 => ?_) (fun c62 => ?_)
            · skip
              exfalso; simp at c62; omega
            · skip
              have c62 := List.mem_singleton.mp c62
              exfalso; omega
            · skip
              have c62 := List.mem_singleton.mp c62
              refine s35_121.mpr (s35_122.mpr ?_)
              refine (s35_123 (by first | decide | assumption | omega)).mpr ?_
              try simp (disch := first | decide | assumption | omega) only [kon, knt_some, knt_none, Option.toList_some, Option.toList_none, List.cons_append, List.nil_append, a2, g6, hc]
              refine (s35_126 (by first | decide | assumption | omega) (by first | decide | assumption | omega)).mpr ?_
              refine d_takeName hs1 (by omega) (by rw [r3]; omega) (fun q => absurd c4 (by rw [r4] at q; exact q)) (fun _ => ?_)
              rw [r3, r2, naD_c (c' := nCtr B) (fun e => (hF e).2.1), e1, kEx_ok, hR]
              refine s35_129.mpr (s35_131.mpr (s35_132.mpr ?_))
              refine (s35_134 (by first | decide | assumption | omega) (by first | decide | assumption | omega)).mpr ?_
              refine t_contractAt a6 ?_
              rw [hc]
              refine s35_137.mpr (s35_139.mpr (s35_140.mpr ?_))
              refine s35_142.mpr (wif (fun c142 => ?_) (fun c142 => ?_))
              · skip
                refine s35_145.mpr (s35_148.mpr ?_)
                exact T156 _ _ (fun e => absurd e (hno _ hc))
              · skip
                exact absurd rfl c142
            · skip
              exfalso; simp at c62; omega
          | some o =>
            obtain ⟨ko, ko2⟩ := hgo _ o hc
            refine s35_60.mpr ?_
            refine g35_62 (fun c62 => ?_) (fun c62 => ?_) (fun c62 => ?_) (fun c62 => ?_)
            · skip
              exfalso; simp at c62; omega
            · skip
              have c62 := List.mem_singleton.mp c62
              exfalso; omega
            · skip
              have c62 := List.mem_singleton.mp c62
              refine s35_121.mpr (s35_122.mpr ?_)
              refine (s35_123 (by first | decide | assumption | omega)).mpr ?_
              try simp (disch := first | decide | assumption | omega) only [kon, knt_some, knt_none, Option.toList_some, Option.toList_none, List.cons_append, List.nil_append, a2, g6, hc]
              refine (s35_126 (by first | decide | assumption | omega) (by first | decide | assumption | omega)).mpr ?_
              refine d_takeName hs1 (by omega) (by rw [r3]; omega) (fun q => absurd c4 (by rw [r4] at q; exact q)) (fun _ => ?_)
              rw [r3, r2, naD_c (c' := nCtr B) (fun e => (hF e).2.1), e1, kEx_ok, hR]
              refine s35_129.mpr (s35_131.mpr (s35_132.mpr ?_))
              refine (s35_134 (by first | decide | assumption | omega) (by first | decide | assumption | omega)).mpr ?_
              refine t_contractAt a6 ?_
              rw [hc]
              refine s35_137.mpr (s35_139.mpr (s35_140.mpr ?_))
              refine s35_142.mpr (wif (fun c142 => ?_) (fun c142 => ?_))
              · skip
                cases c142
              · skip
                refine s35_151.mpr ?_
                refine (s35_153 (by first | decide | assumption | omega)).mpr ?_
                try simp (disch := first | decide | assumption | omega) only [kon, knt_some, knt_none, Option.toList_some, Option.toList_none, List.cons_append, List.nil_append, a2, g6, hc]
                exact T156 _ _ ko2
            · skip
              exfalso; simp at c62; omega
      have TP : (B p = 0 ∨ B p = 2) → ks / 2 ^ (B p).toNat % 2 ≠ 0 → Wp d 35 60 [vR (some 5), vR (some N), vI A, vI p, vI (B p), none, none, none] [] al (upI hi 6 3 (p + 1)) hr Q := by
        intro hv hb
        have e9 : tyD nm B ks no p = .ok (p + 1) := by
          rcases a4 with e | e
          · rw [tyD_0 e]; unfold tyP; rw [if_neg (by omega), if_neg (by omega), if_pos hv]
          · rw [tyD_1 e]; unfold nmT; rw [if_pos (by omega)]
        have e8 : tyC B p = B p := by unfold tyC; rw [if_neg (by omega), if_pos hv]
        rw [e9, kEx_ok, e8] at hq
        refine s35_60.mpr ?_
        refine g35_62 (fun c62 => ?_) (fun c62 => ?_) (fun c62 => ?_) (fun c62 => ?_)
        · skip
          exfalso; simp at c62; omega
        · skip
          have c62 := List.mem_singleton.mp c62
          exfalso; omega
        · skip
          have c62 := List.mem_singleton.mp c62
          exfalso; omega
        · skip
          refine s35_178.mpr ?_
          refine (s35_180).mpr ?_
          exact hq
      have TX9 : (B p = 255 ∧ no = 0) ∨ (5 < B p ∧ B p ≠ 255) ∨ (B p ≤ 5 ∧ ks / 2 ^ (B p).toNat % 2 = 0) → Wp d 35 49 [vR (some 5), vR (some N), vI A, vI p, vI (B p), none, none, none] [] al (upI hi 6 3 (p + 1)) hr Q := by
        intro hv
        have e9 : tyP B ks no p = .error p := by unfold tyP; rw [if_neg (by omega), if_pos (by omega)]
        have e8 : tyD nm B ks no p = .error p := by
          rcases a4 with e | e
          · rw [tyD_0 e]; exact e9
          · obtain ⟨q, hq⟩ := hT e
            rw [e9] at hq; cases hq
        rw [e8, kEx_er] at hq
        refine s35_49.mpr ?_
        refine (s35_50 (by first | decide | assumption | omega)).mpr ?_
        refine s35_53.mpr (s35_54.mpr ?_)
        try simp (disch := first | decide | assumption | omega) only [kon, knt_some, knt_none, Option.toList_some, Option.toList_none, List.cons_append, List.nil_append, a2]
        refine (s35_55 (by first | decide | assumption | omega) (by first | decide | assumption | omega)).mpr ?_
        refine b_fail k6 (fun q => ?_) (fun q => absurd (by rw [r4]; exact c4) q)
        refine s35_58.mpr ?_
        refine (s35_59).mpr ?_
        refine hq _ _ ⟨FW.up (FW.up (FW.up FW.rf ⟨rfl, by omega⟩) ⟨rfl, by omega⟩) ⟨rfl, by omega⟩, by (try simp (disch := decide) only [upI_eq, upI_a, upI_i, upR_eq, upR_a, upR_i]), by (try simp (disch := decide) only [upI_eq, upI_a, upI_i, upR_eq, upR_a, upR_i]), by (try simp (disch := decide) only [upI_eq, upI_a, upI_i, upR_eq, upR_a, upR_i]); omega⟩
      have h64 := alw_64 hw
      by_cases c5 : B p ≤ 5
      · have hb := alw_b hw (by omega) c5
        refine s35_0.mpr ?_
        refine (s35_1 (by first | decide | assumption | omega)).mpr ?_
        try simp (disch := first | decide | assumption | omega) only [kon, knt_some, knt_none, Option.toList_some, Option.toList_none, List.cons_append, List.nil_append, a2, hp, hb]
        refine (s35_4 (by first | decide | assumption | omega)).mpr ?_
        refine s35_7.mpr (s35_8.mpr ?_)
        try simp (disch := first | decide | assumption | omega) only [kon, knt_some, knt_none, Option.toList_some, Option.toList_none, List.cons_append, List.nil_append, a2, hp, hb]
        refine (s35_9 (by first | decide | assumption | omega)).mpr ?_
        try simp (disch := first | decide | assumption | omega) only [kon, knt_some, knt_none, Option.toList_some, Option.toList_none, List.cons_append, List.nil_append, a2, hp, hb]
        refine (s35_12 (by first | decide | assumption | omega) (by first | decide | assumption | omega)).mpr ?_
        refine b_take a5 (by omega) (by omega) (fun q => absurd c4 q) (fun _ q => absurd ⟨by omega, by rw [hp]; omega⟩ q) (fun _ q1 q2 => ?_)
        rw [hp]
        refine s35_15.mpr (s35_17.mpr (s35_19.mpr ?_))
        refine s35_22.mpr (wif (fun c22 => ?_) (fun c22 => ?_))
        · first
          | (exfalso; omega)
          | skip
            refine s35_25.mpr (s35_26.mpr (s35_28.mpr ?_))
            try simp (disch := first | decide | assumption | omega) only [kon, knt_some, knt_none, Option.toList_some, Option.toList_none, List.cons_append, List.nil_append, a2, hp, hb]
            refine s35_29.mpr (wif (fun c29 => ?_) (fun c29 => ?_))
            · first
              | (exfalso; omega)
              | skip
                refine s35_34.mpr (s35_36.mpr ?_)
                refine s35_37.mpr (wif (fun c37 => ?_) (fun c37 => ?_))
                · first
                  | (exfalso; omega)
                  | skip
                    exact TX9 (by omega)
                · first
                  | (exfalso; omega)
                  | skip
                    refine s35_40.mpr (s35_41.mpr (s35_43.mpr (s35_44.mpr (s35_45.mpr ?_))))
                    try simp (disch := first | decide | assumption | omega) only [kon, knt_some, knt_none, Option.toList_some, Option.toList_none, List.cons_append, List.nil_append, a2, hp, hb]
                    refine s35_46.mpr (wif (fun c46 => ?_) (fun c46 => ?_))
                    · first
                      | (exfalso; omega)
                      | skip
                        exact TX9 (by omega)
                    · first
                      | (exfalso; omega)
                      | skip
                        skip
                        rcases (by omega : (B p = 0 ∨ B p = 2) ∨ (B p = 1 ∨ B p = 3) ∨ B p = 4 ∨ B p = 5) with e | e | e | e
                        · exact TP e (by omega)
                        · exact TN e (by omega)
                        · exact TB e (by omega)
                        · exact TE e (by omega)
            · first
              | (exfalso; omega)
              | skip
                refine s35_32.mpr ?_
                refine (s35_33).mpr ?_
                exfalso; omega
        · first
          | (exfalso; omega)
          | skip
            refine s35_34.mpr (s35_36.mpr ?_)
            refine s35_37.mpr (wif (fun c37 => ?_) (fun c37 => ?_))
            · first
              | (exfalso; omega)
              | skip
                exact TX9 (by omega)
            · first
              | (exfalso; omega)
              | skip
                refine s35_40.mpr (s35_41.mpr (s35_43.mpr (s35_44.mpr (s35_45.mpr ?_))))
                try simp (disch := first | decide | assumption | omega) only [kon, knt_some, knt_none, Option.toList_some, Option.toList_none, List.cons_append, List.nil_append, a2, hp, hb]
                refine s35_46.mpr (wif (fun c46 => ?_) (fun c46 => ?_))
                · first
                  | (exfalso; omega)
                  | skip
                    exact TX9 (by omega)
                · first
                  | (exfalso; omega)
                  | skip
                    skip
                    rcases (by omega : (B p = 0 ∨ B p = 2) ∨ (B p = 1 ∨ B p = 3) ∨ B p = 4 ∨ B p = 5) with e | e | e | e
                    · exact TP e (by omega)
                    · exact TN e (by omega)
                    · exact TB e (by omega)
                    · exact TE e (by omega)
      · by_cases c6 : B p = 255 ∧ no ≠ 0
        · have e9 : tyD nm B ks no p = .ok (p + 1) := by
            rcases a4 with e | e
            · rw [tyD_0 e]; unfold tyP; rw [if_pos ⟨c6.2, c6.1⟩]
            · rw [tyD_1 e]; unfold nmT; rw [if_pos (by omega)]
          have e8 : tyC B p = -1 := by unfold tyC; rw [if_pos c6.1]
          rw [e9, kEx_ok, e8] at hq
          have h64 := h64.mpr c6.2
          refine s35_0.mpr ?_
          refine (s35_1 (by first | decide | assumption | omega)).mpr ?_
          try simp (disch := first | decide | assumption | omega) only [kon, knt_some, knt_none, Option.toList_some, Option.toList_none, List.cons_append, List.nil_append, a2, hp]
          refine (s35_4 (by first | decide | assumption | omega)).mpr ?_
          refine s35_7.mpr (s35_8.mpr ?_)
          try simp (disch := first | decide | assumption | omega) only [kon, knt_some, knt_none, Option.toList_some, Option.toList_none, List.cons_append, List.nil_append, a2, hp]
          refine (s35_9 (by first | decide | assumption | omega)).mpr ?_
          try simp (disch := first | decide | assumption | omega) only [kon, knt_some, knt_none, Option.toList_some, Option.toList_none, List.cons_append, List.nil_append, a2, hp]
          refine (s35_12 (by first | decide | assumption | omega) (by first | decide | assumption | omega)).mpr ?_
          refine b_take a5 (by omega) (by omega) (fun q => absurd c4 q) (fun _ q => absurd ⟨by omega, by rw [hp]; omega⟩ q) (fun _ q1 q2 => ?_)
          rw [hp]
          refine s35_15.mpr (s35_17.mpr (s35_19.mpr ?_))
          refine s35_22.mpr (wif (fun c22 => ?_) (fun c22 => ?_))
          · first
            | (exfalso; omega)
            | skip
              refine s35_25.mpr (s35_26.mpr (s35_28.mpr ?_))
              try simp (disch := first | decide | assumption | omega) only [kon, knt_some, knt_none, Option.toList_some, Option.toList_none, List.cons_append, List.nil_append, a2, hp]
              refine s35_29.mpr (wif (fun c29 => ?_) (fun c29 => ?_))
              · first
                | (exfalso; omega)
                | skip
                  exfalso; omega
              · first
                | (exfalso; omega)
                | skip
                  refine s35_32.mpr ?_
                  refine (s35_33).mpr ?_
                  exact hq
          · first
            | (exfalso; omega)
            | skip
              exfalso; omega
        · have h64 : B p = 255 → fAnd A 64 = 0 := fun e => Classical.byContradiction fun q => c6 ⟨e, h64.mp q⟩
          refine s35_0.mpr ?_
          refine (s35_1 (by first | decide | assumption | omega)).mpr ?_
          try simp (disch := first | decide | assumption | omega) only [kon, knt_some, knt_none, Option.toList_some, Option.toList_none, List.cons_append, List.nil_append, a2, hp]
          refine (s35_4 (by first | decide | assumption | omega)).mpr ?_
          refine s35_7.mpr (s35_8.mpr ?_)
          try simp (disch := first | decide | assumption | omega) only [kon, knt_some, knt_none, Option.toList_some, Option.toList_none, List.cons_append, List.nil_append, a2, hp]
          refine (s35_9 (by first | decide | assumption | omega)).mpr ?_
          try simp (disch := first | decide | assumption | omega) only [kon, knt_some, knt_none, Option.toList_some, Option.toList_none, List.cons_append, List.nil_append, a2, hp]
          refine (s35_12 (by first | decide | assumption | omega) (by first | decide | assumption | omega)).mpr ?_
          refine b_take a5 (by omega) (by omega) (fun q => absurd c4 q) (fun _ q => absurd ⟨by omega, by rw [hp]; omega⟩ q) (fun _ q1 q2 => ?_)
          rw [hp]
          refine s35_15.mpr (s35_17.mpr (s35_19.mpr ?_))
          refine s35_22.mpr (wif (fun c22 => ?_) (fun c22 => ?_))
          · skip
            refine s35_25.mpr (s35_26.mpr (s35_28.mpr ?_))
            try simp (disch := first | decide | assumption | omega) only [kon, knt_some, knt_none, Option.toList_some, Option.toList_none, List.cons_append, List.nil_append, a2, hp]
            refine s35_29.mpr (wif (fun c29 => ?_) (fun c29 => ?_))
            · skip
              refine s35_34.mpr (s35_36.mpr ?_)
              refine s35_37.mpr (wif (fun c37 => ?_) (fun c37 => ?_))
              · skip
                exact TX9 (by omega)
              · skip
                exfalso; omega
            · skip
              exact absurd (h64 (by assumption)) (by assumption)
          · skip
            refine s35_34.mpr (s35_36.mpr ?_)
            refine s35_37.mpr (wif (fun c37 => ?_) (fun c37 => ?_))
            · skip
              exact TX9 (by omega)
            · skip
              exfalso; omega
  · have fm := fm c4
    refine s35_0.mpr ?_
    refine (s35_1 (by first | decide | assumption | omega)).mpr ?_
    try simp (disch := first | decide | assumption | omega) only [kon, knt_some, knt_none, Option.toList_some, Option.toList_none, List.cons_append, List.nil_append, a2, hp]
    refine (s35_4 (by first | decide | assumption | omega)).mpr ?_
    refine s35_7.mpr (s35_8.mpr ?_)
    try simp (disch := first | decide | assumption | omega) only [kon, knt_some, knt_none, Option.toList_some, Option.toList_none, List.cons_append, List.nil_append, a2, hp]
    refine (s35_9 (by first | decide | assumption | omega)).mpr ?_
    try simp (disch := first | decide | assumption | omega) only [kon, knt_some, knt_none, Option.toList_some, Option.toList_none, List.cons_append, List.nil_append, a2, hp]
    refine (s35_12 (by first | decide | assumption | omega) (by first | decide | assumption | omega)).mpr ?_
    refine b_take a5 (by omega) (by omega) (fun _ => ?_) (fun q => absurd q c4) (fun q => absurd q c4)
    refine s35_15.mpr (s35_17.mpr (s35_19.mpr ?_))
    refine s35_22.mpr (wif (fun c22 => ?_) (fun c22 => ?_))
    · first
      | (exfalso; omega)
      | skip
        refine s35_25.mpr (s35_26.mpr (s35_28.mpr ?_))
        try simp (disch := first | decide | assumption | omega) only [kon, knt_some, knt_none, Option.toList_some, Option.toList_none, List.cons_append, List.nil_append, a2, hp]
        refine s35_29.mpr (wif (fun c29 => ?_) (fun c29 => ?_))
        · first
          | (exfalso; omega)
          | skip
            refine s35_34.mpr (s35_36.mpr ?_)
            refine s35_37.mpr (wif (fun c37 => ?_) (fun c37 => ?_))
            · first
              | (exfalso; omega)
              | skip
                refine s35_49.mpr ?_
                refine (s35_50 (by first | decide | assumption | omega)).mpr ?_
                refine s35_53.mpr (s35_54.mpr ?_)
                try simp (disch := first | decide | assumption | omega) only [kon, knt_some, knt_none, Option.toList_some, Option.toList_none, List.cons_append, List.nil_append, a2, hp]
                refine (s35_55 (by first | decide | assumption | omega) (by first | decide | assumption | omega)).mpr ?_
                exfalso; omega
            · first
              | (exfalso; omega)
              | skip
                refine s35_40.mpr (s35_41.mpr (s35_43.mpr (s35_44.mpr (s35_45.mpr ?_))))
                try simp (disch := first | decide | assumption | omega) only [kon, knt_some, knt_none, Option.toList_some, Option.toList_none, List.cons_append, List.nil_append, a2, hp]
                refine s35_46.mpr (wif (fun c46 => ?_) (fun c46 => ?_))
                · first
                  | (exfalso; omega)
                  | skip
                    refine s35_49.mpr ?_
                    refine (s35_50 (by first | decide | assumption | omega)).mpr ?_
                    refine s35_53.mpr (s35_54.mpr ?_)
                    try simp (disch := first | decide | assumption | omega) only [kon, knt_some, knt_none, Option.toList_some, Option.toList_none, List.cons_append, List.nil_append, a2, hp]
                    refine (s35_55 (by first | decide | assumption | omega) (by first | decide | assumption | omega)).mpr ?_
                    exfalso; omega
                · first
                  | (exfalso; omega)
                  | skip
                    refine s35_60.mpr ?_
                    refine g35_62 (fun c62 => ?_) (fun c62 => ?_) (fun c62 => ?_) (fun c62 => ?_)
                    · skip
                      exfalso; simp at c62
                    · skip
                      have c62 := List.mem_singleton.mp c62
                      exfalso; simp at c62
                    · skip
                      have c62 := List.mem_singleton.mp c62
                      exfalso; simp at c62
                    · skip
                      refine s35_178.mpr ?_
                      refine (s35_180).mpr ?_
                      exact fm _
        · first
          | (exfalso; omega)
          | skip
            refine s35_32.mpr ?_
            refine (s35_33).mpr ?_
            exact fm _
    · first
      | (exfalso; omega)
      | skip
        refine s35_34.mpr (s35_36.mpr ?_)
        refine s35_37.mpr (wif (fun c37 => ?_) (fun c37 => ?_))
        · first
          | (exfalso; omega)
          | skip
            refine s35_49.mpr ?_
            refine (s35_50 (by first | decide | assumption | omega)).mpr ?_
            refine s35_53.mpr (s35_54.mpr ?_)
            try simp (disch := first | decide | assumption | omega) only [kon, knt_some, knt_none, Option.toList_some, Option.toList_none, List.cons_append, List.nil_append, a2, hp]
            refine (s35_55 (by first | decide | assumption | omega) (by first | decide | assumption | omega)).mpr ?_
            exfalso; omega
        · first
          | (exfalso; omega)
          | skip
            refine s35_40.mpr (s35_41.mpr (s35_43.mpr (s35_44.mpr (s35_45.mpr ?_))))
            try simp (disch := first | decide | assumption | omega) only [kon, knt_some, knt_none, Option.toList_some, Option.toList_none, List.cons_append, List.nil_append, a2, hp]
            refine s35_46.mpr (wif (fun c46 => ?_) (fun c46 => ?_))
            · first
              | (exfalso; omega)
              | skip
                refine s35_49.mpr ?_
                refine (s35_50 (by first | decide | assumption | omega)).mpr ?_
                refine s35_53.mpr (s35_54.mpr ?_)
                try simp (disch := first | decide | assumption | omega) only [kon, knt_some, knt_none, Option.toList_some, Option.toList_none, List.cons_append, List.nil_append, a2, hp]
                refine (s35_55 (by first | decide | assumption | omega) (by first | decide | assumption | omega)).mpr ?_
                exfalso; omega
            · first
              | (exfalso; omega)
              | skip
                refine s35_60.mpr ?_
                refine g35_62 (fun c62 => ?_) (fun c62 => ?_) (fun c62 => ?_) (fun c62 => ?_)
                · skip
                  exfalso; simp at c62
                · skip
                  have c62 := List.mem_singleton.mp c62
                  exfalso; simp at c62
                · skip
                  have c62 := List.mem_singleton.mp c62
                  exfalso; simp at c62
                · skip
                  refine s35_178.mpr ?_
                  refine (s35_180).mpr ?_
                  exact fm _
end CD3
