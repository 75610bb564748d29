/-! THE REFERENCE: load, whole; what it tells -/
section ML3
variable {d : Nat} {al : AL} {hi : HI} {hr : HR} {Q : QQ} {B : Int → Int}
/-- what a load tells of a text: the fault w at q; 0 at -1: none -/
def ldR (B : Int → Int) (n w q : Int) : Prop := (modP B n = .error q ∧ w = 1) ∨ ((∃ p, modP B n = .ok p) ∧ ((namP B = .error q ∧ w = 1) ∨ ((∃ p, namP B = .ok p) ∧ ((∃ f, 0 ≤ f ∧ f < nFn B ∧ (∀ g, 0 ≤ g → g < f → ∃ W, Clo B g W) ∧ (∀ W, ¬ Clo B f W) ∧ w = 2 ∧ q = cAt B f) ∨ ((∀ f, 0 ≤ f → f < nFn B → ∃ W, Clo B f W) ∧ w = 0 ∧ q = -1)))))
theorem ldR_u {n w q w' q' : Int} (h : ldR B n w q) (h' : ldR B n w' q') : w = w' ∧ q = q' := by
  rcases h with ⟨h1, h2⟩ | ⟨⟨p, h1⟩, h⟩
  · rcases h' with ⟨g1, g2⟩ | ⟨⟨p, g1⟩, -⟩
    · rw [h1] at g1; cases g1; exact ⟨by omega, rfl⟩
    · rw [h1] at g1; cases g1
  · rcases h' with ⟨g1, g2⟩ | ⟨-, h'⟩
    · rw [h1] at g1; cases g1
    rcases h with ⟨h1, h2⟩ | ⟨⟨p, h1⟩, h⟩
    · rcases h' with ⟨g1, g2⟩ | ⟨⟨p, g1⟩, -⟩
      · rw [h1] at g1; cases g1; exact ⟨by omega, rfl⟩
      · rw [h1] at g1; cases g1
    · rcases h' with ⟨g1, g2⟩ | ⟨-, h'⟩
      · rw [h1] at g1; cases g1
      rcases h with ⟨f, f0, f1, f2, f3, f4, f5⟩ | ⟨f2, f4, f5⟩
      · rcases h' with ⟨g, g0, g1, g2, g3, g4, g5⟩ | ⟨g2, g4, g5⟩
        · have : f = g := by
            rcases Int.lt_trichotomy f g with c | c | c
            · obtain ⟨W, hW⟩ := g2 f f0 c; exact absurd hW (f3 W)
            · exact c
            · obtain ⟨W, hW⟩ := f2 g g0 c; exact absurd hW (g3 W)
          subst this
          exact ⟨by omega, by omega⟩
        · obtain ⟨W, hW⟩ := g2 f f0 f1; exact absurd hW (f3 W)
      · rcases h' with ⟨g, g0, g1, g2, g3, g4, g5⟩ | ⟨g2, g4, g5⟩
        · obtain ⟨W, hW⟩ := f2 g g0 g1; exact absurd hW (g3 W)
        · exact ⟨by omega, by omega⟩
/-- what a load writes, beside the shelf -/
def wLd (a : Nat) (i : Int) : Prop := (a = 49 ∧ (i = 0 ∨ i = 2 ∨ (22 ≤ i ∧ i ≤ 28) ∨ (35 ≤ i ∧ i ≤ 38))) ∨ wSl 12 a i ∨ (a = 71 ∧ 0 ≤ i ∧ i < 240) ∨ (72 ≤ a ∧ a ≤ 76)
theorem wMd_Ld {a : Nat} {i : Int} (h : wMd a i) : wLd a i := by
  unfold wMd at h
  unfold wLd wSl
  rcases h with h | h | h | h | h | h | h | h | h
  · left; omega
  all_goals (right; left)
  · right; left; omega
  · right; right; left; omega
  · right; right; right; left; omega
  · right; right; right; right; left; omega
  · right; right; right; right; right; left; omega
  · right; right; right; right; right; right; left; omega
  · right; right; right; right; right; right; right; left; omega
  · right; right; right; right; right; right; right; right; omega
theorem wTk_Ld {a : Nat} {i : Int} (h : wTk a i) : wLd a i := by
  unfold wTk at h
  unfold wLd wSl
  rcases h with h | h | h
  · right; left; left; omega
  · right; left; right; left; omega
  · left; omega
theorem wT_Ld {a : Nat} {i : Int} (h : wT a i) : wLd a i := by
  unfold wT wS wFl at h
  unfold wLd
  rcases h with (h | h | h) | h | h | h | h | h
  · left; omega
  · right; right; right; omega
  · right; right; right; omega
  · left; omega
  · right; right; left; exact h
  · right; right; right; omega
  · right; right; right; omega
  · right; right; right; omega
theorem wLd_49 {i : Int} (h : i = 0 ∨ i = 2 ∨ (22 ≤ i ∧ i ≤ 28) ∨ (35 ≤ i ∧ i ≤ 38)) : wLd 49 i := Or.inl ⟨rfl, h⟩
theorem tB_rng (n k : Int) : -1 ≤ tB hi n k ∧ tB hi n k ≤ 255 := by unfold tB; split <;> omega
theorem tB_eq {hi' : HI} {n : Int} (h : hi' 50 = hi 50) : tB hi' n = tB hi n := by unfold tB; rw [h]
/-- a text that can be loaded -/
def GB (B : Int → Int) (n : Int) : Prop := (∃ p, modP B n = .ok p) ∧ (∃ p, namP B = .ok p) ∧ ∀ f, 0 ≤ f → f < nFn B → ∃ W, Clo B f W
theorem thn_ld {pc : Nat} {ls : List AV} (h1 : 25 ≤ pc) (h2 : pc < 87) : thn d 264 pc ls al hi hr Q = Wp d 264 91 (ls.set 2 none) [] al hi hr Q := by
  unfold thn hdl
  rw [if_pos rfl, if_pos ⟨h1, h2⟩]
theorem m_load {n : Int} (hA : SA al) (hR : MR hr) (hd : 10 ≤ d) (ht : hi 49 2 ≤ 2000) (hC : ∀ q, 240 ≤ q → hi 71 q ≠ 1) (hsh : ∀ m, 0 ≤ m → m < 6 → hi 56 m = 0 ∨ hi 56 m = 1)
    (r2 : ¬ (0 ≤ n ∧ n ≤ hi 49 2) → Q (some (some (vI (-2)))) al (upI hi 49 0 0) hr)
    (er : 0 ≤ n → n ≤ hi 49 2 → ∀ w q hi', ldR (tB hi n) n w q → w ≠ 0 → FW wLd hi hi' → hi' 49 22 = w → hi' 49 23 = q → hi' 49 24 = 1 → hi' 49 2 = 0 → Q (some (some (vI (-1)))) al hi' hr)
    (fu : 0 ≤ n → n ≤ hi 49 2 → ∀ hi', ldR (tB hi n) n 0 (-1) → FW wLd hi hi' → hi' 49 22 = 0 → hi' 49 23 = -1 → hi' 49 24 = 1 → hi' 49 2 = 0 → (∀ m, 0 ≤ m → m < 6 → hi 56 m = 1) → Q (some (some (vI (-1)))) al hi' hr)
    (ok : 0 ≤ n → n ≤ hi 49 2 → ∀ m hi', ldR (tB hi n) n 0 (-1) → 0 ≤ m → m < 6 → hi 56 m = 0 → (∀ j, 0 ≤ j → j < m → hi 56 j = 1) → FW (fun a i => wLd a i ∨ wSl m a i ∨ (a = 56 ∧ i = m)) hi hi' → hi' 49 22 = 0 → hi' 49 23 = -1 → hi' 49 24 = 1 → hi' 49 2 = 0 → hi' 56 m = 1 → MB hi' m (tB hi n) → hi' 52 m = n → Sh (tB hi n) → NV (tB hi n) → Q (some (some (vI m))) al hi' hr) : Ev d 264 [vR (some 49), vI n] al hi hr Q := by
  have kM : isK al 49 13 := hA.k (by decide) (by decide) rfl
  have l56 := SA.len (a := 56) (n := 13) hA (by decide) (by decide) rfl
  have l55 := SA.len (a := 55) (n := 13) hA (by decide) (by decide) rfl
  have l69 := SA.len (a := 69) (n := 130) hA (by decide) (by decide) rfl
  have l56 := SA.len (a := 56) (n := 13) hA (by decide) (by decide) rfl
  rw [e264]
  by_cases hn : 0 ≤ n ∧ n ≤ hi 49 2
  case neg =>
    refine s264_0.mpr (s264_1.mpr ?_)
    refine (s264_2 kM).mpr ?_
    refine s264_5.mpr ?_
    try simp (disch := first | decide | assumption | omega) only [upI_eq, upI_a, upI_i, upR_eq, upR_a, upR_i]
    refine s264_6.mpr (wif (fun c6 => ?_) (fun c6 => ?_))
    · first
      | (exfalso; omega)
      | skip
        refine s264_17.mpr ?_
        refine (s264_19).mpr ?_
        exact r2 hn
    · first
      | (exfalso; omega)
      | skip
        refine s264_9.mpr (s264_10.mpr ?_)
        refine (s264_11 kM).mpr ?_
        try simp (disch := first | decide | assumption | omega) only [upI_eq, upI_a, upI_i, upR_eq, upR_a, upR_i]
        refine s264_14.mpr (wif (fun c14 => ?_) (fun c14 => ?_))
        · first
          | (exfalso; omega)
          | skip
            refine s264_17.mpr ?_
            refine (s264_19).mpr ?_
            exact r2 hn
        · first
          | (exfalso; omega)
          | skip
            exfalso; omega
  obtain ⟨n0, n1⟩ := hn
  have er := er n0 n1
  have fu := fu n0 n1
  have ok := ok n0 n1
  generalize hBd : tB hi n = B at *
  have hrg : ∀ k, -1 ≤ B k ∧ B k ≤ 255 := fun k => by rw [← hBd]; exact tB_rng n k
  have T90 : ∀ w q h l2, ldR B n w q → w ≠ 0 → FW wLd hi h → h 49 22 = w → h 49 23 = q → h 49 24 = 1 → h 49 2 = 0 → Wp d 264 91 [vR (some 49), vI n, l2] [] al h hr Q := by
    intro w q h l2 a1 a2 a3 a4 a5 a6 a7
    refine s264_91.mpr ?_
    refine (s264_92).mpr ?_
    exact er w q h a1 a2 a3 a4 a5 a6 a7
  -- on the shelf
  have T93 : ∀ h, ldR B n 0 (-1) → FW wLd hi h → h 49 22 = 0 → h 49 23 = -1 → h 49 24 = 1 → h 49 2 = 0 → MB h 12 B → h 52 12 = n → Sh B → NV B → Wp d 264 95 [vR (some 49), vI n, vI 0] [] al h hr Q := by
    intro h a1 a2 a3 a4 a5 a6 a7 a8 hS hN
    have e56 : ∀ m, h 56 m = hi 56 m := fun m => a2 56 m (by unfold wLd wSl; omega)
    have key : ∀ (k : Nat) (m : Int), 0 ≤ m → m + k = 6 → (∀ j, 0 ≤ j → j < m → hi 56 j = 1) → Wp d 264 95 [vR (some 49), vI n, vI m] [] al h hr Q := by
      intro k
      induction k with
      | zero =>
        intro m m0 hm hj
        have m6 : m = 6 := by omega
        subst m6
        refine s264_95.mpr (s264_96.mpr ?_)
        refine s264_98.mpr (wif (fun c98 => ?_) (fun c98 => ?_))
        · first
          | (exfalso; omega)
          | skip
            exfalso; omega
        · first
          | (exfalso; omega)
          | skip
            refine s264_116.mpr (s264_117.mpr ?_)
            refine s264_119.mpr (wif (fun c119 => ?_) (fun c119 => ?_))
            · first
              | (exfalso; omega)
              | skip
                refine s264_122.mpr ?_
                refine (s264_123).mpr ?_
                exact fu h a1 a2 a3 a4 a5 a6 hj
            · first
              | (exfalso; omega)
              | skip
                exfalso; omega
      | succ k ih =>
        intro m m0 hm hj
        have em := e56 m
        rcases hsh m m0 (by omega) with c | c
        · have R1 : Ev (d - 1) 267 [vR (some 49), vI 12, vI m] al h hr (kon d 264 128 131 [vR (some 49), vI n, vI m] [] Q) := by
            refine m_copy hA hR (by omega) (by omega) (by omega) (by omega) (by omega) ?_
            simp only [kon, knt_some, knt_none, Option.toList_some, Option.toList_none, List.cons_append, List.nil_append]
            have f1 : FW (fun a i => wLd a i ∨ wSl m a i ∨ (a = 56 ∧ i = m)) hi (cpH h 12 m) := (a2.mn (fun a i q => Or.inl q)).tr ((cp_fw (by omega)).mn (fun a i q => Or.inr (Or.inl q)))
            have f2 : ∀ a i, a = 49 ∨ a = 56 → cpH h 12 m a i = h a i := fun a i ha => cp_fw (by omega) a i (by unfold wSl; omega)
            have f3 := MB.mv a7 hS ⟨m0, by omega⟩ (cp_eq (hi := h) (fr := 12) (to := m) (by omega) (by omega) (by omega) (by omega))
            have f4 : cpH h 12 m 52 m = n := (((cp_eq (hi := h) (fr := 12) (to := m) (by omega) (by omega) (by omega) (by omega))).2.1 52 (by decide) (by decide)).trans a8
            refine s264_131.mpr ((s264_132 kM).mpr ?_)
            rw [mr_8 hR]
            refine s264_135.mpr (s264_136.mpr ?_)
            refine (s264_137Z (hA.k (by decide) (by decide) rfl) (by first | assumption | omega) (by first | assumption | omega)).mpr ?_
            refine s264_138.mpr ?_
            try simp (disch := first | decide | assumption | omega) only [upI_eq, upI_a, upI_i, upR_eq, upR_a, upR_i]
            refine (s264_139).mpr ?_
            refine ok m _ a1 m0 (by omega) c hj (FW.up f1 (Or.inr (Or.inr ⟨rfl, rfl⟩))) ?_ ?_ ?_ ?_ (by rw [upI_eq]; rfl) ?_ ?_ hS hN
            · (try simp (disch := decide) only [upI_eq, upI_a, upI_i, upR_eq, upR_a, upR_i]); rw [f2 49 _ (Or.inl rfl)]; exact a3
            · (try simp (disch := decide) only [upI_eq, upI_a, upI_i, upR_eq, upR_a, upR_i]); rw [f2 49 _ (Or.inl rfl)]; exact a4
            · (try simp (disch := decide) only [upI_eq, upI_a, upI_i, upR_eq, upR_a, upR_i]); rw [f2 49 _ (Or.inl rfl)]; exact a5
            · (try simp (disch := decide) only [upI_eq, upI_a, upI_i, upR_eq, upR_a, upR_i]); rw [f2 49 _ (Or.inl rfl)]; exact a6
            · exact f3.mv hS ⟨m0, by omega⟩ (sEq_of (w := fun a i => a = 56) (FW.up FW.rf rfl) (by omega) (fun a i q => by unfold wSl at q; omega))
            · (try simp (disch := decide) only [upI_eq, upI_a, upI_i, upR_eq, upR_a, upR_i]); exact f4
          refine s264_95.mpr (s264_96.mpr ?_)
          refine s264_98.mpr (wif (fun c98 => ?_) (fun c98 => ?_))
          · first
            | (exfalso; omega)
            | skip
              refine s264_101.mpr ((s264_102 kM).mpr ?_)
              rw [mr_8 hR]
              refine s264_105.mpr ?_
              refine (s264_106Z (hA.k (by decide) (by decide) rfl) (by first | assumption | omega) (by first | assumption | omega)).mpr ?_
              try simp (disch := first | decide | assumption | omega) only [em, c]
              refine s264_107.mpr (wif (fun c107 => ?_) (fun c107 => ?_))
              · first
                | (exfalso; omega)
                | skip
                  refine s264_116.mpr (s264_117.mpr ?_)
                  refine s264_119.mpr (wif (fun c119 => ?_) (fun c119 => ?_))
                  · first
                    | (exfalso; omega)
                    | skip
                      exfalso; omega
                  · first
                    | (exfalso; omega)
                    | skip
                      refine s264_124.mpr (s264_125.mpr (s264_127.mpr ?_))
                      refine (s264_128 (by omega) kM).mpr ?_
                      exact R1
              · first
                | (exfalso; omega)
                | skip
                  exfalso; omega
          · first
            | (exfalso; omega)
            | skip
              refine s264_116.mpr (s264_117.mpr ?_)
              refine s264_119.mpr (wif (fun c119 => ?_) (fun c119 => ?_))
              · first
                | (exfalso; omega)
                | skip
                  exfalso; omega
              · first
                | (exfalso; omega)
                | skip
                  refine s264_124.mpr (s264_125.mpr (s264_127.mpr ?_))
                  refine (s264_128 (by omega) kM).mpr ?_
                  exact R1
        · skip
          refine s264_95.mpr (s264_96.mpr ?_)
          refine s264_98.mpr (wif (fun c98 => ?_) (fun c98 => ?_))
          · first
            | (exfalso; omega)
            | skip
              refine s264_101.mpr ((s264_102 kM).mpr ?_)
              rw [mr_8 hR]
              refine s264_105.mpr ?_
              refine (s264_106Z (hA.k (by decide) (by decide) rfl) (by first | assumption | omega) (by first | assumption | omega)).mpr ?_
              try simp (disch := first | decide | assumption | omega) only [em, c, fAdd_id]
              refine s264_107.mpr (wif (fun c107 => ?_) (fun c107 => ?_))
              · first
                | (exfalso; omega)
                | skip
                  exfalso; omega
              · first
                | (exfalso; omega)
                | skip
                  refine s264_110.mpr (s264_113.mpr ?_)
                  try simp (disch := first | decide | assumption | omega) only [em, c, fAdd_id]
                  refine ih (m + 1) (by omega) (by omega) (fun j a b => ?_)
                  by_cases e : j = m
                  · rw [e]; exact c
                  · exact hj j a (by omega)
          · first
            | (exfalso; omega)
            | skip
              exfalso; omega
    exact key 6 0 (Int.le_refl _) (by omega) (fun j a b => absurd b (by omega))
  -- the functions, one by one
  have T43 : ∀ h, FW wLd hi h → h 49 22 = 0 → h 49 23 = -1 → h 49 24 = 1 → h 49 2 = 0 → MB h 12 B → h 52 12 = n → Sh B → NV B → (∃ p, modP B n = .ok p) → (∃ p, namP B = .ok p) → Wp d 264 43 [vR (some 49), vI n, vI 0] [] al h hr Q := by
    intro h a2 a3 a4 a5 a6 a7 a8 hS hN hm hnm
    have f1 : 1 ≤ nFn B := hS.2.2.2.2.2.2.2.2.1
    have f10 : nFn B ≤ 10 := hS.2.2.2.2.2.2.2.2.2.1
    refine wp_cnt (N := (nFn B).toNat) (fun k ls h3 => ls = [vR (some 49), vI n, vI k] ∧ FW wT h h3 ∧ (∀ f : Int, 0 ≤ f → f < k → ∃ W, Clo B f W)) ?_ ?_ _ _ ⟨rfl, FW.rf, fun j a b => absurd b (by omega)⟩
    · rintro k ls h3 hk ⟨rfl, w3, hW⟩ nx
      have hM3 := a7.wt w3
      have e55 : h3 55 12 = nFn B := hM3.2.2.2.2.2.2.2.2.1
      have hC3 : ∀ q, 240 ≤ q → h3 71 q ≠ 1 := fun q hq => by
        rw [w3 71 q (by unfold wT wS wFl; omega), a2 71 q (by unfold wLd wSl; omega)]; exact hC q hq
      have e69 : h3 69 (120 + k) = cAt B k := (hM3.2.2.2.2.2.2.2.2.2 k (by omega) (by omega)).2.2.2.2.2
      have w9 : FW wLd hi h3 := a2.tr (w3.mn (fun a i q => wT_Ld q))
      have R1 : Ev (d - 1) 243 [vR (some 49), vI 12, vI (120 + k)] al h3 hr (kon d 264 61 64 [vR (some 49), vI n, vI k] [] Q) := by
        have := m_right (d := d - 1) (Q := kon d 264 61 64 [vR (some 49), vI n, vI k] [] Q) (m := 12) (g := k) hA hR (by omega) hM3 hS hN ⟨by omega, by omega⟩ hC3 (fun h4 x1 x2 x3 x4 x5 x6 => ?_) (fun h4 x1 x2 => ?_)
        · exact this
        · simp only [kon, knt_some, knt_none, Option.toList_some, Option.toList_none, List.cons_append, List.nil_append]
          refine s264_64.mpr (wif (fun c64 => ?_) (fun c64 => ?_))
          · first
            | (exfalso; omega)
            | skip
              exfalso; omega
          · first
            | (exfalso; omega)
            | skip
              refine s264_81.mpr (s264_84.mpr ?_)
              try simp (disch := first | decide | assumption | omega) only [fAdd_id]
              refine nx _ _ ⟨by rw [cast1], w3.tr x1, fun f f0 f1 => ?_⟩
              by_cases e : f = k
              · rw [e]; exact ⟨_, x2⟩
              · exact hW f f0 (by omega)
        · simp only [kon, knt_some, knt_none, Option.toList_some, Option.toList_none, List.cons_append, List.nil_append]
          have e69' : h4 69 (120 + k) = cAt B k := (x1 69 _ (wT_n (by decide) (by decide))).trans e69
          have w10 : FW wLd hi h4 := w9.tr (x1.mn (fun a i q => wT_Ld q))
          have w4 : ∀ i, (i = 24 ∨ i = 2) → h4 49 i = h 49 i := fun i hi9 => by rw [x1 49 i (by unfold wT wS wFl; omega), w3 49 i (by unfold wT wS wFl; omega)]
          refine s264_64.mpr (wif (fun c64 => ?_) (fun c64 => ?_))
          · first
            | (exfalso; omega)
            | skip
              refine s264_67.mpr (s264_68.mpr (s264_69.mpr ((s264_70 kM).mpr ?_)))
              rw [mr_21 hR]
              refine s264_73.mpr (s264_75.mpr (s264_76.mpr ?_))
              try simp (disch := first | decide | assumption | omega) only [fAdd_id, e69']
              refine (s264_77 (hA.k (by decide) (by decide) rfl) (by first | assumption | omega) (by first | assumption | omega)).mpr ?_
              try simp (disch := first | decide | assumption | omega) only [fAdd_id, e69']
              refine (s264_78 (by omega) kM).mpr ?_
              refine (m_fails hA hR).mpr ?_
              simp only [kon, knt_some, knt_none, Option.toList_some, Option.toList_none, List.cons_append, List.nil_append]
              rw [thn_ld (by decide) (by decide)]
              exact T90 2 (cAt B k) _ _ (Or.inr ⟨hm, Or.inr ⟨hnm, Or.inl ⟨k, by omega, by omega, hW, x2, rfl, rfl⟩⟩⟩) (by decide) (FW.up (FW.up w10 (wLd_49 (by omega))) (wLd_49 (by omega))) (by (try simp (disch := decide) only [upI_eq, upI_a, upI_i, upR_eq, upR_a, upR_i])) (by (try simp (disch := decide) only [upI_eq, upI_a, upI_i, upR_eq, upR_a, upR_i])) (by (try simp (disch := decide) only [upI_eq, upI_a, upI_i, upR_eq, upR_a, upR_i]); rw [w4 24 (by omega)]; exact a5) (by (try simp (disch := decide) only [upI_eq, upI_a, upI_i, upR_eq, upR_a, upR_i]); rw [w4 2 (by omega)]; exact a6)
          · first
            | (exfalso; omega)
            | skip
              exfalso; omega
      refine s264_43.mpr (s264_44.mpr ((s264_45 kM).mpr ?_))
      rw [mr_7 hR]
      refine s264_48.mpr ?_
      refine (s264_50 (hA.k (by decide) (by decide) rfl) (by first | assumption | omega) (by first | assumption | omega)).mpr ?_
      try simp (disch := first | decide | assumption | omega) only [e55, fAdd_id]
      refine s264_51.mpr (wif (fun c51 => ?_) (fun c51 => ?_))
      · first
        | (exfalso; omega)
        | skip
          refine s264_54.mpr (s264_55.mpr (s264_57.mpr (s264_59.mpr (s264_60.mpr ?_))))
          try simp (disch := first | decide | assumption | omega) only [e55, fAdd_id]
          refine (s264_61 (by omega) kM).mpr ?_
          exact R1
      · first
        | (exfalso; omega)
        | skip
          exfalso; omega
    · rintro ls h3 ⟨rfl, w3, hW⟩
      have hM3 := a7.wt w3
      have e55 : h3 55 12 = nFn B := hM3.2.2.2.2.2.2.2.2.1
      have w9 : FW wLd hi h3 := a2.tr (w3.mn (fun a i q => wT_Ld q))
      have w4 : ∀ i, (i = 22 ∨ i = 23 ∨ i = 24 ∨ i = 2) → h3 49 i = h 49 i := fun i hi9 => w3 49 i (by unfold wT wS wFl; omega)
      refine s264_43.mpr (s264_44.mpr ((s264_45 kM).mpr ?_))
      rw [mr_7 hR]
      refine s264_48.mpr ?_
      refine (s264_50 (hA.k (by decide) (by decide) rfl) (by first | assumption | omega) (by first | assumption | omega)).mpr ?_
      try simp (disch := first | decide | assumption | omega) only [e55]
      refine s264_51.mpr (wif (fun c51 => ?_) (fun c51 => ?_))
      · first
        | (exfalso; omega)
        | skip
          exfalso; omega
      · first
        | (exfalso; omega)
        | skip
          refine s264_87.mpr (s264_93.mpr (s264_94.mpr ?_))
          exact T93 h3 (Or.inr ⟨hm, Or.inr ⟨hnm, Or.inr ⟨fun f f0 f1 => hW f f0 (by omega), rfl, rfl⟩⟩⟩) w9 ((w4 22 (by omega)).trans a3) ((w4 23 (by omega)).trans a4) ((w4 24 (by omega)).trans a5) ((w4 2 (by omega)).trans a6) hM3 ((w3 52 12 (wT_n (by decide) (by decide))).trans a8) hS hN
  have R2 : ∀ h, FW wLd hi h → h 49 22 = 0 → h 49 23 = -1 → h 49 24 = 1 → h 49 2 = 0 → MB h 12 B → h 52 12 = n → Sh B → (∃ p, modP B n = .ok p) → Ev (d - 1) 239 [vR (some 49), vI 12] al h hr (kon d 264 38 41 [vR (some 49), vI n, none] [] Q) := by
    intro h a2 a3 a4 a5 a6 a7 a8 hS hm
    refine m_looksAt (B := B) hA hR (by omega) a7 hS (fun p hp => ?_) (fun q hq => ?_)
    · simp only [kon, knt_some, knt_none, Option.toList_some, Option.toList_none, List.cons_append, List.nil_append]
      have w9 : FW wLd hi (ls1 h (-1)) := FW.up a2 (wLd_49 (by omega))
      refine s264_41.mpr (s264_42.mpr ?_)
      exact T43 _ w9 (by (try simp (disch := decide) only [upI_eq, upI_a, upI_i, upR_eq, upR_a, upR_i]); exact a3) (by (try simp (disch := decide) only [upI_eq, upI_a, upI_i, upR_eq, upR_a, upR_i]); exact a4) (by (try simp (disch := decide) only [upI_eq, upI_a, upI_i, upR_eq, upR_a, upR_i]); exact a5) (by (try simp (disch := decide) only [upI_eq, upI_a, upI_i, upR_eq, upR_a, upR_i]); exact a6) a7.ls (by (try simp (disch := decide) only [upI_eq, upI_a, upI_i, upR_eq, upR_a, upR_i]); exact a8) hS (nv_of hrg hS hp) hm ⟨p, hp⟩
    · simp only [kon, knt_some, knt_none, Option.toList_some, Option.toList_none, List.cons_append, List.nil_append]
      rw [thn_ld (by decide) (by decide)]
      exact T90 1 q _ _ (Or.inr ⟨hm, Or.inl ⟨hq, rfl⟩⟩) (by decide) (FW.up (FW.up (FW.up a2 (wLd_49 (by omega))) (wLd_49 (by omega))) (wLd_49 (by omega))) (by (try simp (disch := decide) only [upI_eq, upI_a, upI_i, upR_eq, upR_a, upR_i])) (by (try simp (disch := decide) only [upI_eq, upI_a, upI_i, upR_eq, upR_a, upR_i])) (by (try simp (disch := decide) only [upI_eq, upI_a, upI_i, upR_eq, upR_a, upR_i]); exact a5) (by (try simp (disch := decide) only [upI_eq, upI_a, upI_i, upR_eq, upR_a, upR_i]); exact a6)
  have R3 : ∀ h, FW wLd hi h → bAt h 12 = B → h 52 12 = n → h 49 2 = 0 → h 49 26 = 0 → h 49 22 = 0 → h 49 23 = -1 → h 49 24 = 1 → h 49 27 = 12 → Ev (d - 1) 230 [vR (some 49)] al h hr (kon d 264 32 35 [vR (some 49), vI n, none] [] Q) := by
    intro h a2 aB a8 a6 a26 a3 a4 a5 a27
    refine m_module (B := B) hA hR (by omega) a27 a8 (by omega) aB a26 (fun p h4 x1 x2 x3 => ?_) (fun q h4 x1 x2 x3 x4 => ?_)
    · simp only [kon, knt_some, knt_none, Option.toList_some, Option.toList_none, List.cons_append, List.nil_append]
      have w9 : FW wLd hi h4 := a2.tr (x2.mn (fun a i q => wMd_Ld q))
      have hS := sh_mod x1
      have e52 : h4 52 12 = n := (x2 52 12 (by unfold wMd; omega)).trans a8
      have hMB : MB h4 12 B := ⟨by decide, by decide, by omega, (FW.B x2 (by intro i; unfold wMd; omega) (by intro i; unfold wMd; omega)).trans aB, x3⟩
      have R9 := R2 h4 w9 ((x2 49 22 (by unfold wMd; omega)).trans a3) ((x2 49 23 (by unfold wMd; omega)).trans a4) ((x2 49 24 (by unfold wMd; omega)).trans a5) ((x2 49 2 (by unfold wMd; omega)).trans a6) hMB e52 hS ⟨p, x1⟩
      refine s264_35.mpr (s264_36.mpr ?_)
      refine (s264_38 (by omega) kM).mpr ?_
      exact R9
    · simp only [kon, knt_some, knt_none, Option.toList_some, Option.toList_none, List.cons_append, List.nil_append]
      rw [thn_ld (by decide) (by decide)]
      exact T90 1 q _ _ (Or.inl ⟨x1, rfl⟩) (by decide) (a2.tr (x2.mn (fun a i q => q.elim wMd_Ld (fun q => by rw [q.1]; exact wLd_49 (by omega))))) x3 x4 ((x2 49 24 (by unfold wE wMd; omega)).trans a5) ((x2 49 2 (by unfold wE wMd; omega)).trans a6)
  refine s264_0.mpr (s264_1.mpr ?_)
  refine (s264_2 kM).mpr ?_
  refine s264_5.mpr ?_
  try simp (disch := first | decide | assumption | omega) only [upI_eq, upI_a, upI_i, upR_eq, upR_a, upR_i, kon, knt_some, knt_none, Option.toList_some, Option.toList_none, List.cons_append, List.nil_append]
  refine s264_6.mpr (wif (fun c6 => ?_) (fun c6 => ?_))
  · first
    | (exfalso; omega)
    | skip
      exfalso; omega
  · first
    | (exfalso; omega)
    | skip
      refine s264_9.mpr (s264_10.mpr ?_)
      refine (s264_11 kM).mpr ?_
      try simp (disch := first | decide | assumption | omega) only [upI_eq, upI_a, upI_i, upR_eq, upR_a, upR_i, kon, knt_some, knt_none, Option.toList_some, Option.toList_none, List.cons_append, List.nil_append]
      refine s264_14.mpr (wif (fun c14 => ?_) (fun c14 => ?_))
      · first
        | (exfalso; omega)
        | skip
          exfalso; omega
      · first
        | (exfalso; omega)
        | skip
          refine s264_20.mpr (s264_21.mpr ?_)
          refine (s264_22 (by omega) kM).mpr ?_
          refine m_take hA hR n0 (by omega) (fun h x1 x2 x3 x4 x5 x6 x7 x8 => ?_)
          simp only [kon, knt_some, knt_none, Option.toList_some, Option.toList_none, List.cons_append, List.nil_append]
          refine s264_25.mpr (s264_26.mpr ?_)
          refine (s264_28 kM).mpr ?_
          refine s264_31.mpr ?_
          try simp (disch := first | decide | assumption | omega) only [upI_eq, upI_a, upI_i, upR_eq, upR_a, upR_i, kon, knt_some, knt_none, Option.toList_some, Option.toList_none, List.cons_append, List.nil_append]
          refine (s264_32 (by omega) kM).mpr ?_
          refine R3 _ ?_ ?_ ?_ ?_ ?_ ?_ ?_ ?_ ?_
          · exact FW.up ((FW.up FW.rf (wLd_49 (by omega))).tr (x1.mn (fun a i q => wTk_Ld q))) (wLd_49 (by omega))
          · rw [bAt_up (by decide) (by decide), x2]; exact (tB_eq (by funext k; (try simp (disch := decide) only [upI_eq, upI_a, upI_i, upR_eq, upR_a, upR_i]))).trans hBd
          · (try simp (disch := decide) only [upI_eq, upI_a, upI_i, upR_eq, upR_a, upR_i]); exact x3
          · (try simp (disch := decide) only [upI_eq, upI_a, upI_i, upR_eq, upR_a, upR_i]); exact x4
          · (try simp (disch := decide) only [upI_eq, upI_a, upI_i, upR_eq, upR_a, upR_i]); exact x5
          · (try simp (disch := decide) only [upI_eq, upI_a, upI_i, upR_eq, upR_a, upR_i]); exact x6
          · (try simp (disch := decide) only [upI_eq, upI_a, upI_i, upR_eq, upR_a, upR_i]); exact x7
          · (try simp (disch := decide) only [upI_eq, upI_a, upI_i, upR_eq, upR_a, upR_i]); exact x8
          · (try simp (disch := decide) only [upI_eq, upI_a, upI_i, upR_eq, upR_a, upR_i])
end ML3
