/-! THE CLASS: feed, load -/
section CL4
variable {d : Nat} {al : AL} {hi : HI} {hr : HR} {Q : QQ} {B : Int → Int} {N : Nat} {n : Int}
theorem x_feed {a b c d9 e : Int} (hA : SA al) (hc : CR hr) (hd : 1 ≤ d) (ht : 0 ≤ hi 2 1 ∧ hi 2 1 ≤ 2000)
    (no : 2000 < hi 2 1 + 20 → Q (some (some (vI (-1)))) al hi hr)
    (ok : ∀ hi', hi 2 1 + 20 ≤ 2000 → FW (fun a i => (a = 2 ∧ i = 1) ∨ (a = 3 ∧ hi 2 1 ≤ i ∧ i < hi 2 1 + 20)) hi hi' → hi' 2 1 = hi 2 1 + 20 → (∀ k : Int, 0 ≤ k → k < 20 → hi' 3 (hi 2 1 + k) = fShr (fdA a b c d9 e k) (24 - 8 * (k % 4)) % 256) → Q (some (some (vI (hi 2 1 + 20)))) al hi' hr) : Ev d 186 [vR (some 2), vI a, vI b, vI c, vI d9, vI e] al hi hr Q := by
  have k2 : isK al 2 12 := hA.k (by decide) (by decide) rfl
  rw [e186]
  by_cases hc9 : 2000 < hi 2 1 + 20
  · skip
    refine s186_0.mpr ?_
    refine (s186_1 (by first | decide | assumption | omega)).mpr ?_
    refine s186_4.mpr (s186_6.mpr (s186_7.mpr ?_))
    try simp (disch := first | decide | assumption | omega) only [fAdd_id]
    refine s186_10.mpr (wif (fun c10 => ?_) (fun c10 => ?_))
    · first
      | (exfalso; omega)
      | skip
        refine s186_13.mpr ?_
        refine (s186_14).mpr ?_
        exact no hc9
    · first
      | (exfalso; omega)
      | skip
        exfalso; omega
  generalize ht1 : hi 2 1 = t at *
  have W : ∀ {s : Int} {h1 h2 : HI}, t ≤ s → s + 4 ≤ t + 20 → FW (fun a i => (a = 2 ∧ i = 1) ∨ (a = 3 ∧ s ≤ i ∧ i < s + 4)) h1 h2 → FW (fun a i => (a = 2 ∧ i = 1) ∨ (a = 3 ∧ t ≤ i ∧ i < t + 20)) h1 h2 := fun y1 y2 z => z.mn (fun a i q => by omega)
  have T15 : Wp d 186 15 [vR (some 2), vI a, vI b, vI c, vI d9, vI e] [] al hi hr Q := by
    refine s186_15.mpr (s186_16.mpr ?_)
    refine (s186_17 (by omega) k2).mpr ?_
    refine x_tapeNumber (t := t) hA hc ht1 ht.1 (by omega) (fun h1 w1 e1 a1 => ?_)
    simp only [kon, knt_some, knt_none, Option.toList_some, Option.toList_none, List.cons_append, List.nil_append]
    refine s186_20.mpr (s186_21.mpr ?_)
    refine (s186_22 (by omega) k2).mpr ?_
    refine x_tapeNumber (t := t + 4) hA hc e1 (by omega) (by omega) (fun h2 w2 e2 a2 => ?_)
    simp only [kon, knt_some, knt_none, Option.toList_some, Option.toList_none, List.cons_append, List.nil_append]
    refine s186_25.mpr (s186_26.mpr ?_)
    refine (s186_27 (by omega) k2).mpr ?_
    refine x_tapeNumber (t := t + 4 + 4) hA hc e2 (by omega) (by omega) (fun h3 w3 e3 a3 => ?_)
    simp only [kon, knt_some, knt_none, Option.toList_some, Option.toList_none, List.cons_append, List.nil_append]
    refine s186_30.mpr (s186_31.mpr ?_)
    refine (s186_33 (by omega) k2).mpr ?_
    refine x_tapeNumber (t := t + 4 + 4 + 4) hA hc e3 (by omega) (by omega) (fun h4 w4 e4 a4 => ?_)
    simp only [kon, knt_some, knt_none, Option.toList_some, Option.toList_none, List.cons_append, List.nil_append]
    refine s186_36.mpr (s186_37.mpr ?_)
    refine (s186_39 (by omega) k2).mpr ?_
    refine x_tapeNumber (t := t + 4 + 4 + 4 + 4) hA hc e4 (by omega) (by omega) (fun h5 w5 e5 a5 => ?_)
    simp only [kon, knt_some, knt_none, Option.toList_some, Option.toList_none, List.cons_append, List.nil_append]
    refine s186_42.mpr ?_
    refine (s186_43 k2).mpr ?_
    rw [e5]
    refine s186_46.mpr ?_
    rw [show t + 4 + 4 + 4 + 4 + 4 = t + 20 by omega]
    refine ok h5 (by omega) (((((W (by omega) (by omega) w1).tr (W (by omega) (by omega) w2)).tr (W (by omega) (by omega) w3)).tr (W (by omega) (by omega) w4)).tr (W (by omega) (by omega) w5)) (by rw [e5]; omega) (fun k k0 k1 => ?_)
    by_cases c5 : 16 ≤ k
    · have := a5 (k - 16) (by omega) (by omega)
      rw [show t + 4 + 4 + 4 + 4 + (k - 16) = t + k by omega] at this
      rw [this, show fdA a b c d9 e k = e from by unfold fdA; rw [if_neg (by omega), if_neg (by omega), if_neg (by omega), if_neg (by omega)], show k % 4 = k - 16 by omega]
    rw [w5 3 _ (by omega)]
    by_cases c4 : 12 ≤ k
    · have := a4 (k - 12) (by omega) (by omega)
      rw [show t + 4 + 4 + 4 + (k - 12) = t + k by omega] at this
      rw [this, show fdA a b c d9 e k = d9 from by unfold fdA; rw [if_neg (by omega), if_neg (by omega), if_neg (by omega), if_pos (by omega)], show k % 4 = k - 12 by omega]
    rw [w4 3 _ (by omega)]
    by_cases c3 : 8 ≤ k
    · have := a3 (k - 8) (by omega) (by omega)
      rw [show t + 4 + 4 + (k - 8) = t + k by omega] at this
      rw [this, show fdA a b c d9 e k = c from by unfold fdA; rw [if_neg (by omega), if_neg (by omega), if_pos (by omega)], show k % 4 = k - 8 by omega]
    rw [w3 3 _ (by omega)]
    by_cases c2 : 4 ≤ k
    · have := a2 (k - 4) (by omega) (by omega)
      rw [show t + 4 + (k - 4) = t + k by omega] at this
      rw [this, show fdA a b c d9 e k = b from by unfold fdA; rw [if_neg (by omega), if_pos (by omega)], show k % 4 = k - 4 by omega]
    rw [w2 3 _ (by omega)]
    rw [a1 k (by omega) (by omega), show fdA a b c d9 e k = a from by unfold fdA; rw [if_pos (by omega)], show k % 4 = k by omega]
  refine s186_0.mpr ?_
  refine (s186_1 (by first | decide | assumption | omega)).mpr ?_
  refine s186_4.mpr (s186_6.mpr (s186_7.mpr ?_))
  try simp (disch := first | decide | assumption | omega) only [fAdd_id, ht1]
  refine s186_10.mpr (wif (fun c10 => ?_) (fun c10 => ?_))
  · first
    | (exfalso; omega)
    | skip
      exfalso; omega
  · first
    | (exfalso; omega)
    | skip
      exact T15
/-- the class's tape, as a text -/
def cB (hi : HI) (n : Int) : Int → Int := fun k => if 0 ≤ k ∧ k < n then hi 3 k else -1
theorem cB_x {n : Int} (n0 : 0 ≤ n) (n2 : n ≤ 2000) (hx : ∀ k, 0 ≤ k → k < n → 0 ≤ hi 3 k ∧ hi 3 k ≤ 255) : TX2 (cB hi n) n := by
  refine ⟨fun k => ⟨fun q => ?_, fun q => if_neg q⟩, n0, n2⟩
  unfold cB; rw [if_pos q]; exact hx k q.1 q.2
/-- a module that stands in the class: decoded, verified; it lies in cells below L -/
def GC (al : AL) (hi : HI) (hr : HR) (N : Nat) (n : Int) (B : Int → Int) (L : Nat) : Prop := ∃ M, ModV al hi hr N n B M ∧ TxV B n ∧ M ≤ L ∧ L ≤ al.1 ∧ ∀ g, 0 ≤ g → g < nFn B → ∃ t H C A, hr (N + 5) g = some (t + 1) ∧ M ≤ H ∧ H < L ∧ M ≤ C ∧ C < L ∧ N + 6 < t ∧ t + 2 < M ∧ RtV al hi hr B g t H C A
theorem GC.fr {al' : AL} {hi' : HI} {hr' : HR} {x s L : Nat} (h : GC al hi hr N n B L) (hG : GA al al' x s) (h0 : ∀ i, hi' 0 i = hi 0 i) (hf : ∀ a i, N ≤ a → a < L → hi' a i = hi a i) (hR : ∀ a i, N ≤ a → a < L → hr' a i = hr a i) : GC al' hi' hr' N n B L := by
  obtain ⟨M, h1, h2, h3, h4, h5⟩ := h
  refine ⟨M, h1.fr hG h0 (fun a i z1 z2 _ => hf a i z1 (by omega)) (fun a i z1 z2 _ => hR a i z1 (by omega)), h2, h3, by have := hG.1; omega, fun g g0 g1 => ?_⟩
  obtain ⟨t, H, C, A, e1, e2, e3, e4, e5, e6, e7, r1, r2, r3⟩ := h5 g g0 g1
  have hNM := h1.1.2.2.1
  exact ⟨t, H, C, A, (hR _ _ (by omega) (by omega)).trans e1, e2, e3, e4, e5, e6, e7, r1.fr hG (hR _ _ (by omega) (by omega)) (hR _ _ (by omega) (by omega)), r2.fr (fun i => hf _ _ (by omega) (by omega)) (fun i => hf _ _ (by omega) (by omega)) (hf _ _ (by omega) (by omega)), r3⟩
/-- what a load of the class writes: cells of its own, and new ones from m on -/
def wXl (m : Nat) (a : Nat) (i : Int) : Prop := (a = 2 ∧ (i = 1 ∨ i = 3 ∨ i = 4)) ∨ (a = 5 ∧ i = 1) ∨ a = 6 ∨ a = 8 ∨ a = 9 ∨ a = 11 ∨ a = 12 ∨ a = 13 ∨ m ≤ a
def rXl (m : Nat) (a : Nat) (i : Int) : Prop := a = 6 ∨ (a = 8 ∧ (i = 7 ∨ i = 8)) ∨ a = 9 ∨ m ≤ a
theorem dcR_ldR {q : Int} (h : dcR B n q) : ldR B n 1 q := by
  rcases h with h | ⟨h1, h2⟩
  · exact Or.inl ⟨h, rfl⟩
  · exact Or.inr ⟨h1, Or.inl ⟨h2, rfl⟩⟩
theorem CR.rx {m : Nat} {hr' : HR} (h : CR hr) (hR : RW (rXl m) hr hr') (hm : 119 ≤ m) : CR hr' := fun p hp => by
  have key : ∀ p ∈ crl, p.1 ≠ 6 ∧ ¬ (p.1 = 8 ∧ (p.2.1 = 7 ∨ p.2.1 = 8)) ∧ p.1 ≠ 9 ∧ p.1 < 119 := by decide
  have := key p hp
  exact (hR p.1 p.2.1 (by unfold rXl; omega)).trans (h p hp)
def LdC (al : AL) (hi : HI) (hr : HR) (n : Int) (al' : AL) (hi' : HI) (hr' : HR) : Prop := 0 ≤ n ∧ n ≤ hi 2 1 ∧ GA al al' 127 73568 ∧ FW (wXl al.1) hi hi' ∧ RW (rXl al.1) hr hr' ∧ hi' 2 1 = 0
set_option maxRecDepth 8000 in
theorem x_load {n : Int} (hA : SA al) (hc : CR hr) (hO : OPS al hi) (hd : 11 ≤ d) (ht : hi 2 1 ≤ 2000) (hx : ∀ k, 0 ≤ k → k < hi 2 1 → 0 ≤ hi 3 k ∧ hi 3 k ≤ 255)
    (bad : ¬ (0 ≤ n ∧ n ≤ hi 2 1) → Q (some (some (vI (-2)))) al hi hr)
    (er : ∀ w q al' hi' hr', LdC al hi hr n al' hi' hr' → ldR (cB hi n) n w q → w ≠ 0 → hi' 2 3 = w → hi' 2 4 = q → Q (some (some (vI (-1)))) al' hi' hr')
    (ok : ∀ p al' hi' hr', LdC al hi hr n al' hi' hr' → ldR (cB hi n) n 0 (-1) → GB (cB hi n) n → GC al' hi' hr' al.1 n (cB hi n) al'.1 → hi' 2 3 = 0 → hi' 2 4 = -1 → 0 ≤ p → p < 6 → hr 4 p = none → (∀ q, 0 ≤ q → q < p → hr 4 q ≠ none) → Q (some (some (vI p))) al' hi' (upR hr' 4 p (some al.1)))
    (full : ∀ al' hi' hr', LdC al hi hr n al' hi' hr' → ldR (cB hi n) n 0 (-1) → hi' 2 3 = 0 → hi' 2 4 = -1 → (∀ p, 0 ≤ p → p < 6 → hr 4 p ≠ none) → Q (some (some (vI (-1)))) al' hi' hr') : Ev d 187 [vR (some 2), vI n] al hi hr Q := by
  have k2 : isK al 2 12 := hA.k (by decide) (by decide) rfl
  have k3 : isK al 3 15 := hA.k (by decide) (by decide) rfl
  have l3 : aln al 3 = 2000 := hA.len (by decide) (by decide) rfl
  have A119 := hA.1
  rw [e187]
  by_cases hn : ¬ (0 ≤ n ∧ n ≤ hi 2 1)
  · skip
    refine s187_0.mpr ?_
    refine s187_1.mpr (wif (fun c1 => ?_) (fun c1 => ?_))
    · skip
      refine s187_12.mpr ?_
      refine (s187_14).mpr ?_
      exact bad hn
    · skip
      refine s187_4.mpr (s187_5.mpr ?_)
      refine (s187_6 (by first | decide | assumption | omega)).mpr ?_
      refine s187_9.mpr (wif (fun c9 => ?_) (fun c9 => ?_))
      · skip
        refine s187_12.mpr ?_
        refine (s187_14).mpr ?_
        exact bad hn
      · skip
        exfalso; omega
  have n0 : 0 ≤ n := by omega
  have n1 : n ≤ hi 2 1 := by omega
  have n2 : n ≤ 2000 := by omega
  have hB : TX2 (cB hi n) n := cB_x n0 n2 (fun k a b => hx k a (by omega))
  obtain ⟨N, hN⟩ : ∃ N, N = al.1 := ⟨_, rfl⟩
  -- a fault
  have E64 : ∀ w q al1 h1 hr1, LdC al hi hr n al1 h1 hr1 → ldR (cB hi n) n w q → w ≠ 0 → h1 2 3 = w → h1 2 4 = q → Wp d 187 64 [vR (some 2), vI n, vR (some N), none] [] al1 h1 hr1 Q := by
    intro w q al1 h1 hr1 hL h9 hw e3 e4
    have k2' := hL.2.2.1.k k2
    have E := er w q al1 h1 hr1 hL h9 hw e3 e4
    refine s187_64.mpr ?_
    refine (s187_65 (by first | decide | assumption | omega)).mpr ?_
    try simp (disch := first | decide | assumption | omega) only [e3]
    refine s187_68.mpr (wif (fun c68 => ?_) (fun c68 => ?_))
    · skip
      exfalso; omega
    · skip
      refine s187_71.mpr ?_
      refine (s187_72).mpr ?_
      exact E
  have E45 : ∀ w q al1 h1 hr1, LdC al hi hr n al1 h1 hr1 → ldR (cB hi n) n w q → w ≠ 0 → h1 2 3 = w → h1 2 4 = q → Wp d 187 45 [vR (some 2), vI n, vR (some N), none] [] al1 h1 hr1 Q := by
    intro w q al1 h1 hr1 hL h9 hw e3 e4
    have k2' := hL.2.2.1.k k2
    refine s187_45.mpr ?_
    refine (s187_46 (by first | decide | assumption | omega)).mpr ?_
    try simp (disch := first | decide | assumption | omega) only [e3]
    refine s187_49.mpr (wif (fun c49 => ?_) (fun c49 => ?_))
    · skip
      exfalso; omega
    · skip
      exact E64 w q al1 h1 hr1 hL h9 hw e3 e4
  -- a place
  have T75 : ∀ (m : Nat) (p : Int) al1 h1 hr1, 0 ≤ p → p + m = 6 → LdC al hi hr n al1 h1 hr1 → ldR (cB hi n) n 0 (-1) → GB (cB hi n) n → GC al1 h1 hr1 N n (cB hi n) al1.1 → h1 2 3 = 0 → h1 2 4 = -1 → (∀ q, 0 ≤ q → q < p → hr 4 q ≠ none) → Wp d 187 75 [vR (some 2), vI n, vR (some N), vI p] [] al1 h1 hr1 Q := by
    intro m
    induction m with
    | zero =>
      intro p al1 h1 hr1 p0 hm hL h9 hGB hG e3 e4 hq
      have E := full al1 h1 hr1 hL h9 e3 e4 (fun p' a b => hq p' a (by omega))
      refine s187_75.mpr (s187_76.mpr ?_)
      refine s187_78.mpr (wif (fun c78 => ?_) (fun c78 => ?_))
      · skip
        exfalso; omega
      · skip
        refine s187_105.mpr ?_
        refine (s187_106).mpr ?_
        exact E
    | succ m ih =>
      intro p al1 h1 hr1 p0 hm hL h9 hGB hG e3 e4 hq
      have k2' := hL.2.2.1.k k2
      have hA1 := hL.2.2.1.sa hA
      have Q4 : isQ al1 4 = true := hA1.q (by decide) (by decide) (by decide)
      have k4 : isK al1 4 20 := hA1.k (by decide) (by decide) rfl
      have l4 : aln al1 4 = 6 := hA1.len (by decide) (by decide) rfl
      have e22 : hr1 2 2 = some 4 := (hL.2.2.2.2.1 2 2 (by unfold rXl; omega)).trans (cr_2_2 hc)
      have e4p : ∀ q, hr1 4 q = hr 4 q := fun q => hL.2.2.2.2.1 4 q (by unfold rXl; omega)
      cases e : hr 4 p with
      | none =>
        have ep : hr1 4 p = none := (e4p p).trans e
        have E := ok p al1 h1 hr1 hL h9 hGB (by rw [← hN]; exact hG) e3 e4 p0 (by omega) e hq
        rw [← hN] at E
        obtain ⟨M9, hM9, -⟩ := hG
        have kN := hM9.1.1.1
        refine s187_75.mpr (s187_76.mpr ?_)
        refine s187_78.mpr (wif (fun c78 => ?_) (fun c78 => ?_))
        · skip
          refine s187_81.mpr ?_
          refine (s187_82 (by first | decide | assumption | omega)).mpr ?_
          refine s187_85.mpr ?_
          try simp (disch := first | decide | assumption | omega) only [e22, ep]
          refine (s187_86 (by first | decide | assumption | omega) (by first | decide | assumption | omega) (by first | decide | assumption | omega)).mpr ?_
          refine s187_87.mpr (wif (fun c87 => ?_) (fun c87 => ?_))
          · skip
            refine s187_90.mpr ?_
            refine (s187_91 (by first | decide | assumption | omega)).mpr ?_
            refine s187_94.mpr (s187_95.mpr ?_)
            try simp (disch := first | decide | assumption | omega) only [e22, ep]
            refine (s187_96 k4 (by decide) p0 (by omega) kN).mpr ?_
            refine s187_97.mpr ?_
            refine s187_98.mpr ?_
            exact E
          · skip
            exact absurd ep (by assumption)
        · skip
          exfalso; omega
      | some N' =>
        have ep : hr1 4 p = some N' := (e4p p).trans e
        have NX : Wp d 187 75 [vR (some 2), vI n, vR (some N), vI (p + 1)] [] al1 h1 hr1 Q := by
          refine ih (p + 1) al1 h1 hr1 (by omega) (by omega) hL h9 hGB hG e3 e4 (fun q q0 q1 => ?_)
          by_cases c : q = p
          · subst c; rw [e]; simp
          · exact hq q q0 (by omega)
        refine s187_75.mpr (s187_76.mpr ?_)
        refine s187_78.mpr (wif (fun c78 => ?_) (fun c78 => ?_))
        · skip
          refine s187_81.mpr ?_
          refine (s187_82 (by first | decide | assumption | omega)).mpr ?_
          refine s187_85.mpr ?_
          try simp (disch := first | decide | assumption | omega) only [e22, ep, fAdd_id]
          refine (s187_86 (by first | decide | assumption | omega) (by first | decide | assumption | omega) (by first | decide | assumption | omega)).mpr ?_
          refine s187_87.mpr (wif (fun c87 => ?_) (fun c87 => ?_))
          · skip
            rw [ep] at c87; cases c87
          · skip
            refine s187_99.mpr (s187_102.mpr ?_)
            try simp (disch := first | decide | assumption | omega) only [e22, ep, fAdd_id]
            exact NX
        · skip
          exfalso; omega
  -- behind the verifier
  have R61 : ∀ al5 h5 hr5, LdC al hi hr n al5 h5 hr5 → ldR (cB hi n) n 0 (-1) → GB (cB hi n) n → GC al5 h5 hr5 N n (cB hi n) al5.1 → h5 9 4 = 0 → h5 9 5 = -1 → Wp d 187 61 [vR (some 2), vI n, vR (some N), none] [vR (some 9), vR (some 2)] al5 h5 hr5 Q := by
    intro al5 h5 hr5 hL h9 hGB hG e94 e95
    have hA5 := hL.2.2.1.sa hA
    have k25 := hL.2.2.1.k k2
    have k95 : isK al5 9 2 := hA5.k (by decide) (by decide) rfl
    refine (s187_61 (by omega) k25).mpr ?_
    refine x_tell hA5 k95 ?_
    simp only [kon, knt_some, knt_none, Option.toList_some, Option.toList_none, List.cons_append, List.nil_append, e94, e95]
    have hL6 : LdC al hi hr n al5 (upI (upI h5 2 3 0) 2 4 (-1)) hr5 := ⟨hL.1, hL.2.1, hL.2.2.1, (hL.2.2.2.1.up (by unfold wXl; omega)).up (by unfold wXl; omega), hL.2.2.2.2.1, by rw [upI_i (by decide), upI_i (by decide)]; exact hL.2.2.2.2.2⟩
    have hG6 : GC al5 (upI (upI h5 2 3 0) 2 4 (-1)) hr5 N n (cB hi n) al5.1 := hG.fr GA.rf (fun i => by rw [upI_a (by decide), upI_a (by decide)]) (fun a i z _ => by rw [upI_a (by omega), upI_a (by omega)]) (fun _ _ _ _ => rfl)
    have x3 : (upI (upI h5 2 3 0) 2 4 (-1)) 2 3 = 0 := by rw [upI_i (by decide), upI_eq]
    have NX := T75 6 0 al5 _ hr5 (Int.le_refl _) (by omega) hL6 h9 hGB hG6 x3 upI_eq (fun q a b => absurd b (by omega))
    refine s187_64.mpr ?_
    refine (s187_65 (by first | decide | assumption | omega)).mpr ?_
    try simp (disch := first | decide | assumption | omega) only [x3]
    refine s187_68.mpr (wif (fun c68 => ?_) (fun c68 => ?_))
    · skip
      refine s187_73.mpr (s187_74.mpr ?_)
      exact NX
    · skip
      exfalso; omega
  -- behind the decoder
  have R42 : ∀ al3 h3 hr3, (∃ p, modP (cB hi n) n = .ok p) → (∃ p, namP (cB hi n) = .ok p) → GA al al3 107 8768 → FW (wXl al.1) hi h3 → RW (rXl al.1) hr hr3 → h3 2 1 = 0 → h3 6 4 = 0 → h3 N 1 = n → (∀ k, 0 ≤ k → k < n → h3 (N + 6) k = cB hi n k) → ModS al3 h3 hr3 N (cB hi n) → szOK h3 N → (aln al3 (N + 6) : Int) = n → OPS al3 h3 → Wp d 187 42 [vR (some 2), vI n, vR (some N), none] [vR (some 6), vR (some 2)] al3 h3 hr3 Q := by
    intro al3 h3 hr3 hP hNm g1 g2 g3 e21 e64 eN1 eB hMS hz hl hO3
    have hA3 := g1.sa hA
    have k23 := g1.k k2
    have k63 : isK al3 6 2 := hA3.k (by decide) (by decide) rfl
    have k83 : isK al3 8 11 := hA3.k (by decide) (by decide) rfl
    refine (s187_42 (by omega) k23).mpr ?_
    refine x_tell hA3 k63 ?_
    simp only [kon, knt_some, knt_none, Option.toList_some, Option.toList_none, List.cons_append, List.nil_append, e64]
    obtain ⟨h4, hh4⟩ : ∃ h4, h4 = upI (upI h3 2 3 0) 2 4 (h3 6 5) := ⟨_, rfl⟩
    rw [← hh4]
    have u4 : ∀ a i, a ≠ 2 → h4 a i = h3 a i := fun a i z => by rw [hh4, upI_a z, upI_a z]
    have g24 : FW (wXl al.1) hi h4 := by rw [hh4]; exact (g2.up (by unfold wXl; omega)).up (by unfold wXl; omega)
    have e23 : h4 2 3 = 0 := by rw [hh4, upI_i (by decide), upI_eq]
    have e214 : h4 2 1 = 0 := by rw [hh4, upI_i (by decide), upI_i (by decide)]; exact e21
    have hS : Sh (cB hi n) := by obtain ⟨p, hp⟩ := hP; exact sh_mod hp
    have hrg : ∀ k, -1 ≤ cB hi n k ∧ cB hi n k ≤ 255 := fun k => by
      have := hB.1 k
      by_cases c : 0 ≤ k ∧ k < n
      · have := this.1 c; omega
      · have := this.2 c; omega
    have hNV : NV (cB hi n) := by obtain ⟨p, hp⟩ := hNm; exact nv_of hrg hS hp
    have hT : TxV (cB hi n) n := ⟨hB, hS, hNV⟩
    have hMS4 : ModS al3 h4 hr3 N (cB hi n) := hMS.fr GA.rf (fun a i z1 z2 => u4 a i (by omega)) (fun _ _ _ _ => rfl)
    have kb3 : isK al3 (N + 6) 15 := hMS.1.2.2.2.2.2.2.2
    have hM4 : ModV al3 h4 hr3 N n (cB hi n) al3.1 := by
      refine ⟨⟨hMS4.1, by omega, kb3.2.1, Nat.le_refl _⟩, ⟨(u4 _ _ (by omega)).trans eN1, by omega, fun k k0 k1 => (u4 _ _ (by omega)).trans (eB k k0 k1)⟩, ⟨hMS4.2.1, hMS4.2.2.1, hMS4.2.2.2.1⟩, hMS4.2.2.2.2.1, fun c c0 c1 => ?_, fun f f0 f1 => ?_, fun r r0 r1 => by rw [u4 _ _ (by omega)]; exact hz r r0 r1, hO3.fr GA.rf (by have := g1.1; omega) (fun i => u4 _ _ (by decide))⟩
      · obtain ⟨o, q1, q2, q3⟩ := hMS4.2.2.2.2.2.1 c c0 c1
        exact ⟨o, q1, q2, q3.1.2.2.2.2.2.1.2.1, q3⟩
      · obtain ⟨t, q1, q2, q3, q4⟩ := hMS4.2.2.2.2.2.2.1 f f0 f1
        exact ⟨t, q1, q2, q3.1.2.2.2.2.1, q3⟩
    have hc3 : CR hr3 := hc.rx g3 A119
    have e26 : hr3 2 6 = some 8 := cr_2_6 hc3
    have hRn4 : ∀ f t, 0 ≤ f → f < nFn (cB hi n) → hr3 (N + 5) f = some (t + 1) → RoutN h4 hr3 t := fun f t f0 f1 e => by
      obtain ⟨t', q1, q2, q3, q4⟩ := hMS4.2.2.2.2.2.2.1 f f0 f1
      rw [e] at q1; cases q1; exact q4
    have LD : ∀ {al5 h5 hr5}, GA al3 al5 20 64800 → FW (wVy N) h4 h5 → RW (rVy N) hr3 hr5 → LdC al hi hr n al5 h5 hr5 := fun y1 y2 y3 => ⟨n0, n1, (g1.tr y1).mn (by decide) (by decide), g24.tr (y2.mn (fun a i q => by unfold wVy at q; unfold wXl; omega)), g3.tr (y3.mn (fun a i q => by unfold rVy at q; unfold rXl; omega)), (y2 2 1 (by unfold wVy; omega)).trans e214⟩
    have R58 : Ev (d - 1) 159 [vR (some 8), vR (some N)] al3 h4 hr3 (kon d 187 58 61 [vR (some 2), vI n, vR (some N), none] [vR (some 2)] Q) := by
      refine v_verify hA3 hc3 (by omega) hM4 hT rfl (by omega) hRn4 hMS4.2.2.2.2.2.2.2 (fun al5 h5 hr5 y1 y2 y3 y4 y5 y6 y7 => ?_) (fun f al5 h5 hr5 f0 f1 y1 y2 y3 y4 y5 y6 y7 => ?_)
      · simp only [kon, knt_some, knt_none, Option.toList_some, Option.toList_none, List.cons_append, List.nil_append]
        have hcl : ∀ f, 0 ≤ f → f < nFn (cB hi n) → ∃ W, Clo (cB hi n) f W := fun f f0 f1 => by
          obtain ⟨_, _, _, A, -, -, -, -, -, -, -, -, -, w⟩ := y5 f f0 f1
          exact ⟨A, w.1⟩
        exact R61 al5 h5 hr5 (LD y1 y2 y3) (Or.inr ⟨hP, Or.inr ⟨hNm, Or.inr ⟨hcl, rfl, rfl⟩⟩⟩) ⟨hP, hNm, hcl⟩ ⟨al3.1, y4, hT, y1.1, Nat.le_refl _, y5⟩ y6 y7
      · simp only [kon, knt_some, knt_none, Option.toList_some, Option.toList_none, List.cons_append, List.nil_append]
        have hL := LD y3 y4 y5
        have hA5 := hL.2.2.1.sa hA
        have k25 := hL.2.2.1.k k2
        have k95 : isK al5 9 2 := hA5.k (by decide) (by decide) rfl
        refine (s187_61 (by omega) k25).mpr ?_
        refine x_tell hA5 k95 ?_
        simp only [kon, knt_some, knt_none, Option.toList_some, Option.toList_none, List.cons_append, List.nil_append, y6, y7]
        exact E64 2 (cAt (cB hi n) f) al5 _ hr5 ⟨hL.1, hL.2.1, hL.2.2.1, (hL.2.2.2.1.up (by unfold wXl; omega)).up (by unfold wXl; omega), hL.2.2.2.2.1, by rw [upI_i (by decide), upI_i (by decide)]; exact hL.2.2.2.2.2⟩ (Or.inr ⟨hP, Or.inr ⟨hNm, Or.inl ⟨f, f0, f1, y1, y2, rfl, rfl⟩⟩⟩) (by decide) (by rw [upI_i (by decide), upI_eq]) upI_eq
    refine s187_45.mpr ?_
    refine (s187_46 (by first | decide | assumption | omega)).mpr ?_
    try simp (disch := first | decide | assumption | omega) only [e23, e26]
    refine s187_49.mpr (wif (fun c49 => ?_) (fun c49 => ?_))
    · skip
      refine s187_52.mpr (s187_53.mpr ?_)
      refine (s187_54 (by first | decide | assumption | omega)).mpr ?_
      refine s187_57.mpr ?_
      try simp (disch := first | decide | assumption | omega) only [e23, e26]
      refine (s187_58 (by first | decide | assumption | omega) (by first | decide | assumption | omega)).mpr ?_
      exact R58
    · skip
      exfalso; omega
  have R27 : ∀ al2 h2 hr2, GA al al2 7 2088 → al2.1 = N + 7 → MS al2 hr2 N → h2 N 1 = n → aln al2 (N + 6) = n.toNat → (∀ k, 0 ≤ k → k < n → h2 (N + 6) k = hi 3 k) → (∀ r, h2 (N + 3) r = 0) → (∀ r, h2 (N + 1) r = 0) → (∀ c, hr2 (N + 4) c = none) → (∀ a i, a < N → h2 a i = hi a i) → (∀ a i, a < N → hr2 a i = hr a i) → Wp d 187 27 [vR (some 2), vI n, none, none] [vR (some N)] al2 h2 hr2 Q := by
    intro al2 h2 hr2 g1 g2 g3 g4 g5 g6 g7 g8 g9 g10 g11
    have hA2 := g1.sa hA
    have k22 := g1.k k2
    have k5 : isK al2 5 4 := hA2.k (by decide) (by decide) rfl
    have e25 : hr2 2 5 = some 5 := (g11 2 5 (by omega)).trans (cr_2_5 hc)
    have u2 : ∀ a i, a ≠ 2 → (upI h2 2 1 0) a i = h2 a i := fun a i z => upI_a z
    have hNw : NewM al2 (upI h2 2 1 0) hr2 N n (cB hi n) := ⟨g3, (u2 _ _ (by omega)).trans g4, by rw [g5]; omega, fun k k0 k1 => by
      rw [u2 _ _ (by omega), g6 k k0 k1]; exact (if_pos ⟨k0, k1⟩).symm, fun r => (u2 _ _ (by omega)).trans (g7 r), fun r => (u2 _ _ (by omega)).trans (g8 r), g9⟩
    have hO2 : OPS al2 (upI h2 2 1 0) := hO.fr g1 (by omega) (fun i => (u2 _ _ (by decide)).trans (g10 0 i (by omega)))
    have w2 : FW (wXl al.1) hi (upI h2 2 1 0) := FW.up (fun a i q => g10 a i (by unfold wXl at q; omega)) (by unfold wXl; omega)
    have r2 : RW (rXl al.1) hr hr2 := fun a i q => g11 a i (by unfold rXl at q; omega)
    have R39 : Ev (d - 1) 30 [vR (some 5), vR (some N)] al2 (upI h2 2 1 0) hr2 (kon d 187 39 42 [vR (some 2), vI n, vR (some N), none] [vR (some 2)] Q) := by
      refine d_decode hA2 ((g11 5 0 (by omega)).trans (cr_5_0 hc)) hNw (by omega) hB hO2 (by omega) (fun al3 h3 hr3 y1 y2 y3 y4 y5 y6 y7 y8 y9 y10 => ?_) (fun q al3 h3 hr3 y1 y2 y3 y4 y5 y6 => ?_)
      · simp only [kon, knt_some, knt_none, Option.toList_some, Option.toList_none, List.cons_append, List.nil_append]
        refine R42 al3 h3 hr3 y1 y2 ((g1.tr y3).mn (by decide) (by decide)) (w2.tr (y4.mn (fun a i q => by unfold wD at q; unfold wXl; omega))) (r2.tr (y5.mn (fun a i q => by unfold rXl; omega))) ((y4 2 1 (by unfold wD; omega)).trans upI_eq) y6 y7 y8 y9 y10 ?_ (hO2.fr y3 (by omega) (fun i => y4 0 i (by unfold wD; omega)))
        rw [y3.l (by omega), g5]; omega
      · simp only [kon, knt_some, knt_none, Option.toList_some, Option.toList_none, List.cons_append, List.nil_append]
        have hA3 := y2.sa hA2
        have k23 := y2.k k22
        have k63 : isK al3 6 2 := hA3.k (by decide) (by decide) rfl
        refine (s187_42 (by omega) k23).mpr ?_
        refine x_tell hA3 k63 ?_
        simp only [kon, knt_some, knt_none, Option.toList_some, Option.toList_none, List.cons_append, List.nil_append, y5, y6]
        have w3 : FW (wXl al.1) hi h3 := w2.tr (y3.mn (fun a i q => by unfold wD at q; unfold wXl; omega))
        exact E45 1 q al3 _ hr3 ⟨n0, n1, (g1.tr y2).mn (by decide) (by decide), (w3.up (by unfold wXl; omega)).up (by unfold wXl; omega), r2.tr (y4.mn (fun a i q => by unfold rXl; omega)), by rw [upI_i (by decide), upI_i (by decide), y3 2 1 (by unfold wD; omega)]; exact upI_eq⟩ (dcR_ldR y1) (by decide) (by rw [upI_i (by decide), upI_eq]) upI_eq
    refine s187_27.mpr (s187_28.mpr (s187_29.mpr ?_))
    refine (s187_30 (by first | decide | assumption | omega)).mpr ?_
    refine s187_33.mpr (s187_34.mpr ?_)
    try simp (disch := first | decide | assumption | omega) only [e25]
    refine (s187_35 (by first | decide | assumption | omega)).mpr ?_
    refine s187_38.mpr ?_
    try simp (disch := first | decide | assumption | omega) only [e25]
    refine (s187_39 (by first | decide | assumption | omega) (by first | decide | assumption | omega)).mpr ?_
    exact R39
  have R24 : Ev (d - 1) 144 [vR (some N), vR (some 3), vI n] (nwA al 10 0 10) (zeI hi N) (zeR hr N) (kon d 187 24 27 [vR (some 2), vI n, none, none] [vR (some N)] Q) := by
    refine t_init (isK_n (by omega) hN) (by rw [nw_1, hN]) (isK_nw k3) (by omega) n0 (by rw [aln_nw (by omega), l3]; omega) n2 (fun al2 h2 hr2 y1 y2 y3 y4 y5 y6 y7 y8 y9 y10 y11 => ?_)
    simp only [kon, knt_some, knt_none, Option.toList_some, Option.toList_none, List.cons_append, List.nil_append]
    refine R27 al2 h2 hr2 ((GA.rf.nw.tr y1).mn (by decide) (by omega)) y2 y3 y4 y5 (fun k k0 k1 => (y6 k k0 k1).trans (zeI_a (by omega))) y7 y8 y9 (fun a i z => (y10 a i z).trans (zeI_a (by omega))) (fun a i z => (y11 a i z).trans (zeR_a (by omega)))
  have k21 : isK (nwA al 10 0 10) 2 12 := isK_nw k2
  have e20 : (zeR hr al.1) 2 0 = some 3 := by rw [zeR_a (by omega)]; exact cr_2_0 hc
  rw [hN] at R24
  refine s187_0.mpr ?_
  refine s187_1.mpr (wif (fun c1 => ?_) (fun c1 => ?_))
  · first
    | (exfalso; omega)
    | skip
      exfalso; omega
  · first
    | (exfalso; omega)
    | skip
      refine s187_4.mpr (s187_5.mpr ?_)
      refine (s187_6 (by first | decide | assumption | omega)).mpr ?_
      try simp (disch := first | decide | assumption | omega) only [e20]
      refine s187_9.mpr (wif (fun c9 => ?_) (fun c9 => ?_))
      · first
        | (exfalso; omega)
        | skip
          exfalso; omega
      · first
        | (exfalso; omega)
        | skip
          refine s187_15.mpr (s187_18.mpr (s187_19.mpr ?_))
          refine (s187_20 (by first | decide | assumption | omega)).mpr ?_
          refine s187_23.mpr ?_
          try simp (disch := first | decide | assumption | omega) only [e20]
          refine (s187_24 (by omega)).mpr ?_
          exact R24
end CL4
