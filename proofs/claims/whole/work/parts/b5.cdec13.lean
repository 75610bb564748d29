section CD13
variable {d : Nat} {al : AL} {hi : HI} {hr : HR} {Q : QQ} {B : Int → Int} {N : Nat} {n nm : Int}
theorem lpE_inv {f : Int → Ex} (P : Nat → Int → Prop) (h : ∀ k r r', P (k + 1) r → f r = .ok r' → P k r') : ∀ k q r, P k q → lpE f k q = .ok r → P 0 r
  | 0, q, r, hp, e => by cases e; exact hp
  | k + 1, q, r, hp, e => by
    have e : (f q).bind (lpE f k) = .ok r := e
    cases eq : f q with
    | error z => rw [eq] at e; cases e
    | ok z => rw [eq, bnd_ok] at e; exact lpE_inv P h k z r (h k q z hp eq) e
theorem stD_1 {k c s : Int} (hx : TX B n) (h : nm = 1) (hS : ShS B c s) : stD nm B n k (pSt B c s) = nmS B k (pSt B c s) := by
  unfold stD nmS
  rw [if_neg (by omega), bnd_ok]
  obtain ⟨h1, h2, h3, h4, h5, h6, h7, h8⟩ := hS
  have em : (B (pSt B c s + 1)) = nMs B c s := rfl
  rw [em]
  refine lpE_cg (fun j r => ∃ t : Int, 0 ≤ t ∧ t + j = nMs B c s ∧ r = pMs B c s t) (fun j r hP => ?_) (fun j r r' hP e => ?_) _ _ ⟨0, by omega, by omega, rfl⟩
  · obtain ⟨t, t0, t1, rfl⟩ := hP
    obtain ⟨g1, g2, g3, g4, g5⟩ := h7 t t0 (by omega)
    refine msD_1 hx h (q := skT B (pMs B c s t) + 1) ?_
    unfold msP
    rw [g1, bnd_ok]
    exact nmb_y g2 g3
  · obtain ⟨t, t0, t1, rfl⟩ := hP
    refine ⟨t + 1, by omega, by omega, ?_⟩
    rw [msD_sk1 h e, (h7 t t0 (by omega)).2.2.2.1]; rfl
theorem ctD_1 {c : Int} (hx : TX B n) (h : nm = 1) (hS : ShC B c) : ctD nm B n (pCtr B c) = nmC B (pCtr B c) := by
  unfold ctD nmC
  rw [if_neg (by omega), bnd_ok]
  obtain ⟨h1, h2, h3, h4, h5⟩ := hS
  have em : (B (pCtr B c)) = nSt B c := rfl
  rw [em]
  refine lpE_cg (fun j r => ∃ s : Int, 0 ≤ s ∧ s + j = nSt B c ∧ r = pSt B c s) (fun j r hP => ?_) (fun j r r' hP e => ?_) _ _ ⟨0, by omega, by omega, rfl⟩
  · obtain ⟨s, s0, s1, rfl⟩ := hP
    exact stD_1 hx h (h4 s s0 (by omega))
  · obtain ⟨s, s0, s1, rfl⟩ := hP
    refine ⟨s + 1, by omega, by omega, ?_⟩
    rw [stD_sk1 h e]; unfold pSt; rw [itr_t _ _ s0]
theorem modP_in {p : Int} (h : modP B n = .ok p) : nmb B 83 83 0 = .ok 1 ∧ nmb B 77 77 1 = .ok 2 ∧ nmb B 0 8 2 = .ok 3 ∧ nmb B 0 4 (pCt0 B) = .ok (pCt0 B + 1) ∧ nmb B 1 10 (pFn0 B) = .ok (pFn0 B + 1) ∧ ¬ pFn B (nFn B) < n := by
  unfold modP at h
  cases e1 : nmb B 83 83 0 with
  | error q => rw [e1] at h; cases h
  | ok p0 =>
    rw [e1, bnd_ok] at h
    have u1 := (nmb_ok e1).1
    subst u1
    cases e2 : nmb B 77 77 (0 + 1) with
    | error q => rw [e2] at h; cases h
    | ok p1 =>
      rw [e2, bnd_ok] at h
      have u2 := (nmb_ok e2).1
      subst u2
      cases e3 : nmb B 0 8 (0 + 1 + 1) with
      | error q => rw [e3] at h; cases h
      | ok p2 =>
        rw [e3, bnd_ok] at h
        have u3 := (nmb_ok e3).1
        subst u3
        cases e4 : lpE (recP B) (B (0 + 1 + 1)).toNat (0 + 1 + 1 + 1) with
        | error q => rw [e4] at h; cases h
        | ok p3 =>
          rw [e4, bnd_ok] at h
          have u4 : p3 = pCt0 B := lpE_itr (fun q q' z => (recP_sk z).1) _ _ _ e4
          subst u4
          cases e5 : nmb B 0 4 (pCt0 B) with
          | error q => rw [e5] at h; cases h
          | ok p4 =>
            rw [e5, bnd_ok] at h
            have u5 := (nmb_ok e5).1
            subst u5
            cases e6 : lpE (ctP B) (B (pCt0 B)).toNat (pCt0 B + 1) with
            | error q => rw [e6] at h; cases h
            | ok p5 =>
              rw [e6, bnd_ok] at h
              have u6 : p5 = pFn0 B := lpE_itr (fun q q' z => (ctP_sk z).1) _ _ _ e6
              subst u6
              cases e7 : nmb B 1 10 (pFn0 B) with
              | error q => rw [e7] at h; cases h
              | ok p6 =>
                rw [e7, bnd_ok] at h
                have u7 := (nmb_ok e7).1
                subst u7
                cases e8 : lpE (fnP B) (B (pFn0 B)).toNat (pFn0 B + 1) with
                | error q => rw [e8] at h; cases h
                | ok p7 =>
                  rw [e8, bnd_ok] at h
                  have u8 : p7 = pFn B (nFn B) := lpE_itr (fun q q' z => (fnP_sk z).1) _ _ _ e8
                  subst u8
                  refine ⟨rfl, e2, e3, rfl, rfl, fun z => ?_⟩
                  rw [if_pos z] at h
                  cases h
theorem modD_1 {p : Int} (hx : TX B n) (h : nm = 1) (hP : modP B n = .ok p) : (∀ q, namP B = .error q → modD nm B n = .error q) ∧ (∀ q, namP B = .ok q → ∃ q', modD nm B n = .ok q') := by
  have hS := sh_mod hP
  have hB : ∀ k, -1 ≤ B k ∧ B k ≤ 255 := fun k => (hx k).1
  obtain ⟨e1, e2, e3, e4, e5, e6⟩ := modP_in hP
  obtain ⟨s1, s2, s3, s4, s5, s6, s7, s8, s9, s10, s11⟩ := hS
  have key : modD nm B n = (namP B).bind fun p7 => if p7 < n then .error p7 else .ok p7 := by
    unfold modD namP
    rw [e1, bnd_ok, e2, bnd_ok, e3, bnd_ok, show recD nm B = nmR B from funext fun q => recD_1 h]
    show (lpE (nmR B) (nRec B).toNat 3).bind _ = _
    cases z1 : lpE (nmR B) (nRec B).toNat 3 with
    | error q => rfl
    | ok p3 =>
      have u4 : p3 = pCt0 B := lpE_itr (fun q q' z => recD_sk (nm := 1) (Or.inr rfl) (by rw [recD_1 rfl]; exact z)) _ _ _ z1
      subst u4
      rw [bnd_ok, bnd_ok, e4, bnd_ok]
      have c1 : lpE (ctD nm B n) (B (pCt0 B)).toNat (pCt0 B + 1) = lpE (nmC B) (B (pCt0 B)).toNat (pCt0 B + 1) := by
        refine lpE_cg (fun j r => ∃ c : Int, 0 ≤ c ∧ c + j = nCtr B ∧ r = pCtr B c) (fun j r hP => ?_) (fun j r r' hP e => ?_) _ _ ⟨0, by omega, by show 0 + (((nCtr B).toNat : Nat) : Int) = _; omega, rfl⟩
        · obtain ⟨c, c0, c1, rfl⟩ := hP
          exact ctD_1 hx h (s7 c c0 (by omega))
        · obtain ⟨c, c0, c1, rfl⟩ := hP
          refine ⟨c + 1, by omega, by omega, ?_⟩
          rw [ctD_sk1 h e]; unfold pCtr; rw [itr_t _ _ c0]
      rw [← c1]
      cases z2 : lpE (ctD nm B n) (B (pCt0 B)).toNat (pCt0 B + 1) with
      | error q => rfl
      | ok p5 =>
        have u6 : p5 = pFn0 B := lpE_itr (fun q q' z => ctD_sk1 h z) _ _ _ z2
        subst u6
        rw [bnd_ok, bnd_ok, e5, bnd_ok]
        have c2 : lpE (fnD nm B) (B (pFn0 B)).toNat (pFn0 B + 1) = lpE (nmF B) (B (pFn0 B)).toNat (pFn0 B + 1) := by
          refine lpE_cg (fun j r => ∃ c : Int, 0 ≤ c ∧ c + j = nFn B ∧ r = pFn B c) (fun j r hP => ?_) (fun j r r' hP e => ?_) _ _ ⟨0, by omega, by show 0 + (((nFn B).toNat : Nat) : Int) = _; omega, rfl⟩
          · obtain ⟨c, c0, c1, rfl⟩ := hP
            exact fnD_1 hx h (s11 c c0 (by omega))
          · obtain ⟨c, c0, c1, rfl⟩ := hP
            rw [fnD_1 hx h (s11 c c0 (by omega))] at e
            exact ⟨c + 1, by omega, by omega, (nmF_ok hB (s11 c c0 (by omega)) e).1⟩
        rw [c2]
  refine ⟨fun q hq => by rw [key, hq]; rfl, fun q hq => ?_⟩
  have hq2 := hq
  unfold namP at hq
  rw [key, hq2, bnd_ok]
  cases z1 : lpE (nmR B) (nRec B).toNat 3 with
  | error q => rw [z1] at hq; cases hq
  | ok p3 =>
    have u4 : p3 = pCt0 B := lpE_itr (fun q q' z => recD_sk (nm := 1) (Or.inr rfl) (by rw [recD_1 rfl]; exact z)) _ _ _ z1
    subst u4
    rw [z1, bnd_ok] at hq
    cases z2 : lpE (nmC B) (B (pCt0 B)).toNat (pCt0 B + 1) with
    | error q => rw [z2] at hq; cases hq
    | ok p5 =>
      have u6 : p5 = pFn0 B := by
        have := lpE_inv (fun j r => ∃ c : Int, 0 ≤ c ∧ c + j = nCtr B ∧ r = pCtr B c) (fun j r r' hP e => by
          obtain ⟨c, c0, c1, rfl⟩ := hP
          refine ⟨c + 1, by omega, by omega, ?_⟩
          rw [← ctD_1 (nm := 1) hx rfl (s7 c c0 (by omega))] at e
          rw [ctD_sk1 rfl e]; unfold pCtr; rw [itr_t _ _ c0]) _ _ _ ⟨0, by omega, by show 0 + (((nCtr B).toNat : Nat) : Int) = _; omega, rfl⟩ z2
        obtain ⟨c, c0, c1, rfl⟩ := this
        rw [show c = nCtr B by omega]; rfl
      subst u6
      rw [z2, bnd_ok] at hq
      have u7 : q = pFn B (nFn B) := by
        have := lpE_inv (fun j r => ∃ c : Int, 0 ≤ c ∧ c + j = nFn B ∧ r = pFn B c) (fun j r r' hP e => by
          obtain ⟨c, c0, c1, rfl⟩ := hP
          exact ⟨c + 1, by omega, by omega, (nmF_ok hB (s11 c c0 (by omega)) e).1⟩) _ _ _ ⟨0, by omega, by show 0 + (((nFn B).toNat : Nat) : Int) = _; omega, rfl⟩ hq
        obtain ⟨c, c0, c1, rfl⟩ := this
        rw [show c = nFn B by omega]
      subst u7
      exact ⟨_, if_neg e6⟩
/-- a module made anew -/
def NewM (al : AL) (hi : HI) (hr : HR) (N : Nat) (n : Int) (B : Int → Int) : Prop := MS al hr N ∧ hi N 1 = n ∧ (aln al (N + 6) : Int) = n ∧ (∀ k, 0 ≤ k → k < n → hi (N + 6) k = B k) ∧ (∀ r, hi (N + 3) r = 0) ∧ (∀ r, hi (N + 1) r = 0) ∧ (∀ c, hr (N + 4) c = none)
def TX2 (B : Int → Int) (n : Int) : Prop := (∀ k, (0 ≤ k ∧ k < n → 0 ≤ B k ∧ B k ≤ 255) ∧ (¬ (0 ≤ k ∧ k < n) → B k = -1)) ∧ 0 ≤ n ∧ n ≤ 2000
/-- what a decoding may change -/
def wD (N : Nat) (a : Nat) (i : Int) : Prop := a = 6 ∨ (a = 5 ∧ i = 1) ∨ N ≤ a
def dcR (B : Int → Int) (n q : Int) : Prop := modP B n = .error q ∨ (∃ p, modP B n = .ok p) ∧ namP B = .error q
theorem d_decode (hA : SA al) (h5 : hr 5 0 = some 6) (hM : NewM al hi hr N n B) (hN : 119 ≤ N) (hB : TX2 B n) (hO : OPS al hi) (hd : 9 ≤ d)
    (ok : ∀ al' hi' hr', (∃ p, modP B n = .ok p) → (∃ p, namP B = .ok p) → GA al al' 100 6680 → FW (wD N) hi hi' → RW (fun a i => a = 6 ∨ N ≤ a) hr hr' → hi' 6 4 = 0 → hi' N 1 = n → (∀ k, 0 ≤ k → k < n → hi' (N + 6) k = B k) → ModS al' hi' hr' N B → szOK hi' N → Q (some (some (vR (some 6)))) al' hi' hr')
    (er : ∀ q al' hi' hr', dcR B n q → GA al al' 100 6680 → FW (wD N) hi hi' → RW (fun a i => a = 6 ∨ N ≤ a) hr hr' → hi' 6 4 = 1 → hi' 6 5 = q → Q (some (some (vR (some 6)))) al' hi' hr') : Ev d 30 [vR (some 5), vR (some N)] al hi hr Q := by
  obtain ⟨m1, m2, m3, m4, m5, m6, m7⟩ := hM
  have k6 : isK al 6 2 := hA.k (by decide) (by decide) rfl
  have k5 : isK al 5 4 := hA.k (by decide) (by decide) rfl
  have kN := m1.1
  have lN := m1.l6
  have kb := m1.2.2.2.2.2.2.2
  have eb := m1.2.2.2.2.2.2.1
  have l119 := hA.1
  have DC0 : ∀ al1 hi1 hr1 c s nm, (nm = 0 ∨ nm = 1) → GA al al1 c s → MS al1 hr1 N → hr1 5 0 = some 6 → (∀ k, 0 ≤ k → k < n → hi1 (N + 6) k = B k) → szOK hi1 N → (∀ c o, 0 ≤ c → c < 4 → hr1 (N + 4) c = some o → isK al1 o 3) → DC al1 (upI (upI (upI (upI (upI (upI hi1 6 1 n) 6 2 n) 6 3 0) 6 4 0) 6 5 (-1)) 5 1 nm) (upR hr1 6 0 (some (N + 6))) N n B nm := by
    intro al1 hi1 hr1 c s nm h01 hG hM1 e5 eB hz h9
    have rr : ∀ a i, a ≠ 6 → (upR hr1 6 0 (some (N + 6))) a i = hr1 a i := fun a i z => upR_a z
    have hh : ∀ a i, a ≠ 6 → a ≠ 5 → (upI (upI (upI (upI (upI (upI hi1 6 1 n) 6 2 n) 6 3 0) 6 4 0) 6 5 (-1)) 5 1 nm) a i = hi1 a i := fun a i z1 z2 => by rw [upI_a z2, upI_a z1, upI_a z1, upI_a z1, upI_a z1, upI_a z1]
    refine ⟨hG.sa hA, (rr 5 0 (by decide)).trans e5, upI_eq, h01, ⟨hG.k k6, upR_eq, hM1.2.2.2.2.2.2.2, ?_, ?_, fun k k0 k1 => (hh _ _ (by omega) (by omega)).trans (eB k k0 k1), hB.1, hB.2⟩, hM1.fr GA.rf (fun i => rr N i (by omega)), hN, fun r r0 r1 => by rw [hh _ _ (by omega) (by omega)]; exact hz r r0 r1, fun c o c0 c1 e => h9 c o c0 c1 (by rw [rr _ _ (by omega)] at e; exact e)⟩
    · rw [upI_a (by decide), upI_i (by decide), upI_i (by decide), upI_i (by decide), upI_i (by decide), upI_eq]
    · rw [hG.l lN]; omega
  have hx : TX B n := fun k => by
    have := hB.1 k
    by_cases c : 0 ≤ k ∧ k < n
    · have := this.1 c; exact ⟨by omega, fun _ => c.2⟩
    · have := this.2 c; exact ⟨by omega, fun z => absurd z (by omega)⟩
  have u50 : ∀ (r : HR) x, (upR r 6 0 x) 5 0 = r 5 0 := fun r x => upR_a (by decide)
  have R17 : ∀ (ps : Int) al1 hi1 hr1 l3 c s, GA al al1 c s → (2 ≤ ps ∨ hi1 6 4 ≠ 0) → hr1 5 0 = some 6 → Q (some (some (vR (some 6)))) al1 hi1 hr1 → Wp d 30 17 [vR (some 5), vR (some N), vI ps, l3] [] al1 hi1 hr1 Q := by
    intro ps al1 hi1 hr1 l3 c s hG h2 e5 hQ
    have k6' : isK al1 6 2 := hG.k k6
    have k5' : isK al1 5 4 := hG.k k5
    refine s30_17.mpr (s30_18.mpr ?_)
    refine s30_19.mpr (wif (fun c19 => ?_) (fun c19 => ?_))
    · skip
      refine s30_22.mpr ?_
      refine (s30_23 (by first | decide | assumption | omega)).mpr ?_
      try simp (disch := first | decide | assumption | omega) only [kon, knt_some, knt_none, Option.toList_some, Option.toList_none, List.cons_append, List.nil_append, e5]
      refine (s30_26 (by first | decide | assumption | omega) (by first | decide | assumption | omega)).mpr ?_
      refine b_isRight k6' (fun q => ?_) (fun q => ?_)
      · skip
        refine s30_29.mpr (wif (fun c29 => ?_) (fun c29 => ?_))
        · skip
          refine s30_235.mpr ?_
          refine (s30_236 (by first | decide | assumption | omega)).mpr ?_
          try simp (disch := first | decide | assumption | omega) only [kon, knt_some, knt_none, Option.toList_some, Option.toList_none, List.cons_append, List.nil_append, e5]
          refine (s30_239).mpr ?_
          exact hQ
        · skip
          first | (exfalso; omega) | exact absurd (by assumption) (by decide)
      · skip
        refine s30_29.mpr (wif (fun c29 => ?_) (fun c29 => ?_))
        · skip
          refine s30_235.mpr ?_
          refine (s30_236 (by first | decide | assumption | omega)).mpr ?_
          try simp (disch := first | decide | assumption | omega) only [kon, knt_some, knt_none, Option.toList_some, Option.toList_none, List.cons_append, List.nil_append, e5]
          refine (s30_239).mpr ?_
          exact hQ
        · skip
          first | (exfalso; omega) | exact absurd (by assumption) (by decide)
    · skip
      refine s30_235.mpr ?_
      refine (s30_236 (by first | decide | assumption | omega)).mpr ?_
      try simp (disch := first | decide | assumption | omega) only [kon, knt_some, knt_none, Option.toList_some, Option.toList_none, List.cons_append, List.nil_append, e5]
      refine (s30_239).mpr ?_
      exact hQ
  have hh : ∀ (h9 : HI) (x : Int) a i, a ≠ 6 → a ≠ 5 → (upI (upI (upI (upI (upI (upI h9 6 1 n) 6 2 n) 6 3 0) 6 4 0) 6 5 (-1)) 5 1 x) a i = h9 a i := fun h9 x a i z1 z2 => by rw [upI_a z2, upI_a z1, upI_a z1, upI_a z1, upI_a z1, upI_a z1]
  have hfw : ∀ (h9 : HI) (x : Int), FW (wD N) h9 (upI (upI (upI (upI (upI (upI h9 6 1 n) 6 2 n) 6 3 0) 6 4 0) 6 5 (-1)) 5 1 x) := fun h9 x => FW.up (FW.up (FW.up (FW.up (FW.up (FW.up FW.rf (Or.inl rfl)) (Or.inl rfl)) (Or.inl rfl)) (Or.inl rfl)) (Or.inl rfl)) (Or.inr (Or.inl ⟨rfl, rfl⟩))
  have x3 : ∀ (h9 : HI) (x : Int), (upI (upI (upI (upI (upI (upI h9 6 1 n) 6 2 n) 6 3 0) 6 4 0) 6 5 (-1)) 5 1 x) 6 3 = 0 := fun h9 x => by rw [upI_a (by decide), upI_i (by decide), upI_i (by decide), upI_eq]
  have x2 : ∀ (h9 : HI) (x : Int), (upI (upI (upI (upI (upI (upI h9 6 1 n) 6 2 n) 6 3 0) 6 4 0) 6 5 (-1)) 5 1 x) 6 2 = n := fun h9 x => by rw [upI_a (by decide), upI_i (by decide), upI_i (by decide), upI_i (by decide), upI_eq]
  have x4 : ∀ (h9 : HI) (x : Int), (upI (upI (upI (upI (upI (upI h9 6 1 n) 6 2 n) 6 3 0) 6 4 0) 6 5 (-1)) 5 1 x) 6 4 = 0 := fun h9 x => by rw [upI_a (by decide), upI_i (by decide), upI_eq]
  have wGD : ∀ {h1 h2 : HI}, FW (wG N) h1 h2 → FW (wD N) h1 h2 := fun z => z.mn (fun a i q => by unfold wG at q; unfold wD; omega)
  have rND : ∀ {r1 r2 : HR}, RW (wN N) r1 r2 → RW (fun a i => a = 6 ∨ N ≤ a) r1 r2 := fun z => z.mn (fun a i q => Or.inr q)
  have P1 : ∀ al1 hi1 hr1 l3 p, modP B n = .ok p → GA al al1 50 3340 → FW (wD N) hi hi1 → RW (fun a i => a = 6 ∨ N ≤ a) hr hr1 → hi1 6 4 = 0 → hi1 N 1 = n → (∀ k, 0 ≤ k → k < n → hi1 (N + 6) k = B k) → ModS al1 hi1 hr1 N B → szOK hi1 N → (∀ c o, 0 ≤ c → c < 4 → hr1 (N + 4) c = some o → isK al1 o 3) → Wp d 30 17 [vR (some 5), vR (some N), vI 1, l3] [] al1 hi1 hr1 Q := by
    intro al1 hi1 hr1 l3 p hP hG hf hR e4 e1 eB hMS hz h9
    have k6' : isK al1 6 2 := hG.k k6
    have k5' : isK al1 5 4 := hG.k k5
    have kN' : isK al1 N 10 := hG.k kN
    have e5 : hr1 5 0 = some 6 := (hR 5 0 (by omega)).trans h5
    have eb' := hMS.1.2.2.2.2.2.2.1
    have kb' : isK al1 (N + 6) 15 := hG.k kb
    have hS := sh_mod hP
    have hD := DC0 al1 hi1 hr1 _ _ 1 (Or.inr rfl) hG hMS.1 e5 eB hz h9
    have hO1 : OPS al1 (upI (upI (upI (upI (upI (upI hi1 6 1 n) 6 2 n) 6 3 0) 6 4 0) 6 5 (-1)) 5 1 1) := hO.fr hG (by omega) (fun i => by rw [hh _ _ _ _ (by decide) (by decide)]; exact hf 0 i (fun q => by unfold wD at q; omega))
    obtain ⟨g1, g2⟩ := modD_1 (nm := 1) hx rfl hP
    have rf1 : RW (fun a i => a = 6 ∨ N ≤ a) hr (upR hr1 6 0 (some (N + 6))) := hR.up (Or.inl rfl)
    refine s30_17.mpr (s30_18.mpr ?_)
    refine s30_19.mpr (wif (fun c19 => ?_) (fun c19 => ?_))
    · first
      | (exfalso; omega)
      | skip
        refine s30_22.mpr ?_
        refine (s30_23 (by first | decide | assumption | omega)).mpr ?_
        try simp (disch := first | decide | assumption | omega) only [kon, knt_some, knt_none, Option.toList_some, Option.toList_none, List.cons_append, List.nil_append, e5, eb', e1, u50]
        refine (s30_26 (by first | decide | assumption | omega) (by first | decide | assumption | omega)).mpr ?_
        refine b_isRight k6' (fun _ => ?_) (fun q => absurd e4 q)
        refine s30_29.mpr (wif (fun c29 => ?_) (fun c29 => ?_))
        · first
          | (exfalso; omega)
          | skip
            exact absurd (by assumption) (by decide)
        · first
          | (exfalso; omega)
          | skip
            refine s30_32.mpr ?_
            refine (s30_33 (by first | decide | assumption | omega)).mpr ?_
            refine s30_36.mpr ?_
            try simp (disch := first | decide | assumption | omega) only [kon, knt_some, knt_none, Option.toList_some, Option.toList_none, List.cons_append, List.nil_append, e5, eb', e1, u50]
            refine (s30_37 (by first | decide | assumption | omega)).mpr ?_
            refine s30_40.mpr ?_
            try simp (disch := first | decide | assumption | omega) only [kon, knt_some, knt_none, Option.toList_some, Option.toList_none, List.cons_append, List.nil_append, e5, eb', e1, u50]
            refine (s30_41 (by first | decide | assumption | omega)).mpr ?_
            try simp (disch := first | decide | assumption | omega) only [kon, knt_some, knt_none, Option.toList_some, Option.toList_none, List.cons_append, List.nil_append, e5, eb', e1, u50]
            refine (s30_44 (by first | decide | assumption | omega) (by first | decide | assumption | omega)).mpr ?_
            refine b_startOver k6' kb' hB.2.1 (by rw [hG.l lN]; omega) ?_
            refine s30_47.mpr (s30_48.mpr (s30_49.mpr ?_))
            refine s30_50.mpr (wif (fun c50 => ?_) (fun c50 => ?_))
            · first
              | (exfalso; omega)
              | skip
                refine s30_53.mpr (s30_54.mpr ?_)
                refine (s30_58 (by first | decide | assumption | omega) (by first | decide | assumption | omega)).mpr ?_
                refine d_pass (nm := 1) hD hO1 (fun _ => ⟨hMS.fr GA.rf (fun a i z1 z2 => hh _ _ _ _ (by omega) (by omega)) (fun a i z1 z2 => upR_a (by omega)), hS⟩) (fun z => absurd z (by decide)) (by omega) (x3 _ _) (x2 _ _) (x4 _ _) (fun p' al2 hi2 hr2 i9 y1 y2 y3 y4 y5 y6 y7 y8 y9 => ?_) (fun q al2 hi2 hr2 i9 y1 y2 y3 y4 y5 y6 y7 => ?_) _
                · have hn : ∃ p, namP B = .ok p := by
                    cases w : namP B with
                    | error q => rw [g1 q w] at y1; cases y1
                    | ok q => exact ⟨q, rfl⟩
                  refine s30_229.mpr ?_
                  refine s30_232.mpr ?_
                  refine R17 _ al2 hi2 hr2 _ _ _ (hG.tr y2) (Or.inl (by decide)) y5.2.1 (ok al2 hi2 hr2 ⟨p, hP⟩ hn (hG.tr y2) ((hf.tr (hfw _ _)).tr (wGD y3)) (rf1.tr (rND y4)) y7 ?_ y5.2.2.2.2.1.2.2.2.2.2.1 y9 y5.2.2.2.2.2.2.2.1)
                  rw [y8, hh _ _ _ _ (by omega) (by omega)]; exact e1
                · have hn : namP B = .error q := by
                    cases w : namP B with
                    | error z => have := g1 z w; rw [this] at y1; exact y1
                    | ok z => obtain ⟨z', w2⟩ := g2 z w; rw [w2] at y1; cases y1
                  refine s30_229.mpr ?_
                  refine s30_232.mpr ?_
                  exact R17 _ al2 hi2 hr2 _ _ _ (hG.tr y2) (Or.inr (by rw [y6]; decide)) y5.2.1 (er q al2 hi2 hr2 (Or.inr ⟨⟨p, hP⟩, hn⟩) (hG.tr y2) ((hf.tr (hfw _ _)).tr (wGD y3)) (rf1.tr (rND y4)) y6 y7)
            · first
              | (exfalso; omega)
              | skip
                refine s30_57.mpr ?_
                refine (s30_58 (by first | decide | assumption | omega) (by first | decide | assumption | omega)).mpr ?_
                refine d_pass (nm := 1) hD hO1 (fun _ => ⟨hMS.fr GA.rf (fun a i z1 z2 => hh _ _ _ _ (by omega) (by omega)) (fun a i z1 z2 => upR_a (by omega)), hS⟩) (fun z => absurd z (by decide)) (by omega) (x3 _ _) (x2 _ _) (x4 _ _) (fun p' al2 hi2 hr2 i9 y1 y2 y3 y4 y5 y6 y7 y8 y9 => ?_) (fun q al2 hi2 hr2 i9 y1 y2 y3 y4 y5 y6 y7 => ?_) _
                · have hn : ∃ p, namP B = .ok p := by
                    cases w : namP B with
                    | error q => rw [g1 q w] at y1; cases y1
                    | ok q => exact ⟨q, rfl⟩
                  refine s30_229.mpr ?_
                  refine s30_232.mpr ?_
                  refine R17 _ al2 hi2 hr2 _ _ _ (hG.tr y2) (Or.inl (by decide)) y5.2.1 (ok al2 hi2 hr2 ⟨p, hP⟩ hn (hG.tr y2) ((hf.tr (hfw _ _)).tr (wGD y3)) (rf1.tr (rND y4)) y7 ?_ y5.2.2.2.2.1.2.2.2.2.2.1 y9 y5.2.2.2.2.2.2.2.1)
                  rw [y8, hh _ _ _ _ (by omega) (by omega)]; exact e1
                · have hn : namP B = .error q := by
                    cases w : namP B with
                    | error z => have := g1 z w; rw [this] at y1; exact y1
                    | ok z => obtain ⟨z', w2⟩ := g2 z w; rw [w2] at y1; cases y1
                  refine s30_229.mpr ?_
                  refine s30_232.mpr ?_
                  exact R17 _ al2 hi2 hr2 _ _ _ (hG.tr y2) (Or.inr (by rw [y6]; decide)) y5.2.1 (er q al2 hi2 hr2 (Or.inr ⟨⟨p, hP⟩, hn⟩) (hG.tr y2) ((hf.tr (hfw _ _)).tr (wGD y3)) (rf1.tr (rND y4)) y6 y7)
    · first
      | (exfalso; omega)
      | skip
        exact absurd (by assumption) (by decide)
  have P0 : ∀ hi1 hr1 l3, FW (wD N) hi hi1 → (∀ a i, a ≠ 6 → hi1 a i = hi a i) → (∀ a i, a ≠ 6 → hr1 a i = hr a i) → hi1 6 4 = 0 → Wp d 30 17 [vR (some 5), vR (some N), vI 0, l3] [] al hi1 hr1 Q := by
    intro hi1 hr1 l3 hf hi9 hr9 e4
    have e5 : hr1 5 0 = some 6 := (hr9 5 0 (by decide)).trans h5
    have hM1 : MS al hr1 N := m1.fr GA.rf (fun i => hr9 N i (by omega))
    have eb' := hM1.2.2.2.2.2.2.1
    have e1 : hi1 N 1 = n := (hi9 N 1 (by omega)).trans m2
    have hD := DC0 al hi1 hr1 _ _ 0 (Or.inl rfl) GA.rf hM1 e5 (fun k k0 k1 => (hi9 _ _ (by omega)).trans (m4 k k0 k1)) (fun r r0 r1 => by rw [hi9 _ _ (by omega), m6 r]; decide) (fun c o c0 c1 z => by rw [hr9 _ _ (by omega), m7 c] at z; cases z)
    have hO1 : OPS al (upI (upI (upI (upI (upI (upI hi1 6 1 n) 6 2 n) 6 3 0) 6 4 0) 6 5 (-1)) 5 1 0) := hO.fr GA.rf (by omega) (fun i => by rw [hh _ _ _ _ (by decide) (by decide)]; exact hi9 0 i (by decide))
    have rf1 : RW (fun a i => a = 6 ∨ N ≤ a) hr (upR hr1 6 0 (some (N + 6))) := RW.up (fun a i q => hr9 a i (by omega)) (Or.inl rfl)
    refine s30_17.mpr (s30_18.mpr ?_)
    refine s30_19.mpr (wif (fun c19 => ?_) (fun c19 => ?_))
    · first
      | (exfalso; omega)
      | skip
        refine s30_22.mpr ?_
        refine (s30_23 (by first | decide | assumption | omega)).mpr ?_
        try simp (disch := first | decide | assumption | omega) only [kon, knt_some, knt_none, Option.toList_some, Option.toList_none, List.cons_append, List.nil_append, e5, eb', e1, u50]
        refine (s30_26 (by first | decide | assumption | omega) (by first | decide | assumption | omega)).mpr ?_
        refine b_isRight k6 (fun _ => ?_) (fun q => absurd e4 q)
        refine s30_29.mpr (wif (fun c29 => ?_) (fun c29 => ?_))
        · first
          | (exfalso; omega)
          | skip
            exact absurd (by assumption) (by decide)
        · first
          | (exfalso; omega)
          | skip
            refine s30_32.mpr ?_
            refine (s30_33 (by first | decide | assumption | omega)).mpr ?_
            refine s30_36.mpr ?_
            try simp (disch := first | decide | assumption | omega) only [kon, knt_some, knt_none, Option.toList_some, Option.toList_none, List.cons_append, List.nil_append, e5, eb', e1, u50]
            refine (s30_37 (by first | decide | assumption | omega)).mpr ?_
            refine s30_40.mpr ?_
            try simp (disch := first | decide | assumption | omega) only [kon, knt_some, knt_none, Option.toList_some, Option.toList_none, List.cons_append, List.nil_append, e5, eb', e1, u50]
            refine (s30_41 (by first | decide | assumption | omega)).mpr ?_
            try simp (disch := first | decide | assumption | omega) only [kon, knt_some, knt_none, Option.toList_some, Option.toList_none, List.cons_append, List.nil_append, e5, eb', e1, u50]
            refine (s30_44 (by first | decide | assumption | omega) (by first | decide | assumption | omega)).mpr ?_
            refine b_startOver k6 kb hB.2.1 (by omega) ?_
            refine s30_47.mpr (s30_48.mpr (s30_49.mpr ?_))
            refine s30_50.mpr (wif (fun c50 => ?_) (fun c50 => ?_))
            · first
              | (exfalso; omega)
              | skip
                refine s30_53.mpr (s30_54.mpr ?_)
                refine (s30_58 (by first | decide | assumption | omega) (by first | decide | assumption | omega)).mpr ?_
                refine d_pass (nm := 0) hD hO1 (fun z => absurd z (by decide)) (fun _ r => by rw [hh _ _ _ _ (by omega) (by omega), hi9 _ _ (by omega)]; exact m5 r) (by omega) (x3 _ _) (x2 _ _) (x4 _ _) (fun p' al2 hi2 hr2 i9 y1 y2 y3 y4 y5 y6 y7 y8 y9 => ?_) (fun q al2 hi2 hr2 i9 y1 y2 y3 y4 y5 y6 y7 => ?_) _
                · rw [modD_0 hx rfl] at y1
                  refine s30_229.mpr ?_
                  refine s30_232.mpr ?_
                  refine P1 al2 hi2 hr2 _ p' y1 y2 ((hf.tr (hfw _ _)).tr (wGD y3)) (rf1.tr (rND y4)) y7 ?_ y5.2.2.2.2.1.2.2.2.2.2.1 y9 y5.2.2.2.2.2.2.2.1 y5.2.2.2.2.2.2.2.2
                  rw [y8, hh _ _ _ _ (by omega) (by omega)]; exact e1
                · rw [modD_0 hx rfl] at y1
                  refine s30_229.mpr ?_
                  refine s30_232.mpr ?_
                  exact R17 _ al2 hi2 hr2 _ _ _ y2 (Or.inr (by rw [y6]; decide)) y5.2.1 (er q al2 hi2 hr2 (Or.inl y1) (y2.mn (by decide) (by decide)) ((hf.tr (hfw _ _)).tr (wGD y3)) (rf1.tr (rND y4)) y6 y7)
            · first
              | (exfalso; omega)
              | skip
                refine s30_57.mpr ?_
                refine (s30_58 (by first | decide | assumption | omega) (by first | decide | assumption | omega)).mpr ?_
                refine d_pass (nm := 0) hD hO1 (fun z => absurd z (by decide)) (fun _ r => by rw [hh _ _ _ _ (by omega) (by omega), hi9 _ _ (by omega)]; exact m5 r) (by omega) (x3 _ _) (x2 _ _) (x4 _ _) (fun p' al2 hi2 hr2 i9 y1 y2 y3 y4 y5 y6 y7 y8 y9 => ?_) (fun q al2 hi2 hr2 i9 y1 y2 y3 y4 y5 y6 y7 => ?_) _
                · rw [modD_0 hx rfl] at y1
                  refine s30_229.mpr ?_
                  refine s30_232.mpr ?_
                  refine P1 al2 hi2 hr2 _ p' y1 y2 ((hf.tr (hfw _ _)).tr (wGD y3)) (rf1.tr (rND y4)) y7 ?_ y5.2.2.2.2.1.2.2.2.2.2.1 y9 y5.2.2.2.2.2.2.2.1 y5.2.2.2.2.2.2.2.2
                  rw [y8, hh _ _ _ _ (by omega) (by omega)]; exact e1
                · rw [modD_0 hx rfl] at y1
                  refine s30_229.mpr ?_
                  refine s30_232.mpr ?_
                  exact R17 _ al2 hi2 hr2 _ _ _ y2 (Or.inr (by rw [y6]; decide)) y5.2.1 (er q al2 hi2 hr2 (Or.inl y1) (y2.mn (by decide) (by decide)) ((hf.tr (hfw _ _)).tr (wGD y3)) (rf1.tr (rND y4)) y6 y7)
    · first
      | (exfalso; omega)
      | skip
        exact absurd (by assumption) (by decide)
  rw [e30]
  refine s30_0.mpr ?_
  refine (s30_1 (by first | decide | assumption | omega)).mpr ?_
  refine s30_4.mpr ?_
  try simp (disch := first | decide | assumption | omega) only [kon, knt_some, knt_none, Option.toList_some, Option.toList_none, List.cons_append, List.nil_append, h5, eb, m2]
  refine (s30_5 (by first | decide | assumption | omega)).mpr ?_
  refine s30_8.mpr ?_
  try simp (disch := first | decide | assumption | omega) only [kon, knt_some, knt_none, Option.toList_some, Option.toList_none, List.cons_append, List.nil_append, h5, eb, m2]
  refine (s30_9 (by first | decide | assumption | omega)).mpr ?_
  try simp (disch := first | decide | assumption | omega) only [kon, knt_some, knt_none, Option.toList_some, Option.toList_none, List.cons_append, List.nil_append, h5, eb, m2]
  refine (s30_12 (by first | decide | assumption | omega) (by first | decide | assumption | omega)).mpr ?_
  refine b_startOver k6 kb hB.2.1 (by omega) ?_
  refine s30_15.mpr (s30_16.mpr ?_)
  refine P0 _ _ _ (FW.up (FW.up (FW.up (FW.up (FW.up FW.rf (Or.inl rfl)) (Or.inl rfl)) (Or.inl rfl)) (Or.inl rfl)) (Or.inl rfl)) (fun a i z => ?_) (fun a i z => upR_a z) ?_
  · rw [upI_a z, upI_a z, upI_a z, upI_a z, upI_a z]
  · rw [upI_i (by decide), upI_eq]
end CD13
