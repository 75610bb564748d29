/-! THE REFERENCE reads code -/
section MP2
variable {d : Nat} {al : AL} {hi : HI} {hr : HR} {Q : QQ}
theorem m_numberE {lo hg : Int} (hA : SA al) (hR : MR hr) (h : PT hi) (hd : 1 ≤ d) (hq : kEx (nmb (bAt hi 12) lo hg (hi 49 26)) (fun p' => Q (some (some (vI (bAt hi 12 (hi 49 26))))) al (at1 hi p') hr) (fun q => Q none al (fl1 hi 1 q) hr)) : Ev d 221 [vR (some 49), vI lo, vI hg] al hi hr Q := by
  refine (m_number hA hR h hd).mpr ?_
  unfold nmb at hq
  split
  · rename_i c; rw [if_pos c] at hq; exact hq
  · rename_i c; rw [if_neg c] at hq; exact hq
theorem m_part {lo hg e : Int} (hA : SA al) (hR : MR hr) (h : PT hi) (hd : 2 ≤ d) (hq : kEx (prt (bAt hi 12) e lo hg (hi 49 26)) (fun p' => Q (some (some (vI (bAt hi 12 (hi 49 26))))) al (at1 hi p') hr) (fun q => Q none al (fl1 hi 1 q) hr)) : Ev d 233 [vR (some 49), vI lo, vI hg, vI e] al hi hr Q := by
  unfold prt nmb at hq
  rw [e233]
  have kM : isK al 49 13 := hA.k (by decide) (by decide) rfl
  refine s233_0.mpr ?_
  refine (s233_1 kM).mpr ?_
  refine s233_4.mpr ?_
  try simp (disch := first | decide | assumption | omega) only [kon, knt_some, knt_none, Option.toList_some, Option.toList_none, List.cons_append, List.nil_append, upI_eq, upI_a, upI_i, upR_eq, upR_a, upR_i]
  refine s233_5.mpr (wif (fun c5 => ?_) (fun c5 => ?_))
  · skip
    refine s233_8.mpr (s233_9.mpr (s233_10.mpr ?_))
    refine (s233_11 kM).mpr ?_
    try simp (disch := first | decide | assumption | omega) only [kon, knt_some, knt_none, Option.toList_some, Option.toList_none, List.cons_append, List.nil_append, upI_eq, upI_a, upI_i, upR_eq, upR_a, upR_i]
    refine (s233_14 (by omega) kM).mpr ?_
    refine (m_fails hA hR).mpr ?_
    show tho 233 = true ∧ Q none _ _ _
    refine ⟨rfl, ?_⟩
    first | (exfalso; omega) | (simp (disch := first | decide | assumption | omega) only [if_pos, if_neg, kEx_ok, kEx_er] at hq; exact hq)
  · skip
    refine s233_17.mpr (s233_18.mpr (s233_19.mpr ?_))
    refine (s233_20 (by omega) kM).mpr ?_
    refine (m_number hA hR (by first | decide | assumption | omega) (by omega)).mpr ?_
    try simp (disch := first | decide | assumption | omega) only [kon, knt_some, knt_none, Option.toList_some, Option.toList_none, List.cons_append, List.nil_append, upI_eq, upI_a, upI_i, upR_eq, upR_a, upR_i]
    refine wif (fun c20 => ?_) (fun c20 => ?_)
    · skip
      refine (s233_23).mpr ?_
      first | (exfalso; omega) | (simp (disch := first | decide | assumption | omega) only [if_pos, if_neg, kEx_ok, kEx_er] at hq; exact hq)
    · skip
      show tho 233 = true ∧ Q none _ _ _
      refine ⟨rfl, ?_⟩
      first | (exfalso; omega) | (simp (disch := first | decide | assumption | omega) only [if_pos, if_neg, kEx_ok, kEx_er] at hq; exact hq)
theorem m_noLocal {e : Int} (hA : SA al) (hR : MR hr) (hd : 1 ≤ d) (hq : Q none al (fl1 hi 1 (hi 49 26)) hr) : Ev d 235 [vR (some 49), vI e] al hi hr Q := by
  rw [e235]
  have kM : isK al 49 13 := hA.k (by decide) (by decide) rfl
  refine s235_0.mpr (s235_1.mpr (s235_2.mpr ?_))
  refine (s235_3 kM).mpr ?_
  refine (s235_6 (by omega) kM).mpr ?_
  refine (m_fails hA hR).mpr ?_
  show tho 235 = true ∧ Q none _ _ _
  refine ⟨rfl, ?_⟩
  exact hq
theorem lpE_add (f : Int → Ex) : ∀ (m n : Nat) (p : Int), lpE f (m + n) p = (lpE f m p).bind (lpE f n)
  | 0, n, p => by rw [Nat.zero_add]; rfl
  | m + 1, n, p => by
    rw [show m + 1 + n = (m + n) + 1 by omega]
    show (f p).bind (lpE f (m + n)) = ((f p).bind (lpE f m)).bind (lpE f n)
    cases f p with
    | error e => rfl
    | ok q => exact lpE_add f m n q
theorem lpE_err {f : Int → Ex} {i n : Nat} {p0 p q : Int} (hi : i < n) (h1 : lpE f i p0 = .ok p) (h2 : f p = .error q) : lpE f n p0 = .error q := by
  obtain ⟨j, rfl⟩ : ∃ j, n = i + (1 + j) := ⟨n - i - 1, by omega⟩
  rw [lpE_add, h1]
  show lpE f (1 + j) p = _
  rw [Nat.add_comm]
  show (f p).bind _ = _
  rw [h2]; rfl
/-- a loop that reads one thing after another -/
theorem wp_lpE {k h : Nat} {N : Nat} {f : Int → Ex} {p0 : Int} (J : Nat → Int → List AV → HI → Prop)
    (body : ∀ i p ls hi, i < N → lpE f i p0 = .ok p → J i p ls hi → (∀ p' ls' hi', f p = .ok p' → J (i + 1) p' ls' hi' → Wp d k h ls' [] al hi' hr Q) → (∀ q, f p = .error q → lpE f N p0 = .error q) → Wp d k h ls [] al hi hr Q)
    (fin : ∀ p ls hi, lpE f N p0 = .ok p → J N p ls hi → Wp d k h ls [] al hi hr Q) : ∀ ls hi, J 0 p0 ls hi → Wp d k h ls [] al hi hr Q := by
  have key : ∀ (n i : Nat) p ls hi, i + n = N → lpE f i p0 = .ok p → J i p ls hi → Wp d k h ls [] al hi hr Q := by
    intro n
    induction n with
    | zero => intro i p ls hi h0 h1 hI; rw [show i = N by omega] at hI h1; exact fin p ls hi h1 hI
    | succ n ih => intro i p ls hi h0 h1 hI; exact body i p ls hi (by omega) h1 hI (fun p' ls' hi' h' hJ => ih (i + 1) p' ls' hi' (by omega) (by rw [lpE_s, h1]; exact h') hJ) (fun q hq => lpE_err (by omega) h1 hq)
  intro ls hi hI
  exact key N 0 p0 ls hi (by omega) rfl hI
theorem cast1 {i : Nat} : ((i + 1 : Nat) : Int) = (i : Int) + 1 := rfl
theorem prt_ok {B : Int → Int} {e lo hg p q : Int} (h : prt B e lo hg p = .ok q) : q = p + 1 ∧ p ≠ e ∧ lo ≤ B p ∧ B p ≤ hg := by
  unfold prt at h
  split at h
  · cases h
  · obtain ⟨a, b⟩ := nmb_ok h; exact ⟨a, by assumption, b⟩
theorem prt_er {B : Int → Int} {e lo hg p q : Int} (h : prt B e lo hg p = .error q) : q = p := by
  unfold prt at h
  split at h
  · cases h; rfl
  · exact (nmb_er h).1
theorem bAt_b {p : Int} (h2 : hi 52 12 ≤ 2000) (hb : 0 ≤ bAt hi 12 p) : 0 ≤ p ∧ p + 1 ≤ 2000 := by
  have := bAt_lt (hi := hi) (m := 12) (k := p) (by omega)
  omega
theorem m_instruction {f e L : Int} (hA : SA al) (hR : MR hr) (h : PT hi) (hd : 3 ≤ d) (hf : 0 ≤ f ∧ f < 130) (hL : hi 67 f = L) (hL2 : 0 ≤ L ∧ L ≤ 10)
    (hq : kEx (insP (bAt hi 12) e L (hi 49 26)) (fun p' => Q (some none) al (at1 hi p') hr) (fun q => Q none al (fl1 (at1 hi q) 1 q) hr)) : Ev d 234 [vR (some 49), vI f, vI e] al hi hr Q := by
  have h' := h
  obtain ⟨h1, h2, h3, h4⟩ := h
  obtain ⟨p, hp⟩ : ∃ p, hi 49 26 = p := ⟨_, rfl⟩
  have hs : at1 hi p = hi := upI_same hp
  rw [hp] at h3 h4 hq
  have b0 := bAt_rng (hi := hi) 12 p
  have l67 := SA.len (a := 67) (n := 130) hA (by decide) (by decide) rfl
  have kM : isK al 49 13 := hA.k (by decide) (by decide) rfl
  have fin : ∀ p' ls, insP (bAt hi 12) e L p = .ok p' → Wp d 234 324 ls [] al (at1 hi p') hr Q := by
    intro p' ls h9
    rw [h9] at hq
    exact s234_324.mpr hq
  have err : ∀ q hi', insP (bAt hi 12) e L p = .error q → hi' = fl1 (at1 hi q) 1 q → Q none al hi' hr := by
    intro q hi' h9 h8
    rw [h9] at hq
    rw [h8]; exact hq
  clear hq
  have t191 : bAt hi 12 p = 0 → prt (bAt hi 12) e 0 43 p = .ok (p + 1) → 0 ≤ p + 1 ∧ p + 1 ≤ 2000 → ∀ l3 l5, Wp d 234 191 [vR (some 49), vI f, vI e, l3, vI 0, l5] [] al (at1 hi (p + 1)) hr Q := by
    intro e0 e1 e2 l3 l5
    have e9 : insP (bAt hi 12) e L p = lpE (prt (bAt hi 12) e 0 255) 4 (p + 1) := by
      rw [ins_k e1 (oprn_1 (List.mem_singleton.mpr e0))]; rfl
    refine wp_lpE (N := 4) (f := prt (bAt hi 12) e 0 255) (p0 := p + 1) (fun i p' ls hi' => ∃ l3 l5, ls = [vR (some 49), vI f, vI e, l3, vI i, l5] ∧ hi' = at1 hi p' ∧ 0 ≤ p' ∧ p' ≤ 2000) ?_ ?_ _ _ ⟨l3, l5, rfl, rfl, e2⟩
    · rintro i p' ls hi' hi4 hok ⟨l3, l5, rfl, rfl, g0, g1⟩ nx er
      have b1 := bAt_rng (hi := hi) 12 p'
      refine s234_191.mpr (s234_193.mpr ?_)
      refine s234_194.mpr (wif (fun c194 => ?_) (fun c194 => ?_))
      · skip
        refine s234_197.mpr (s234_198.mpr (s234_199.mpr (s234_202.mpr ?_)))
        refine (s234_203 (by omega) kM).mpr ?_
        refine m_part hA hR (PT.at h' g0 g1) (by omega) ?_
        simp (disch := first | decide | assumption | omega) only [upI_eq, upI_a, upI_i, upR_eq, upR_a, upR_i, upI_up, at1, fl1, bAt_up]
        refine kEx_of (fun q203 e203 => ?_) (fun q203 e203 => ?_)
        · skip
          obtain ⟨rfl, f203, g203⟩ := prt_ok e203; obtain ⟨u203, w203⟩ := bAt_b h2 g203.1
          refine s234_206.mpr (s234_207.mpr (s234_210.mpr ?_))
          try simp (disch := first | decide | assumption | omega) only [kon, knt_some, knt_none, Option.toList_some, Option.toList_none, List.cons_append, List.nil_append, h1, upI_eq, upI_a, upI_i, upR_eq, upR_a, upR_i, upI_up, at1, fl1, bAt_up, fAdd_id]
          exact nx _ _ _ e203 ⟨_, _, rfl, rfl, by omega, by omega⟩
        · skip
          show tho 234 = true ∧ Q none _ _ _
          refine ⟨rfl, ?_⟩
          obtain rfl := prt_er e203; exact err _ _ (by rw [e9]; exact er _ e203) (by simp only [at1, fl1])
      · skip
        refine s234_213.mpr ?_
        refine (s234_324).mpr ?_
        exfalso; omega
    · rintro p' ls hi' hok ⟨l3, l5, rfl, rfl, g0, g1⟩
      refine s234_191.mpr (s234_193.mpr ?_)
      refine s234_194.mpr (wif (fun c194 => ?_) (fun c194 => ?_))
      · skip
        exfalso; omega
      · skip
        refine s234_213.mpr ?_
        exact fin _ _ (by rw [e9]; exact hok)
  have t298 : bAt hi 12 p = 38 → prt (bAt hi 12) e 0 43 p = .ok (p + 1) → prt (bAt hi 12) e 1 4 (p + 1) = .ok (p + 1 + 1) → 0 ≤ bAt hi 12 (p + 1) → 0 ≤ p + 1 + 1 ∧ p + 1 + 1 ≤ 2000 → ∀ l3, Wp d 234 298 [vR (some 49), vI f, vI e, l3, vI (bAt hi 12 (p + 1)), vI 0] [] al (at1 hi (p + 1 + 1)) hr Q := by
    intro e0 e1 e2 e3 e4 l3
    obtain ⟨n, hn⟩ := Int.eq_ofNat_of_zero_le e3
    have hn4 := (prt_ok e2).2.2.2
    rw [hn] at hn4
    have e9 : insP (bAt hi 12) e L p = lpE (prt (bAt hi 12) e 0 255) n (p + 1 + 1) := by
      rw [ins_k e1 (oprn_10 e0)]
      show (prt (bAt hi 12) e 1 4 (p + 1)).bind (lpE (prt (bAt hi 12) e 0 255) (bAt hi 12 (p + 1)).toNat) = _
      rw [e2, bnd_ok, hn]; rfl
    refine wp_lpE (N := n) (f := prt (bAt hi 12) e 0 255) (p0 := p + 1 + 1) (fun i p' ls hi' => ∃ l3, ls = [vR (some 49), vI f, vI e, l3, vI n, vI i] ∧ hi' = at1 hi p' ∧ 0 ≤ p' ∧ p' ≤ 2000) ?_ ?_ _ _ ⟨l3, by rw [hn]; rfl, rfl, e4⟩
    · rintro i p' ls hi' hi4 hok ⟨l3, rfl, rfl, g0, g1⟩ nx er
      have b1 := bAt_rng (hi := hi) 12 p'
      refine s234_298.mpr (s234_300.mpr ?_)
      refine s234_302.mpr (wif (fun c302 => ?_) (fun c302 => ?_))
      · skip
        refine s234_305.mpr (s234_306.mpr (s234_307.mpr (s234_310.mpr ?_)))
        refine (s234_311 (by omega) kM).mpr ?_
        refine m_part hA hR (PT.at h' g0 g1) (by omega) ?_
        simp (disch := first | decide | assumption | omega) only [upI_eq, upI_a, upI_i, upR_eq, upR_a, upR_i, upI_up, at1, fl1, bAt_up]
        refine kEx_of (fun q311 e311 => ?_) (fun q311 e311 => ?_)
        · skip
          obtain ⟨rfl, f311, g311⟩ := prt_ok e311; obtain ⟨u311, w311⟩ := bAt_b h2 g311.1
          refine s234_314.mpr (s234_315.mpr (s234_318.mpr ?_))
          try simp (disch := first | decide | assumption | omega) only [kon, knt_some, knt_none, Option.toList_some, Option.toList_none, List.cons_append, List.nil_append, h1, upI_eq, upI_a, upI_i, upR_eq, upR_a, upR_i, upI_up, at1, fl1, bAt_up, fAdd_id]
          exact nx _ _ _ e311 ⟨_, by rw [cast1], rfl, by omega, by omega⟩
        · skip
          show tho 234 = true ∧ Q none _ _ _
          refine ⟨rfl, ?_⟩
          obtain rfl := prt_er e311; exact err _ _ (by rw [e9]; exact er _ e311) (by simp only [at1, fl1])
      · skip
        refine s234_321.mpr ?_
        refine (s234_324).mpr ?_
        exfalso; omega
    · rintro p' ls hi' hok ⟨l3, rfl, rfl, g0, g1⟩
      refine s234_298.mpr (s234_300.mpr ?_)
      refine s234_302.mpr (wif (fun c302 => ?_) (fun c302 => ?_))
      · skip
        exfalso; omega
      · skip
        refine s234_321.mpr ?_
        exact fin _ _ (by rw [e9]; exact hok)
  rw [e234]
  have kM : isK al 49 13 := hA.k (by decide) (by decide) rfl
  refine s234_0.mpr (s234_1.mpr (s234_2.mpr (s234_4.mpr ?_)))
  refine (s234_5 (by omega) kM).mpr ?_
  refine m_part hA hR (by first | exact h' | exact PT.at h' (by omega) (by omega)) (by omega) ?_
  simp (disch := first | decide | assumption | omega) only [hp, upI_eq, upI_a, upI_i, upR_eq, upR_a, upR_i, upI_up, at1, fl1, bAt_up]
  refine kEx_of (fun q5 e5 => ?_) (fun q5 e5 => ?_)
  · skip
    obtain ⟨rfl, f5, g5⟩ := prt_ok e5; obtain ⟨u5, w5⟩ := bAt_b h2 (Int.le_trans (by omega) g5.1)
    refine s234_8.mpr (s234_9.mpr ?_)
    refine g234_10 (fun c10 => ?_) (fun c10 => ?_) (fun c10 => ?_) (fun c10 => ?_) (fun c10 => ?_) (fun c10 => ?_) (fun c10 => ?_)
    · skip
      have c10 := List.mem_singleton.mp c10
      refine s234_188.mpr (s234_189.mpr (t191 c10 e5 (by omega) _ _))
    · skip
      refine s234_216.mpr ((s234_217 kM).mpr ?_)
      rw [mr_19 hR]
      refine s234_220.mpr ?_
      refine (s234_221 (hA.k (by decide) (by decide) rfl) (by first | assumption | omega) (by first | assumption | omega)).mpr ?_
      try simp (disch := first | decide | assumption | omega) only [kon, knt_some, knt_none, Option.toList_some, Option.toList_none, List.cons_append, List.nil_append, h1, hp, hL, upI_eq, upI_a, upI_i, upR_eq, upR_a, upR_i, upI_up, at1, fl1, bAt_up, fSub_id]
      refine s234_222.mpr (wif (fun c222 => ?_) (fun c222 => ?_))
      · skip
        refine s234_225.mpr (s234_226.mpr ?_)
        refine (s234_227 (by omega) kM).mpr ?_
        refine m_noLocal hA hR (by omega) ?_
        try simp (disch := first | decide | assumption | omega) only [kon, knt_some, knt_none, Option.toList_some, Option.toList_none, List.cons_append, List.nil_append, h1, hp, hL, upI_eq, upI_a, upI_i, upR_eq, upR_a, upR_i, upI_up, at1, fl1, bAt_up, fSub_id]
        show tho 234 = true ∧ Q none _ _ _
        refine ⟨rfl, ?_⟩
        first | exact err _ _ (ins_er e5) (by rw [prt_er e5, hs]) | exact err _ _ ((ins_k e5 (oprn_3 c10)).trans e257) (by rw [prt_er e257]) | exact err _ _ ((ins_k e5 (oprn_5 c10)).trans e268) (by rw [prt_er e268]) | exact err _ _ ((ins_k e5 (oprn_9 c10)).trans e279) (by rw [prt_er e279]) | exact err _ _ ((ins_k e5 (oprn_2 c10)).trans ((if_neg c222).trans e244)) (by rw [prt_er e244]) | exact err _ _ ((ins_k e5 (oprn_2 c10)).trans (if_pos c222)) rfl | exact err _ _ ((ins_k e5 (oprn_10 c10)).trans (by show (prt (bAt hi 12) e 1 4 (p + 1)).bind _ = _; rw [e290]; rfl)) (by rw [prt_er e290])
      · skip
        refine s234_233.mpr (s234_234.mpr (s234_235.mpr ((s234_236 kM).mpr ?_)))
        rw [mr_19 hR]
        refine s234_239.mpr ?_
        refine (s234_240 (hA.k (by decide) (by decide) rfl) (by first | assumption | omega) (by first | assumption | omega)).mpr ?_
        refine s234_241.mpr (s234_242.mpr (s234_243.mpr ?_))
        try simp (disch := first | decide | assumption | omega) only [kon, knt_some, knt_none, Option.toList_some, Option.toList_none, List.cons_append, List.nil_append, h1, hp, hL, upI_eq, upI_a, upI_i, upR_eq, upR_a, upR_i, upI_up, at1, fl1, bAt_up, fSub_id]
        refine (s234_244 (by omega) kM).mpr ?_
        refine m_part hA hR (by first | exact h' | exact PT.at h' (by omega) (by omega)) (by omega) ?_
        simp (disch := first | decide | assumption | omega) only [hp, upI_eq, upI_a, upI_i, upR_eq, upR_a, upR_i, upI_up, at1, fl1, bAt_up]
        refine kEx_of (fun q244 e244 => ?_) (fun q244 e244 => ?_)
        · skip
          obtain ⟨rfl, f244, g244⟩ := prt_ok e244; obtain ⟨u244, w244⟩ := bAt_b h2 (Int.le_trans (by omega) g244.1)
          refine s234_247.mpr (s234_248.mpr ?_)
          first | exact fin _ _ (ins_k e5 (oprn_0 c10)) | exact fin _ _ ((ins_k e5 (oprn_3 c10)).trans e257) | exact fin _ _ ((ins_k e5 (oprn_5 c10)).trans e268) | exact fin _ _ ((ins_k e5 (oprn_9 c10)).trans e279) | exact fin _ _ ((ins_k e5 (oprn_2 c10)).trans ((if_neg c222).trans e244))
        · skip
          show tho 234 = true ∧ Q none _ _ _
          refine ⟨rfl, ?_⟩
          first | exact err _ _ (ins_er e5) (by rw [prt_er e5, hs]) | exact err _ _ ((ins_k e5 (oprn_3 c10)).trans e257) (by rw [prt_er e257]) | exact err _ _ ((ins_k e5 (oprn_5 c10)).trans e268) (by rw [prt_er e268]) | exact err _ _ ((ins_k e5 (oprn_9 c10)).trans e279) (by rw [prt_er e279]) | exact err _ _ ((ins_k e5 (oprn_2 c10)).trans ((if_neg c222).trans e244)) (by rw [prt_er e244]) | exact err _ _ ((ins_k e5 (oprn_2 c10)).trans (if_pos c222)) rfl | exact err _ _ ((ins_k e5 (oprn_10 c10)).trans (by show (prt (bAt hi 12) e 1 4 (p + 1)).bind _ = _; rw [e290]; rfl)) (by rw [prt_er e290])
    · skip
      refine s234_251.mpr (s234_252.mpr (s234_253.mpr (s234_256.mpr ?_)))
      refine (s234_257 (by omega) kM).mpr ?_
      refine m_part hA hR (by first | exact h' | exact PT.at h' (by omega) (by omega)) (by omega) ?_
      simp (disch := first | decide | assumption | omega) only [hp, upI_eq, upI_a, upI_i, upR_eq, upR_a, upR_i, upI_up, at1, fl1, bAt_up]
      refine kEx_of (fun q257 e257 => ?_) (fun q257 e257 => ?_)
      · skip
        obtain ⟨rfl, f257, g257⟩ := prt_ok e257; obtain ⟨u257, w257⟩ := bAt_b h2 (Int.le_trans (by omega) g257.1)
        refine s234_260.mpr (s234_261.mpr ?_)
        first | exact fin _ _ (ins_k e5 (oprn_0 c10)) | exact fin _ _ ((ins_k e5 (oprn_3 c10)).trans e257) | exact fin _ _ ((ins_k e5 (oprn_5 c10)).trans e268) | exact fin _ _ ((ins_k e5 (oprn_9 c10)).trans e279) | exact fin _ _ ((ins_k e5 (oprn_2 c10)).trans ((if_neg c222).trans e244))
      · skip
        show tho 234 = true ∧ Q none _ _ _
        refine ⟨rfl, ?_⟩
        first | exact err _ _ (ins_er e5) (by rw [prt_er e5, hs]) | exact err _ _ ((ins_k e5 (oprn_3 c10)).trans e257) (by rw [prt_er e257]) | exact err _ _ ((ins_k e5 (oprn_5 c10)).trans e268) (by rw [prt_er e268]) | exact err _ _ ((ins_k e5 (oprn_9 c10)).trans e279) (by rw [prt_er e279]) | exact err _ _ ((ins_k e5 (oprn_2 c10)).trans ((if_neg c222).trans e244)) (by rw [prt_er e244]) | exact err _ _ ((ins_k e5 (oprn_2 c10)).trans (if_pos c222)) rfl | exact err _ _ ((ins_k e5 (oprn_10 c10)).trans (by show (prt (bAt hi 12) e 1 4 (p + 1)).bind _ = _; rw [e290]; rfl)) (by rw [prt_er e290])
    · skip
      refine s234_264.mpr (s234_265.mpr (s234_266.mpr (s234_267.mpr ?_)))
      refine (s234_268 (by omega) kM).mpr ?_
      refine m_part hA hR (by first | exact h' | exact PT.at h' (by omega) (by omega)) (by omega) ?_
      simp (disch := first | decide | assumption | omega) only [hp, upI_eq, upI_a, upI_i, upR_eq, upR_a, upR_i, upI_up, at1, fl1, bAt_up]
      refine kEx_of (fun q268 e268 => ?_) (fun q268 e268 => ?_)
      · skip
        obtain ⟨rfl, f268, g268⟩ := prt_ok e268; obtain ⟨u268, w268⟩ := bAt_b h2 (Int.le_trans (by omega) g268.1)
        refine s234_271.mpr (s234_272.mpr ?_)
        first | exact fin _ _ (ins_k e5 (oprn_0 c10)) | exact fin _ _ ((ins_k e5 (oprn_3 c10)).trans e257) | exact fin _ _ ((ins_k e5 (oprn_5 c10)).trans e268) | exact fin _ _ ((ins_k e5 (oprn_9 c10)).trans e279) | exact fin _ _ ((ins_k e5 (oprn_2 c10)).trans ((if_neg c222).trans e244))
      · skip
        show tho 234 = true ∧ Q none _ _ _
        refine ⟨rfl, ?_⟩
        first | exact err _ _ (ins_er e5) (by rw [prt_er e5, hs]) | exact err _ _ ((ins_k e5 (oprn_3 c10)).trans e257) (by rw [prt_er e257]) | exact err _ _ ((ins_k e5 (oprn_5 c10)).trans e268) (by rw [prt_er e268]) | exact err _ _ ((ins_k e5 (oprn_9 c10)).trans e279) (by rw [prt_er e279]) | exact err _ _ ((ins_k e5 (oprn_2 c10)).trans ((if_neg c222).trans e244)) (by rw [prt_er e244]) | exact err _ _ ((ins_k e5 (oprn_2 c10)).trans (if_pos c222)) rfl | exact err _ _ ((ins_k e5 (oprn_10 c10)).trans (by show (prt (bAt hi 12) e 1 4 (p + 1)).bind _ = _; rw [e290]; rfl)) (by rw [prt_er e290])
    · skip
      have c10 := List.mem_singleton.mp c10
      refine s234_275.mpr (s234_276.mpr (s234_277.mpr (s234_278.mpr ?_)))
      refine (s234_279 (by omega) kM).mpr ?_
      refine m_part hA hR (by first | exact h' | exact PT.at h' (by omega) (by omega)) (by omega) ?_
      simp (disch := first | decide | assumption | omega) only [hp, upI_eq, upI_a, upI_i, upR_eq, upR_a, upR_i, upI_up, at1, fl1, bAt_up]
      refine kEx_of (fun q279 e279 => ?_) (fun q279 e279 => ?_)
      · skip
        obtain ⟨rfl, f279, g279⟩ := prt_ok e279; obtain ⟨u279, w279⟩ := bAt_b h2 (Int.le_trans (by omega) g279.1)
        refine s234_282.mpr (s234_283.mpr ?_)
        first | exact fin _ _ (ins_k e5 (oprn_0 c10)) | exact fin _ _ ((ins_k e5 (oprn_3 c10)).trans e257) | exact fin _ _ ((ins_k e5 (oprn_5 c10)).trans e268) | exact fin _ _ ((ins_k e5 (oprn_9 c10)).trans e279) | exact fin _ _ ((ins_k e5 (oprn_2 c10)).trans ((if_neg c222).trans e244))
      · skip
        show tho 234 = true ∧ Q none _ _ _
        refine ⟨rfl, ?_⟩
        first | exact err _ _ (ins_er e5) (by rw [prt_er e5, hs]) | exact err _ _ ((ins_k e5 (oprn_3 c10)).trans e257) (by rw [prt_er e257]) | exact err _ _ ((ins_k e5 (oprn_5 c10)).trans e268) (by rw [prt_er e268]) | exact err _ _ ((ins_k e5 (oprn_9 c10)).trans e279) (by rw [prt_er e279]) | exact err _ _ ((ins_k e5 (oprn_2 c10)).trans ((if_neg c222).trans e244)) (by rw [prt_er e244]) | exact err _ _ ((ins_k e5 (oprn_2 c10)).trans (if_pos c222)) rfl | exact err _ _ ((ins_k e5 (oprn_10 c10)).trans (by show (prt (bAt hi 12) e 1 4 (p + 1)).bind _ = _; rw [e290]; rfl)) (by rw [prt_er e290])
    · skip
      have c10 := List.mem_singleton.mp c10
      refine s234_286.mpr (s234_287.mpr (s234_288.mpr (s234_289.mpr ?_)))
      refine (s234_290 (by omega) kM).mpr ?_
      refine m_part hA hR (by first | exact h' | exact PT.at h' (by omega) (by omega)) (by omega) ?_
      simp (disch := first | decide | assumption | omega) only [hp, upI_eq, upI_a, upI_i, upR_eq, upR_a, upR_i, upI_up, at1, fl1, bAt_up]
      refine kEx_of (fun q290 e290 => ?_) (fun q290 e290 => ?_)
      · skip
        obtain ⟨rfl, f290, g290⟩ := prt_ok e290; obtain ⟨u290, w290⟩ := bAt_b h2 (Int.le_trans (by omega) g290.1)
        refine s234_293.mpr (s234_295.mpr (s234_296.mpr ?_))
        exact t298 c10 e5 e290 (by omega) (by omega) _
      · skip
        show tho 234 = true ∧ Q none _ _ _
        refine ⟨rfl, ?_⟩
        first | exact err _ _ (ins_er e5) (by rw [prt_er e5, hs]) | exact err _ _ ((ins_k e5 (oprn_3 c10)).trans e257) (by rw [prt_er e257]) | exact err _ _ ((ins_k e5 (oprn_5 c10)).trans e268) (by rw [prt_er e268]) | exact err _ _ ((ins_k e5 (oprn_9 c10)).trans e279) (by rw [prt_er e279]) | exact err _ _ ((ins_k e5 (oprn_2 c10)).trans ((if_neg c222).trans e244)) (by rw [prt_er e244]) | exact err _ _ ((ins_k e5 (oprn_2 c10)).trans (if_pos c222)) rfl | exact err _ _ ((ins_k e5 (oprn_10 c10)).trans (by show (prt (bAt hi 12) e 1 4 (p + 1)).bind _ = _; rw [e290]; rfl)) (by rw [prt_er e290])
    · skip
      first | exact fin _ _ (ins_k e5 (oprn_0 c10)) | exact fin _ _ ((ins_k e5 (oprn_3 c10)).trans e257) | exact fin _ _ ((ins_k e5 (oprn_5 c10)).trans e268) | exact fin _ _ ((ins_k e5 (oprn_9 c10)).trans e279) | exact fin _ _ ((ins_k e5 (oprn_2 c10)).trans ((if_neg c222).trans e244))
  · skip
    show tho 234 = true ∧ Q none _ _ _
    refine ⟨rfl, ?_⟩
    first | exact err _ _ (ins_er e5) (by rw [prt_er e5, hs]) | exact err _ _ ((ins_k e5 (oprn_3 c10)).trans e257) (by rw [prt_er e257]) | exact err _ _ ((ins_k e5 (oprn_5 c10)).trans e268) (by rw [prt_er e268]) | exact err _ _ ((ins_k e5 (oprn_9 c10)).trans e279) (by rw [prt_er e279]) | exact err _ _ ((ins_k e5 (oprn_2 c10)).trans ((if_neg c222).trans e244)) (by rw [prt_er e244]) | exact err _ _ ((ins_k e5 (oprn_2 c10)).trans (if_pos c222)) rfl | exact err _ _ ((ins_k e5 (oprn_10 c10)).trans (by show (prt (bAt hi 12) e 1 4 (p + 1)).bind _ = _; rw [e290]; rfl)) (by rw [prt_er e290])
end MP2
