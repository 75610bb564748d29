section CD12
variable {d : Nat} {al : AL} {hi : HI} {hr : HR} {Q : QQ} {B : Int → Int} {N : Nat} {n nm : Int}
noncomputable def modD (nm : Int) (B : Int → Int) (n : Int) : Ex := (nmb B 83 83 0).bind fun p0 => (nmb B 77 77 p0).bind fun p1 => (nmb B 0 8 p1).bind fun p2 => (lpE (recD nm B) (B p1).toNat p2).bind fun p3 => (nmb B 0 4 p3).bind fun p4 => (lpE (ctD nm B n) (B p3).toNat p4).bind fun p5 => (nmb B 1 10 p5).bind fun p6 => (lpE (fnD nm B) (B p5).toNat p6).bind fun p7 => if p7 < n then .error p7 else .ok p7
theorem modD_0 (hx : TX B n) (h : nm = 0) : modD nm B n = modP B n := by
  unfold modD modP
  rw [show recD nm B = recP B from funext fun q => recD_0 h, show ctD nm B n = ctP B from funext fun q => ctD_0 hx h, show fnD nm B = fnP B from funext fun q => fnD_0 hx h]
def RecsOK (hi : HI) (N : Nat) (B : Int → Int) (k : Int) : Prop := ∀ r, 0 ≤ r → r < k → RecOK hi N B r ∧ PtOK hi N B r
def CtsOK (al : AL) (hi : HI) (hr : HR) (N : Nat) (B : Int → Int) (k : Int) : Prop := ∀ c, 0 ≤ c → c < k → ∃ o, hr (N + 4) c = some o ∧ N + 6 < o ∧ CtrOK al hi hr B c o
def RtsOK (al : AL) (hi : HI) (hr : HR) (N : Nat) (B : Int → Int) (k : Int) : Prop := (∀ f, 0 ≤ f → f < k → ∃ t, hr (N + 5) f = some (t + 1) ∧ N + 6 < t ∧ RoutOK al hi hr B f t ∧ RoutN hi hr t) ∧ ∀ f g, 0 ≤ f → f < g → g < k → hr (N + 5) f ≠ hr (N + 5) g
def ModS (al : AL) (hi : HI) (hr : HR) (N : Nat) (B : Int → Int) : Prop := MS al hr N ∧ hi N 2 = nRec B ∧ hi N 6 = nCtr B ∧ hi N 8 = nFn B ∧ RecsOK hi N B (nRec B) ∧ CtsOK al hi hr N B (nCtr B) ∧ RtsOK al hi hr N B (nFn B)
theorem RecsOK.fr {hi' : HI} {k : Int} (h : RecsOK hi N B k) (hf : ∀ a i, N + 1 ≤ a → a ≤ N + 3 → hi' a i = hi a i) : RecsOK hi' N B k := fun r r0 r1 => by
  obtain ⟨⟨h1, h2⟩, h3⟩ := h r r0 r1
  exact ⟨⟨(hf _ _ (by omega) (by omega)).trans h1, fun j j0 j1 => (hf _ _ (by omega) (by omega)).trans (h2 j j0 j1)⟩, (hf _ _ (by omega) (by omega)).trans h3⟩
theorem CtsOK.fr {al' : AL} {hi' : HI} {hr' : HR} {x s : Nat} {k : Int} (h : CtsOK al hi hr N B k) (hG : GA al al' x s) (hf : ∀ a i, N + 6 < a → a < al.1 → hi' a i = hi a i) (hR : ∀ a i, N + 6 < a → a < al.1 → hr' a i = hr a i) (hR4 : ∀ c, 0 ≤ c → c < k → hr' (N + 4) c = hr (N + 4) c) : CtsOK al' hi' hr' N B k := fun c c0 c1 => by
  obtain ⟨o, h1, h2, h3⟩ := h c c0 c1
  have hl := h3.1.2.2.2.2.2.1.2.1
  exact ⟨o, (hR4 c c0 c1).trans h1, h2, h3.fr hG (fun a i z1 z2 => hf a i (by omega) (by omega)) (fun i => hR o i h2 (by omega))⟩
theorem RtsOK.fr {al' : AL} {hi' : HI} {hr' : HR} {x s : Nat} {k : Int} (h : RtsOK al hi hr N B k) (hG : GA al al' x s) (hf : ∀ a i, N + 6 < a → a < al.1 → hi' a i = hi a i) (hR : ∀ a i, N + 6 < a → a < al.1 → hr' a i = hr a i) (hR4 : ∀ c, 0 ≤ c → c < k → hr' (N + 5) c = hr (N + 5) c) : RtsOK al' hi' hr' N B k := by
  refine ⟨fun c c0 c1 => ?_, fun f g f0 f1 f2 => by rw [hR4 f f0 (by omega), hR4 g (by omega) f2]; exact h.2 f g f0 f1 f2⟩
  obtain ⟨t, h1, h2, h3, h4⟩ := h.1 c c0 c1
  have hl := h3.1.2.2.2.2.1
  exact ⟨t, (hR4 c c0 c1).trans h1, h2, h3.fr hG (fun a i z1 z2 _ => hf a i (by omega) (by omega)) (fun i _ => hR _ i (by omega) (by omega)), (hf _ _ (by omega) (by omega)).trans h4.1, (hR _ _ (by omega) (by omega)).trans h4.2.1, (hR _ _ (by omega) (by omega)).trans h4.2.2⟩
theorem MS.fr {al' : AL} {hr' : HR} {x s : Nat} (h : MS al hr N) (hG : GA al al' x s) (hR : ∀ i, hr' N i = hr N i) : MS al' hr' N := by
  obtain ⟨c0, ⟨c1, c2, c3⟩, ⟨d1, d2, d3⟩, ⟨e1, e2, e3⟩, ⟨f1, f2, f3⟩, ⟨g1, g2, g3⟩, i1, i2⟩ := h
  exact ⟨hG.k c0, ⟨(hR _).trans c1, hG.k c2, by rw [hG.l c2.2.1]; exact c3⟩, ⟨(hR _).trans d1, hG.k d2, by rw [hG.l d2.2.1]; exact d3⟩, ⟨(hR _).trans e1, hG.k e2, by rw [hG.l e2.2.1]; exact e3⟩, ⟨(hR _).trans f1, hG.k f2, by rw [hG.l f2.2.1]; exact f3⟩, ⟨(hR _).trans g1, hG.k g2, by rw [hG.l g2.2.1]; exact g3⟩, (hR _).trans i1, hG.k i2⟩
theorem MS.l6 (h : MS al hr N) : N + 6 < al.1 := h.2.2.2.2.2.2.2.2.1
theorem ModS.fr {al' : AL} {hi' : HI} {hr' : HR} {x s : Nat} (h : ModS al hi hr N B) (hG : GA al al' x s) (hf : ∀ a i, N ≤ a → a < al.1 → hi' a i = hi a i) (hR : ∀ a i, N ≤ a → a < al.1 → hr' a i = hr a i) : ModS al' hi' hr' N B := by
  obtain ⟨h1, h2, h3, h4, h5, h6, h7⟩ := h
  have hl := h1.l6
  exact ⟨h1.fr hG (fun i => hR N i (by omega) (by omega)), (hf _ _ (by omega) (by omega)).trans h2, (hf _ _ (by omega) (by omega)).trans h3, (hf _ _ (by omega) (by omega)).trans h4, h5.fr (fun a i z1 z2 => hf a i (by omega) (by omega)), h6.fr hG (fun a i z1 z2 => hf a i (by omega) z2) (fun a i z1 z2 => hR a i (by omega) z2) (fun c _ _ => hR _ _ (by omega) (by omega)), h7.fr hG (fun a i z1 z2 => hf a i (by omega) z2) (fun a i z1 z2 => hR a i (by omega) z2) (fun c _ _ => hR _ _ (by omega) (by omega))⟩
theorem ModS.nf (h : ModS al hi hr N B) (hS : Sh B) : NF al hi hr N B := ⟨h.2.1, h.2.2.1, h.2.2.2.1, fun r r0 r1 => (h.2.2.2.2.1 r r0 r1).1, fun c c0 c1 => by obtain ⟨o, z1, z2, z3⟩ := h.2.2.2.2.2.1 c c0 c1; exact ⟨o, z1, z3.1.1, z3.2.1⟩, hS⟩
theorem DC.uN {i x : Int} (h : DC al hi hr N n B nm) : DC al (upI hi N i x) hr N n B nm := by
  have hN := h.2.2.2.2.2.2.1
  refine h.fr (w := fun a _ => a = N) (FW.up FW.rf rfl) (by omega) (by omega) (fun k => by omega) (fun r r0 r1 => ?_)
  rw [upI_a (by omega)]
  exact h.2.2.2.2.2.2.2.1 r r0 r1
theorem msD_sk1 {k p q : Int} (h : nm = 1) (e : msD nm B n k p = .ok q) : q = skM B p := by
  unfold msD at e
  rw [tyD_1 h] at e
  cases ht : nmT B p with
  | error z => rw [ht] at e; cases e
  | ok z =>
    rw [ht, bnd_ok] at e
    rw [(naD_ok e).1, nmT_sk ht]; rfl
theorem stD_sk1 {k p q : Int} (h : nm = 1) (e : stD nm B n k p = .ok q) : q = skS B p := by
  unfold stD at e
  rw [if_neg (by omega), bnd_ok] at e
  exact lpE_itr (fun q q' z => msD_sk1 h z) _ _ _ e
theorem ctD_sk1 {p q : Int} (h : nm = 1) (e : ctD nm B n p = .ok q) : q = skC B p := by
  unfold ctD at e
  rw [if_neg (by omega), bnd_ok] at e
  exact lpE_itr (fun q q' z => stD_sk1 h z) _ _ _ e
theorem recD_sk {p q : Int} (h01 : nm = 0 ∨ nm = 1) (e : recD nm B p = .ok q) : q = skR B p := by
  rcases h01 with h | h
  · rw [recD_0 h] at e; exact (recP_sk e).1
  · rw [recD_1 h] at e; exact lpE_itr (fun q q' z => nmT_sk z) _ _ _ e
/-- references below N stay -/
def wN (N : Nat) (a : Nat) (_ : Int) : Prop := N ≤ a
theorem wH_N {X m : Nat} {c : Int} {hr' : HR} (h : RW (wH X c m) hr hr') (h1 : N ≤ X) (h2 : N ≤ m) : RW (wN N) hr hr' := h.mn (fun a i q => by unfold wH at q; unfold wN; omega)
set_option maxHeartbeats 1000000 in
theorem d_pass {ps : Int} (h : DC al hi hr N n B nm) (hO : OPS al hi) (hM : nm = 1 → ModS al hi hr N B ∧ Sh B) (hz : nm = 0 → ∀ r, hi (N + 3) r = 0) (hd : 8 ≤ d)
    (hp : hi 6 3 = 0) (hl : hi 6 2 = n) (h4 : hi 6 4 = 0)
    (ok : ∀ p' al' hi' hr' i9, modD nm B n = .ok p' → GA al al' 50 3340 → FW (wG N) hi hi' → RW (wN N) hr hr' → DC al' hi' hr' N n B nm → hi' 6 2 = n → hi' 6 4 = 0 → hi' N 1 = hi N 1 → ModS al' hi' hr' N B → Wp d 30 229 [vR (some 5), vR (some N), vI ps, i9] [] al' hi' hr' Q)
    (er : ∀ q al' hi' hr' i9, modD nm B n = .error q → GA al al' 50 3340 → FW (wG N) hi hi' → RW (wN N) hr hr' → DC al' hi' hr' N n B nm → hi' 6 4 = 1 → hi' 6 5 = q → Wp d 30 229 [vR (some 5), vR (some N), vI ps, i9] [] al' hi' hr' Q) : ∀ i9, Wp d 30 61 [vR (some 5), vR (some N), vI ps, i9] [] al hi hr Q := by
  have h' := h
  obtain ⟨hA, a2, a3, a4, a5, a6, a7, a8, a9⟩ := h
  have k6 : isK al 6 2 := hA.k (by decide) (by decide) rfl
  have k5 : isK al 5 4 := hA.k (by decide) (by decide) rfl
  have kN := a6.1
  have lN6 : N + 6 < al.1 := a6.l6
  have hx := a5.tx
  have l119 := hA.1
  have hB : ∀ k, -1 ≤ B k ∧ B k ≤ 255 := fun k => (hx k).1
  have prn : ∀ lo hg q, 0 ≤ lo → prL B n lo hg q = nmb B lo hg q := fun lo hg q z => prL_n hx z
  -- behind a fault
  have F222 : ∀ q al1 hi1 hr1 l3, modD nm B n = .error q → GA al al1 50 3340 → FW (wG N) hi hi1 → RW (wN N) hr hr1 → DC al1 hi1 hr1 N n B nm → hi1 6 4 = 1 → hi1 6 5 = q → Wp d 30 222 [vR (some 5), vR (some N), vI ps, l3] [] al1 hi1 hr1 Q := by
    intro q al1 hi1 hr1 l3 eD hG hf hR hD e4 e5
    have a2' := hD.2.1
    have k6' := hD.2.2.2.2.1.1
    have k5' : isK al1 5 4 := hG.k k5
    have n4 : hi1 6 4 ≠ 0 := by rw [e4]; decide
    refine s30_222.mpr ?_
    refine (s30_223 (by first | decide | assumption | omega)).mpr ?_
    try simp (disch := first | decide | assumption | omega) only [kon, knt_some, knt_none, Option.toList_some, Option.toList_none, List.cons_append, List.nil_append, a2']
    refine (s30_226 (by first | decide | assumption | omega) (by first | decide | assumption | omega)).mpr ?_
    refine b_expectEnd hD.2.2.2.2.1 (by omega) (fun _ => ?_) (fun z => absurd z n4) (fun z => absurd z n4)
    exact er q al1 hi1 hr1 _ eD hG hf hR hD e4 e5
  have F192 : ∀ q al1 hi1 hr1 (l3 : Int), modD nm B n = .error q → GA al al1 50 3340 → FW (wG N) hi hi1 → RW (wN N) hr hr1 → DC al1 hi1 hr1 N n B nm → hi1 6 4 = 1 → hi1 6 5 = q → Wp d 30 192 [vR (some 5), vR (some N), vI ps, vI l3] [] al1 hi1 hr1 Q := by
    intro q al1 hi1 hr1 l3 eD hG hf hR hD e4 e5
    have a2' := hD.2.1
    have k6' := hD.2.2.2.2.1.1
    have k5' : isK al1 5 4 := hG.k k5
    have kN' := hD.2.2.2.2.2.1.1
    refine s30_192.mpr (s30_193.mpr ?_)
    refine (s30_194 (by first | decide | assumption | omega)).mpr ?_
    try simp (disch := first | decide | assumption | omega) only [kon, knt_some, knt_none, Option.toList_some, Option.toList_none, List.cons_append, List.nil_append, a2']
    refine s30_197.mpr (wif (fun c197 => ?_) (fun c197 => ?_))
    · skip
      refine s30_200.mpr ?_
      refine (s30_201 (by first | decide | assumption | omega)).mpr ?_
      try simp (disch := first | decide | assumption | omega) only [kon, knt_some, knt_none, Option.toList_some, Option.toList_none, List.cons_append, List.nil_append, a2']
      refine (s30_204 (by first | decide | assumption | omega) (by first | decide | assumption | omega)).mpr ?_
      refine b_isRight k6' (fun q => absurd q (by rw [e4]; decide)) (fun _ => ?_)
      refine s30_207.mpr (wif (fun c207 => ?_) (fun c207 => ?_))
      · skip
        exact F222 q al1 hi1 hr1 _ eD hG hf hR hD e4 e5
      · skip
        exact absurd (by assumption) (by decide)
    · skip
      exact F222 q al1 hi1 hr1 _ eD hG hf hR hD e4 e5
  have F187 : ∀ q al1 hi1 hr1 l3 (x : Int), modD nm B n = .error q → GA al al1 50 3340 → FW (wG N) hi hi1 → RW (wN N) hr hr1 → DC al1 hi1 hr1 N n B nm → hi1 6 4 = 1 → hi1 6 5 = q → Wp d 30 187 [vR (some 5), vR (some N), vI ps, l3] [vI x, vR (some N)] al1 hi1 hr1 Q := by
    intro q al1 hi1 hr1 l3 x eD hG hf hR hD e4 e5
    have kN' := hD.2.2.2.2.2.1.1
    refine (s30_187 (by first | decide | assumption | omega)).mpr ?_
    refine s30_190.mpr (s30_191.mpr ?_)
    try simp (disch := first | decide | assumption | omega) only [kon, knt_some, knt_none, Option.toList_some, Option.toList_none, List.cons_append, List.nil_append]
    exact F192 q al1 _ hr1 _ eD hG (hf.up (by unfold wG; omega)) hR hD.uN (by rw [upI_a (by omega)]; exact e4) (by rw [upI_a (by omega)]; exact e5)
  have F176 : ∀ q al1 hi1 hr1 l3, modD nm B n = .error q → GA al al1 50 3340 → FW (wG N) hi hi1 → RW (wN N) hr hr1 → DC al1 hi1 hr1 N n B nm → hi1 6 4 = 1 → hi1 6 5 = q → 0 ≤ hi1 6 3 → Wp d 30 176 [vR (some 5), vR (some N), vI ps, l3] [] al1 hi1 hr1 Q := by
    intro q al1 hi1 hr1 l3 eD hG hf hR hD e4 e5 e3
    have a2' := hD.2.1
    have k6' := hD.2.2.2.2.1.1
    have k5' : isK al1 5 4 := hG.k k5
    have n4 : hi1 6 4 ≠ 0 := by rw [e4]; decide
    refine s30_176.mpr (s30_177.mpr ?_)
    refine (s30_178 (by first | decide | assumption | omega)).mpr ?_
    refine s30_181.mpr (s30_182.mpr ?_)
    try simp (disch := first | decide | assumption | omega) only [kon, knt_some, knt_none, Option.toList_some, Option.toList_none, List.cons_append, List.nil_append, a2']
    refine (s30_184 (by first | decide | assumption | omega) (by first | decide | assumption | omega)).mpr ?_
    refine b_within hD.2.2.2.2.1 (by omega) e3 (fun _ x184 y184 => ?_) (fun z => absurd z n4)
    exact F187 q al1 hi1 hr1 _ _ eD hG hf hR hD e4 e5
  have F146 : ∀ q al1 hi1 hr1 (l3 : Int), modD nm B n = .error q → GA al al1 50 3340 → FW (wG N) hi hi1 → RW (wN N) hr hr1 → DC al1 hi1 hr1 N n B nm → hi1 6 4 = 1 → hi1 6 5 = q → 0 ≤ hi1 6 3 → Wp d 30 146 [vR (some 5), vR (some N), vI ps, vI l3] [] al1 hi1 hr1 Q := by
    intro q al1 hi1 hr1 l3 eD hG hf hR hD e4 e5 e3
    have a2' := hD.2.1
    have k6' := hD.2.2.2.2.1.1
    have k5' : isK al1 5 4 := hG.k k5
    have kN' := hD.2.2.2.2.2.1.1
    refine s30_146.mpr (s30_147.mpr ?_)
    refine (s30_148 (by first | decide | assumption | omega)).mpr ?_
    try simp (disch := first | decide | assumption | omega) only [kon, knt_some, knt_none, Option.toList_some, Option.toList_none, List.cons_append, List.nil_append, a2']
    refine s30_151.mpr (wif (fun c151 => ?_) (fun c151 => ?_))
    · skip
      refine s30_154.mpr ?_
      refine (s30_155 (by first | decide | assumption | omega)).mpr ?_
      try simp (disch := first | decide | assumption | omega) only [kon, knt_some, knt_none, Option.toList_some, Option.toList_none, List.cons_append, List.nil_append, a2']
      refine (s30_158 (by first | decide | assumption | omega) (by first | decide | assumption | omega)).mpr ?_
      refine b_isRight k6' (fun q => absurd q (by rw [e4]; decide)) (fun _ => ?_)
      refine s30_161.mpr (wif (fun c161 => ?_) (fun c161 => ?_))
      · skip
        exact F176 q al1 hi1 hr1 _ eD hG hf hR hD e4 e5 e3
      · skip
        exact absurd (by assumption) (by decide)
    · skip
      exact F176 q al1 hi1 hr1 _ eD hG hf hR hD e4 e5 e3
  have F141 : ∀ q al1 hi1 hr1 l3 (x : Int), modD nm B n = .error q → GA al al1 50 3340 → FW (wG N) hi hi1 → RW (wN N) hr hr1 → DC al1 hi1 hr1 N n B nm → hi1 6 4 = 1 → hi1 6 5 = q → 0 ≤ hi1 6 3 → Wp d 30 141 [vR (some 5), vR (some N), vI ps, l3] [vI x, vR (some N)] al1 hi1 hr1 Q := by
    intro q al1 hi1 hr1 l3 x eD hG hf hR hD e4 e5 e3
    have kN' := hD.2.2.2.2.2.1.1
    refine (s30_141 (by first | decide | assumption | omega)).mpr ?_
    refine s30_144.mpr (s30_145.mpr ?_)
    try simp (disch := first | decide | assumption | omega) only [kon, knt_some, knt_none, Option.toList_some, Option.toList_none, List.cons_append, List.nil_append]
    exact F146 q al1 _ hr1 _ eD hG (hf.up (by unfold wG; omega)) hR hD.uN (by rw [upI_a (by omega)]; exact e4) (by rw [upI_a (by omega)]; exact e5) (by rw [upI_a (by omega)]; exact e3)
  have F101 : ∀ q al1 hi1 hr1 (l3 : Int), modD nm B n = .error q → GA al al1 50 3340 → FW (wG N) hi hi1 → RW (wN N) hr hr1 → DC al1 hi1 hr1 N n B nm → hi1 6 4 = 1 → hi1 6 5 = q → 0 ≤ hi1 6 3 → Wp d 30 101 [vR (some 5), vR (some N), vI ps, vI l3] [] al1 hi1 hr1 Q := by
    intro q al1 hi1 hr1 l3 eD hG hf hR hD e4 e5 e3
    have a2' := hD.2.1
    have k6' := hD.2.2.2.2.1.1
    have k5' : isK al1 5 4 := hG.k k5
    have kN' := hD.2.2.2.2.2.1.1
    have n4 : hi1 6 4 ≠ 0 := by rw [e4]; decide
    refine s30_101.mpr (s30_102.mpr ?_)
    refine (s30_103 (by first | decide | assumption | omega)).mpr ?_
    try simp (disch := first | decide | assumption | omega) only [kon, knt_some, knt_none, Option.toList_some, Option.toList_none, List.cons_append, List.nil_append, a2']
    refine s30_106.mpr (wif (fun c106 => ?_) (fun c106 => ?_))
    · skip
      refine s30_109.mpr ?_
      refine (s30_110 (by first | decide | assumption | omega)).mpr ?_
      try simp (disch := first | decide | assumption | omega) only [kon, knt_some, knt_none, Option.toList_some, Option.toList_none, List.cons_append, List.nil_append, a2']
      refine (s30_113 (by first | decide | assumption | omega) (by first | decide | assumption | omega)).mpr ?_
      refine b_isRight k6' (fun q => absurd q (by rw [e4]; decide)) (fun _ => ?_)
      refine s30_116.mpr (wif (fun c116 => ?_) (fun c116 => ?_))
      · skip
        refine s30_131.mpr (s30_132.mpr ?_)
        refine (s30_133 (by first | decide | assumption | omega)).mpr ?_
        refine s30_136.mpr (s30_137.mpr ?_)
        try simp (disch := first | decide | assumption | omega) only [kon, knt_some, knt_none, Option.toList_some, Option.toList_none, List.cons_append, List.nil_append, a2']
        refine (s30_138 (by first | decide | assumption | omega) (by first | decide | assumption | omega)).mpr ?_
        refine b_within hD.2.2.2.2.1 (by omega) e3 (fun _ x138 y138 => ?_) (fun z => absurd z n4)
        exact F141 q al1 hi1 hr1 _ _ eD hG hf hR hD e4 e5 e3
      · skip
        exact absurd (by assumption) (by decide)
    · skip
      refine s30_131.mpr (s30_132.mpr ?_)
      refine (s30_133 (by first | decide | assumption | omega)).mpr ?_
      refine s30_136.mpr (s30_137.mpr ?_)
      try simp (disch := first | decide | assumption | omega) only [kon, knt_some, knt_none, Option.toList_some, Option.toList_none, List.cons_append, List.nil_append, a2']
      refine (s30_138 (by first | decide | assumption | omega) (by first | decide | assumption | omega)).mpr ?_
      refine b_within hD.2.2.2.2.1 (by omega) e3 (fun _ x138 y138 => ?_) (fun z => absurd z n4)
      exact F141 q al1 hi1 hr1 _ _ eD hG hf hR hD e4 e5 e3
  have F72 : ∀ q hi1 l3 (x : Int), modD nm B n = .error q → EF hi hi1 q → Wp d 30 72 [vR (some 5), vR (some N), vI ps, l3] [vI x] al hi1 hr Q ∧ Wp d 30 84 [vR (some 5), vR (some N), vI ps, l3] [vI x] al hi1 hr Q ∧ Wp d 30 96 [vR (some 5), vR (some N), vI ps, l3] [vI x, vR (some N)] al hi1 hr Q := by
    intro q hi1 l3 x eD hE
    have hD := h'.fw hE.1
    have hf := wG_Y (m := N) hE.1
    have e4 := hE.2.1
    have e5 := hE.2.2.1
    have e3 := hE.2.2.2
    have a2' := hD.2.1
    have hG : GA al al 50 3340 := GA.rf.mn (by decide) (by decide)
    have n4 : hi1 6 4 ≠ 0 := by rw [e4]; decide
    have W96 : ∀ l3 (x : Int), Wp d 30 96 [vR (some 5), vR (some N), vI ps, l3] [vI x, vR (some N)] al hi1 hr Q := by
      intro l3 x
      refine (s30_96 (by first | decide | assumption | omega)).mpr ?_
      refine s30_99.mpr (s30_100.mpr ?_)
      try simp (disch := first | decide | assumption | omega) only [kon, knt_some, knt_none, Option.toList_some, Option.toList_none, List.cons_append, List.nil_append]
      exact F101 q al _ hr _ eD hG (hf.up (by unfold wG; omega)) RW.rf hD.uN (by rw [upI_a (by omega)]; exact e4) (by rw [upI_a (by omega)]; exact e5) (by rw [upI_a (by omega)]; exact e3)
    have W84 : ∀ l3 (x : Int), Wp d 30 84 [vR (some 5), vR (some N), vI ps, l3] [vI x] al hi1 hr Q := by
      intro l3 x
      refine s30_84.mpr (s30_85.mpr (s30_86.mpr ?_))
      refine (s30_87 (by first | decide | assumption | omega)).mpr ?_
      refine s30_90.mpr (s30_91.mpr ?_)
      try simp (disch := first | decide | assumption | omega) only [kon, knt_some, knt_none, Option.toList_some, Option.toList_none, List.cons_append, List.nil_append, a2']
      refine (s30_93 (by first | decide | assumption | omega) (by first | decide | assumption | omega)).mpr ?_
      refine b_within hD.2.2.2.2.1 (by omega) e3 (fun _ x93 y93 => ?_) (fun z => absurd z n4)
      exact W96 _ _
    refine ⟨?_, W84 _ _, W96 _ _⟩
    refine s30_72.mpr (s30_73.mpr ?_)
    refine (s30_74 (by first | decide | assumption | omega)).mpr ?_
    refine s30_77.mpr (s30_79.mpr ?_)
    try simp (disch := first | decide | assumption | omega) only [kon, knt_some, knt_none, Option.toList_some, Option.toList_none, List.cons_append, List.nil_append, a2']
    refine (s30_81 (by first | decide | assumption | omega) (by first | decide | assumption | omega)).mpr ?_
    refine b_within hD.2.2.2.2.1 (by omega) e3 (fun _ x81 y81 => ?_) (fun z => absurd z n4)
    exact W84 _ _
  have T222 : ∀ p' al1 hi1 hr1 l3, modD nm B n = (if p' < n then .error p' else .ok p') → GA al al1 50 3340 → FW (wG N) hi hi1 → RW (wN N) hr hr1 → DC al1 hi1 hr1 N n B nm → hi1 6 2 = n → hi1 6 3 = p' → hi1 6 4 = 0 → hi1 N 1 = hi N 1 → ModS al1 hi1 hr1 N B → Wp d 30 222 [vR (some 5), vR (some N), vI ps, l3] [] al1 hi1 hr1 Q := by
    intro p' al1 hi1 hr1 l3 eD hG hf hR hD e2 e3 e4 eN hMS
    have a2' := hD.2.1
    have k6' := hD.2.2.2.2.1.1
    have k5' : isK al1 5 4 := hG.k k5
    refine s30_222.mpr ?_
    refine (s30_223 (by first | decide | assumption | omega)).mpr ?_
    try simp (disch := first | decide | assumption | omega) only [kon, knt_some, knt_none, Option.toList_some, Option.toList_none, List.cons_append, List.nil_append, a2']
    refine (s30_226 (by first | decide | assumption | omega) (by first | decide | assumption | omega)).mpr ?_
    refine b_expectEnd hD.2.2.2.2.1 (by omega) (fun z => absurd e4 z) (fun _ z => ?_) (fun _ z => ?_)
    · skip
      first
      | exact er p' al1 _ hr1 _ (by rw [eD, if_pos (by omega)]) hG ((hf.up (by unfold wG; omega)).up (by unfold wG; omega)) hR (hD.fw (FW.up (FW.up FW.rf ⟨rfl, by omega⟩) ⟨rfl, by omega⟩)) (by rw [upI_i (by decide), upI_eq]) (by rw [upI_eq, e3])
      | exact ok p' al1 hi1 hr1 _ (by rw [eD, if_neg (by omega)]) hG hf hR hD e2 e4 eN hMS
    · skip
      first
      | exact er p' al1 _ hr1 _ (by rw [eD, if_pos (by omega)]) hG ((hf.up (by unfold wG; omega)).up (by unfold wG; omega)) hR (hD.fw (FW.up (FW.up FW.rf ⟨rfl, by omega⟩) ⟨rfl, by omega⟩)) (by rw [upI_i (by decide), upI_eq]) (by rw [upI_eq, e3])
      | exact ok p' al1 hi1 hr1 _ (by rw [eD, if_neg (by omega)]) hG hf hR hD e2 e4 eN hMS
  have T192 : ∀ al1 hi1 hr1, modD nm B n = (lpE (fnD nm B) (nFn B).toNat (pFn0 B + 1)).bind (fun p7 => if p7 < n then .error p7 else .ok p7) → (1 ≤ nFn B ∧ nFn B ≤ 10) → GA al al1 20 340 → FW (wG N) hi hi1 → RW (wN N) hr hr1 → DC al1 hi1 hr1 N n B nm → hi1 6 2 = n → hi1 6 3 = pFn0 B + 1 → 0 ≤ pFn0 B → hi1 6 4 = 0 → hi1 N 2 = nRec B → hi1 N 1 = hi N 1 → hi1 N 6 = nCtr B → hi1 N 8 = nFn B → RecsOK hi1 N B (nRec B) → CtsOK al1 hi1 hr1 N B (nCtr B) → (nm = 1 → ModS al1 hi1 hr1 N B) → Wp d 30 192 [vR (some 5), vR (some N), vI ps, vI 0] [] al1 hi1 hr1 Q := by
    intro al1 hi1 hr1 eD F0 hG hf hR hD e2 e3 e0 e4 c2 cN c6 c8 cR cC cM
    refine wp_lpG (M := (nFn B).toNat) (f := fnD nm B) (p0 := pFn0 B + 1) (fun i p' ls al2 hi2 hr2 => ls = [vR (some 5), vR (some N), vI ps, vI i] ∧ GA al al2 (20 + 3 * i) (340 + 300 * i) ∧ FW (wG N) hi hi2 ∧ RW (wN N) hr hr2 ∧ DC al2 hi2 hr2 N n B nm ∧ hi2 6 2 = n ∧ hi2 6 3 = p' ∧ 0 ≤ p' ∧ p' = pFn B i ∧ hi2 6 4 = 0 ∧ hi2 N 2 = nRec B ∧ hi2 N 1 = hi N 1 ∧ hi2 N 6 = nCtr B ∧ hi2 N 8 = nFn B ∧ RecsOK hi2 N B (nRec B) ∧ CtsOK al2 hi2 hr2 N B (nCtr B) ∧ (nm = 0 → RtsOK al2 hi2 hr2 N B i) ∧ (nm = 1 → ModS al2 hi2 hr2 N B)) ?_ ?_ _ _ _ _ ⟨rfl, hG, hf, hR, hD, e2, e3, by omega, rfl, e4, c2, cN, c6, c8, cR, cC, fun _ => ⟨fun f f0 f1 => absurd f1 (by omega), fun f g f0 f1 f2 => absurd f2 (by omega)⟩, cM⟩
    · rintro i p' ls al2 hi2 hr2 hi10 hok ⟨rfl, hG2, hf2, hR2, hD2, g2, g3, g0, gp, g4, d2, dN, d6, d8, dR, dC, dT, dM⟩ nx er2
      have a2' := hD2.2.1
      have k6' := hD2.2.2.2.2.1.1
      have k5' : isK al2 5 4 := hG2.k k5
      have kN' := hD2.2.2.2.2.2.1.1
      have lN' : N + 6 < al2.1 := hD2.2.2.2.2.2.1.l6
      have hO2 : OPS al2 hi2 := hO.fr hG2 (by omega) (fun i => hf2 0 i (wG_a (by omega) (by decide)))
      refine s30_192.mpr (s30_193.mpr ?_)
      refine (s30_194 (by first | decide | assumption | omega)).mpr ?_
      try simp (disch := first | decide | assumption | omega) only [kon, knt_some, knt_none, Option.toList_some, Option.toList_none, List.cons_append, List.nil_append, a2', d8, fAdd_id]
      refine s30_197.mpr (wif (fun c197 => ?_) (fun c197 => ?_))
      · first
        | (exfalso; omega)
        | skip
          refine s30_200.mpr ?_
          refine (s30_201 (by first | decide | assumption | omega)).mpr ?_
          try simp (disch := first | decide | assumption | omega) only [kon, knt_some, knt_none, Option.toList_some, Option.toList_none, List.cons_append, List.nil_append, a2', d8, fAdd_id]
          refine (s30_204 (by first | decide | assumption | omega) (by first | decide | assumption | omega)).mpr ?_
          refine b_isRight k6' (fun _ => ?_) (fun q => absurd g4 q)
          refine s30_207.mpr (wif (fun c207 => ?_) (fun c207 => ?_))
          · first
            | (exfalso; omega)
            | skip
              first | exact absurd (by assumption) (by decide) | (exfalso; omega)
          · first
            | (exfalso; omega)
            | skip
              refine s30_210.mpr (s30_211.mpr (s30_212.mpr ?_))
              refine (s30_213 (by first | decide | assumption | omega) (by first | decide | assumption | omega)).mpr ?_
              refine d_walkFunction (f := i) (p := p') hD2 hO2 (fun z => (dM z).nf (hM z).2) (by omega) (by omega) (by omega) (by rw [d8]; omega) (fun z => by obtain ⟨t, y1, y2, y3, y4⟩ := (dM z).2.2.2.2.2.2.1 i (by omega) (by omega); exact ⟨t, y1, y2, y3, (hM z).2.2.2.2.2.2.2.2.2.2.2 i (by omega) (by omega)⟩) gp g3 g0 g2 g4 (fun p2 al3 hi3 hr3 t eE z1 z2 z3 z4 z5 z6 z7 z8 z9 z10 z11 z12 z13 => ?_) (fun qE al3 hi3 hr3 eE z1 z2 z3 z5 v1 v2 v3 => ?_)
              rotate_left
              · skip
                refine s30_216.mpr (s30_219.mpr ?_)
                try simp (disch := first | decide | assumption | omega) only [kon, knt_some, knt_none, Option.toList_some, Option.toList_none, List.cons_append, List.nil_append, a2', d8, fAdd_id]
                first
                | exact F192 qE al3 hi3 hr3 _ (by rw [eD, er2 qE eE]; rfl) ((hG2.tr z1).mn (by omega) (by omega)) (hf2.tr z2) (hR2.tr (wH_N z3 (by omega) (by omega))) z5 v1 v2
                | (have kk : ∀ a i, N ≤ a → a < al2.1 → hi3 a i = hi2 a i := fun a i y1 y2 => z2 a i (wG_a y2 (by omega))
                   have kr : ∀ a i, N + 6 < a → a < al2.1 → hr3 a i = hr2 a i := fun a i y1 y2 => z3 a i (fun q => by unfold wH at q; omega)
                   refine nx _ _ _ _ _ eE ⟨rfl, (hG2.tr z1).mn (by omega) (by omega), hf2.tr (wG_le z2 (by omega)), hR2.tr (wH_N z3 (by omega) (by omega)), z5, z8, z6, z7, ?_, z9, (kk _ _ (by omega) (by omega)).trans d2, (kk _ _ (by omega) (by omega)).trans dN, (kk _ _ (by omega) (by omega)).trans d6, (kk _ _ (by omega) (by omega)).trans d8, dR.fr (fun a i y1 y2 => kk a i (by omega) (by omega)), dC.fr z1 (fun a i y1 y2 => kk a i (by omega) y2) kr (fun c _ _ => z3 _ _ (fun q => by unfold wH at q; omega)), fun z => ?_, fun z => (dM z).fr z1 kk (fun a i _ y2 => z4 z a i y2)⟩
                   · have z14 := z12.1
                     rcases a4 with z | z
                     · rw [fnD_0 hx z] at eE
                       have := (fnP_sk eE).1
                       rw [this, gp]; show _ = itr (skF B) ((i : Int) + 1).toNat _; rw [itr_t _ _ (by omega)]; rfl
                     · have hSF := (hM z).2.2.2.2.2.2.2.2.2.2.2 i (by omega) (by omega)
                       rw [gp, fnD_1 hx z hSF] at eE
                       exact (nmF_ok hB hSF eE).1
                   · have h5 := dT z
                     have z14 := z13 z
                     have h6 := h5.fr z1 (fun a i y1 y2 => kk a i (by omega) y2) kr (fun c y1 y2 => z3 (N + 5) c (fun q => by unfold wH at q; omega))
                     refine ⟨fun f f0 f1 => ?_, fun f g f0 f1 f2 => ?_⟩
                     · by_cases e : f = i
                       · subst e; exact ⟨t, z10, z11, z12, z14.1⟩
                       · exact h6.1 f f0 (by omega)
                     · by_cases e : g = i
                       · subst e
                         obtain ⟨t', y1, y2, y3, y4⟩ := h5.1 f f0 f1
                         have y5 := y3.1.1.2.1
                         rw [z10, z3 (N + 5) f (fun q => by unfold wH at q; omega), y1]
                         intro y6
                         have y7 := z14.2
                         cases y6
                         omega
                       · exact h6.2 f g f0 f1 (by omega))
              · skip
                refine s30_216.mpr (s30_219.mpr ?_)
                try simp (disch := first | decide | assumption | omega) only [kon, knt_some, knt_none, Option.toList_some, Option.toList_none, List.cons_append, List.nil_append, a2', d8, fAdd_id]
                first
                | exact F192 qE al3 hi3 hr3 _ (by rw [eD, er2 qE eE]; rfl) ((hG2.tr z1).mn (by omega) (by omega)) (hf2.tr z2) (hR2.tr (wH_N z3 (by omega) (by omega))) z5 v1 v2
                | (have kk : ∀ a i, N ≤ a → a < al2.1 → hi3 a i = hi2 a i := fun a i y1 y2 => z2 a i (wG_a y2 (by omega))
                   have kr : ∀ a i, N + 6 < a → a < al2.1 → hr3 a i = hr2 a i := fun a i y1 y2 => z3 a i (fun q => by unfold wH at q; omega)
                   refine nx _ _ _ _ _ eE ⟨rfl, (hG2.tr z1).mn (by omega) (by omega), hf2.tr (wG_le z2 (by omega)), hR2.tr (wH_N z3 (by omega) (by omega)), z5, z8, z6, z7, ?_, z9, (kk _ _ (by omega) (by omega)).trans d2, (kk _ _ (by omega) (by omega)).trans dN, (kk _ _ (by omega) (by omega)).trans d6, (kk _ _ (by omega) (by omega)).trans d8, dR.fr (fun a i y1 y2 => kk a i (by omega) (by omega)), dC.fr z1 (fun a i y1 y2 => kk a i (by omega) y2) kr (fun c _ _ => z3 _ _ (fun q => by unfold wH at q; omega)), fun z => ?_, fun z => (dM z).fr z1 kk (fun a i _ y2 => z4 z a i y2)⟩
                   · have z14 := z12.1
                     rcases a4 with z | z
                     · rw [fnD_0 hx z] at eE
                       have := (fnP_sk eE).1
                       rw [this, gp]; show _ = itr (skF B) ((i : Int) + 1).toNat _; rw [itr_t _ _ (by omega)]; rfl
                     · have hSF := (hM z).2.2.2.2.2.2.2.2.2.2.2 i (by omega) (by omega)
                       rw [gp, fnD_1 hx z hSF] at eE
                       exact (nmF_ok hB hSF eE).1
                   · have h5 := dT z
                     have z14 := z13 z
                     have h6 := h5.fr z1 (fun a i y1 y2 => kk a i (by omega) y2) kr (fun c y1 y2 => z3 (N + 5) c (fun q => by unfold wH at q; omega))
                     refine ⟨fun f f0 f1 => ?_, fun f g f0 f1 f2 => ?_⟩
                     · by_cases e : f = i
                       · subst e; exact ⟨t, z10, z11, z12, z14.1⟩
                       · exact h6.1 f f0 (by omega)
                     · by_cases e : g = i
                       · subst e
                         obtain ⟨t', y1, y2, y3, y4⟩ := h5.1 f f0 f1
                         have y5 := y3.1.1.2.1
                         rw [z10, z3 (N + 5) f (fun q => by unfold wH at q; omega), y1]
                         intro y6
                         have y7 := z14.2
                         cases y6
                         omega
                       · exact h6.2 f g f0 f1 (by omega))
      · first
        | (exfalso; omega)
        | skip
          first | exact absurd (by assumption) (by decide) | (exfalso; omega)
    · rintro p' ls al2 hi2 hr2 hok ⟨rfl, hG2, hf2, hR2, hD2, g2, g3, g0, gp, g4, d2, dN, d6, d8, dR, dC, dT, dM⟩
      have a2' := hD2.2.1
      have k5' : isK al2 5 4 := hG2.k k5
      have kN' := hD2.2.2.2.2.2.1.1
      have E := T222 p' al2 hi2 hr2 (vI ((nFn B).toNat : Int)) (by rw [eD, hok]; rfl) (hG2.mn (by omega) (by omega)) hf2 hR2 hD2 g2 g3 g4 dN (by
        rcases a4 with z | z
        · have y := dT z
          rw [show (((nFn B).toNat : Nat) : Int) = nFn B by omega] at y
          exact ⟨hD2.2.2.2.2.2.1, d2, d6, d8, dR, dC, y⟩
        · exact dM z)
      refine s30_192.mpr (s30_193.mpr ?_)
      refine (s30_194 (by first | decide | assumption | omega)).mpr ?_
      try simp (disch := first | decide | assumption | omega) only [kon, knt_some, knt_none, Option.toList_some, Option.toList_none, List.cons_append, List.nil_append, a2', d8]
      refine s30_197.mpr (wif (fun c197 => ?_) (fun c197 => ?_))
      · skip
        exfalso; omega
      · skip
        exact E
  have T176 : ∀ al1 hi1 hr1 l3, modD nm B n = (nmb B 1 10 (pFn0 B)).bind (fun p6 => (lpE (fnD nm B) (B (pFn0 B)).toNat p6).bind fun p7 => if p7 < n then .error p7 else .ok p7) → GA al al1 20 340 → FW (wG N) hi hi1 → RW (wN N) hr hr1 → DC al1 hi1 hr1 N n B nm → hi1 6 2 = n → hi1 6 3 = pFn0 B → 0 ≤ pFn0 B → hi1 6 4 = 0 → hi1 N 2 = nRec B → hi1 N 1 = hi N 1 → hi1 N 6 = nCtr B → RecsOK hi1 N B (nRec B) → CtsOK al1 hi1 hr1 N B (nCtr B) → (nm = 1 → ModS al1 hi1 hr1 N B) → Wp d 30 176 [vR (some 5), vR (some N), vI ps, l3] [] al1 hi1 hr1 Q := by
    intro al1 hi1 hr1 l3 eD hG hf hR hD e2 e3 e0 e4 c2 cN c6 cR cC cM
    have a2' := hD.2.1
    have k6' := hD.2.2.2.2.1.1
    have k5' : isK al1 5 4 := hG.k k5
    have kN' := hD.2.2.2.2.2.1.1
    refine s30_176.mpr (s30_177.mpr ?_)
    refine (s30_178 (by first | decide | assumption | omega)).mpr ?_
    refine s30_181.mpr (s30_182.mpr ?_)
    try simp (disch := first | decide | assumption | omega) only [kon, knt_some, knt_none, Option.toList_some, Option.toList_none, List.cons_append, List.nil_append, a2']
    refine (s30_184 (by first | decide | assumption | omega) (by first | decide | assumption | omega)).mpr ?_
    refine b_within hD.2.2.2.2.1 (by omega) (by omega) (fun z => absurd e4 z) (fun _ => ?_)
    rw [e3, e2, prn 1 10 _ (by decide)]
    refine kEx_of (fun qE eE => ?_) (fun qE eE => ?_)
    rotate_left
    intro xE hE yE zE v1 v2 v3
    · skip
      first
      | exact F187 qE al1 hE hr1 _ _ (by rw [eD, eE]; rfl) (hG.mn (by decide) (by decide)) (hf.tr (wG_Y zE)) hR (hD.fw zE) v1 v2
      | (obtain ⟨u0, u1, u2⟩ := nmb_ok eE
         subst u0
         refine (s30_187 kN').mpr ?_
         refine s30_190.mpr ?_
         refine s30_191.mpr ?_
         have kk : ∀ a i, a ≠ 6 → a ≠ N → upI (upI hi1 6 3 (pFn0 B + 1)) N 8 (B (pFn0 B)) a i = hi1 a i := fun a i y1 y2 => by rw [upI_a y2, upI_a y1]
         refine T192 al1 _ hr1 (by rw [eD, eE]; rfl) ⟨u1, u2⟩ hG ((hf.up (by unfold wG; omega)).up (by unfold wG; omega)) hR hD.u3.uN ?_ ?_ e0 ?_ ?_ ?_ ?_ ?_ ?_ ?_ (fun z => ?_)
         · rw [upI_a (by omega), upI_i (by decide)]; exact e2
         · rw [upI_a (by omega), upI_eq]
         · rw [upI_a (by omega), upI_i (by decide)]; exact e4
         · rw [upI_i (by decide), upI_a (by omega)]; exact c2
         · rw [upI_i (by decide), upI_a (by omega)]; exact cN
         · rw [upI_i (by decide), upI_a (by omega)]; exact c6
         · rw [upI_eq]; rfl
         · exact cR.fr (fun a i y1 y2 => kk a i (by omega) (by omega))
         · exact cC.fr GA.rf (fun a i y1 y2 => kk a i (by omega) (by omega)) (fun _ _ _ _ => rfl) (fun _ _ _ => rfl)
         · rw [upI_same (by rw [upI_a (by omega)]; exact (cM z).2.2.2.1)]
           exact (cM z).fr GA.rf (fun a i y1 y2 => upI_a (by omega)) (fun _ _ _ _ => rfl))
    · skip
      first
      | exact F187 qE al1 hE hr1 _ _ (by rw [eD, eE]; rfl) (hG.mn (by decide) (by decide)) (hf.tr (wG_Y zE)) hR (hD.fw zE) v1 v2
      | (obtain ⟨u0, u1, u2⟩ := nmb_ok eE
         subst u0
         refine (s30_187 kN').mpr ?_
         refine s30_190.mpr ?_
         refine s30_191.mpr ?_
         have kk : ∀ a i, a ≠ 6 → a ≠ N → upI (upI hi1 6 3 (pFn0 B + 1)) N 8 (B (pFn0 B)) a i = hi1 a i := fun a i y1 y2 => by rw [upI_a y2, upI_a y1]
         refine T192 al1 _ hr1 (by rw [eD, eE]; rfl) ⟨u1, u2⟩ hG ((hf.up (by unfold wG; omega)).up (by unfold wG; omega)) hR hD.u3.uN ?_ ?_ e0 ?_ ?_ ?_ ?_ ?_ ?_ ?_ (fun z => ?_)
         · rw [upI_a (by omega), upI_i (by decide)]; exact e2
         · rw [upI_a (by omega), upI_eq]
         · rw [upI_a (by omega), upI_i (by decide)]; exact e4
         · rw [upI_i (by decide), upI_a (by omega)]; exact c2
         · rw [upI_i (by decide), upI_a (by omega)]; exact cN
         · rw [upI_i (by decide), upI_a (by omega)]; exact c6
         · rw [upI_eq]; rfl
         · exact cR.fr (fun a i y1 y2 => kk a i (by omega) (by omega))
         · exact cC.fr GA.rf (fun a i y1 y2 => kk a i (by omega) (by omega)) (fun _ _ _ _ => rfl) (fun _ _ _ => rfl)
         · rw [upI_same (by rw [upI_a (by omega)]; exact (cM z).2.2.2.1)]
           exact (cM z).fr GA.rf (fun a i y1 y2 => upI_a (by omega)) (fun _ _ _ _ => rfl))
  have T146 : ∀ al1 hi1 hr1, modD nm B n = (lpE (ctD nm B n) (nCtr B).toNat (pCt0 B + 1)).bind (fun p5 => (nmb B 1 10 p5).bind (fun p6 => (lpE (fnD nm B) (B p5).toNat p6).bind fun p7 => if p7 < n then .error p7 else .ok p7)) → (0 ≤ nCtr B ∧ nCtr B ≤ 4) → GA al al1 0 0 → FW (wG N) hi hi1 → RW (wN N) hr hr1 → DC al1 hi1 hr1 N n B nm → hi1 6 2 = n → hi1 6 3 = pCt0 B + 1 → 0 ≤ pCt0 B → hi1 6 4 = 0 → hi1 N 2 = nRec B → hi1 N 1 = hi N 1 → hi1 N 6 = nCtr B → RecsOK hi1 N B (nRec B) → (nm = 1 → ModS al1 hi1 hr1 N B) → Wp d 30 146 [vR (some 5), vR (some N), vI ps, vI 0] [] al1 hi1 hr1 Q := by
    intro al1 hi1 hr1 eD F0 hG hf hR hD e2 e3 e0 e4 c2 cN c6 cR cM
    refine wp_lpG (M := (nCtr B).toNat) (f := ctD nm B n) (p0 := pCt0 B + 1) (fun i p' ls al2 hi2 hr2 => ls = [vR (some 5), vR (some N), vI ps, vI i] ∧ GA al al2 (5 * i) (85 * i) ∧ FW (wG N) hi hi2 ∧ RW (wN N) hr hr2 ∧ DC al2 hi2 hr2 N n B nm ∧ hi2 6 2 = n ∧ hi2 6 3 = p' ∧ 0 ≤ p' ∧ p' = pCtr B i ∧ hi2 6 4 = 0 ∧ hi2 N 2 = nRec B ∧ hi2 N 1 = hi N 1 ∧ hi2 N 6 = nCtr B ∧ RecsOK hi2 N B (nRec B) ∧ CtsOK al2 hi2 hr2 N B i ∧ (nm = 1 → ModS al2 hi2 hr2 N B)) ?_ ?_ _ _ _ _ ⟨rfl, hG, hf, hR, hD, e2, e3, by omega, rfl, e4, c2, cN, c6, cR, fun c c0 c1 => absurd c1 (by omega), cM⟩
    · rintro i p' ls al2 hi2 hr2 hi10 hok ⟨rfl, hG2, hf2, hR2, hD2, g2, g3, g0, gp, g4, d2, dN, d6, dR, dC, dM⟩ nx er2
      have a2' := hD2.2.1
      have k6' := hD2.2.2.2.2.1.1
      have k5' : isK al2 5 4 := hG2.k k5
      have kN' := hD2.2.2.2.2.2.1.1
      have lN' : N + 6 < al2.1 := hD2.2.2.2.2.2.1.l6
      refine s30_146.mpr (s30_147.mpr ?_)
      refine (s30_148 (by first | decide | assumption | omega)).mpr ?_
      try simp (disch := first | decide | assumption | omega) only [kon, knt_some, knt_none, Option.toList_some, Option.toList_none, List.cons_append, List.nil_append, a2', d6, fAdd_id]
      refine s30_151.mpr (wif (fun c151 => ?_) (fun c151 => ?_))
      · first
        | (exfalso; omega)
        | skip
          refine s30_154.mpr ?_
          refine (s30_155 (by first | decide | assumption | omega)).mpr ?_
          try simp (disch := first | decide | assumption | omega) only [kon, knt_some, knt_none, Option.toList_some, Option.toList_none, List.cons_append, List.nil_append, a2', d6, fAdd_id]
          refine (s30_158 (by first | decide | assumption | omega) (by first | decide | assumption | omega)).mpr ?_
          refine b_isRight k6' (fun _ => ?_) (fun q => absurd g4 q)
          refine s30_161.mpr (wif (fun c161 => ?_) (fun c161 => ?_))
          · first
            | (exfalso; omega)
            | skip
              first | exact absurd (by assumption) (by decide) | (exfalso; omega)
          · first
            | (exfalso; omega)
            | skip
              refine s30_164.mpr (s30_165.mpr (s30_166.mpr ?_))
              refine (s30_167 (by first | decide | assumption | omega) (by first | decide | assumption | omega)).mpr ?_
              refine d_walkContract (c := i) (p := p') hD2 (fun z => (dM z).nf (hM z).2) (by omega) (by omega) (by omega) (by rw [d6]; omega) (fun z => by obtain ⟨t, y1, y2, y3⟩ := (dM z).2.2.2.2.2.1 i (by omega) (by omega); exact ⟨t, y1, y2, y3, (hM z).2.2.2.2.2.2.2.1 i (by omega) (by omega)⟩) gp g3 g0 g2 g4 (fun p2 al3 hi3 hr3 o eE z1 z2 z3 z4 z5 z6 z7 z8 z9 z10 z11 z12 => ?_) (fun qE al3 hi3 hr3 eE z1 z2 z3 z5 v1 v2 v3 => ?_)
              rotate_left
              · skip
                refine s30_170.mpr (s30_173.mpr ?_)
                try simp (disch := first | decide | assumption | omega) only [kon, knt_some, knt_none, Option.toList_some, Option.toList_none, List.cons_append, List.nil_append, a2', d6, fAdd_id]
                first
                | exact F146 qE al3 hi3 hr3 _ (by rw [eD, er2 qE eE]; rfl) ((hG2.tr z1).mn (by omega) (by omega)) (hf2.tr z2) (hR2.tr (wH_N z3 (by omega) (by omega))) z5 v1 v2 v3
                | (have kk : ∀ a i, N ≤ a → a < al2.1 → hi3 a i = hi2 a i := fun a i y1 y2 => z2 a i (wG_a y2 (by omega))
                   have kr : ∀ a i, N + 6 < a → a < al2.1 → hr3 a i = hr2 a i := fun a i y1 y2 => z3 a i (fun q => by unfold wH at q; omega)
                   refine nx _ _ _ _ _ eE ⟨rfl, (hG2.tr z1).mn (by omega) (by omega), hf2.tr (wG_le z2 (by omega)), hR2.tr (wH_N z3 (by omega) (by omega)), z5, z8, z6, z7, ?_, z9, (kk _ _ (by omega) (by omega)).trans d2, (kk _ _ (by omega) (by omega)).trans dN, (kk _ _ (by omega) (by omega)).trans d6, dR.fr (fun a i y1 y2 => kk a i (by omega) (by omega)), fun c y0 y1 => ?_, fun z => ?_⟩
                   · rcases a4 with z | z
                     · rw [ctD_0 hx z] at eE
                       have := (ctP_sk eE).1
                       rw [this, gp]; show _ = itr (skC B) ((i : Int) + 1).toNat _; rw [itr_t _ _ (by omega)]; rfl
                     · have := ctD_sk1 z eE
                       rw [this, gp]; show _ = itr (skC B) ((i : Int) + 1).toNat _; rw [itr_t _ _ (by omega)]; rfl
                   · by_cases e : c = i
                     · subst e; exact ⟨o, z10, z11, z12⟩
                     · exact dC.fr z1 (fun a i y1 y2 => kk a i (by omega) y2) kr (fun c y1 y2 => z3 (N + 4) c (fun q => by unfold wH at q; omega)) c y0 (by omega)
                   · obtain ⟨w1, w2⟩ := z4 z
                     subst w1 w2
                     exact (dM z).fr GA.rf kk (fun a i _ _ => rfl))
              · skip
                refine s30_170.mpr (s30_173.mpr ?_)
                try simp (disch := first | decide | assumption | omega) only [kon, knt_some, knt_none, Option.toList_some, Option.toList_none, List.cons_append, List.nil_append, a2', d6, fAdd_id]
                first
                | exact F146 qE al3 hi3 hr3 _ (by rw [eD, er2 qE eE]; rfl) ((hG2.tr z1).mn (by omega) (by omega)) (hf2.tr z2) (hR2.tr (wH_N z3 (by omega) (by omega))) z5 v1 v2 v3
                | (have kk : ∀ a i, N ≤ a → a < al2.1 → hi3 a i = hi2 a i := fun a i y1 y2 => z2 a i (wG_a y2 (by omega))
                   have kr : ∀ a i, N + 6 < a → a < al2.1 → hr3 a i = hr2 a i := fun a i y1 y2 => z3 a i (fun q => by unfold wH at q; omega)
                   refine nx _ _ _ _ _ eE ⟨rfl, (hG2.tr z1).mn (by omega) (by omega), hf2.tr (wG_le z2 (by omega)), hR2.tr (wH_N z3 (by omega) (by omega)), z5, z8, z6, z7, ?_, z9, (kk _ _ (by omega) (by omega)).trans d2, (kk _ _ (by omega) (by omega)).trans dN, (kk _ _ (by omega) (by omega)).trans d6, dR.fr (fun a i y1 y2 => kk a i (by omega) (by omega)), fun c y0 y1 => ?_, fun z => ?_⟩
                   · rcases a4 with z | z
                     · rw [ctD_0 hx z] at eE
                       have := (ctP_sk eE).1
                       rw [this, gp]; show _ = itr (skC B) ((i : Int) + 1).toNat _; rw [itr_t _ _ (by omega)]; rfl
                     · have := ctD_sk1 z eE
                       rw [this, gp]; show _ = itr (skC B) ((i : Int) + 1).toNat _; rw [itr_t _ _ (by omega)]; rfl
                   · by_cases e : c = i
                     · subst e; exact ⟨o, z10, z11, z12⟩
                     · exact dC.fr z1 (fun a i y1 y2 => kk a i (by omega) y2) kr (fun c y1 y2 => z3 (N + 4) c (fun q => by unfold wH at q; omega)) c y0 (by omega)
                   · obtain ⟨w1, w2⟩ := z4 z
                     subst w1 w2
                     exact (dM z).fr GA.rf kk (fun a i _ _ => rfl))
      · first
        | (exfalso; omega)
        | skip
          first | exact absurd (by assumption) (by decide) | (exfalso; omega)
    · rintro p' ls al2 hi2 hr2 hok ⟨rfl, hG2, hf2, hR2, hD2, g2, g3, g0, gp, g4, d2, dN, d6, dR, dC, dM⟩
      have a2' := hD2.2.1
      have k5' : isK al2 5 4 := hG2.k k5
      have kN' := hD2.2.2.2.2.2.1.1
      have ecn : (((nCtr B).toNat : Nat) : Int) = nCtr B := by omega
      rw [ecn] at gp dC
      have E := T176 al2 hi2 hr2 (vI (nCtr B)) (by rw [eD, hok, gp]; rfl) (hG2.mn (by omega) (by omega)) hf2 hR2 hD2 g2 (g3.trans gp) (by rw [← show p' = pFn0 B from gp]; exact g0) g4 d2 dN d6 dR dC dM
      rw [ecn]
      refine s30_146.mpr (s30_147.mpr ?_)
      refine (s30_148 (by first | decide | assumption | omega)).mpr ?_
      try simp (disch := first | decide | assumption | omega) only [kon, knt_some, knt_none, Option.toList_some, Option.toList_none, List.cons_append, List.nil_append, a2', d6]
      refine s30_151.mpr (wif (fun c151 => ?_) (fun c151 => ?_))
      · skip
        exfalso; omega
      · skip
        exact E
  have T131 : ∀ hi1 l3, modD nm B n = (nmb B 0 4 (pCt0 B)).bind (fun p4 => (lpE (ctD nm B n) (B (pCt0 B)).toNat p4).bind (fun p5 => (nmb B 1 10 p5).bind (fun p6 => (lpE (fnD nm B) (B p5).toNat p6).bind fun p7 => if p7 < n then .error p7 else .ok p7))) → FW (wG N) hi hi1 → DC al hi1 hr N n B nm → hi1 6 2 = n → hi1 6 3 = pCt0 B → 0 ≤ pCt0 B → hi1 6 4 = 0 → hi1 N 2 = nRec B → hi1 N 1 = hi N 1 → RecsOK hi1 N B (nRec B) → (nm = 1 → ModS al hi1 hr N B) → Wp d 30 131 [vR (some 5), vR (some N), vI ps, l3] [] al hi1 hr Q := by
    intro hi1 l3 eD hf hD e2 e3 e0 e4 c2 cN cR cM
    have a2' := hD.2.1
    refine s30_131.mpr (s30_132.mpr ?_)
    refine (s30_133 (by first | decide | assumption | omega)).mpr ?_
    refine s30_136.mpr (s30_137.mpr ?_)
    try simp (disch := first | decide | assumption | omega) only [kon, knt_some, knt_none, Option.toList_some, Option.toList_none, List.cons_append, List.nil_append, a2']
    refine (s30_138 (by first | decide | assumption | omega) (by first | decide | assumption | omega)).mpr ?_
    refine b_within hD.2.2.2.2.1 (by omega) (by omega) (fun z => absurd e4 z) (fun _ => ?_)
    rw [e3, e2, prn 0 4 _ (by decide)]
    refine kEx_of (fun qE eE => ?_) (fun qE eE => ?_)
    rotate_left
    intro xE hE yE zE v1 v2 v3
    · skip
      first
      | exact F141 qE al hE hr _ _ (by rw [eD, eE]; rfl) (GA.rf.mn (by decide) (by decide)) (hf.tr (wG_Y zE)) RW.rf (hD.fw zE) v1 v2 v3
      | (obtain ⟨u0, u1, u2⟩ := nmb_ok eE
         subst u0
         refine (s30_141 kN).mpr ?_
         refine s30_144.mpr ?_
         refine s30_145.mpr ?_
         have kk : ∀ a i, a ≠ 6 → a ≠ N → upI (upI hi1 6 3 (pCt0 B + 1)) N 6 (B (pCt0 B)) a i = hi1 a i := fun a i y1 y2 => by rw [upI_a y2, upI_a y1]
         refine T146 al _ hr (by rw [eD, eE]; rfl) ⟨u1, u2⟩ GA.rf ((hf.up (by unfold wG; omega)).up (by unfold wG; omega)) RW.rf hD.u3.uN ?_ ?_ e0 ?_ ?_ ?_ ?_ ?_ (fun z => ?_)
         · rw [upI_a (by omega), upI_i (by decide)]; exact e2
         · rw [upI_a (by omega), upI_eq]
         · rw [upI_a (by omega), upI_i (by decide)]; exact e4
         · rw [upI_i (by decide), upI_a (by omega)]; exact c2
         · rw [upI_i (by decide), upI_a (by omega)]; exact cN
         · rw [upI_eq]; rfl
         · exact cR.fr (fun a i y1 y2 => kk a i (by omega) (by omega))
         · rw [upI_same (by rw [upI_a (by omega)]; exact (cM z).2.2.1)]
           exact (cM z).fr GA.rf (fun a i y1 y2 => upI_a (by omega)) (fun _ _ _ _ => rfl))
    · skip
      first
      | exact F141 qE al hE hr _ _ (by rw [eD, eE]; rfl) (GA.rf.mn (by decide) (by decide)) (hf.tr (wG_Y zE)) RW.rf (hD.fw zE) v1 v2 v3
      | (obtain ⟨u0, u1, u2⟩ := nmb_ok eE
         subst u0
         refine (s30_141 kN).mpr ?_
         refine s30_144.mpr ?_
         refine s30_145.mpr ?_
         have kk : ∀ a i, a ≠ 6 → a ≠ N → upI (upI hi1 6 3 (pCt0 B + 1)) N 6 (B (pCt0 B)) a i = hi1 a i := fun a i y1 y2 => by rw [upI_a y2, upI_a y1]
         refine T146 al _ hr (by rw [eD, eE]; rfl) ⟨u1, u2⟩ GA.rf ((hf.up (by unfold wG; omega)).up (by unfold wG; omega)) RW.rf hD.u3.uN ?_ ?_ e0 ?_ ?_ ?_ ?_ ?_ (fun z => ?_)
         · rw [upI_a (by omega), upI_i (by decide)]; exact e2
         · rw [upI_a (by omega), upI_eq]
         · rw [upI_a (by omega), upI_i (by decide)]; exact e4
         · rw [upI_i (by decide), upI_a (by omega)]; exact c2
         · rw [upI_i (by decide), upI_a (by omega)]; exact cN
         · rw [upI_eq]; rfl
         · exact cR.fr (fun a i y1 y2 => kk a i (by omega) (by omega))
         · rw [upI_same (by rw [upI_a (by omega)]; exact (cM z).2.2.1)]
           exact (cM z).fr GA.rf (fun a i y1 y2 => upI_a (by omega)) (fun _ _ _ _ => rfl))
  have T101 : ∀ hi1, modD nm B n = (lpE (recD nm B) (nRec B).toNat 3).bind (fun p3 => (nmb B 0 4 p3).bind (fun p4 => (lpE (ctD nm B n) (B p3).toNat p4).bind (fun p5 => (nmb B 1 10 p5).bind (fun p6 => (lpE (fnD nm B) (B p5).toNat p6).bind fun p7 => if p7 < n then .error p7 else .ok p7)))) → (0 ≤ nRec B ∧ nRec B ≤ 8) → FW (wG N) hi hi1 → DC al hi1 hr N n B nm → hi1 6 2 = n → hi1 6 3 = 3 → hi1 6 4 = 0 → hi1 N 2 = nRec B → hi1 N 1 = hi N 1 → (nm = 0 → ∀ r, hi1 (N + 3) r = 0) → (nm = 1 → ModS al hi1 hr N B) → Wp d 30 101 [vR (some 5), vR (some N), vI ps, vI 0] [] al hi1 hr Q := by
    intro hi1 eD F0 hf hD e2 e3 e4 c2 cN cZ cM
    refine wp_lpE (N := (nRec B).toNat) (f := recD nm B) (p0 := 3) (fun i p' ls hi2 => ls = [vR (some 5), vR (some N), vI ps, vI i] ∧ FW (wG N) hi hi2 ∧ DC al hi2 hr N n B nm ∧ hi2 6 2 = n ∧ hi2 6 3 = p' ∧ 0 ≤ p' ∧ p' = pRec B i ∧ hi2 6 4 = 0 ∧ hi2 N 2 = nRec B ∧ hi2 N 1 = hi N 1 ∧ RecsOK hi2 N B i ∧ (nm = 0 → ∀ r, i ≤ r → hi2 (N + 3) r = 0) ∧ (nm = 1 → ModS al hi2 hr N B)) ?_ ?_ _ _ ⟨rfl, hf, hD, e2, e3, by omega, rfl, e4, c2, cN, fun r r0 r1 => absurd r1 (by omega), fun z r _ => cZ z r, cM⟩
    · rintro i p' ls hi2 hi10 hok ⟨rfl, hf2, hD2, g2, g3, g0, gp, g4, d2, dN, dR, dZ, dM⟩ nx er2
      have a2' := hD2.2.1
      refine s30_101.mpr (s30_102.mpr ?_)
      refine (s30_103 (by first | decide | assumption | omega)).mpr ?_
      try simp (disch := first | decide | assumption | omega) only [kon, knt_some, knt_none, Option.toList_some, Option.toList_none, List.cons_append, List.nil_append, a2', d2, fAdd_id]
      refine s30_106.mpr (wif (fun c106 => ?_) (fun c106 => ?_))
      · first
        | (exfalso; omega)
        | skip
          refine s30_109.mpr ?_
          refine (s30_110 (by first | decide | assumption | omega)).mpr ?_
          try simp (disch := first | decide | assumption | omega) only [kon, knt_some, knt_none, Option.toList_some, Option.toList_none, List.cons_append, List.nil_append, a2', d2, fAdd_id]
          refine (s30_113 (by first | decide | assumption | omega) (by first | decide | assumption | omega)).mpr ?_
          refine b_isRight k6 (fun _ => ?_) (fun q => absurd g4 q)
          refine s30_116.mpr (wif (fun c116 => ?_) (fun c116 => ?_))
          · first
            | (exfalso; omega)
            | skip
              first | exact absurd (by assumption) (by decide) | (exfalso; omega)
          · first
            | (exfalso; omega)
            | skip
              refine s30_119.mpr (s30_120.mpr (s30_121.mpr ?_))
              refine (s30_122 (by first | decide | assumption | omega) (by first | decide | assumption | omega)).mpr ?_
              refine d_walkRecord (r := i) (p := p') hD2 (fun z => (dM z).nf (hM z).2) (by omega) (by omega) (by omega) (fun z => ⟨by omega, ((dM z).2.2.2.2.1 i (by omega) (by omega)).2⟩) (fun z => dZ z i (by omega)) g3 gp g0 g2 g4 (fun p2 hi3 eE z2 z6 z7 z9 z10 z11 z12 => ?_) (fun qE hi3 eE z2 v1 v2 v3 z12 => ?_)
              rotate_left
              · skip
                refine s30_125.mpr (s30_128.mpr ?_)
                try simp (disch := first | decide | assumption | omega) only [kon, knt_some, knt_none, Option.toList_some, Option.toList_none, List.cons_append, List.nil_append, a2', d2, fAdd_id]
                first
                | exact F101 qE al hi3 hr _ (by rw [eD, er2 qE eE]; rfl) (GA.rf.mn (by decide) (by decide)) (hf2.tr (z2.mn (fun a i q => by unfold wQ wY wR at q; unfold wG; omega))) RW.rf (hD2.fr z2 (fun q => by unfold wQ wY wR at q; omega) (fun q => by unfold wQ wY wR at q; omega) (fun k q => by unfold wQ wY wR at q; omega) z12) v1 v2 v3
                | (have kk : ∀ a j, a ≠ 6 → ¬ wR N i a j → hi3 a j = hi2 a j := fun a j y1 y2 => z2 a j (fun q => q.elim (fun q => y1 q.1) (fun q => y2 q.2))
                   refine nx _ _ _ eE ⟨rfl, hf2.tr (z2.mn (fun a i q => by unfold wQ wY wR at q; unfold wG; omega)), (hD2.fr z2 (fun q => by unfold wQ wY wR at q; omega) (fun q => by unfold wQ wY wR at q; omega) (fun k q => by unfold wQ wY wR at q; omega) z12), ?_, z6, z7, ?_, z9, ?_, ?_, fun r r0 r1 => ?_, fun z r r1 => ?_, fun z => ?_⟩
                   · rw [z2 6 2 (fun q => by unfold wQ wY wR at q; omega)]; exact g2
                   · rw [recD_sk a4 eE, gp]; show _ = itr (skR B) ((i : Int) + 1).toNat _; rw [itr_t _ _ (by omega)]; rfl
                   · rw [kk N 2 (by omega) (fun q => by unfold wR at q; omega)]; exact d2
                   · rw [kk N 1 (by omega) (fun q => by unfold wR at q; omega)]; exact dN
                   · by_cases e : r = i
                     · subst e; exact ⟨z10, z11⟩
                     · obtain ⟨⟨h1, h2⟩, h3⟩ := dR r r0 (by omega)
                       have hF6 : nFld B r ≤ 6 := by
                         have y := hD2.2.2.2.2.2.2.2.1 r r0 (by omega)
                         omega
                       exact ⟨⟨(kk _ _ (by omega) (fun q => by unfold wR at q; omega)).trans h1, fun j j0 j1 => (kk _ _ (by omega) (fun q => by unfold wR at q; omega)).trans (h2 j j0 j1)⟩, (kk _ _ (by omega) (fun q => by unfold wR at q; omega)).trans h3⟩
                   · rw [kk (N + 3) r (by omega) (fun q => by unfold wR at q; omega)]; exact dZ z r (by omega)
                   · exact (dM z).fr GA.rf (fun a i y1 y2 => wQ_1 z2 z a i (wY_6 (by omega))) (fun _ _ _ _ => rfl))
              · skip
                refine s30_125.mpr (s30_128.mpr ?_)
                try simp (disch := first | decide | assumption | omega) only [kon, knt_some, knt_none, Option.toList_some, Option.toList_none, List.cons_append, List.nil_append, a2', d2, fAdd_id]
                first
                | exact F101 qE al hi3 hr _ (by rw [eD, er2 qE eE]; rfl) (GA.rf.mn (by decide) (by decide)) (hf2.tr (z2.mn (fun a i q => by unfold wQ wY wR at q; unfold wG; omega))) RW.rf (hD2.fr z2 (fun q => by unfold wQ wY wR at q; omega) (fun q => by unfold wQ wY wR at q; omega) (fun k q => by unfold wQ wY wR at q; omega) z12) v1 v2 v3
                | (have kk : ∀ a j, a ≠ 6 → ¬ wR N i a j → hi3 a j = hi2 a j := fun a j y1 y2 => z2 a j (fun q => q.elim (fun q => y1 q.1) (fun q => y2 q.2))
                   refine nx _ _ _ eE ⟨rfl, hf2.tr (z2.mn (fun a i q => by unfold wQ wY wR at q; unfold wG; omega)), (hD2.fr z2 (fun q => by unfold wQ wY wR at q; omega) (fun q => by unfold wQ wY wR at q; omega) (fun k q => by unfold wQ wY wR at q; omega) z12), ?_, z6, z7, ?_, z9, ?_, ?_, fun r r0 r1 => ?_, fun z r r1 => ?_, fun z => ?_⟩
                   · rw [z2 6 2 (fun q => by unfold wQ wY wR at q; omega)]; exact g2
                   · rw [recD_sk a4 eE, gp]; show _ = itr (skR B) ((i : Int) + 1).toNat _; rw [itr_t _ _ (by omega)]; rfl
                   · rw [kk N 2 (by omega) (fun q => by unfold wR at q; omega)]; exact d2
                   · rw [kk N 1 (by omega) (fun q => by unfold wR at q; omega)]; exact dN
                   · by_cases e : r = i
                     · subst e; exact ⟨z10, z11⟩
                     · obtain ⟨⟨h1, h2⟩, h3⟩ := dR r r0 (by omega)
                       have hF6 : nFld B r ≤ 6 := by
                         have y := hD2.2.2.2.2.2.2.2.1 r r0 (by omega)
                         omega
                       exact ⟨⟨(kk _ _ (by omega) (fun q => by unfold wR at q; omega)).trans h1, fun j j0 j1 => (kk _ _ (by omega) (fun q => by unfold wR at q; omega)).trans (h2 j j0 j1)⟩, (kk _ _ (by omega) (fun q => by unfold wR at q; omega)).trans h3⟩
                   · rw [kk (N + 3) r (by omega) (fun q => by unfold wR at q; omega)]; exact dZ z r (by omega)
                   · exact (dM z).fr GA.rf (fun a i y1 y2 => wQ_1 z2 z a i (wY_6 (by omega))) (fun _ _ _ _ => rfl))
      · first
        | (exfalso; omega)
        | skip
          first | exact absurd (by assumption) (by decide) | (exfalso; omega)
    · rintro p' ls hi2 hok ⟨rfl, hf2, hD2, g2, g3, g0, gp, g4, d2, dN, dR, dZ, dM⟩
      have a2' := hD2.2.1
      have ecn : (((nRec B).toNat : Nat) : Int) = nRec B := by omega
      rw [ecn] at gp dR
      have E := T131 hi2 (vI (nRec B)) (by rw [eD, hok, gp]; rfl) hf2 hD2 g2 (g3.trans gp) (by rw [← show p' = pCt0 B from gp]; exact g0) g4 d2 dN dR dM
      rw [ecn]
      refine s30_101.mpr (s30_102.mpr ?_)
      refine (s30_103 (by first | decide | assumption | omega)).mpr ?_
      try simp (disch := first | decide | assumption | omega) only [kon, knt_some, knt_none, Option.toList_some, Option.toList_none, List.cons_append, List.nil_append, a2', d2]
      refine s30_106.mpr (wif (fun c106 => ?_) (fun c106 => ?_))
      · skip
        exfalso; omega
      · skip
        exact E
  have T84 : ∀ l3 (x : Int), nmb B 83 83 0 = .ok 1 → nmb B 77 77 1 = .ok 2 → Wp d 30 84 [vR (some 5), vR (some N), vI ps, l3] [vI x] al (upI hi 6 3 2) hr Q := by
    intro l3 x y1 y2
    have hD := h'.u3 (p := 2)
    refine s30_84.mpr (s30_85.mpr (s30_86.mpr ?_))
    refine (s30_87 (by first | decide | assumption | omega)).mpr ?_
    refine s30_90.mpr (s30_91.mpr ?_)
    try simp (disch := first | decide | assumption | omega) only [kon, knt_some, knt_none, Option.toList_some, Option.toList_none, List.cons_append, List.nil_append, a2]
    refine (s30_93 (by first | decide | assumption | omega) (by first | decide | assumption | omega)).mpr ?_
    refine b_within hD.2.2.2.2.1 (by omega) (by rw [upI_eq]; decide) (fun z => absurd h4 (by rw [upI_i (by decide)] at z; exact z)) (fun _ => ?_)
    rw [upI_eq, upI_i (by decide), hl, prn 0 8 _ (by decide)]
    refine kEx_of (fun qE eE => ?_) (fun qE eE => ?_)
    rotate_left
    intro xE hE yE zE v1 v2 v3
    · skip
      first
      | exact (F72 qE hE _ _ (by unfold modD; rw [y1, bnd_ok, y2, bnd_ok, eE]; rfl) (EF.up ⟨zE, v1, v2, v3⟩)).2.2
      | (obtain ⟨u0, u1, u2⟩ := nmb_ok eE
         subst u0
         rw [upI_up]
         refine (s30_96 kN).mpr ?_
         refine s30_99.mpr ?_
         refine s30_100.mpr ?_
         refine T101 _ (by unfold modD; rw [y1, bnd_ok, y2, bnd_ok, eE, bnd_ok]; rfl) ⟨u1, u2⟩ ((FW.up FW.rf (by unfold wG; omega)).up (by unfold wG; omega)) h'.u3.uN ?_ ?_ ?_ ?_ ?_ (fun z r => ?_) (fun z => ?_)
         · rw [upI_a (by omega), upI_i (by decide)]; exact hl
         · rw [upI_a (by omega), upI_eq]; rfl
         · rw [upI_a (by omega), upI_i (by decide)]; exact h4
         · rw [upI_eq]; rfl
         · rw [upI_i (by decide), upI_a (by omega)]
         · rw [upI_a (by omega), upI_a (by omega)]; exact hz z r
         · rw [upI_same (by rw [upI_a (by omega)]; exact (hM z).1.2.1)]
           exact (hM z).1.fr GA.rf (fun a i y1 y2 => upI_a (by omega)) (fun _ _ _ _ => rfl))
    · skip
      first
      | exact (F72 qE hE _ _ (by unfold modD; rw [y1, bnd_ok, y2, bnd_ok, eE]; rfl) (EF.up ⟨zE, v1, v2, v3⟩)).2.2
      | (obtain ⟨u0, u1, u2⟩ := nmb_ok eE
         subst u0
         rw [upI_up]
         refine (s30_96 kN).mpr ?_
         refine s30_99.mpr ?_
         refine s30_100.mpr ?_
         refine T101 _ (by unfold modD; rw [y1, bnd_ok, y2, bnd_ok, eE, bnd_ok]; rfl) ⟨u1, u2⟩ ((FW.up FW.rf (by unfold wG; omega)).up (by unfold wG; omega)) h'.u3.uN ?_ ?_ ?_ ?_ ?_ (fun z r => ?_) (fun z => ?_)
         · rw [upI_a (by omega), upI_i (by decide)]; exact hl
         · rw [upI_a (by omega), upI_eq]; rfl
         · rw [upI_a (by omega), upI_i (by decide)]; exact h4
         · rw [upI_eq]; rfl
         · rw [upI_i (by decide), upI_a (by omega)]
         · rw [upI_a (by omega), upI_a (by omega)]; exact hz z r
         · rw [upI_same (by rw [upI_a (by omega)]; exact (hM z).1.2.1)]
           exact (hM z).1.fr GA.rf (fun a i y1 y2 => upI_a (by omega)) (fun _ _ _ _ => rfl))
  have T72 : ∀ l3 (x : Int), nmb B 83 83 0 = .ok 1 → Wp d 30 72 [vR (some 5), vR (some N), vI ps, l3] [vI x] al (upI hi 6 3 1) hr Q := by
    intro l3 x y1
    have hD := h'.u3 (p := 1)
    refine s30_72.mpr (s30_73.mpr ?_)
    refine (s30_74 (by first | decide | assumption | omega)).mpr ?_
    refine s30_77.mpr (s30_79.mpr ?_)
    try simp (disch := first | decide | assumption | omega) only [kon, knt_some, knt_none, Option.toList_some, Option.toList_none, List.cons_append, List.nil_append, a2]
    refine (s30_81 (by first | decide | assumption | omega) (by first | decide | assumption | omega)).mpr ?_
    refine b_within hD.2.2.2.2.1 (by omega) (by rw [upI_eq]; decide) (fun z => absurd h4 (by rw [upI_i (by decide)] at z; exact z)) (fun _ => ?_)
    rw [upI_eq, upI_i (by decide), hl, prn 77 77 _ (by decide)]
    refine kEx_of (fun qE eE => ?_) (fun qE eE => ?_)
    rotate_left
    intro xE hE yE zE v1 v2 v3
    · skip
      first
      | exact (F72 qE hE _ _ (by unfold modD; rw [y1, bnd_ok, eE]; rfl) (EF.up ⟨zE, v1, v2, v3⟩)).2.1
      | (have u0 := (nmb_ok eE).1
         subst u0
         rw [upI_up]
         exact T84 _ _ y1 eE)
    · skip
      first
      | exact (F72 qE hE _ _ (by unfold modD; rw [y1, bnd_ok, eE]; rfl) (EF.up ⟨zE, v1, v2, v3⟩)).2.1
      | (have u0 := (nmb_ok eE).1
         subst u0
         rw [upI_up]
         exact T84 _ _ y1 eE)
  intro i9
  refine s30_61.mpr ?_
  refine (s30_62 (by first | decide | assumption | omega)).mpr ?_
  refine s30_65.mpr (s30_67.mpr ?_)
  try simp (disch := first | decide | assumption | omega) only [kon, knt_some, knt_none, Option.toList_some, Option.toList_none, List.cons_append, List.nil_append, a2]
  refine (s30_69 (by first | decide | assumption | omega) (by first | decide | assumption | omega)).mpr ?_
  refine b_within a5 (by omega) (by omega) (fun z => absurd h4 z) (fun _ => ?_)
  rw [hp, hl, prn 83 83 _ (by decide)]
  refine kEx_of (fun qE eE => ?_) (fun qE eE => ?_)
  rotate_left
  intro xE hE yE zE v1 v2 v3
  · skip
    first
    | exact (F72 qE hE _ _ (by unfold modD; rw [eE]; rfl) ⟨zE, v1, v2, v3⟩).1
    | (have u0 := (nmb_ok eE).1
       subst u0
       exact T72 _ _ eE)
  · skip
    first
    | exact (F72 qE hE _ _ (by unfold modD; rw [eE]; rfl) ⟨zE, v1, v2, v3⟩).1
    | (have u0 := (nmb_ok eE).1
       subst u0
       exact T72 _ _ eE)
end CD12
