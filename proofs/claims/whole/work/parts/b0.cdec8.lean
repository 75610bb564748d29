section CD8
variable {d : Nat} {al : AL} {hi : HI} {hr : HR} {Q : QQ} {B : Int → Int} {N : Nat} {n nm : Int}
/-- loops in which cells may come -/
theorem wp_lpG {k h : Nat} {M : Nat} {f : Int → Ex} {p0 : Int} (J : Nat → Int → List AV → AL → HI → HR → Prop)
    (body : ∀ i p ls al hi hr, i < M → lpE f i p0 = .ok p → J i p ls al hi hr → (∀ p' ls' al' hi' hr', f p = .ok p' → J (i + 1) p' ls' al' hi' hr' → Wp d k h ls' [] al' hi' hr' Q) → (∀ q, f p = .error q → lpE f M p0 = .error q) → Wp d k h ls [] al hi hr Q)
    (fin : ∀ p ls al hi hr, lpE f M p0 = .ok p → J M p ls al hi hr → Wp d k h ls [] al hi hr Q) : ∀ ls al hi hr, J 0 p0 ls al hi hr → Wp d k h ls [] al hi hr Q := by
  have key : ∀ (n i : Nat) p ls al hi hr, i + n = M → lpE f i p0 = .ok p → J i p ls al hi hr → Wp d k h ls [] al hi hr Q := by
    intro n
    induction n with
    | zero => intro i p ls al hi hr h0 h1 hI; rw [show i = M by omega] at hI h1; exact fin p ls al hi hr h1 hI
    | succ n ih => intro i p ls al hi hr h0 h1 hI; exact body i p ls al hi hr (by omega) h1 hI (fun p' ls' al' hi' hr' h' hJ => ih (i + 1) p' ls' al' hi' hr' (by omega) (by rw [lpE_s, h1]; exact h') hJ) (fun q hq => lpE_err (by omega) h1 hq)
  intro ls al hi hr hI
  exact key M 0 p0 ls al hi hr (by omega) rfl hI
theorem wp_cnG {k h : Nat} {M : Nat} (J : Nat → List AV → AL → HI → HR → Prop)
    (body : ∀ i ls al hi hr, i < M → J i ls al hi hr → (∀ ls' al' hi' hr', J (i + 1) ls' al' hi' hr' → Wp d k h ls' [] al' hi' hr' Q) → Wp d k h ls [] al hi hr Q)
    (fin : ∀ ls al hi hr, J M ls al hi hr → Wp d k h ls [] al hi hr Q) : ∀ ls al hi hr, J 0 ls al hi hr → Wp d k h ls [] al hi hr Q := by
  have key : ∀ (n i : Nat) ls al hi hr, i + n = M → J i ls al hi hr → Wp d k h ls [] al hi hr Q := by
    intro n
    induction n with
    | zero => intro i ls al hi hr h0 hI; rw [show i = M by omega] at hI; exact fin ls al hi hr hI
    | succ n ih => intro i ls al hi hr h0 hI; exact body i ls al hi hr (by omega) hI (fun ls' al' hi' hr' hJ => ih (i + 1) ls' al' hi' hr' (by omega) hJ)
  intro ls al hi hr hI
  exact key M 0 ls al hi hr (by omega) hI
/-- the reader, and what is new -/
def wG (m : Nat) (a : Nat) (i : Int) : Prop := (a = 6 ∧ 2 ≤ i ∧ i ≤ 5) ∨ m ≤ a
theorem wG_a {m a : Nat} {i : Int} (h : a < m) (h6 : a ≠ 6) : ¬ wG m a i := fun q => by unfold wG at q; omega
theorem wG_61 {m : Nat} (h : 6 < m) : ¬ wG m 6 1 := fun q => by unfold wG at q; omega
theorem wG_Y {m : Nat} {hi' : HI} (h : FW (wY 6) hi hi') : FW (wG m) hi hi' := h.mn (fun a i q => by unfold wY at q; unfold wG; omega)
theorem wG_le {m m' : Nat} {hi' : HI} (h : FW (wG m') hi hi') (hm : m ≤ m') : FW (wG m) hi hi' := h.mn (fun a i q => by unfold wG at q ⊢; omega)
/-- of references -/
def RW (w : Nat → Int → Prop) (hr hr' : HR) : Prop := ∀ a i, ¬ w a i → hr' a i = hr a i
theorem RW.rf {w : Nat → Int → Prop} : RW w hr hr := fun _ _ _ => rfl
theorem RW.tr {w : Nat → Int → Prop} {h1 h2 h3 : HR} (a : RW w h1 h2) (b : RW w h2 h3) : RW w h1 h3 := fun x i h => (b x i h).trans (a x i h)
theorem RW.mn {w w' : Nat → Int → Prop} {hr' : HR} (h : RW w hr hr') (hw : ∀ a i, w a i → w' a i) : RW w' hr hr' := fun a i q => h a i (fun q' => q (hw a i q'))
theorem RW.up {w : Nat → Int → Prop} {hr' : HR} {a : Nat} {i : Int} {x : Option Nat} (h : RW w hr hr') (ht : w a i) : RW w hr (upR hr' a i x) := fun b j hb => by
  unfold upR
  rw [if_neg (fun q => hb (by rw [q.1, q.2]; exact ht))]
  exact h b j hb
def wH (X : Nat) (c : Int) (m : Nat) (a : Nat) (i : Int) : Prop := (a = X ∧ i = c) ∨ m ≤ a
theorem DC.ga {al' : AL} {hi' : HI} {hr' : HR} {c s X : Nat} {z : Int} {w : Nat → Int → Prop} (h : DC al hi hr N n B nm) (hG : GA al al' c s) (hf : FW w hi hi') (h51 : ¬ w 5 1) (h61 : ¬ w 6 1) (hN6 : ∀ k, ¬ w (N + 6) k) (hz : szOK hi' N) (hR : RW (wH X z al.1) hr hr') (hX : X = N + 4 ∨ X = N + 5) (h9 : ∀ c o, 0 ≤ c → c < 4 → hr' (N + 4) c = some o → isK al' o 3) : DC al' hi' hr' N n B nm := by
  obtain ⟨a1, a2, a3, a4, a5, a6, a7, a8, a9⟩ := h
  obtain ⟨b1, b2, b3, b4, b5, b6, b7⟩ := a5
  have hl := a1.1
  have hr9 : ∀ a i, a < al.1 → a ≠ X → hr' a i = hr a i := fun a i p q => hR a i (fun e => by unfold wH at e; omega)
  obtain ⟨c0, ⟨c1, c2, c3⟩, ⟨d1, d2, d3⟩, ⟨e1, e2, e3⟩, ⟨f1, f2, f3⟩, ⟨g1, g2, g3⟩, i1, i2⟩ := a6
  have lN := c0.2.1
  refine ⟨hG.sa a1, (hr9 5 0 (by omega) (by omega)).trans a2, (hf 5 1 h51).trans a3, a4, ⟨hG.k b1, (hr9 6 0 (by omega) (by omega)).trans b2, hG.k b3, (hf 6 1 h61).trans b4, by rw [hG.l b3.2.1]; exact b5, fun k k0 k1 => (hf _ k (hN6 k)).trans (b6 k k0 k1), b7⟩, ⟨hG.k c0, ⟨(hr9 N 3 lN (by omega)).trans c1, hG.k c2, by rw [hG.l c2.2.1]; exact c3⟩, ⟨(hr9 N 4 lN (by omega)).trans d1, hG.k d2, by rw [hG.l d2.2.1]; exact d3⟩, ⟨(hr9 N 5 lN (by omega)).trans e1, hG.k e2, by rw [hG.l e2.2.1]; exact e3⟩, ⟨(hr9 N 7 lN (by omega)).trans f1, hG.k f2, by rw [hG.l f2.2.1]; exact f3⟩, ⟨(hr9 N 9 lN (by omega)).trans g1, hG.k g2, by rw [hG.l g2.2.1]; exact g3⟩, (hr9 N 0 lN (by omega)).trans i1, hG.k i2⟩, a7, hz, h9⟩
theorem CtS.fr {al' : AL} {hr' : HR} {o c s : Nat} (h : CtS al hr o) (hG : GA al al' c s) (hr9 : ∀ i, hr' o i = hr o i) : CtS al' hr' o := by
  obtain ⟨x0, ⟨x1, x2, x3⟩, ⟨y1, y2, y3⟩, ⟨z1, z2, z3⟩, v1, v2, v3⟩ := h
  exact ⟨hG.k x0, ⟨(hr9 _).trans x1, hG.k x2, by rw [hG.l x2.2.1]; exact x3⟩, ⟨(hr9 _).trans y1, hG.k y2, by rw [hG.l y2.2.1]; exact y3⟩, ⟨(hr9 _).trans z1, hG.k z2, by rw [hG.l z2.2.1]; exact z3⟩, (hr9 _).trans v1, hG.k v2, by rw [hG.l v2.2.1]; exact v3⟩
theorem CtrOK.fr {al' : AL} {hi' : HI} {hr' : HR} {o x s : Nat} {c : Int} (h : CtrOK al hi hr B c o) (hG : GA al al' x s) (hi9 : ∀ a i, o ≤ a → a ≤ o + 4 → hi' a i = hi a i) (hr9 : ∀ i, hr' o i = hr o i) : CtrOK al' hi' hr' B c o := by
  obtain ⟨h1, h2, h3⟩ := h
  refine ⟨h1.fr hG hr9, (hi9 _ _ (by omega) (by omega)).trans h2, fun s s0 s1 => ?_⟩
  obtain ⟨g1, g2, g3, g4⟩ := h3 s s0 s1
  exact ⟨(hi9 _ _ (by omega) (by omega)).trans g1, (hi9 _ _ (by omega) (by omega)).trans g2, g3, fun t t0 t1 => ⟨(hi9 _ _ (by omega) (by omega)).trans (g4 t t0 t1).1, (hi9 _ _ (by omega) (by omega)).trans (g4 t t0 t1).2⟩⟩
theorem d_walkContract {c p : Int} (h : DC al hi hr N n B nm) (hF : nm = 1 → NF al hi hr N B) (hd : 7 ≤ d) (c0 : 0 ≤ c) (c4 : c < 4) (hcn : c < hi N 6)
    (hC1 : nm = 1 → ∃ o, hr (N + 4) c = some o ∧ N + 6 < o ∧ CtrOK al hi hr B c o ∧ ShC B c) (hpc : p = pCtr B c)
    (hp : hi 6 3 = p) (h0 : 0 ≤ p) (hl : hi 6 2 = n) (h4 : hi 6 4 = 0)
    (ok : ∀ p' al' hi' hr' o, ctD nm B n p = .ok p' → GA al al' 5 85 → FW (wG al.1) hi hi' → RW (wH (N + 4) c al.1) hr hr' → (nm = 1 → al' = al ∧ hr' = hr) → DC al' hi' hr' N n B nm → hi' 6 3 = p' → 0 ≤ p' → hi' 6 2 = n → hi' 6 4 = 0 → hr' (N + 4) c = some o → N + 6 < o → CtrOK al' hi' hr' B c o → Q (some none) al' hi' hr')
    (er : ∀ q al' hi' hr', ctD nm B n p = .error q → GA al al' 5 85 → FW (wG N) hi hi' → RW (wH (N + 4) c al.1) hr hr' → DC al' hi' hr' N n B nm → hi' 6 4 = 1 → hi' 6 5 = q → 0 ≤ hi' 6 3 → Q (some none) al' hi' hr') : Ev d 32 [vR (some 5), vR (some N), vI c] al hi hr Q := by
  have h' := h
  obtain ⟨hA, a2, a3, a4, a5, a6, a7, a8, a9⟩ := h
  have k6 : isK al 6 2 := hA.k (by decide) (by decide) rfl
  have k5 : isK al 5 4 := hA.k (by decide) (by decide) rfl
  have kN := a6.1
  have lN6 : N + 6 < al.1 := a6.2.2.2.2.2.2.2.2.1
  have hx := a5.tx
  have l119 := hA.1
  have hSh : nm = 1 → ShC B c := fun e => by obtain ⟨o, -, -, -, z⟩ := hC1 e; exact z
  have w51 : ¬ wG al.1 5 1 := wG_a (by omega) (by decide)
  have w61 : ¬ wG al.1 6 1 := wG_61 (by omega)
  have wN6 : ∀ k, ¬ wG al.1 (N + 6) k := fun k => wG_a (by omega) (by omega)
  have wN1 : ∀ k, ¬ wG al.1 (N + 1) k := fun k => wG_a (by omega) (by omega)
  -- the states, the contract standing
  have T31 : ∀ al1 hi1 hr1 o (k : Int), k = B p → 1 ≤ k → k ≤ 8 → ctD nm B n p = lpE (stD nm B n k) k.toNat (p + 1) → DC al1 hi1 hr1 N n B nm → (nm = 1 → NF al1 hi1 hr1 N B) → GA al al1 5 85 → FW (wG al.1) hi hi1 → RW (wH (N + 4) c al.1) hr hr1 → (nm = 1 → al1 = al ∧ hr1 = hr) → CtS al1 hr1 o → N + 6 < o → (nm = 0 → al.1 ≤ o) → hi1 o 0 = nSt B c → (nm = 1 → CtrOK al1 hi1 hr1 B c o) → hi1 6 3 = p + 1 → hi1 6 2 = n → hi1 6 4 = 0 → hr1 (N + 4) c = some o → ∀ l4 l5 l6 l7 l8 l9, Wp d 32 31 [vR (some 5), vR (some N), vI c, vI k, l4, l5, l6, l7, l8, l9] [] al1 hi1 hr1 Q := by
    intro al1 hi1 hr1 o k ek k1 k8 eD hD hF1 hG hf hR h1 hC ho ho0 hs hC2 e3 e2 e4 eo l4 l5 l6 l7 l8 l9
    have a2' := hD.2.1
    have kN' := hD.2.2.2.2.2.1.1
    have hl1 : al.1 ≤ al1.1 := hG.1
    have en : hi1 N 6 = hi N 6 := hf N 6 (wG_a (by omega) (by omega))
    have ec : ctA hi1 hr1 N c = some o := by unfold ctA; rw [if_pos ⟨c0, by rw [en]; exact hcn, c4⟩, eo]
    refine s32_31.mpr (s32_32.mpr ?_)
    refine (s32_33 (by first | decide | assumption | omega) (by first | decide | assumption | omega)).mpr ?_
    refine t_contractAt hD.2.2.2.2.2.1 ?_
    simp only [kon, knt_some, knt_none, Option.toList_some, Option.toList_none, List.cons_append, List.nil_append, ec]
    refine s32_36.mpr (s32_38.mpr (s32_39.mpr ?_))
    refine d_states (d := d) hD hF1 (by omega) hC (by omega) (Or.inr ho) (fun e => ⟨hC2 e, hSh e⟩) c0 hpc ek k1 k8 e3 h0 e2 e4 (fun p' hi' eq hf2 g3 g0 g4 gS => ?_) (fun q hi' eq hf2 g4 g5 g3 => ?_)
    · have hf3 : FW (wG al.1) hi hi' := hf.tr (hf2.mn (fun a i q => by
         rcases q with q | ⟨q0, q⟩
         · unfold wY at q; unfold wG; omega
         · have := ho0 q0; unfold wK at q; unfold wG; omega))
      have q9 : ∀ a i, a ≠ 6 → a < o + 1 → hi' a i = hi1 a i := fun a i z1 z2 => hf2 a i (fun q => by unfold wQ wY wK at q; omega)
      refine ok p' al1 hi' hr1 o (eD.trans eq) hG hf3 hR h1 (hD.fr hf2 (fun q => by unfold wQ wY wK at q; omega) (fun q => by unfold wQ wY wK at q; omega) (fun k q => by unfold wQ wY wK at q; omega) (hD.2.2.2.2.2.2.2.1.fw hf2 (fun i q => by unfold wQ wY wK at q; omega))) g3 g0 ?_ g4 eo ho ⟨hC, ?_, fun s s0 s1 => gS s s0 ?_⟩
      · rw [hf2 6 2 (fun q => by unfold wQ wY wK at q; omega)]; exact e2
      · rw [q9 o 0 (by omega) (by omega)]; exact hs
      · rw [ek, hpc]; exact s1
    · have hf3 : FW (wG N) hi hi' := (wG_le hf (by omega)).tr (hf2.mn (fun a i q => by unfold wQ wY wK at q; unfold wG; omega))
      exact er q al1 hi' hr1 (eD.trans eq) hG hf3 hR (hD.fr hf2 (fun q => by unfold wQ wY wK at q; omega) (fun q => by unfold wQ wY wK at q; omega) (fun k q => by unfold wQ wY wK at q; omega) (hD.2.2.2.2.2.2.2.1.fw hf2 (fun i q => by unfold wQ wY wK at q; omega))) g4 g5 g3
  -- the same, behind a fault
  have F31 : ∀ al1 hi1 hr1 o q (k : Int), ctD nm B n p = .error q → 1 ≤ k → DC al1 hi1 hr1 N n B nm → GA al al1 5 85 → FW (wG N) hi hi1 → hi1 N 6 = hi N 6 → RW (wH (N + 4) c al.1) hr hr1 → hi1 6 4 = 1 → hi1 6 5 = q → 0 ≤ hi1 6 3 → hr1 (N + 4) c = some o → ∀ l4 l5 l6 l7 l8 l9, Wp d 32 31 [vR (some 5), vR (some N), vI c, vI k, l4, l5, l6, l7, l8, l9] [] al1 hi1 hr1 Q := by
    intro al1 hi1 hr1 o q k eD k1 hD hG hf en hR e4 e5 e3 eo l4 l5 l6 l7 l8 l9
    have a2' := hD.2.1
    have kN' := hD.2.2.2.2.2.1.1
    have k6' := hD.2.2.2.2.1.1
    have k5' : isK al1 5 4 := hG.k k5
    have ec : ctA hi1 hr1 N c = some o := by unfold ctA; rw [if_pos ⟨c0, by rw [en]; exact hcn, c4⟩, eo]
    have E := er q al1 hi1 hr1 eD hG hf hR hD e4 e5 e3
    refine s32_31.mpr (s32_32.mpr ?_)
    refine (s32_33 (by first | decide | assumption | omega) (by first | decide | assumption | omega)).mpr ?_
    refine t_contractAt hD.2.2.2.2.2.1 ?_
    simp only [kon, knt_some, knt_none, Option.toList_some, Option.toList_none, List.cons_append, List.nil_append, ec]
    refine s32_36.mpr (s32_38.mpr (s32_39.mpr (s32_41.mpr (s32_43.mpr ?_))))
    refine s32_44.mpr (wif (fun c44 => ?_) (fun c44 => ?_))
    · first
      | (exfalso; omega)
      | skip
        refine s32_47.mpr ?_
        refine (s32_48 (by first | decide | assumption | omega)).mpr ?_
        try simp (disch := first | decide | assumption | omega) only [kon, knt_some, knt_none, Option.toList_some, Option.toList_none, List.cons_append, List.nil_append, a2', ec]
        refine (s32_51 (by first | decide | assumption | omega) (by first | decide | assumption | omega)).mpr ?_
        refine b_isRight k6' (fun q => absurd q (by rw [e4]; decide)) (fun _ => ?_)
        refine s32_54.mpr (wif (fun c54 => ?_) (fun c54 => ?_))
        · first
          | (exfalso; omega)
          | skip
            refine (s32_169).mpr ?_
            exact E
        · first
          | (exfalso; omega)
          | skip
            exact absurd (by assumption) (by decide)
    · first
      | (exfalso; omega)
      | skip
        refine (s32_169).mpr ?_
        exact E
  -- a new contract
  have T18 : nm = 0 → ∀ hi1 (k : Int), DC al hi1 hr N n B nm → FW (wY 6) hi hi1 → (∀ al2 hi2 hr2 o, DC al2 hi2 hr2 N n B nm → GA al al2 5 85 → FW (wG al.1) hi1 hi2 → RW (wH (N + 4) c al.1) hr hr2 → hi2 6 = hi1 6 → CtS al2 hr2 o → N + 6 < o → al.1 ≤ o → hi2 o 0 = k → hr2 (N + 4) c = some o → Wp d 32 31 [vR (some 5), vR (some N), vI c, vI k, none, none, none, none, none, none] [] al2 hi2 hr2 Q) → Wp d 32 18 [vR (some 5), vR (some N), vI c, vI k, none, none, none, none, none, none] [] al hi1 hr Q := by
    intro n0 hi1 k hD hf W
    have hK1 : isK (nwA al 3 0 5) al.1 3 := isK_new (by omega)
    refine s32_18.mpr (s32_19.mpr (s32_20.mpr (s32_23.mpr (s32_24.mpr ?_))))
    refine (s32_25 (by omega)).mpr ?_
    refine k_init hK1 rfl (fun al2 hi2 hr2 g1 g2 g3 g4 g5 g6 => ?_)
    have hG2 : GA al al2 5 85 := GA.tr (GA.rf.nw) g1
    have hi9 : ∀ a i, a < al.1 → hi2 a i = hi1 a i := fun a i ha => (g4 a i ha).trans (zeI_a (by omega))
    have hr9 : ∀ a i, a < al.1 → hr2 a i = hr a i := fun a i ha => (g5 a i ha).trans (zeR_a (by omega))
    have hFW : FW (wG al.1) hi1 hi2 := fun a i q => hi9 a i (by unfold wG at q; omega)
    have hRW : RW (wH (N + 4) c al.1) hr hr2 := fun a i q => hr9 a i (by unfold wH at q; omega)
    have hD2 : DC al2 hi2 hr2 N n B nm := hD.ga hG2 hFW w51 w61 wN6 (hD.2.2.2.2.2.2.2.1.fw hFW wN1) hRW (Or.inl rfl) (fun c' o c0 c1 e => hG2.k (a9 c' o c0 c1 (by rw [← hr9 (N + 4) c' (by omega)]; exact e)))
    have kN2 := hD2.2.2.2.2.2.1.1
    refine (s32_28 (by first | decide | assumption | omega) (by first | decide | assumption | omega)).mpr ?_
    refine t_setContract hD2.2.2.2.2.2.1 c0 c4 g2.1 ?_
    refine W al2 hi2 (upR hr2 (N + 4) c (some al.1)) al.1 ?_ hG2 hFW (hRW.up (Or.inl ⟨rfl, rfl⟩)) (funext fun i => hi9 6 i (by omega)) ?_ (by omega) (Nat.le_refl _) g3 upR_eq
    · refine hD2.ga (GA.mn GA.rf (Nat.zero_le 0) (Nat.zero_le 0)) (w := fun _ _ => False) FW.rf id id (fun _ => id) hD2.2.2.2.2.2.2.2.1 (X := N + 4) (z := c) (RW.up RW.rf (Or.inl ⟨rfl, rfl⟩)) (Or.inl rfl) (fun c' o y0 y1 e => ?_)
      by_cases z : c' = c
      · subst z; rw [upR_eq] at e; cases e; exact g2.1
      · rw [upR_i z] at e; exact hD2.2.2.2.2.2.2.2.2 c' o y0 y1 e
    · obtain ⟨x0, ⟨x1, x2⟩, ⟨y1, y2⟩, ⟨z1, z2⟩, v1, v2⟩ := g2
      exact ⟨x0, ⟨(upR_a (by omega)).trans x1, x2⟩, ⟨(upR_a (by omega)).trans y1, y2⟩, ⟨(upR_a (by omega)).trans z1, z2⟩, (upR_a (by omega)).trans v1, v2⟩
  have T10 : nmb B 1 8 p = .ok (p + 1) → Wp d 32 10 [vR (some 5), vR (some N), vI c, none, none, none, none, none, none, none] [vI (B p)] al (upI hi 6 3 (p + 1)) hr Q := by
    intro eE
    obtain ⟨-, u1, u2⟩ := nmb_ok eE
    have hD1 := h'.u3 (p := p + 1)
    have a3' := hD1.2.2.1
    have eD : ctD nm B n p = lpE (stD nm B n (B p)) (B p).toNat (p + 1) := by
      unfold ctD
      rcases a4 with e | e
      · rw [if_pos e, eE, bnd_ok]
      · rw [if_neg (by omega), bnd_ok]
    have f1 : FW (wY 6) hi (upI hi 6 3 (p + 1)) := FW.up FW.rf ⟨rfl, by omega⟩
    refine s32_10.mpr (s32_11.mpr ?_)
    refine (s32_12 (by first | decide | assumption | omega)).mpr ?_
    try simp (disch := first | decide | assumption | omega) only [kon, knt_some, knt_none, Option.toList_some, Option.toList_none, List.cons_append, List.nil_append, a3']
    refine s32_15.mpr (wif (fun c15 => ?_) (fun c15 => ?_))
    · skip
      exact T18 (by omega) _ _ hD1 f1 (fun al2 hi2 hr2 o z1 z2 z3 z4 z5 z6 z7 z8 z9 z10 => T31 al2 hi2 hr2 o (B p) rfl u1 u2 eD z1 (fun e => absurd e (by omega)) z2 ((wG_Y f1).tr z3) z4 (fun e => absurd e (by omega)) z6 z7 (fun _ => z8) (by rw [z9, hpc]; rfl) (fun e => absurd e (by omega)) (by rw [z5, upI_eq]) (by rw [z5, upI_i (by decide)]; exact hl) (by rw [z5, upI_i (by decide)]; exact h4) z10 _ _ _ _ _ _)
    · skip
      skip
      have e1 : nm = 1 := by omega
      obtain ⟨o, z1, z2, z3, z4⟩ := hC1 e1
      exact T31 al _ hr o (B p) rfl u1 u2 eD hD1 (fun e => (hF e).u3 hA a7) (GA.mn GA.rf (by decide) (by decide)) (wG_Y f1) RW.rf (fun _ => ⟨rfl, rfl⟩) z3.1 z2 (fun e => absurd e (by omega)) (by rw [upI_a (by omega)]; exact z3.2.1) (fun _ => z3.fr GA.rf (fun a i y1 y2 => upI_a (by omega)) (fun _ => rfl)) upI_eq (by rw [upI_i (by decide)]; exact hl) (by rw [upI_i (by decide)]; exact h4) z1 _ _ _ _ _ _
  have F10 : ∀ q hi1 x, 1 ≤ x → nmb B 1 8 p = .error q → EF hi hi1 q → Wp d 32 10 [vR (some 5), vR (some N), vI c, none, none, none, none, none, none, none] [vI x] al hi1 hr Q := by
    intro q hi1 x hx1 eE hE
    have n0 : nm = 0 := by
      rcases a4 with e | e
      · exact e
      · exfalso
        have z := hSh e
        rw [hpc] at eE
        have z9 : nmb B 1 8 (pCtr B c) = .ok (pCtr B c + 1) := nmb_y z.1 z.2.1
        rw [z9] at eE
        cases eE
    have hD1 := h'.fw hE.1
    have a3' := hD1.2.2.1
    have eD : ctD nm B n p = .error q := by unfold ctD; rw [if_pos n0, eE]; rfl
    refine s32_10.mpr (s32_11.mpr ?_)
    refine (s32_12 (by first | decide | assumption | omega)).mpr ?_
    try simp (disch := first | decide | assumption | omega) only [kon, knt_some, knt_none, Option.toList_some, Option.toList_none, List.cons_append, List.nil_append, a3']
    refine s32_15.mpr (wif (fun c15 => ?_) (fun c15 => ?_))
    · first
      | (exfalso; omega)
      | skip
        exact T18 n0 _ _ hD1 hE.1 (fun al2 hi2 hr2 o z1 z2 z3 z4 z5 z6 z7 z8 z9 z10 => F31 al2 hi2 hr2 o q _ eD hx1 z1 z2 (wG_le ((wG_Y hE.1).tr z3) (by omega)) (by rw [z3 N 6 (wG_a (by omega) (by omega)), hE.1 N 6 (wY_6 (by omega))]) z4 (by rw [z5]; exact hE.2.1) (by rw [z5]; exact hE.2.2.1) (by rw [z5]; exact hE.2.2.2) z10 _ _ _ _ _ _)
    · first
      | (exfalso; omega)
      | skip
        refine s32_31.mpr (s32_32.mpr ?_)
        refine (s32_33 (by first | decide | assumption | omega) (by first | decide | assumption | omega)).mpr ?_
        exfalso; omega
  rw [e32]
  refine s32_0.mpr ?_
  refine (s32_1 (by first | decide | assumption | omega)).mpr ?_
  refine s32_4.mpr (s32_5.mpr ?_)
  try simp (disch := first | decide | assumption | omega) only [kon, knt_some, knt_none, Option.toList_some, Option.toList_none, List.cons_append, List.nil_append, a2]
  refine (s32_7 (by first | decide | assumption | omega) (by first | decide | assumption | omega)).mpr ?_
  refine b_within a5 (by omega) (by omega) (fun q => absurd h4 q) (fun _ => ?_)
  rw [hp, hl, prL_n hx (by decide)]
  refine kEx_of (fun qE eE => ?_) (fun qE eE => ?_)
  rotate_left
  intro xE hE yE zE v1 v2 v3
  · skip
    first
    | exact F10 qE hE _ (yE (by decide)).1 eE ⟨zE, v1, v2, v3⟩
    | (have e9 := (nmb_ok eE).1
       subst e9
       exact T10 eE)
  · skip
    first
    | exact F10 qE hE _ (yE (by decide)).1 eE ⟨zE, v1, v2, v3⟩
    | (have e9 := (nmb_ok eE).1
       subst e9
       exact T10 eE)
end CD8
