/-! RUNNING, the class: a message to a closed end; what is handed over -/
section CN5
variable {d : Nat} {Q : QQ} {T : TXs} {al al' : AL} {hi hi' : HI} {hr hr' : HR} {s s' s2 u sx sm : HI} {A A' : Int → Int → Int} {NN : Int → Option Nat} {E E' : Int → Prop} {p m f q v w x y n k g qx i r P e fr ty o kd : Int} {B : Int → Int} {X Y : Tst} {t t' N M c b : Nat} {al0 : AL} {hi0 : HI} {hr0 : HR} {V W ws : Int → Int}
theorem clo_msg (no : ¬ opn s2 o) (oo : opn sm o) (h1 : sm 114 o = 1) (hw : sm 117 (4 * o) = w) (hv : sm 116 (4 * o) = v) (h12 : ∀ x, x ≠ o → sm 112 x = s2 112 x) (h14 : ∀ x, x ≠ o → sm 114 x = s2 114 x) (hm : ∀ x j, opn s2 x → 0 ≤ j → j < s2 114 x → sm 116 (4 * x + j) = s2 116 (4 * x + j) ∧ sm 117 (4 * x + j) = s2 117 (4 * x + j)) : clo sm (fun x => x = o) x ↔ x = o ∨ (w = 3 ∧ clo s2 (fun x => x = v) x) := by
  have op : ∀ y, y ≠ o → (opn sm y ↔ opn s2 y) := fun y z => by unfold opn; rw [h12 y z]
  constructor
  · intro z
    refine z (fun x => x = o ∨ (w = 3 ∧ clo s2 (fun x => x = v) x)) (fun x hx _ => Or.inl hx) (fun x j hx j0 j1 h3 ho => ?_)
    rcases hx with rfl | ⟨h, hc⟩
    · have j9 : j = 0 := by omega
      subst j9
      rw [Int.add_zero] at h3 ho ⊢
      rw [hw] at h3
      rw [hv] at ho ⊢
      by_cases y : v = x
      · exact Or.inl y
      · exact Or.inr ⟨h3, clo_s rfl ((op v y).mp ho)⟩
    · have hox := clo_o hc
      have xo : x ≠ o := fun y => no (by rw [← y]; exact hox)
      rw [h14 x xo] at j1
      obtain ⟨m1, m2⟩ := hm x j hox j0 j1
      rw [m2] at h3
      rw [m1] at ho ⊢
      by_cases y : s2 116 (4 * x + j) = o
      · exact Or.inl y
      · exact Or.inr ⟨h, clo_k hc j0 j1 h3 ((op _ y).mp ho)⟩
  · rintro (rfl | ⟨h, hc⟩)
    · exact clo_s rfl oo
    · refine (hc (fun x => clo sm (fun x => x = o) x ∧ x ≠ o) (fun x hx ho => ?_) (fun x j hx j0 j1 h3 ho => ?_)).1
      · subst hx
        have xo : x ≠ o := fun y => no (by rw [← y]; exact ho)
        have := clo_k (s := sm) (E := fun x => x = o) (x := o) (k := 0) (clo_s rfl oo) (Int.le_refl _) (by omega) (by rw [Int.add_zero, hw]; exact h) (by rw [Int.add_zero, hv]; exact (op x xo).mpr ho)
        rw [Int.add_zero, hv] at this
        exact ⟨this, xo⟩
      · have hox : opn s2 x := (op x hx.2).mp (clo_o hx.1)
        obtain ⟨m1, m2⟩ := hm x j hox j0 j1
        have yo : s2 116 (4 * x + j) ≠ o := fun y => no (by rw [← y]; exact ho)
        have := clo_k hx.1 j0 (by rw [h14 x hx.2]; exact j1) (m2.trans h3) (by rw [m1]; exact (op _ yo).mpr ho)
        rw [m1] at this
        exact ⟨this, yo⟩
/-- a message to a closed end, as if it were open, and then gone -/
noncomputable def mupS (s : HI) (o v w c t : Int) : HI := ownS (upI (upI (upI (upI (upI (upI s 112 o 0) 118 o c) 115 (4 * o) t) 116 (4 * o) v) 117 (4 * o) w) 114 o 1) v w (100 + o)
theorem mup_n {c : Int} {a : Nat} {i : Int} (h : a ≠ 110 ∧ a ≠ 113) (h2 : i ≠ o ∨ (a ≠ 112 ∧ a ≠ 118 ∧ a ≠ 114)) (h3 : i ≠ 4 * o ∨ (a ≠ 115 ∧ a ≠ 116 ∧ a ≠ 117)) : mupS s o v w c y a i = s a i := by
  unfold mupS
  rw [ownS_n h, upI_ne (by omega), upI_ne (by omega), upI_ne (by omega), upI_ne (by omega), upI_ne (by omega), upI_ne (by omega)]
theorem mup_o {c : Int} : mupS s o v w c y 112 o = 0 ∧ mupS s o v w c y 118 o = c ∧ mupS s o v w c y 114 o = 1 ∧ mupS s o v w c y 115 (4 * o) = y ∧ mupS s o v w c y 116 (4 * o) = v ∧ mupS s o v w c y 117 (4 * o) = w := by
  unfold mupS
  refine ⟨?_, ?_, ?_, ?_, ?_, ?_⟩ <;> rw [ownS_n (by decide)]
  · rw [upI_a (by decide), upI_a (by decide), upI_a (by decide), upI_a (by decide), upI_a (by decide), upI_eq]
  · rw [upI_a (by decide), upI_a (by decide), upI_a (by decide), upI_a (by decide), upI_eq]
  · rw [upI_eq]
  · rw [upI_a (by decide), upI_a (by decide), upI_a (by decide), upI_eq]
  · rw [upI_a (by decide), upI_a (by decide), upI_eq]
  · rw [upI_a (by decide), upI_eq]
theorem mup_DD {c : Int} (o0 : 0 ≤ o ∧ o < 24) (hc : s 112 o = -1) (h14 : s 114 o = 0) (hq : QB s) (h3 : w = 3 → opn s v) : DD (clsS (mupS s o v w c y) (fun x => x = o)) (losS s v w) := by
  have no : ¬ opn s o := fun z => z.2.2 hc
  obtain ⟨o1, o2, o3, o4, o5, o6⟩ := mup_o (s := s) (o := o) (v := v) (w := w) (c := c) (y := y)
  obtain ⟨sm, hsm⟩ : ∃ sm, mupS s o v w c y = sm := ⟨_, rfl⟩
  have oo : opn sm o := ⟨o0.1, o0.2, by rw [← hsm, o1]; decide⟩
  have n12 : ∀ x, x ≠ o → sm 112 x = s 112 x := fun x z => by rw [← hsm]; exact mup_n (by decide) (Or.inl z) (by omega)
  have n14 : ∀ x, x ≠ o → sm 114 x = s 114 x := fun x z => by rw [← hsm]; exact mup_n (by decide) (Or.inl z) (by omega)
  have nm : ∀ (a : Nat) x j, a = 115 ∨ a = 116 ∨ a = 117 → opn s x → 0 ≤ j → j < s 114 x → sm a (4 * x + j) = s a (4 * x + j) := fun a x j z ho j0 j1 => by
    have b4 := (hq x ho).1
    have xo : x ≠ o := fun y => no (by rw [← y]; exact ho)
    rw [← hsm]; exact mup_n (by omega) (by omega) (by omega)
  have n9 : ∀ i, sm 109 i = s 109 i := fun i => by rw [← hsm]; exact mup_n (by decide) (by omega) (by omega)
  rw [hsm] at o3 o5 o6 ⊢
  have key : ∀ x, clo sm (fun x => x = o) x ↔ x = o ∨ (w = 3 ∧ clo s (fun x => x = v) x) := fun x => clo_msg no oo o3 o6 o5 n12 n14 (fun x j ho j0 j1 => ⟨nm 116 x j (by decide) ho j0 j1, nm 117 x j (by decide) ho j0 j1⟩)
  have bky : ∀ b, blo sm (clo sm (fun x => x = o)) b ↔ (w = 2 ∧ b = v) ∨ (w = 3 ∧ blo s (clo s (fun x => x = v)) b) := fun b => by
    constructor
    · rintro ⟨x, k, z1, z2, z3, z4, z5⟩
      rcases (key x).mp z1 with rfl | ⟨h, hcx⟩
      · have k9 : k = 0 := by omega
        subst k9
        rw [Int.add_zero] at z4 z5
        exact Or.inl ⟨by omega, by omega⟩
      · have hox := clo_o hcx
        have xo : x ≠ o := fun y => no (by rw [← y]; exact hox)
        rw [n14 x xo] at z3
        rw [nm 117 x k (by decide) hox z2 z3] at z4
        rw [nm 116 x k (by decide) hox z2 z3] at z5
        exact Or.inr ⟨h, x, k, hcx, z2, z3, z4, z5⟩
    · rintro (⟨h, rfl⟩ | ⟨h, x, k, z1, z2, z3, z4, z5⟩)
      · exact ⟨o, 0, (key o).mpr (Or.inl rfl), Int.le_refl _, by omega, by rw [Int.add_zero]; omega, by rw [Int.add_zero]; exact o5⟩
      · have hox := clo_o z1
        have xo : x ≠ o := fun y => no (by rw [← y]; exact hox)
        exact ⟨x, k, (key x).mpr (Or.inr ⟨h, z1⟩), z2, by rw [n14 x xo]; exact z3, by rw [nm 117 x k (by decide) hox z2 z3]; exact z4, by rw [nm 116 x k (by decide) hox z2 z3]; exact z5⟩
  -- what is lost
  have L9 : ∀ b, losS s v w 109 b = clsS sm (fun x => x = o) 109 b := fun b => by
    show _ = clG sm (clo sm (fun x => x = o)) (blo sm (clo sm (fun x => x = o))) 109 b
    unfold losS
    by_cases c2 : w = 2
    · rw [if_pos c2]
      by_cases z : b = v
      · rw [z, upI_eq, clG_9y ((bky v).mpr (Or.inl ⟨c2, rfl⟩))]
      · rw [upI_i z, clG_9n (fun y => by rcases (bky b).mp y with y | y; exact z y.2; omega)]
        exact (n9 b).symm
    · rw [if_neg c2]
      by_cases c3 : w = 3
      · rw [if_pos c3]
        show clG s (clo s (fun x => x = v)) (blo s (clo s (fun x => x = v))) 109 b = _
        by_cases z : blo s (clo s (fun x => x = v)) b
        · rw [clG_9y z, clG_9y ((bky b).mpr (Or.inr ⟨c3, z⟩))]
        · rw [clG_9n z, clG_9n (fun y => by rcases (bky b).mp y with y | y; exact c2 y.1; exact z y.2)]
          exact (n9 b).symm
      · rw [if_neg c3, clG_9n (fun y => by rcases (bky b).mp y with y | y; exact c2 y.1; exact c3 y.1)]
        exact (n9 b).symm
  have Lo : ∀ (a : Nat) i, a ≠ 109 → a ≠ 112 → a ≠ 114 → losS s v w a i = s a i := fun a i h1 h2 h4 => by
    unfold losS
    split
    · exact upI_a h1
    · split
      · exact clG_o (D := clo s (fun e => e = v)) (Bk := blo s (clo s (fun e => e = v))) h2 h4 h1
      · rfl
  have Ld : ∀ (a : Nat) x, a = 112 ∨ a = 114 → losS s v w a x = clsS sm (fun x => x = o) a x := fun a x ha => by
    show _ = clG sm (clo sm (fun x => x = o)) (blo sm (clo sm (fun x => x = o))) a x
    unfold losS
    have case : ¬ (w = 3 ∧ clo s (fun x => x = v) x) → s a x = clG sm (clo sm (fun x => x = o)) (blo sm (clo sm (fun x => x = o))) a x := fun z => by
      by_cases y : x = o
      · subst y
        have hD := (key x).mpr (Or.inl rfl)
        rcases ha with rfl | rfl
        · rw [clG_12 hD]; exact hc
        · rw [clG_14 hD]; exact h14
      · rw [clG_d (fun u => ((key x).mp u).elim y z) (by omega)]
        rcases ha with rfl | rfl
        · exact (n12 x y).symm
        · exact (n14 x y).symm
    by_cases c2 : w = 2
    · rw [if_pos c2, upI_a (by omega)]; exact case (fun z => by omega)
    · rw [if_neg c2]
      by_cases c3 : w = 3
      · rw [if_pos c3]
        show clG s (clo s (fun x => x = v)) (blo s (clo s (fun x => x = v))) a x = _
        by_cases z : clo s (fun x => x = v) x
        · have hD := (key x).mpr (Or.inr ⟨c3, z⟩)
          rcases ha with rfl | rfl
          · rw [clG_12 z, clG_12 hD]
          · rw [clG_14 z, clG_14 hD]
        · rw [clG_d z (by omega)]; exact case (fun y => z y.2)
      · rw [if_neg c3]; exact case (fun z => c3 z.1)
  have Co : ∀ (a : Nat) i, a ≠ 109 → a ≠ 112 → a ≠ 114 → clsS sm (fun x => x = o) a i = sm a i := fun a i h1 h2 h4 => clG_o (D := clo sm (fun x => x = o)) (Bk := blo sm (clo sm (fun x => x = o))) h2 h4 h1
  have C4 : ∀ x, ¬ clo sm (fun x => x = o) x → clsS sm (fun x => x = o) 114 x = sm 114 x := fun x z => clG_d (D := clo sm (fun x => x = o)) (Bk := blo sm (clo sm (fun x => x = o))) z (by decide)
  refine ⟨fun a i z => ?_, fun e => Ld 112 e (Or.inl rfl), fun e => Ld 114 e (Or.inr rfl), fun b b0 b1 hb => ?_, fun x hx => ?_⟩
  · by_cases y : a = 109
    · subst y; exact L9 i
    · rw [Lo a i y (by omega) (by omega), Co a i y (by omega) (by omega), ← hsm, mup_n (by omega) (by omega) (by omega)]
  · rw [← L9] at hb
    rw [Lo _ _ (by decide) (by decide) (by decide), Co _ _ (by decide) (by decide) (by decide)]
    refine ⟨?_, fun j j0 j1 => ?_⟩
    · rw [← hsm]
      unfold mupS
      rw [ownS_110, if_neg (fun z => by
        obtain ⟨z2, rfl⟩ := z
        apply hb
        unfold losS
        rw [if_pos z2, upI_eq]), upI_a (by decide), upI_a (by decide), upI_a (by decide), upI_a (by decide), upI_a (by decide), upI_a (by decide)]
    · rw [Lo _ _ (by decide) (by decide) (by decide), Co _ _ (by decide) (by decide) (by decide), ← hsm, mup_n (by decide) (by omega) (by omega)]
  · have hx' := clG_op.mp hx
    have nk : ¬ (x = o ∨ (w = 3 ∧ clo s (fun x => x = v) x)) := fun z => hx'.2 ((key x).mpr z)
    have xo : x ≠ o := fun z => nk (Or.inl z)
    have hox : opn s x := by
      obtain ⟨z0, z1, z2⟩ := hx'.1
      exact ⟨z0, z1, by rw [← n12 x xo]; exact z2⟩
    have hB := (hq x hox).1
    rw [Lo _ _ (by decide) (by decide) (by decide), Lo _ _ (by decide) (by decide) (by decide), Co _ _ (by decide) (by decide) (by decide), Co _ _ (by decide) (by decide) (by decide), C4 x hx'.2, n14 x xo]
    refine ⟨?_, by rw [← hsm, mup_n (by decide) (Or.inl xo) (by omega)], fun k k0 k1 => ?_⟩
    · rw [← hsm]
      unfold mupS
      rw [ownS_113, if_neg (fun z => nk (Or.inr ⟨z.1, clo_s z.2 hox⟩)), upI_a (by decide), upI_a (by decide), upI_a (by decide), upI_a (by decide), upI_a (by decide), upI_a (by decide)]
    · rw [Lo _ _ (by decide) (by decide) (by decide), Lo _ _ (by decide) (by decide) (by decide), Lo _ _ (by decide) (by decide) (by decide), Co _ _ (by decide) (by decide) (by decide), Co _ _ (by decide) (by decide) (by decide), Co _ _ (by decide) (by decide) (by decide), nm 115 x k (by decide) hox k0 k1, nm 116 x k (by decide) hox k0 k1, nm 117 x k (by decide) hox k0 k1]
      exact ⟨rfl, rfl, rfl⟩
/-! relations -/
theorem RelS.mv (h : RelS T NN al0 hi0 hr0 E A al hi hr s) (hP : AllP s) (ho : opn s e) (hx : x ≠ -1) : RelS T NN al0 hi0 hr0 E A al (upI hi 35 e x) hr (upI s 112 e x) := by
  have op : ∀ y, opn (upI s 112 e x) y ↔ opn s y := fun y => by
    unfold opn
    by_cases z : y = e
    · subst z; rw [upI_eq]; exact ⟨fun _ => ho, fun u => ⟨u.1, u.2.1, hx⟩⟩
    · rw [upI_i z]
  obtain ⟨n1, n2, n3⟩ := h.2.2.2.1
  refine h.glo hP (fun a i z => upI_a (by unfold gC at z; omega)) (fun _ _ _ => rfl) (fun a i z => upI_a (by unfold gS at z; omega)) (upI_a (by decide)) (h.2.1.cg (fun a i y => upI_a (by omega)) (fun a i y => upI_a (by omega))) (h.2.2.1.cg (fun a i y1 y2 => upI_a (by omega)) (fun b _ _ => upI_a (by decide)) (fun b _ _ _ => ⟨upI_a (by decide), fun j _ _ => upI_a (by decide)⟩)) ⟨fun y z => (op y).mpr (n1 y z), fun y y0 y1 => ?_, fun c c0 c1 hc => ?_⟩
  · obtain ⟨z1, z2, z3, z4⟩ := n2 y y0 y1
    rw [upI_a (by decide), op, upI_a (by decide), upI_a (by decide)]
    refine ⟨z1, z2, z3, fun u => ⟨fun w => ?_, fun k k0 k1 => ?_⟩⟩
    · obtain ⟨w1, w2⟩ := (z4 u).1 w
      rw [upI_a (b := 36) (by decide), upI_a (b := 113) (by decide)]
      refine ⟨?_, w2⟩
      by_cases c : y = e
      · subst c; rw [upI_eq, upI_eq]
      · rw [upI_i c, upI_i c]; exact w1
    · rw [upI_a (by decide), upI_a (by decide), upI_a (by decide), upI_a (by decide), upI_a (by decide), upI_a (by decide)]
      exact (z4 u).2 k k0 k1
  · rw [op, op] at hc
    obtain ⟨m, cc, N, o, w1, w2, w3, w4, w5⟩ := n3 c c0 c1 hc
    refine ⟨m, cc, N, o, w1, w2, w3, w4, fun y hy ec => ?_⟩
    rw [op] at hy
    rw [upI_a (by decide)]
    exact w5 y hy ec
theorem RelS.own (h : RelS T NN al0 hi0 hr0 E A al hi hr s) (hP : AllP s) (h2 : w = 2 → ∀ b, 0 ≤ b → b < 128 → hi' 31 b = if b = v then o else hi 31 b) (h2n : w ≠ 2 → ∀ b, hi' 31 b = hi 31 b) (h3 : w = 3 → ∀ b, 0 ≤ b → b < 24 → hi' 36 b = if b = v then o else hi 36 b) (h3n : w ≠ 3 → ∀ b, hi' 36 b = hi 36 b) (hf : ∀ (a : Nat) i, a ≠ 31 → a ≠ 36 → hi' a i = hi a i) : RelS T NN al0 hi0 hr0 E A al hi' hr (ownS s v w o) := by
  have o110 : ∀ b, ownS s v w o 110 b = if w = 2 ∧ b = v then o else s 110 b := fun b => ownS_110
  have o113 : ∀ b, ownS s v w o 113 b = if w = 3 ∧ b = v then o else s 113 b := fun b => ownS_113
  have op : ∀ y, opn (ownS s v w o) y ↔ opn s y := fun y => by unfold opn; rw [ownS_n (by decide)]
  obtain ⟨b1, b2, b3⟩ := h.2.2.1
  obtain ⟨n1, n2, n3⟩ := h.2.2.2.1
  refine h.glo hP (fun a i z => hf a i (by unfold gC at z; omega) (by unfold gC at z; omega)) (fun _ _ _ => rfl) (fun a i z => ownS_n (by unfold gS at z; omega)) (ownS_n (by decide)) (h.2.1.cg (fun a i y => hf a i (by omega) (by omega)) (fun a i y => ownS_n (by omega))) ⟨fun b y0 y1 => ?_, by rw [hf _ _ (by decide) (by decide), bcn_cg 128 (fun b _ => ownS_n (by decide))]; exact b2, by rw [hf _ _ (by decide) (by decide), bcl_cg2 128 (fun b _ => ownS_n (by decide))]; exact b3⟩ ⟨fun y z => (op y).mpr (n1 y z), fun y y0 y1 => ?_, fun c c0 c1 hc => ?_⟩
  · obtain ⟨z1, z2⟩ := b1 b y0 y1
    rw [hf 30 _ (by decide) (by decide), ownS_n (by decide)]
    refine ⟨z1, fun u => ?_⟩
    obtain ⟨w1, w2⟩ := z2 u
    refine ⟨?_, fun j j0 j1 => by rw [hf _ _ (by decide) (by decide), ownS_n (by decide)]; exact w2 j j0 j1⟩
    rw [o110]
    by_cases c : w = 2
    · rw [h2 c b y0 y1]
      by_cases z : b = v
      · rw [if_pos z, if_pos ⟨c, z⟩]
      · rw [if_neg z, if_neg (fun y => z y.2)]; exact w1
    · rw [h2n c, if_neg (fun y => c y.1)]; exact w1
  · obtain ⟨z1, z2, z3, z4⟩ := n2 y y0 y1
    rw [hf 34 _ (by decide) (by decide), op, hf 38 _ (by decide) (by decide), ownS_n (by decide), ownS_n (by decide)]
    refine ⟨z1, z2, z3, fun u => ⟨fun q => ?_, fun k k0 k1 => ?_⟩⟩
    · obtain ⟨w1, w2⟩ := (z4 u).1 q
      rw [hf 35 _ (by decide) (by decide), o113]
      refine ⟨w1, ?_⟩
      by_cases c : w = 3
      · rw [h3 c y y0 y1]
        by_cases z : y = v
        · rw [if_pos z, if_pos ⟨c, z⟩]
        · rw [if_neg z, if_neg (fun y => z y.2)]; exact w2
      · rw [h3n c, if_neg (fun y => c y.1)]; exact w2
    · rw [hf _ _ (by decide) (by decide), hf _ _ (by decide) (by decide), hf _ _ (by decide) (by decide), ownS_n (by decide), ownS_n (by decide), ownS_n (by decide)]
      exact (z4 u).2 k k0 k1
  · rw [op, op] at hc
    obtain ⟨m, cc, N, o', w1, w2, w3, w4, w5⟩ := n3 c c0 c1 hc
    refine ⟨m, cc, N, o', w1, w2, w3, w4, fun y hy ec => ?_⟩
    rw [op] at hy
    rw [ownS_n (by decide)]
    exact w5 y hy ec
theorem x_hand (h : RelS T NN al0 hi0 hr0 E A al hi hr s) (hP : AllP s) (hk : (kd = 4 ↔ w = 2) ∧ (kd = 5 ↔ w = 3)) (hd : 1 ≤ d) (h2 : w = 2 → 0 ≤ v ∧ v < 128) (h3 : w = 3 → 0 ≤ v ∧ v < 24) (q : ∀ hi', RelS T NN al0 hi0 hr0 E A al hi' hr (ownS s v w o) → (∀ (a : Nat) i, a ≠ 31 → a ≠ 36 → hi' a i = hi a i) → Q (some none) al hi' hr) : Ev d 57 [vR (some 33), vI kd, vI v, vI o] al hi hr Q := by
  have hA := h.1.1
  have hC := h.1.2.1
  have k33 : isK al 33 5 := hA.k (by decide) (by decide) rfl
  have k29 : isK al 29 1 := hA.k (by decide) (by decide) rfl
  have g29 := cr_33_0 hC
  by_cases c2 : w = 2
  · have c4 := hk.1.mpr c2
    have v0 := h2 c2
    have BG : Ev (d - 1) 5 [vR (some 29), vI v, vI o] al hi hr (kon d 57 11 14 [vR (some 33), vI kd, vI v, vI o] [] Q) := by
      refine b_give hA hC (fun hi' y1 y2 => ?_)
      have E0 := q hi' (h.own hP (fun _ b b0 b1 => by
        by_cases z : b = v
        · rw [if_pos z, z]; exact y1 v0.1 v0.2
        · rw [if_neg z]; exact y2 _ _ (by omega)) (fun z => absurd c2 z) (fun z => by omega) (fun _ b => y2 _ _ (by omega)) (fun a i z1 z2 => y2 a i (by omega))) (fun a i z1 z2 => y2 a i (by omega))
      simp only [kon, knt_some, knt_none, Option.toList_some, Option.toList_none, List.cons_append, List.nil_append]
      refine s57_14.mpr ?_
      refine (s57_28).mpr ?_
      exact E0
    rw [e57]
    refine s57_0.mpr (s57_1.mpr ?_)
    refine s57_2.mpr (wif (fun c2 => ?_) (fun c2 => ?_))
    · skip
      refine s57_5.mpr ?_
      refine (s57_6 (by first | decide | assumption | omega)).mpr ?_
      refine s57_9.mpr (s57_10.mpr ?_)
      try simp (disch := first | decide | assumption | omega) only [g29]
      refine (s57_11 (by first | decide | assumption | omega) (by first | decide | assumption | omega)).mpr ?_
      exact BG
    · skip
      exact absurd c4 (by assumption)
  · have n4 : kd ≠ 4 := fun z => c2 (hk.1.mp z)
    by_cases c3 : w = 3
    · have c5 := hk.2.mpr c3
      have v0 := h3 c3
      have BG : Ev (d - 1) 47 [vR (some 33), vI v, vI o] al hi hr (kon d 57 25 28 [vR (some 33), vI kd, vI v, vI o] [] Q) := by
        refine e_give hA hC (fun hi' y1 y2 => ?_)
        have E0 := q hi' (h.own hP (fun z => absurd z c2) (fun _ b => y2 _ _ (by omega)) (fun _ b b0 b1 => by
          by_cases z : b = v
          · rw [if_pos z, z]; exact y1 v0.1 v0.2
          · rw [if_neg z]; exact y2 _ _ (by omega)) (fun z => absurd c3 z) (fun a i z1 z2 => y2 a i (by omega))) (fun a i z1 z2 => y2 a i (by omega))
        simp only [kon, knt_some, knt_none, Option.toList_some, Option.toList_none, List.cons_append, List.nil_append]
        refine (s57_28).mpr ?_
        exact E0
      rw [e57]
      refine s57_0.mpr (s57_1.mpr ?_)
      refine s57_2.mpr (wif (fun c2 => ?_) (fun c2 => ?_))
      · skip
        exact absurd (by assumption) n4
      · skip
        refine s57_17.mpr (s57_18.mpr ?_)
        refine s57_19.mpr (wif (fun c19 => ?_) (fun c19 => ?_))
        · skip
          refine s57_22.mpr (s57_23.mpr (s57_24.mpr ?_))
          refine (s57_25 (by first | decide | assumption | omega) (by first | decide | assumption | omega)).mpr ?_
          exact BG
        · skip
          exact absurd c5 (by assumption)
    · have n5 : kd ≠ 5 := fun z => c3 (hk.2.mp z)
      have E0 := q hi (h.own hP (fun z => absurd z c2) (fun _ b => rfl) (fun z => absurd z c3) (fun _ b => rfl) (fun _ _ _ _ => rfl)) (fun _ _ _ _ => rfl)
      rw [e57]
      refine s57_0.mpr (s57_1.mpr ?_)
      refine s57_2.mpr (wif (fun c2 => ?_) (fun c2 => ?_))
      · skip
        exact absurd (by assumption) n4
      · skip
        refine s57_17.mpr (s57_18.mpr ?_)
        refine s57_19.mpr (wif (fun c19 => ?_) (fun c19 => ?_))
        · skip
          exact absurd (by assumption) n5
        · skip
          refine (s57_28).mpr ?_
          exact E0
end CN5
