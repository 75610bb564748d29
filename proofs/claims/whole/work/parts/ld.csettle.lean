/-! RUNNING, the class: what is closed goes -/
section CS0
variable {d : Nat} {Q : QQ} {T : TXs} {al al' : AL} {hi hi' : HI} {hr hr' : HR} {s s' : HI} {A A' : Int → Int → Int} {NN : Int → Option Nat} {E E' F D D' Bk Bk' : Int → Prop} {p q m f v w x i e b : Int} {B : Int → Int} {X Y : Tst} {t t' N : Nat} {al0 : AL} {hi0 : HI} {hr0 : HR}
noncomputable def clG (s : HI) (D Bk : Int → Prop) : HI := fun a i => cif (a = 112 ∧ D i) (-1) (cif (a = 114 ∧ D i) 0 (cif (a = 109 ∧ Bk i) (-1) (s a i)))
theorem clG_o {a : Nat} (h1 : a ≠ 112) (h2 : a ≠ 114) (h3 : a ≠ 109) : clG s D Bk a i = s a i := by
  unfold clG; rw [cif_n (fun z => h1 z.1), cif_n (fun z => h2 z.1), cif_n (fun z => h3 z.1)]
theorem clG_d {a : Nat} (h : ¬ D i) (h3 : a ≠ 109) : clG s D Bk a i = s a i := by
  unfold clG; rw [cif_n (fun z => h z.2), cif_n (fun z => h z.2), cif_n (fun z => h3 z.1)]
theorem clG_12 (h : D i) : clG s D Bk 112 i = -1 := by unfold clG; rw [cif_y ⟨rfl, h⟩]
theorem clG_14 (h : D i) : clG s D Bk 114 i = 0 := by unfold clG; rw [cif_n (fun z => absurd z.1 (by decide)), cif_y ⟨rfl, h⟩]
theorem clG_9y (h : Bk i) : clG s D Bk 109 i = -1 := by unfold clG; rw [cif_n (fun z => absurd z.1 (by decide)), cif_n (fun z => absurd z.1 (by decide)), cif_y ⟨rfl, h⟩]
theorem clG_9n (h : ¬ Bk i) : clG s D Bk 109 i = s 109 i := by unfold clG; rw [cif_n (fun z => absurd z.1 (by decide)), cif_n (fun z => absurd z.1 (by decide)), cif_n (fun z => h z.2)]
theorem clG_op : opn (clG s D Bk) x ↔ opn s x ∧ ¬ D x := by
  unfold opn
  by_cases c : D x
  · rw [clG_12 c]; exact ⟨fun z => absurd rfl z.2.2, fun z => absurd c z.2⟩
  · rw [clG_d c (by decide)]; exact ⟨fun z => ⟨z, c⟩, fun z => z.1⟩
theorem clG_up : upI (clG s D Bk) 109 b (-1) = clG s D (fun x => Bk x ∨ x = b) := by
  funext a i
  by_cases c : a = 109
  · subst c
    by_cases z : i = b
    · subst z; rw [upI_eq, clG_9y (Or.inr rfl)]
    · rw [upI_i z]
      by_cases y : Bk i
      · rw [clG_9y y, clG_9y (Or.inl y)]
      · rw [clG_9n y, clG_9n (fun u => u.elim y z)]
  · rw [upI_a c]
    unfold clG
    rw [cif_n (c := a = 109 ∧ Bk i) (fun z => c z.1), cif_n (c := a = 109 ∧ (Bk i ∨ i = b)) (fun z => c z.1)]
theorem clG_cg (h1 : ∀ x, D x ↔ D' x) (h2 : ∀ x, Bk x ↔ Bk' x) : clG s D Bk = clG s D' Bk' := by
  have e1 : D = D' := funext (fun x => propext (h1 x))
  have e2 : Bk = Bk' := funext (fun x => propext (h2 x))
  rw [e1, e2]
theorem clG_0 (h1 : ∀ x, ¬ D x) (h2 : ∀ x, ¬ Bk x) : clG s D Bk = s := by
  funext a i
  unfold clG
  rw [cif_n (fun z => h1 _ z.2), cif_n (fun z => h1 _ z.2), cif_n (fun z => h2 _ z.2)]
theorem clG_P (hP : AllP s) : AllP (clG s D Bk) := hP.glo (fun a i z => clG_o (by unfold gS at z; omega) (by unfold gS at z; omega) (by unfold gS at z; omega)) (clG_o (by decide) (by decide) (by decide))
theorem clG_B (h : BkI s) : BkI (clG s D Bk) := fun b b0 b1 => by
  by_cases c : Bk b
  · exact Or.inl (clG_9y c)
  · rw [clG_9n c]; exact h b b0 b1
/-- blocks that went with those of D, and with the first k messages for e -/
def blm (s : HI) (D : Int → Prop) (e k b : Int) : Prop := blo s D b ∨ ∃ j, 0 ≤ j ∧ j < k ∧ s 117 (4 * e + j) = 2 ∧ s 116 (4 * e + j) = b
theorem blm_0 : blm s D e 0 b ↔ blo s D b := ⟨fun z => z.elim id (fun ⟨j, j0, j1, _⟩ => by omega), Or.inl⟩
theorem blm_s {k : Int} (k0 : 0 ≤ k) : blm s D e (k + 1) b ↔ blm s D e k b ∨ (s 117 (4 * e + k) = 2 ∧ s 116 (4 * e + k) = b) := by
  constructor
  · rintro (z | ⟨j, j0, j1, j2⟩)
    · exact Or.inl (Or.inl z)
    · by_cases u : j = k
      · subst u; exact Or.inr j2
      · exact Or.inl (Or.inr ⟨j, j0, by omega, j2⟩)
  · rintro ((z | ⟨j, j0, j1, j2⟩) | z)
    · exact Or.inl z
    · exact Or.inr ⟨j, j0, by omega, j2⟩
    · exact Or.inr ⟨k, k0, by omega, z⟩
theorem blm_e : blm s D e (s 114 e) b ↔ blo s (fun x => D x ∨ x = e) b := by
  constructor
  · rintro (⟨x, k, z⟩ | ⟨j, j0, j1, j2⟩)
    · exact ⟨x, k, Or.inl z.1, z.2⟩
    · exact ⟨e, j, Or.inr rfl, j0, j1, j2⟩
  · rintro ⟨x, k, z | rfl, z2⟩
    · exact Or.inl ⟨x, k, z, z2⟩
    · exact Or.inr ⟨k, z2⟩
/-- an end has gone -/
theorem RelS.gone (h : RelS T NN al0 hi0 hr0 F A al hi hr (clG s D (blm s D e (s 114 e)))) (hP : AllP s) (hF : F e) (e0 : 0 ≤ e ∧ e < 24) : RelS T NN al0 hi0 hr0 (fun x => F x ∧ x ≠ e) A al (upI hi 38 e 0) hr (clG s (fun x => D x ∨ x = e) (blo s (fun x => D x ∨ x = e))) := by
  have no : ∀ a i, a ≠ 112 → a ≠ 114 → clG s (fun x => D x ∨ x = e) (blo s (fun x => D x ∨ x = e)) a i = clG s D (blm s D e (s 114 e)) a i := fun a i h1 h2 => by
    by_cases c : a = 109
    · subst c
      by_cases z : blm s D e (s 114 e) i
      · rw [clG_9y z, clG_9y (blm_e.mp z)]
      · rw [clG_9n z, clG_9n (fun u => z (blm_e.mpr u))]
    · rw [clG_o h1 h2 c, clG_o h1 h2 c]
  have ne : ∀ a i, i ≠ e → clG s (fun x => D x ∨ x = e) (blo s (fun x => D x ∨ x = e)) a i = clG s D (blm s D e (s 114 e)) a i := fun a i z => by
    by_cases c : a = 112 ∨ a = 114
    · by_cases y : D i
      · rcases c with rfl | rfl
        · rw [clG_12 (D := D) y, clG_12 (Or.inl y)]
        · rw [clG_14 (D := D) y, clG_14 (Or.inl y)]
      · rw [clG_d (D := D) y (by omega), clG_d (fun u => u.elim y z) (by omega)]
    · exact no a i (by omega) (by omega)
  have ope : ∀ x, x ≠ e → (opn (clG s (fun x => D x ∨ x = e) (blo s (fun x => D x ∨ x = e))) x ↔ opn (clG s D (blm s D e (s 114 e))) x) := fun x z => by unfold opn; rw [ne _ _ z]
  have op9 : ¬ opn (clG s (fun x => D x ∨ x = e) (blo s (fun x => D x ∨ x = e))) e := fun z => (clG_op.mp z).2 (Or.inr rfl)
  have hP9 := clG_P (D := D) (Bk := blm s D e (s 114 e)) hP
  have n0 := h.2.2.2.1
  refine h.glo hP9 (fun a i z => upI_a (by unfold gC at z; omega)) (fun _ _ _ => rfl) (fun a i z => no a i (by unfold gS at z; omega) (by unfold gS at z; omega)) (no _ _ (by decide) (by decide)) (h.2.1.cg (fun a i z => upI_a (by omega)) (fun a i z => no a i (by omega) (by omega))) (h.2.2.1.cg (fun a i z1 z2 => upI_a (by omega)) (fun b _ _ => no _ _ (by decide) (by decide)) (fun b _ _ _ => ⟨no _ _ (by decide) (by decide), fun j _ _ => no _ _ (by decide) (by decide)⟩)) ⟨fun x z => (ope x z.2).mpr (n0.1 x z.1), fun x x0 x1 => ?_, fun c c0 c1 hc => ?_⟩
  · obtain ⟨y1, y2, y3, y4⟩ := n0.2.1 x x0 x1
    rw [upI_a (by decide)]
    by_cases u : x = e
    · subst u
      rw [upI_eq, clG_14 (Or.inr rfl)]
      exact ⟨y1, ⟨fun z => absurd hF (y2.mp z).2, fun z => absurd z.1 op9⟩, rfl, fun z => absurd z op9⟩
    · rw [upI_i u, ne 114 x u, ope x u]
      refine ⟨y1, y2.trans ⟨fun z => ⟨z.1, fun w => z.2 w.1⟩, fun z => ⟨z.1, fun w => z.2 ⟨w, u⟩⟩⟩, y3, fun o => ?_⟩
      obtain ⟨w1, w2⟩ := y4 o
      rw [upI_a (by decide), upI_a (by decide), ne 112 x u, no 113 _ (by decide) (by decide)]
      refine ⟨fun z => w1 (fun w => z ⟨w, u⟩), fun k k0 k1 => ?_⟩
      rw [upI_a (by decide), upI_a (by decide), upI_a (by decide), no 115 _ (by decide) (by decide), no 116 _ (by decide) (by decide), no 117 _ (by decide) (by decide)]
      exact w2 k k0 k1
  · have oi : ∀ x, opn (clG s (fun x => D x ∨ x = e) (blo s (fun x => D x ∨ x = e))) x → opn (clG s D (blm s D e (s 114 e))) x := fun x z => (ope x (fun u => op9 (by subst u; exact z))).mp z
    obtain ⟨m, cc, N, o, y1, y2, y3, y4, y5⟩ := n0.2.2 c c0 c1 (hc.imp (oi _) (oi _))
    refine ⟨m, cc, N, o, y1, y2, y3, y4, fun x ho ec => ?_⟩
    rw [no 118 _ (by decide) (by decide)]
    exact y5 x (oi x ho) ec
theorem kmq4 : (kmq w = 4 ↔ w = 2) ∧ (kmq w = 5 ↔ w = 3) := by unfold kmq kmp; split <;> (try split) <;> (try split) <;> (try split) <;> (try split) <;> omega
set_option maxRecDepth 8000 in
theorem x_settle (h : RelS T NN al0 hi0 hr0 E A al hi hr s) (hP : AllP s) (hL : ClL 0 hi E) (hB : BkI s) (hq : QB s) (hd : 2 ≤ d) (q : ∀ hi', RelC T NN al0 hi0 hr0 (fun _ => False) A al hi' hr (clsS s E) → (∀ (a : Nat) i, ¬ ((29 ≤ a ∧ a ≤ 42)) → hi' a i = hi a i) → Q (some none) al hi' hr) : Ev d 61 [vR (some 33)] al hi hr Q := by
  have hA := h.1.1
  have hC := h.1.2.1
  have k33 : isK al 33 5 := hA.k (by decide) (by decide) rfl; have k29 : isK al 29 1 := hA.k (by decide) (by decide) rfl
  have l38 := SA.len (a := 38) (n := 24) hA (by decide) (by decide) rfl
  have l40 := SA.len (a := 40) (n := 96) hA (by decide) (by decide) rfl
  have l41 := SA.len (a := 41) (n := 96) hA (by decide) (by decide) rfl
  have l42 := SA.len (a := 42) (n := 25) hA (by decide) (by decide) rfl
  have R38 : isR al 38 = true := hA.r (by decide) (by decide) (by decide); have R40 : isR al 40 = true := hA.r (by decide) (by decide) (by decide); have R41 : isR al 41 = true := hA.r (by decide) (by decide) (by decide); have R42 : isR al 42 = true := hA.r (by decide) (by decide) (by decide)
  have K38 : isK al 38 15 := hA.k (by decide) (by decide) rfl; have K40 : isK al 40 15 := hA.k (by decide) (by decide) rfl; have K41 : isK al 41 15 := hA.k (by decide) (by decide) rfl; have K42 : isK al 42 15 := hA.k (by decide) (by decide) rfl
  have g29 := cr_33_0 hC; have g38 := cr_33_5 hC; have g40 := cr_33_7 hC; have g41 := cr_33_8 hC; have g42 := cr_33_9 hC
  have T2 : ∀ (n : Nat) (i : Int) h3 (D F : Int → Prop) l2 l3 l4, i + n = 25 → 0 ≤ i → RelS T NN al0 hi0 hr0 F A al h3 hr (clG s D (blo s D)) → ClL i h3 F → i ≤ h3 33 10 → (∀ x, D x → clo s E x) → (∀ x, F x → clo s E x) → (∀ x, E x → opn s x → D x ∨ F x) → (∀ x k, D x → 0 ≤ k → k < s 114 x → s 117 (4 * x + k) = 3 → opn s (s 116 (4 * x + k)) → D (s 116 (4 * x + k)) ∨ F (s 116 (4 * x + k))) → (∀ (a : Nat) i, ¬ ((29 ≤ a ∧ a ≤ 42)) → h3 a i = hi a i) → Wp d 61 2 [vR (some 33), vI i, l2, l3, l4] [] al h3 hr Q := by
    intro n
    induction n with
    | zero =>
      intro i h3 D F l2 l3 l4 e0 i0 w1 w2 w3
      exfalso
      have := w2.1
      have := (opc_b (hi := h3) 24).1
      omega
    | succ n ih =>
      intro i h3 D F l2 l3 l4 e0 i0 w1 w2 w3 w4 w5 w6 w7 w8
      have o24 := w2.1
      have o0 := (opc_b (hi := h3) 24).1
      by_cases c : h3 33 10 ≤ i
      · -- nothing is left
        have nF : ∀ x, ¬ F x := fun x z => by
          obtain ⟨j, j0, j1, -⟩ := w2.2.2.2 x z; omega
        have eD : ∀ x, D x ↔ clo s E x := fun x => ⟨w4 x, fun z => z D (fun y y1 y2 => (w6 y y1 y2).resolve_right (nF y)) (fun y k y1 y2 y3 y4 y5 => (w7 y k y1 y2 y3 y4 y5).resolve_right (nF _))⟩
        have es : clG s D (blo s D) = clsS s E := by
          have e1 : D = clo s E := funext (fun x => propext (eD x))
          rw [e1]; rfl
        rw [es] at w1
        have hP1 : AllP (clsS s E) := by rw [← es]; exact clG_P hP
        have eF : F = fun _ => False := funext (fun x => propext ⟨fun z => nF x z, False.elim⟩)
        rw [eF] at w1
        have R : RelS T NN al0 hi0 hr0 (fun _ => False) A al (upI h3 33 10 0) hr (clsS s E) := w1.glo hP1 (fun a i z => upI_a (by unfold gC at z; omega)) (fun _ _ _ => rfl) (fun _ _ _ => rfl) rfl (w1.2.1.cg (fun a i z => upI_a (by omega)) (fun _ _ _ => rfl)) (w1.2.2.1.cg (fun a i z1 z2 => upI_a (by omega)) (fun _ _ _ => rfl) (fun _ _ _ _ => ⟨rfl, fun _ _ _ => rfl⟩)) (w1.2.2.2.1.cg (fun a i z1 z2 => upI_a (by omega)) (fun _ => rfl) (fun _ => rfl) (fun _ _ => ⟨rfl, rfl, fun _ _ _ => ⟨rfl, rfl, rfl⟩⟩))
        have E9 := q _ (R.rc_ ⟨⟨by rw [upI_eq]; exact Int.le_refl _, by rw [upI_eq, opc_c (fun i => upI_a (by decide))]; have := (opc_b (hi := h3) 24).2; omega⟩, fun j j0 j1 => by rw [upI_eq] at j1; omega, fun j j' j0 j1 j2 => by rw [upI_eq] at j2; omega, fun x z => z.elim⟩) (fun a i z => (upI_a (by omega)).trans (w8 a i z))
        refine s61_2.mpr (s61_3.mpr ?_)
        refine (s61_4 (by first | decide | assumption | omega)).mpr ?_
        try simp (disch := first | decide | assumption | omega) only [g29, g38, g40, g41, g42]
        refine s61_7.mpr (wif (fun c7 => ?_) (fun c7 => ?_))
        · first
          | (exfalso; omega)
          | skip
            exfalso; omega
        · first
          | (exfalso; omega)
          | skip
            refine s61_120.mpr (s61_121.mpr ?_)
            refine (s61_122 (by first | decide | assumption | omega)).mpr ?_
            try simp (disch := first | decide | assumption | omega) only [g29, g38, g40, g41, g42]
            refine (s61_125).mpr ?_
            exact E9
      · obtain ⟨e, he⟩ : ∃ e, h3 42 i = e := ⟨_, rfl⟩
        have hFe : F e := by rw [← he]; exact w2.2.1 i (Int.le_refl _) (by omega)
        have hoe := clG_op.mp (w1.2.2.2.1.1 e hFe)
        obtain ⟨x0, x1, x2⟩ := id hoe.1
        have nD := hoe.2
        have hq4 := (hq e hoe.1).1
        obtain ⟨w, hw⟩ : ∃ w, s 114 e = w := ⟨_, rfl⟩
        rw [hw] at hq4
        -- its messages
        have T28 : ∀ l4, Wp d 61 28 [vR (some 33), vI i, vI e, vI 0, l4] [] al h3 hr Q := by
          intro l4
          refine wp_cnt (N := w.toNat) (fun k ls h4 => (∃ l4, ls = [vR (some 33), vI i, vI e, vI k, l4]) ∧ (∃ G, RelS T NN al0 hi0 hr0 G A al h4 hr (clG s D (blm s D e k)) ∧ ClL i h4 G ∧ (∀ x, F x → G x) ∧ (∀ x, G x → clo s E x) ∧ ∀ j, 0 ≤ j → j < (k : Int) → s 117 (4 * e + j) = 3 → opn s (s 116 (4 * e + j)) → D (s 116 (4 * e + j)) ∨ G (s 116 (4 * e + j))) ∧ i < h4 33 10 ∧ h4 42 i = e ∧ ∀ (a : Nat) i, ¬ ((29 ≤ a ∧ a ≤ 42)) → h4 a i = hi a i) ?_ ?_ _ _ ⟨⟨l4, rfl⟩, ⟨F, by rw [show ((0 : Nat) : Int) = 0 by rfl, clG_cg (D' := D) (Bk' := blo s D) (fun _ => Iff.rfl) (fun x => blm_0)]; exact w1, w2, fun _ => id, w5, fun j j0 j1 => absurd j1 (by omega)⟩, by omega, he, w8⟩
          · rintro k ls h4 hk ⟨⟨l4, rfl⟩, ⟨G, v1, v2, v3, v4, v5⟩, v6, v7, v8⟩ nx
            have hPm := clG_P (D := D) (Bk := blm s D e k) hP
            have hBm := clG_B (D := D) (Bk := blm s D e k) hB
            obtain ⟨z1, z2, z3, z4⟩ := v1.2.2.2.1.2.1 e x0 x1
            have z4 := (z4 (clG_op.mpr ⟨hoe.1, nD⟩)).2 k (by omega) (by rw [clG_d nD (by decide)]; omega)
            rw [clG_d nD (by decide), hw] at z3
            rw [clG_o (by decide) (by decide) (by decide), clG_o (by decide) (by decide) (by decide), clG_o (by decide) (by decide) (by decide)] at z4
            obtain ⟨-, u1, u2⟩ := z4
            obtain ⟨ld, hld⟩ : ∃ ld, s 116 (4 * e + (k : Int)) = ld := ⟨_, rfl⟩
            obtain ⟨kd, hkd⟩ : ∃ kd, s 117 (4 * e + (k : Int)) = kd := ⟨_, rfl⟩
            rw [hld] at u2
            rw [hkd] at u1
            obtain ⟨q4, q5⟩ := kmq4 (w := kd)
            obtain ⟨kq, hkq⟩ : ∃ kq, kmq kd = kq := ⟨_, rfl⟩
            rw [hkq] at u1 q4 q5
            have T101 : ∀ h5 G', RelS T NN al0 hi0 hr0 G' A al h5 hr (clG s D (blm s D e (k + 1))) → ClL i h5 G' → (∀ x, G x → G' x) → (∀ x, G' x → clo s E x) → (kd = 3 → opn s ld → D ld ∨ G' ld) → i < h5 33 10 → h5 42 i = e → (∀ (a : Nat) i, ¬ ((29 ≤ a ∧ a ≤ 42)) → h5 a i = hi a i) → Wp d 61 101 [vR (some 33), vI i, vI e, vI k, vI ld] [] al h5 hr Q := by
              intro h5 G' y1 y2 y3 y4 y5 y6 y7 y8
              have N := nx [vR (some 33), vI i, vI e, vI (k + 1), vI ld] h5 ⟨⟨_, by rw [cast1]⟩, ⟨G', by rw [cast1]; exact y1, y2, fun x z => y3 x (v3 x z), y4, fun j j0 j1 j2 j3 => by
                by_cases u : j = k
                · subst u
                  rw [hld] at j3 ⊢
                  exact y5 (by rw [← hkd]; exact j2) j3
                · exact (v5 j j0 (by rw [cast1] at j1; omega) j2 j3).imp id (y3 _)⟩, y6, y7, y8⟩
              refine s61_101.mpr (s61_104.mpr ?_)
              try simp (disch := first | decide | assumption | omega) only [fAdd_id]
              exact N
            by_cases c2 : kd = 2
            · have c4 := q4.mpr c2
              have X := x_free (d := d - 1) (Q := kon d 61 75 78 [vR (some 33), vI i, vI e, vI k, vI ld] [] Q) (b := ld) v1 hPm hBm (fun h5 y1 y2 => by
                have Z := T101 h5 G (by
                  rw [clG_up] at y1
                  rw [clG_cg (Bk' := blm s D e (k + 1)) (fun _ => Iff.rfl) (fun x => by rw [blm_s (by omega), hkd, hld]; exact ⟨fun z => z.imp id (fun z => ⟨c2, z.symm⟩), fun z => z.imp id (fun z => z.2.symm)⟩)] at y1
                  exact y1) (v2.cg (fun a i z => y2 a i (by omega) (by omega))) (fun _ => id) v4 (fun z => absurd z (by omega)) (by rw [y2 _ _ (by decide) (by decide)]; exact v6) (by rw [y2 _ _ (by decide) (by decide)]; exact v7) (fun a i z => (y2 a i (by omega) (by omega)).trans (v8 a i z))
                simp only [kon, knt_some, knt_none, Option.toList_some, Option.toList_none, List.cons_append, List.nil_append]
                refine s61_78.mpr ?_
                exact Z
                )
              refine s61_28.mpr (s61_29.mpr ?_)
              refine (s61_30 (by first | decide | assumption | omega)).mpr ?_
              refine s61_33.mpr ?_
              try simp (disch := first | decide | assumption | omega) only [g29, g38, g40, g41, g42, z3, u1, u2, fMul_id, fAdd_id, Int.mul_comm e 4]
              refine (s61_34 (by first | decide | assumption | omega) (by first | decide | assumption | omega) (by first | decide | assumption | omega)).mpr ?_
              try simp (disch := first | decide | assumption | omega) only [g29, g38, g40, g41, g42, z3, u1, u2, fMul_id, fAdd_id, Int.mul_comm e 4]
              refine s61_35.mpr (wif (fun c35 => ?_) (fun c35 => ?_))
              · first
                | (exfalso; omega)
                | skip
                  refine s61_38.mpr (s61_39.mpr ?_)
                  refine s61_40.mpr (wif (fun c40 => ?_) (fun c40 => ?_))
                  · first
                    | (exfalso; omega)
                    | skip
                      refine s61_43.mpr ?_
                      refine (s61_44 (by first | decide | assumption | omega)).mpr ?_
                      refine s61_47.mpr (s61_48.mpr (s61_49.mpr (s61_50.mpr (s61_51.mpr ?_))))
                      try simp (disch := first | decide | assumption | omega) only [g29, g38, g40, g41, g42, z3, u1, u2, fMul_id, fAdd_id, Int.mul_comm e 4]
                      refine (s61_52 (by first | decide | assumption | omega) (by first | decide | assumption | omega) (by first | decide | assumption | omega)).mpr ?_
                      refine s61_53.mpr (s61_55.mpr ?_)
                      try simp (disch := first | decide | assumption | omega) only [g29, g38, g40, g41, g42, z3, u1, u2, fMul_id, fAdd_id, Int.mul_comm e 4]
                      refine (s61_56 (by first | decide | assumption | omega)).mpr ?_
                      refine s61_59.mpr (s61_60.mpr (s61_61.mpr (s61_62.mpr (s61_63.mpr ?_))))
                      try simp (disch := first | decide | assumption | omega) only [g29, g38, g40, g41, g42, z3, u1, u2, fMul_id, fAdd_id, Int.mul_comm e 4]
                      refine (s61_64 (by first | decide | assumption | omega) (by first | decide | assumption | omega) (by first | decide | assumption | omega)).mpr ?_
                      refine s61_65.mpr ?_
                      try simp (disch := first | decide | assumption | omega) only [g29, g38, g40, g41, g42, z3, u1, u2, fMul_id, fAdd_id, Int.mul_comm e 4]
                      refine s61_66.mpr (wif (fun c66 => ?_) (fun c66 => ?_))
                      · first
                        | (exfalso; omega)
                        | skip
                          refine s61_69.mpr ?_
                          refine (s61_70 (by first | decide | assumption | omega)).mpr ?_
                          refine s61_73.mpr ?_
                          try simp (disch := first | decide | assumption | omega) only [g29, g38, g40, g41, g42, z3, u1, u2, fMul_id, fAdd_id, Int.mul_comm e 4]
                          refine (s61_75 (by first | decide | assumption | omega) (by first | decide | assumption | omega)).mpr ?_
                          exact X
                      · first
                        | (exfalso; omega)
                        | skip
                          exfalso; omega
                  · first
                    | (exfalso; omega)
                    | skip
                      exfalso; omega
              · first
                | (exfalso; omega)
                | skip
                  exfalso; omega
            · have n4 : kq ≠ 4 := fun z => c2 (q4.mp z)
              have eB : clG s D (blm s D e k) = clG s D (blm s D e (k + 1)) := clG_cg (fun _ => Iff.rfl) (fun x => by rw [blm_s (by omega), hkd]; exact ⟨Or.inl, fun z => z.elim id (fun z => absurd z.1 c2)⟩)
              by_cases c3 : kd = 3
              · have c5 := q5.mpr c3
                have X := x_close (d := d - 1) (Q := kon d 61 98 101 [vR (some 33), vI i, vI e, vI k, vI ld] [] Q) (e := ld) v1 hPm v2 (by omega) (by omega) (fun h5 G' y1 y2 y3 y4 y5 y6 y7 y8 => by
                  have Z := T101 h5 G' (by rw [← eB]; exact y1) y2 (fun x z => (y3 x).mpr (Or.inl z)) (fun x z => by
                    rcases (y3 x).mp z with z | ⟨rfl, z⟩
                    · exact v4 x z
                    · have zz := clo_k (v4 e (v3 e hFe)) (k := k) (by omega) (by omega) (by rw [hkd]; exact c3) (by rw [hld]; exact (clG_op.mp z).1)
                      rw [hld] at zz; exact zz) (fun _ ho => by
                    by_cases u : D ld
                    · exact Or.inl u
                    · exact Or.inr ((y3 ld).mpr (Or.inr ⟨rfl, clG_op.mpr ⟨ho, u⟩⟩))) (by omega) (by rw [y8 i v6]; exact v7) (fun a i z => (y5 a i (by omega) (by omega) (by omega)).trans (v8 a i z))
                  simp only [kon, knt_some, knt_none, Option.toList_some, Option.toList_none, List.cons_append, List.nil_append]
                  exact Z)
                refine s61_28.mpr (s61_29.mpr ?_)
                refine (s61_30 (by first | decide | assumption | omega)).mpr ?_
                refine s61_33.mpr ?_
                try simp (disch := first | decide | assumption | omega) only [g29, g38, g40, g41, g42, z3, u1, u2, fMul_id, fAdd_id, Int.mul_comm e 4]
                refine (s61_34 (by first | decide | assumption | omega) (by first | decide | assumption | omega) (by first | decide | assumption | omega)).mpr ?_
                try simp (disch := first | decide | assumption | omega) only [g29, g38, g40, g41, g42, z3, u1, u2, fMul_id, fAdd_id, Int.mul_comm e 4]
                refine s61_35.mpr (wif (fun c35 => ?_) (fun c35 => ?_))
                · first
                  | (exfalso; omega)
                  | skip
                    refine s61_38.mpr (s61_39.mpr ?_)
                    refine s61_40.mpr (wif (fun c40 => ?_) (fun c40 => ?_))
                    · first
                      | (exfalso; omega)
                      | skip
                        refine s61_43.mpr ?_
                        refine (s61_44 (by first | decide | assumption | omega)).mpr ?_
                        refine s61_47.mpr (s61_48.mpr (s61_49.mpr (s61_50.mpr (s61_51.mpr ?_))))
                        try simp (disch := first | decide | assumption | omega) only [g29, g38, g40, g41, g42, z3, u1, u2, fMul_id, fAdd_id, Int.mul_comm e 4]
                        refine (s61_52 (by first | decide | assumption | omega) (by first | decide | assumption | omega) (by first | decide | assumption | omega)).mpr ?_
                        refine s61_53.mpr (s61_55.mpr ?_)
                        try simp (disch := first | decide | assumption | omega) only [g29, g38, g40, g41, g42, z3, u1, u2, fMul_id, fAdd_id, Int.mul_comm e 4]
                        refine (s61_56 (by first | decide | assumption | omega)).mpr ?_
                        refine s61_59.mpr (s61_60.mpr (s61_61.mpr (s61_62.mpr (s61_63.mpr ?_))))
                        try simp (disch := first | decide | assumption | omega) only [g29, g38, g40, g41, g42, z3, u1, u2, fMul_id, fAdd_id, Int.mul_comm e 4]
                        refine (s61_64 (by first | decide | assumption | omega) (by first | decide | assumption | omega) (by first | decide | assumption | omega)).mpr ?_
                        refine s61_65.mpr ?_
                        try simp (disch := first | decide | assumption | omega) only [g29, g38, g40, g41, g42, z3, u1, u2, fMul_id, fAdd_id, Int.mul_comm e 4]
                        refine s61_66.mpr (wif (fun c66 => ?_) (fun c66 => ?_))
                        · first
                          | (exfalso; omega)
                          | skip
                            exfalso; omega
                        · first
                          | (exfalso; omega)
                          | skip
                            refine s61_81.mpr ?_
                            refine (s61_82 (by first | decide | assumption | omega)).mpr ?_
                            refine s61_85.mpr (s61_86.mpr (s61_87.mpr (s61_88.mpr (s61_89.mpr ?_))))
                            try simp (disch := first | decide | assumption | omega) only [g29, g38, g40, g41, g42, z3, u1, u2, fMul_id, fAdd_id, Int.mul_comm e 4]
                            refine (s61_90 (by first | decide | assumption | omega) (by first | decide | assumption | omega) (by first | decide | assumption | omega)).mpr ?_
                            refine s61_91.mpr ?_
                            try simp (disch := first | decide | assumption | omega) only [g29, g38, g40, g41, g42, z3, u1, u2, fMul_id, fAdd_id, Int.mul_comm e 4]
                            refine s61_92.mpr (wif (fun c92 => ?_) (fun c92 => ?_))
                            · first
                              | (exfalso; omega)
                              | skip
                                refine s61_95.mpr (s61_96.mpr ?_)
                                refine (s61_98 (by first | decide | assumption | omega) (by first | decide | assumption | omega)).mpr ?_
                                exact X
                            · first
                              | (exfalso; omega)
                              | skip
                                exfalso; omega
                    · first
                      | (exfalso; omega)
                      | skip
                        exfalso; omega
                · first
                  | (exfalso; omega)
                  | skip
                    exfalso; omega
              · have n5 : kq ≠ 5 := fun z => c3 (q5.mp z)
                have Z := T101 h4 G (by rw [← eB]; exact v1) v2 (fun _ => id) v4 (fun z => absurd z c3) v6 v7 v8
                refine s61_28.mpr (s61_29.mpr ?_)
                refine (s61_30 (by first | decide | assumption | omega)).mpr ?_
                refine s61_33.mpr ?_
                try simp (disch := first | decide | assumption | omega) only [g29, g38, g40, g41, g42, z3, u1, u2, fMul_id, fAdd_id, Int.mul_comm e 4]
                refine (s61_34 (by first | decide | assumption | omega) (by first | decide | assumption | omega) (by first | decide | assumption | omega)).mpr ?_
                try simp (disch := first | decide | assumption | omega) only [g29, g38, g40, g41, g42, z3, u1, u2, fMul_id, fAdd_id, Int.mul_comm e 4]
                refine s61_35.mpr (wif (fun c35 => ?_) (fun c35 => ?_))
                · first
                  | (exfalso; omega)
                  | skip
                    refine s61_38.mpr (s61_39.mpr ?_)
                    refine s61_40.mpr (wif (fun c40 => ?_) (fun c40 => ?_))
                    · first
                      | (exfalso; omega)
                      | skip
                        refine s61_43.mpr ?_
                        refine (s61_44 (by first | decide | assumption | omega)).mpr ?_
                        refine s61_47.mpr (s61_48.mpr (s61_49.mpr (s61_50.mpr (s61_51.mpr ?_))))
                        try simp (disch := first | decide | assumption | omega) only [g29, g38, g40, g41, g42, z3, u1, u2, fMul_id, fAdd_id, Int.mul_comm e 4]
                        refine (s61_52 (by first | decide | assumption | omega) (by first | decide | assumption | omega) (by first | decide | assumption | omega)).mpr ?_
                        refine s61_53.mpr (s61_55.mpr ?_)
                        try simp (disch := first | decide | assumption | omega) only [g29, g38, g40, g41, g42, z3, u1, u2, fMul_id, fAdd_id, Int.mul_comm e 4]
                        refine (s61_56 (by first | decide | assumption | omega)).mpr ?_
                        refine s61_59.mpr (s61_60.mpr (s61_61.mpr (s61_62.mpr (s61_63.mpr ?_))))
                        try simp (disch := first | decide | assumption | omega) only [g29, g38, g40, g41, g42, z3, u1, u2, fMul_id, fAdd_id, Int.mul_comm e 4]
                        refine (s61_64 (by first | decide | assumption | omega) (by first | decide | assumption | omega) (by first | decide | assumption | omega)).mpr ?_
                        refine s61_65.mpr ?_
                        try simp (disch := first | decide | assumption | omega) only [g29, g38, g40, g41, g42, z3, u1, u2, fMul_id, fAdd_id, Int.mul_comm e 4]
                        refine s61_66.mpr (wif (fun c66 => ?_) (fun c66 => ?_))
                        · first
                          | (exfalso; omega)
                          | skip
                            exfalso; omega
                        · first
                          | (exfalso; omega)
                          | skip
                            refine s61_81.mpr ?_
                            refine (s61_82 (by first | decide | assumption | omega)).mpr ?_
                            refine s61_85.mpr (s61_86.mpr (s61_87.mpr (s61_88.mpr (s61_89.mpr ?_))))
                            try simp (disch := first | decide | assumption | omega) only [g29, g38, g40, g41, g42, z3, u1, u2, fMul_id, fAdd_id, Int.mul_comm e 4]
                            refine (s61_90 (by first | decide | assumption | omega) (by first | decide | assumption | omega) (by first | decide | assumption | omega)).mpr ?_
                            refine s61_91.mpr ?_
                            try simp (disch := first | decide | assumption | omega) only [g29, g38, g40, g41, g42, z3, u1, u2, fMul_id, fAdd_id, Int.mul_comm e 4]
                            refine s61_92.mpr (wif (fun c92 => ?_) (fun c92 => ?_))
                            · first
                              | (exfalso; omega)
                              | skip
                                exfalso; omega
                            · first
                              | (exfalso; omega)
                              | skip
                                exact Z
                    · first
                      | (exfalso; omega)
                      | skip
                        exfalso; omega
                · first
                  | (exfalso; omega)
                  | skip
                    exfalso; omega
          · rintro ls h4 ⟨⟨l4, rfl⟩, ⟨G, v1, v2, v3, v4, v5⟩, v6, v7, v8⟩
            rw [Int.toNat_of_nonneg hq4.1] at v1 v5 ⊢
            obtain ⟨z1, z2, z3, z4⟩ := v1.2.2.2.1.2.1 e x0 x1
            rw [clG_d nD (by decide), hw] at z3
            rw [← hw] at v1 v5
            have R := v1.gone hP (v3 e hFe) ⟨x0, x1⟩
            obtain ⟨⟨m0, m1⟩, m2, m3, m4⟩ := v2
            have N := ih (i + 1) (upI h4 38 e 0) (fun x => D x ∨ x = e) (fun x => G x ∧ x ≠ e) (vI e) (vI (s 114 e)) l4 (by omega) (by omega) R ⟨⟨by rw [upI_a (by decide)]; exact m0, by rw [upI_a (by decide), opc_c (fun i => upI_a (by decide))]; exact m1⟩, fun j j0 j1 => by
              rw [upI_a (by decide)] at j1 ⊢
              refine ⟨m2 j (by omega) j1, ?_⟩
              rw [← v7]
              exact fun z => m3 i j (by omega) (by omega) j1 z.symm, fun j j' j0 j1 j2 => by
              rw [upI_a (by decide)] at j2
              rw [upI_a (by decide), upI_a (by decide)]
              exact m3 j j' (by omega) j1 j2, fun x z => by
              obtain ⟨j, j0, j1, j2⟩ := m4 x z.1
              have jn : j ≠ i := fun y => by subst y; exact z.2 (by rw [← j2, v7])
              exact ⟨j, by omega, by rw [upI_a (by decide)]; exact j1, by rw [upI_a (by decide)]; exact j2⟩⟩ (by rw [upI_a (by decide)]; omega) (fun x z => z.elim (w4 x) (fun z => by rw [z]; exact v4 e (v3 e hFe))) (fun x z => v4 x z.1) (fun x z1 z2 => by
              by_cases u : x = e
              · exact Or.inl (Or.inr u)
              · exact (w6 x z1 z2).imp Or.inl (fun y => ⟨v3 x y, u⟩)) (fun x k z k0 k1 k2 k3 => by
              have : D (s 116 (4 * x + k)) ∨ G (s 116 (4 * x + k)) := by
                rcases z with z | rfl
                · exact (w7 x k z k0 k1 k2 k3).imp id (v3 _)
                · exact v5 k k0 k1 k2 k3
              by_cases u : s 116 (4 * x + k) = e
              · exact Or.inl (Or.inr u)
              · exact this.imp Or.inl (fun y => ⟨y, u⟩)) (fun a j z => (upI_a (by omega)).trans (v8 a j z))
            rw [hw] at N
            refine s61_28.mpr (s61_29.mpr ?_)
            refine (s61_30 (by first | decide | assumption | omega)).mpr ?_
            refine s61_33.mpr ?_
            try simp (disch := first | decide | assumption | omega) only [g29, g38, g40, g41, g42, z3, fAdd_id]
            refine (s61_34 (by first | decide | assumption | omega) (by first | decide | assumption | omega) (by first | decide | assumption | omega)).mpr ?_
            try simp (disch := first | decide | assumption | omega) only [g29, g38, g40, g41, g42, z3, fAdd_id]
            refine s61_35.mpr (wif (fun c35 => ?_) (fun c35 => ?_))
            · first
              | (exfalso; omega)
              | skip
                exfalso; omega
            · first
              | (exfalso; omega)
              | skip
                refine s61_107.mpr ?_
                refine (s61_108 (by first | decide | assumption | omega)).mpr ?_
                refine s61_111.mpr (s61_112.mpr ?_)
                try simp (disch := first | decide | assumption | omega) only [g29, g38, g40, g41, g42, z3, fAdd_id]
                refine (s61_113 (by first | decide | assumption | omega) (by first | decide | assumption | omega) (by first | decide | assumption | omega)).mpr ?_
                refine s61_114.mpr (s61_117.mpr ?_)
                try simp (disch := first | decide | assumption | omega) only [g29, g38, g40, g41, g42, z3, fAdd_id]
                exact N
        refine s61_2.mpr (s61_3.mpr ?_)
        refine (s61_4 (by first | decide | assumption | omega)).mpr ?_
        try simp (disch := first | decide | assumption | omega) only [g29, g38, g40, g41, g42, he]
        refine s61_7.mpr (wif (fun c7 => ?_) (fun c7 => ?_))
        · first
          | (exfalso; omega)
          | skip
            refine s61_10.mpr (s61_11.mpr ?_)
            refine (s61_12 (by first | decide | assumption | omega)).mpr ?_
            try simp (disch := first | decide | assumption | omega) only [g29, g38, g40, g41, g42, he]
            refine (s61_15 (by first | decide | assumption | omega)).mpr ?_
            try simp (disch := first | decide | assumption | omega) only [g29, g38, g40, g41, g42, he]
            refine s61_16.mpr (wif (fun c16 => ?_) (fun c16 => ?_))
            · first
              | (exfalso; omega)
              | skip
                refine s61_19.mpr ?_
                refine (s61_20 (by first | decide | assumption | omega)).mpr ?_
                refine s61_23.mpr ?_
                try simp (disch := first | decide | assumption | omega) only [g29, g38, g40, g41, g42, he]
                refine (s61_24 (by first | decide | assumption | omega) (by first | decide | assumption | omega) (by first | decide | assumption | omega)).mpr ?_
                refine s61_25.mpr (s61_26.mpr (s61_27.mpr ?_))
                try simp (disch := first | decide | assumption | omega) only [g29, g38, g40, g41, g42, he]
                exact T28 _
            · first
              | (exfalso; omega)
              | skip
                exfalso; omega
        · first
          | (exfalso; omega)
          | skip
            exfalso; omega
  rw [e61]
  have T0 := fun l2 l3 l4 => T2 25 0 hi (fun _ => False) E l2 l3 l4 (by omega) (by omega) (by rw [clG_0 (fun _ => id) (fun b ⟨x, k, z, _⟩ => z)]; exact h) hL (hL.1.1) (fun _ z => z.elim) (fun x z => clo_s z (h.2.2.2.1.1 x z)) (fun x z _ => Or.inr z) (fun _ _ z => z.elim) (fun _ _ _ => rfl)
  refine s61_0.mpr (s61_1.mpr ?_)
  exact T0 _ _ _
end CS0
