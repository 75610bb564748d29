/-! RUNNING, the class: blocks, ends and the machine's own cells change -/
section CG0
variable {d : Nat} {Q : QQ} {T : TXs} {al al' : AL} {hi hi' : HI} {hr hr' : HR} {s s' : HI} {A A' : Int → Int → Int} {NN : Int → Option Nat} {E E' : Int → Prop} {p q m f v w x i : Int} {B : Int → Int} {X Y : Tst} {t t' N : Nat} {al0 : AL} {hi0 : HI} {hr0 : HR}
def gC (a : Nat) : Prop := (26 ≤ a ∧ a ≤ 42) ∨ (44 ≤ a ∧ a ≤ 48)
def gS (a : Nat) : Prop := (109 ≤ a ∧ a ≤ 118) ∨ a = 49 ∨ a = 87 ∨ a = 88
theorem AllP.glo (hP : AllP s) (hs : ∀ a i, ¬ gS a → s' a i = s a i) (e56 : s' 49 56 = s 49 56) : AllP s' := fun q q0 q1 q2 => by
  rw [hs 89 q (by unfold gS; decide)] at q2
  have h := hP q q0 q1 q2
  have e94 := hs 94 q (by unfold gS; decide)
  rw [e94, hs 92 q (by unfold gS; decide), e56]
  refine ⟨h.1, h.2.1, fun x x0 x1 => ?_, h.2.2.2⟩
  rw [hs 97 x (by unfold gS; decide)]
  exact h.2.2.1 x x0 (by rw [← ai_eq e94]; exact x1)
theorem OnP.glo (hO : OnP hr s p t) (hrw : ∀ (a : Nat) i, a ≠ 37 → hr' a i = hr a i) (hs : ∀ a i, ¬ gS a → s' a i = s a i) (e56 : s' 49 56 = s 49 56) : OnP hr' s' p t := by
  obtain ⟨p0, ht, h89, h94, h92, h97, h56⟩ := hO
  have e94 := hs 94 p (by unfold gS; decide)
  refine ⟨p0, (hrw _ _ (by decide)).trans ht, by rw [hs 89 p (by unfold gS; decide)]; exact h89, by rw [e94]; exact h94, by rw [hs 92 p (by unfold gS; decide)]; exact h92, fun x x0 x1 => ?_, by rw [e56]; exact h56⟩
  rw [hs 97 x (by unfold gS; decide)]
  exact h97 x x0 (by rw [← ai_eq e94]; exact x1)
theorem RelS.glo (h : RelS T NN al0 hi0 hr0 E A al hi hr s) (hP : AllP s) (hw : ∀ (a : Nat) i, ¬ gC a → hi' a i = hi a i) (hrw : ∀ (a : Nat) i, a ≠ 37 → hr' a i = hr a i) (hs : ∀ a i, ¬ gS a → s' a i = s a i) (e56 : s' 49 56 = s 49 56) (hm : MaC hi' s') (hb : BlC hi' s') (he : EnC0 T hi' hr' NN E' s') : RelS T NN al0 hi0 hr0 E' A al hi' hr' s' := by
  obtain ⟨⟨a1, a2, a3, a4⟩, b1, b2, b3, b4, b5, b6⟩ := h
  have gP : ∀ {c : Nat}, pool hr c → ¬ gC c := fun hc => by have := b4.pz hc; unfold gC; omega
  have CRk : ∀ p ∈ crl, p.1 ≠ 37 := by decide
  have r27 : ∀ i, hr' 27 i = hr 27 i := fun i => hrw _ _ (by decide)
  have zt : ∀ a, Zt hr' a ↔ Zt hr a := fun a => by unfold Zt; simp only [r27]
  have pls : ∀ a, pool hr' a ↔ pool hr a := fun a => by unfold pool; simp only [r27]
  have tc : ∀ n, tcn hr' n = tcn hr n := fun n => by
    induction n with
    | zero => rfl
    | succ n ih => unfold tcn; rw [ih, r27]
  have tsk : ∀ {t'}, TkS al hr t' → TkS al hr' t' := fun {t'} h => by
    unfold TkS at h ⊢
    have : 119 ≤ t' := h.1.1
    simp only [hrw t' 9 (by omega), hrw t' 10 (by omega), hrw t' 11 (by omega), hrw t' 12 (by omega), hrw t' 13 (by omega)]
    exact h
  refine ⟨⟨a1, fun pr hpr => ?_, ⟨a3.1, fun a i z => ?_, fun a i y1 y2 y3 => ?_, fun a y1 y2 => a3.2.2.2.1 a y1 ((zt a).mp y2), fun q t' q0 q1 e => by
    rw [r27] at e
    have := (b4.1 q t' q0 q1 e).1.1.1
    rw [hw t' 0 (by unfold gC; omega)]
    exact a3.2.2.2.2 q t' q0 q1 e⟩, ?_⟩, hm, hb, he, ⟨fun q t' q0 q1 e => ?_, ?_, fun q q' t1 t2 q0 q1 q0' q1' hqq e e' => ?_⟩, fun q q0 q1 q2 => ?_, fun q t' q0 q1 e q2 => ?_⟩
  · rw [hrw _ _ (CRk pr hpr)]; exact a2 pr hpr
  · rw [hw a i (by unfold gC; omega), hrw a i (by omega)]; exact a3.2.1 a i z
  · rw [hw a i (by unfold gC; omega), hrw a i (by omega)]; exact a3.2.2.1 a i y1 y2 (fun u => y3 ((zt a).mpr u))
  · unfold RoomC at a4 ⊢; rw [tc]; exact a4
  · rw [r27] at e
    obtain ⟨w1, c, w2, w3, w4⟩ := b4.1 q t' q0 q1 e
    have := w1.1.1
    exact ⟨tsk w1, c, (hrw _ _ (by omega)).trans w2, (pls c).mpr w3, by rw [hrw _ _ (by decide)]; exact w4⟩
  · obtain ⟨c, w1, w2⟩ := b4.2.1
    exact ⟨c, (hrw _ _ (by decide)).trans w1, (pls c).mpr w2⟩
  · rw [r27] at e e'
    have z1 := (b4.1 q t1 q0 q1 e).1.1.1
    have z2 := (b4.1 q' t2 q0' q1' e').1.1.1
    rw [hrw t1 _ (by omega), hrw t2 _ (by omega)]
    exact b4.2.2 q q' t1 t2 q0 q1 q0' q1' hqq e e'
  · rw [e56] at q2
    obtain ⟨t', e', k1, k2, k3, k4, k5, k6⟩ := b5 q q0 q1 q2
    have z := (b4.1 q t' q0 q1 e').1.1.1
    refine ⟨t', (r27 q).trans e', ?_⟩
    have hh : ∀ i, hi' t' i = hi t' i := fun i => hw t' i (by unfold gC; omega)
    have ss : ∀ a, a < 94 → a ≠ 49 → a ≠ 87 → a ≠ 88 → s' a q = s a q := fun a z1 z2 z3 z4 => hs _ _ (by unfold gS; omega)
    unfold TkH
    rw [hh, hh, hh, hh, hh, hh, ss 91 (by decide) (by decide) (by decide) (by decide), ss 92 (by decide) (by decide) (by decide) (by decide), ss 89 (by decide) (by decide) (by decide) (by decide), ss 90 (by decide) (by decide) (by decide) (by decide), ss 93 (by decide) (by decide) (by decide) (by decide)]
    exact ⟨k1, k2, k3, k4, k5, k6⟩
  · rw [r27] at e
    rw [hs 89 _ (by unfold gS; decide)] at q2
    obtain ⟨y1, y2, y3, y4⟩ := hP q q0 q1 q2
    obtain ⟨tS, c', c1', c2', c3'⟩ := b4.1 q t' q0 q1 e
    have z := tS.1.1
    refine (b6 q t' q0 q1 e q2).fr (fun a i z1 z2 => hw a i (by unfold gC; omega)) ⟨hw _ _ (by unfold gC; omega), hw _ _ (by unfold gC; omega), hw _ _ (by unfold gC; omega)⟩ (fun c i z => hw c i (gP ?_)) ⟨hrw _ _ (by omega), hrw _ _ (by omega)⟩ (fun a i z => hs a i (by unfold ownC at z; unfold gS; omega)) q0 y1.2 y2.2 y3
    rw [c1'] at z; cases z; exact c2'
theorem MaC.cg (h : MaC hi s) (hw : ∀ (a : Nat) i, a = 26 ∨ a = 28 ∨ a = 44 ∨ a = 45 → hi' a i = hi a i) (hs : ∀ (a : Nat) i, a = 49 ∨ a = 87 ∨ a = 88 → s' a i = s a i) : MaC hi' s' := by
  unfold MaC at h ⊢
  simp only [hw 26 _ (by omega), hw 28 _ (by omega), hw 44 _ (by omega), hw 45 _ (by omega), hs 49 _ (by omega), hs 87 _ (by omega), hs 88 _ (by omega)]
  exact h
theorem bcn_cg : ∀ n : Nat, (∀ b : Nat, b < n → (s' 109 b = s 109 b)) → bcn s' n = bcn s n
  | 0, _ => rfl
  | n + 1, h => by unfold bcn; rw [bcn_cg n (fun b z => h b (by omega)), h n (by omega)]
theorem bcl_cg2 : ∀ n : Nat, (∀ b : Nat, b < n → (s' 109 b = s 109 b)) → bcl s' n = bcl s n
  | 0, _ => rfl
  | n + 1, h => by unfold bcl; rw [bcl_cg2 n (fun b z => h b (by omega)), h n (by omega)]
theorem bcn_up {b : Int} : ∀ n : Nat, 0 ≤ b → b < n → bcn (upI s 109 b x) n = bcn s n - (if s 109 b = -1 then 0 else 1) + (if x = -1 then 0 else 1)
  | 0, h0, h => by omega
  | n + 1, h0, h => by
    unfold bcn
    by_cases z : b = n
    · subst z
      rw [upI_eq, bcn_cg n (fun b' z => upI_i (by omega))]; omega
    · rw [upI_i (fun y => z y.symm), bcn_up n h0 (by omega)]; omega
theorem bcl_up {b : Int} : ∀ n : Nat, 0 ≤ b → b < n → bcl (upI s 109 b x) n = bcl s n - (if s 109 b = -1 then 0 else s 109 b + 1) + (if x = -1 then 0 else x + 1)
  | 0, h0, h => by omega
  | n + 1, h0, h => by
    unfold bcl
    by_cases z : b = n
    · subst z
      rw [upI_eq, bcl_cg2 n (fun b' z => upI_i (by omega))]; omega
    · rw [upI_i (fun y => z y.symm), bcl_up n h0 (by omega)]; omega
theorem bcn_b : ∀ n : Nat, 0 ≤ bcn s n ∧ bcn s n ≤ n
  | 0 => ⟨Int.le_refl _, Int.le_refl _⟩
  | n + 1 => by have := bcn_b n; unfold bcn; split <;> omega
/-- what matters of blocks: those that are there -/
theorem BlC.cg (h : BlC hi s) (hw : ∀ (a : Nat) i, 29 ≤ a → a ≤ 32 → hi' a i = hi a i) (h9 : ∀ b, 0 ≤ b → b < 128 → s' 109 b = s 109 b) (hs : ∀ b, 0 ≤ b → b < 128 → s 109 b ≠ -1 → s' 110 b = s 110 b ∧ ∀ j, 0 ≤ j → j < s 109 b → s' 111 (6 * b + j) = s 111 (6 * b + j)) : BlC hi' s' := by
  obtain ⟨h1, h2, h3⟩ := h
  refine ⟨fun b b0 b1 => ?_, by rw [hw _ _ (by decide) (by decide), bcn_cg 128 (fun b z => h9 b (by omega) (by omega))]; exact h2, by rw [hw _ _ (by decide) (by decide), bcl_cg2 128 (fun b z => h9 b (by omega) (by omega))]; exact h3⟩
  obtain ⟨y1, y2⟩ := h1 b b0 b1
  rw [hw _ _ (by decide) (by decide), h9 b b0 b1]
  refine ⟨y1, fun z => ?_⟩
  obtain ⟨z1, z2⟩ := hs b b0 b1 z
  obtain ⟨w1, w2⟩ := y2 z
  rw [hw _ _ (by decide) (by decide), z1]
  refine ⟨w1, fun j j0 j1 => ?_⟩
  rw [hw _ _ (by decide) (by decide), z2 j j0 j1]
  exact w2 j j0 j1
/-- a block goes -/
theorem BlC.fre {b : Int} (h : BlC hi s) (b0 : 0 ≤ b ∧ b < 128) (hn : s 109 b ≠ -1) : BlC (upI (upI (upI hi 29 4 (hi 29 4 - (s 109 b + 1))) 29 3 (hi 29 3 - 1)) 30 b 0) (upI s 109 b (-1)) := by
  obtain ⟨h1, h2, h3⟩ := h
  refine ⟨fun b' b0' b1' => ?_, ?_, ?_⟩
  · obtain ⟨y1, y2⟩ := h1 b' b0' b1'
    by_cases z : b' = b
    · subst z
      rw [upI_eq, upI_eq]
      exact ⟨by rw [if_pos rfl], fun u => absurd rfl u⟩
    · rw [upI_i (hi := s) z, upI_i z, upI_a (by decide), upI_a (by decide)]
      refine ⟨y1, fun u => ?_⟩
      rw [upI_a (by decide), upI_a (by decide), upI_a (by decide), upI_a (by decide)]
      obtain ⟨w1, w2⟩ := y2 u
      refine ⟨w1, fun j j0 j1 => ?_⟩
      rw [upI_a (by decide), upI_a (by decide), upI_a (by decide), upI_a (by decide)]
      exact w2 j j0 j1
  · rw [upI_a (by decide), upI_eq, bcn_up 128 b0.1 (by omega), if_neg hn, if_pos rfl]; omega
  · rw [upI_a (by decide), upI_i (by decide), upI_eq, bcl_up 128 b0.1 (by omega), if_neg hn, if_pos rfl]; omega
/-- what matters of ends: those that are open -/
theorem EnC0.cg (h : EnC0 T hi hr NN E s) (hw : ∀ (a : Nat) i, 34 ≤ a → a ≤ 41 → hi' a i = hi a i) (e12 : ∀ e, s' 112 e = s 112 e) (e14 : ∀ e, s' 114 e = s 114 e) (hs : ∀ e, opn s e → s' 113 e = s 113 e ∧ s' 118 e = s 118 e ∧ ∀ k, 0 ≤ k → k < s 114 e → s' 115 (4 * e + k) = s 115 (4 * e + k) ∧ s' 116 (4 * e + k) = s 116 (4 * e + k) ∧ s' 117 (4 * e + k) = s 117 (4 * e + k)) : EnC0 T hi' hr NN E s' := by
  obtain ⟨h0, h1, h2⟩ := h
  have no : ∀ e, opn s' e ↔ opn s e := fun e => by unfold opn; rw [e12]
  refine ⟨fun e z => (no e).mpr (h0 e z), fun e y0 y1 => ?_, fun c c0 c1 hc => ?_⟩
  · obtain ⟨z1, z2, z3, z4⟩ := h1 e y0 y1
    rw [hw _ _ (by decide) (by decide), no, hw _ _ (by decide) (by decide), e14]
    refine ⟨z1, z2, z3, fun ho => ?_⟩
    obtain ⟨w1, w2⟩ := z4 ho
    obtain ⟨u1, u2, u3⟩ := hs e ho
    rw [hw _ _ (by decide) (by decide), hw _ _ (by decide) (by decide), e12, u1]
    refine ⟨w1, fun k k0 k1 => ?_⟩
    obtain ⟨v1, v2, v3⟩ := u3 k k0 k1
    rw [hw _ _ (by decide) (by decide), hw _ _ (by decide) (by decide), hw _ _ (by decide) (by decide), v1, v2, v3]
    exact w2 k k0 k1
  · rw [no, no] at hc
    obtain ⟨m, cc, N, o, y1, y2, y3, y4, y5⟩ := h2 c c0 c1 hc
    refine ⟨m, cc, N, o, y1, y2, y3, y4, fun e ho ec => ?_⟩
    rw [no] at ho
    rw [(hs e ho).2.1]
    exact y5 e ho ec
theorem ClL.cg {j : Int} (h : ClL j hi E) (hw : ∀ (a : Nat) i, a = 33 ∨ a = 34 ∨ a = 42 → hi' a i = hi a i) : ClL j hi' E := by
  have oc := opc_c (hi := hi) (hi' := hi') (fun i => hw 34 i (by omega)) 24
  unfold ClL at h ⊢
  simp only [oc, hw 33 _ (by omega), hw 42 _ (by omega)]
  exact h
/-- what is dead does not matter -/
theorem RelS.dd (h : RelS T NN al0 hi0 hr0 E A al hi hr s) (hP : AllP s) (hs : ∀ a i, ¬ (110 ≤ a ∧ a ≤ 118) → s' a i = s a i) (e12 : ∀ e, s' 112 e = s 112 e) (e14 : ∀ e, s' 114 e = s 114 e) (hbk : ∀ b, 0 ≤ b → b < 128 → s 109 b ≠ -1 → s' 110 b = s 110 b ∧ ∀ j, 0 ≤ j → j < s 109 b → s' 111 (6 * b + j) = s 111 (6 * b + j)) (hen : ∀ e, opn s e → s' 113 e = s 113 e ∧ s' 118 e = s 118 e ∧ ∀ k, 0 ≤ k → k < s 114 e → s' 115 (4 * e + k) = s 115 (4 * e + k) ∧ s' 116 (4 * e + k) = s 116 (4 * e + k) ∧ s' 117 (4 * e + k) = s 117 (4 * e + k)) : RelS T NN al0 hi0 hr0 E A al hi hr s' :=
  h.glo hP (fun _ _ _ => rfl) (fun _ _ _ => rfl) (fun a i z => hs a i (by unfold gS at z; omega)) (hs _ _ (by decide)) (h.2.1.cg (fun _ _ _ => rfl) (fun a i z => hs a i (by omega))) (h.2.2.1.cg (fun _ _ _ _ => rfl) (fun b _ _ => hs _ _ (by decide)) hbk) (h.2.2.2.1.cg (fun _ _ _ _ => rfl) e12 e14 hen)
/-- nor does what a process has that is over -/
theorem RelC.dead (h : RelC T NN al0 hi0 hr0 E A al hi hr s) (hP : AllP s) (p0 : 0 ≤ p ∧ p < 12) (ht : hr 27 p = some t) (h4 : 4 ≤ s 89 p) (hs : ∀ a i, ¬ (ownC p a i ∧ 94 ≤ a) → s' a i = s a i) : RelC T NN al0 hi0 hr0 E A al hi hr s' :=
  h.tsk hP p0 ht (fun _ _ _ _ => rfl) (fun _ _ => rfl) hs (fun z => absurd z (by omega))
end CG0
