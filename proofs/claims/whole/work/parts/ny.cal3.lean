/-! THE LAW: calls: load -/
section LC3
variable {d : Nat} {T : TXs} {al al' : AL} {hi hi' h h2 : HI} {hr hr' : HR} {s s' : HI} {g : Int → Int} {c1 : Nat × Nat} {b1 b2 k : Nat} {S S' : Int → Option (Int → Int)} {b B : Int → Int} {N t : Nat} {Q : QQ} {a1 x y m n p : Int}
theorem MSh.st (hI : MSh hi S) (hm : ∀ m b, S m = some b → 0 ≤ m ∧ m < 6) (m0 : 0 ≤ m ∧ m < 6) : (S m ≠ none ↔ hi 56 m = 1) := by
  cases e : S m with
  | none =>
    have := hI.n e
    refine ⟨fun z => absurd rfl z, fun z => absurd ⟨m0.1, m0.2, z⟩ this⟩
  | some b => exact ⟨fun _ => (hI.y e).1.2.2, fun _ => by simp⟩
theorem tB_cB (hT : CT hi) (e : ∀ i, hi' 50 i = hi 50 i) (n1 : n ≤ hi 49 2) : tB hi' n = cB hi n := by
  funext j
  unfold tB cB
  by_cases c : 0 ≤ j ∧ j < n
  · rw [if_pos c, if_pos c, e, hT.2.1 j c.1 (by omega)]
  · rw [if_neg c, if_neg c]
/-- what a load that lays nothing on the shelf leaves -/
theorem LW.ld (hW : MR hr ∧ (∀ i, hi 1 i = g i) ∧ al.2.2 1 = c1 ∧ RmB b1 b2 k al hr) (hL : CL al hi hr S) (hI : RfI hi S) (hN : RN al hi hr s (200000 * k)) (gA : GA al al' 127 73568) (w1 : FW (wXl al.1) hi hi') (wr : RW (rXl al.1) hr hr') (w2 : FW wLd hi' h2) (e2 : h2 49 2 = 0) (f1 : hi' 2 1 = 0) (f4 : h2 49 24 = 1) (f5 : hi' 2 3 = h2 49 22) (f6 : hi' 2 4 = h2 49 23) : LW g c1 b1 b2 (k + 1) al' h2 hr' := by
  obtain ⟨hM, h1, h2', hRm⟩ := hW
  obtain ⟨i1, i2, i3, i4, i5, i6⟩ := id hI
  have hA := hL.1
  have al119 := hA.1
  have c2 : ∀ (a : Nat) i, a < 49 ∨ 119 ≤ a → h2 a i = hi' a i := fun a i z => w2 a i (by unfold wLd wSl; omega)
  have X : XC al hi hr al' h2 hr' := ⟨⟨_, _, gA⟩, fun a i z => ⟨(c2 a i (by omega)).trans (w1 a i (by unfold wXl; omega)), wr a i (by unfold rXl; omega)⟩⟩
  have hC' : CR hr' := fun p hp => by
    have key : ∀ p ∈ crl, p.1 ≠ 6 ∧ ¬ (p.1 = 8 ∧ (p.2.1 = 7 ∨ p.2.1 = 8)) ∧ p.1 ≠ 9 ∧ p.1 < 119 := by decide
    have := key p hp
    exact (wr p.1 p.2.1 (by unfold rXl; omega)).trans (hL.2.1 p hp)
  have h0 : ∀ i, h2 0 i = hi 0 i := fun i => (c2 0 i (by omega)).trans (w1 0 i (by unfold wXl; omega))
  have r4 : ∀ m, hr' 4 m = hr 4 m := fun m => wr 4 m (by unfold rXl; omega)
  have eR : ∀ (a : Nat) i, 49 ≤ a → a < 119 → hi' a i = hi a i := fun a i z1 z2 => w1 a i (by unfold wXl; omega)
  have fR : ∀ (a : Nat) i, 49 ≤ a → a < 119 → ¬ wLd a i → h2 a i = hi a i := fun a i z1 z2 z3 => (w2 a i z3).trans (eR a i z1 z2)
  have tc : ∀ n, tcn hr' n = tcn hr n := tcn_cg (fun q => wr 27 q (by unfold rXl; omega))
  have hI2 : RfI h2 S := by
    refine ⟨(hI.eq (hi' := hi') (fun a i z1 z2 => eR a i z1 z2)).1.sl (fun a i z => w2 a i (fun u => z ?_)), fun m m0 m1 => by rw [fR 56 m (by decide) (by decide) (by unfold wLd wSl; omega)]; exact i2 m m0 m1, fun m b u => ?_, fun q hq => by rw [fR 71 q (by decide) (by decide) (by unfold wLd wSl; omega)]; exact i4 q hq, by rw [e2]; decide, by rw [fR 49 51 (by decide) (by decide) (by unfold wLd wSl; omega)]; exact i6⟩
    · unfold wLd at u
      rcases u with u | u | u | u
      · exact ⟨12, Or.inr (by omega)⟩
      · exact ⟨12, Or.inl ⟨by decide, u⟩⟩
      · exact ⟨12, Or.inr (by omega)⟩
      · exact ⟨12, Or.inr (by omega)⟩
    · have m0 := (hL.2.2.2.2.2.2.1 m b u).1
      rw [fR 52 m (by decide) (by decide) (by unfold wLd wSl; omega)]; exact i3 m b u
  have hN2 := hN.bs X hC' h0 (y := 200000 * ((k + 1 : Nat) : Int)) (by omega) (fun a i u => fR a i (by omega) (by omega) (by unfold wLd wSl; omega)) (fun m a i m0 m1 u => fR a i (by have := wSl_c u; omega) (by have := wSl_c u; omega) (fun v => by
    unfold wLd at v
    have := wSl_c u
    rcases v with v | v | v | v
    · omega
    · exact wSl_dj u (by omega) v
    · omega
    · omega))
  refine ⟨⟨hM.eq (fun i => wr 49 i (by unfold rXl; omega)), fun i => ((c2 1 i (by omega)).trans (w1 1 i (by unfold wXl; omega))).trans (h1 i), by rw [gA.2.2.2 1 (by omega)]; exact h2', ?_⟩, S, _, hL.ex X hC' h0 r4, hI2, ⟨by rw [c2 2 1 (by omega), f1, e2], fun j j0 j1 => by omega, Or.inr ⟨f4, by rw [c2 2 3 (by omega)]; exact f5, by rw [c2 2 4 (by omega)]; exact f6⟩⟩, hN2⟩
  have := gA.2.1
  have := gA.2.2.1
  unfold RmB at hRm ⊢
  rw [tc]
  omega
/-- .. one that does -/
theorem LW.lo (hW : MR hr ∧ (∀ i, hi 1 i = g i) ∧ al.2.2 1 = c1 ∧ RmB b1 b2 k al hr) (hL : CL al hi hr S) (hI : RfI hi S) (hN : RN al hi hr s (200000 * k)) (gA : GA al al' 127 73568) (w1 : FW (wXl al.1) hi hi') (wr : RW (rXl al.1) hr hr') (p0 : 0 ≤ p ∧ p < 6) (hp : S p = none) (w2 : FW (fun a i => wLd a i ∨ wSl p a i ∨ (a = 56 ∧ i = p)) hi' h2) (e2 : h2 49 2 = 0) (f1 : hi' 2 1 = 0) (f4 : h2 49 24 = 1) (f5 : hi' 2 3 = h2 49 22) (f6 : hi' 2 4 = h2 49 23) (n0 : 0 ≤ n) (hG : GC al' hi' hr' al.1 n B al'.1) (g56 : h2 56 p = 1) (gM : GMod h2 p B) (g52 : h2 52 p = n) : LW g c1 b1 b2 (k + 1) al' h2 (upR hr' 4 p (some al.1)) := by
  obtain ⟨hM, h1, h2', hRm⟩ := hW
  obtain ⟨i1, i2, i3, i4, i5, i6⟩ := id hI
  obtain ⟨hA, hC, hO, hTk, h0t, h33, hS, hS0⟩ := id hL
  have al119 := hA.1
  have c2 : ∀ (a : Nat) i, a < 49 ∨ 119 ≤ a → h2 a i = hi' a i := fun a i z => w2 a i (by unfold wLd wSl; omega)
  have rn : ∀ (a : Nat) i, ¬ (a = 4 ∧ i = p) → upR hr' 4 p (some al.1) a i = hr' a i := fun a i z => if_neg z
  have rr : ∀ (a : Nat) i, ¬ (a = 4 ∧ i = p) → ¬ rXl al.1 a i → upR hr' 4 p (some al.1) a i = hr a i := fun a i z1 z2 => (rn a i z1).trans (wr a i z2)
  obtain ⟨r2, hr2⟩ : ∃ r2, upR hr' 4 p (some al.1) = r2 := ⟨_, rfl⟩
  have r2p : r2 4 p = some al.1 := by rw [← hr2]; exact upR_eq
  rw [hr2]
  simp only [hr2] at rn rr
  have X : XC al hi hr al' h2 r2 := ⟨⟨_, _, gA⟩, fun a i z => ⟨(c2 a i (by omega)).trans (w1 a i (by unfold wXl; omega)), rr a i (by omega) (by unfold rXl; omega)⟩⟩
  have hC' : CR r2 := fun p hp => by
    have key : ∀ p ∈ crl, p.1 ≠ 6 ∧ ¬ (p.1 = 8 ∧ (p.2.1 = 7 ∨ p.2.1 = 8)) ∧ p.1 ≠ 9 ∧ p.1 < 119 ∧ p.1 ≠ 4 := by decide
    have := key p hp
    exact (rr p.1 p.2.1 (by omega) (by unfold rXl; omega)).trans (hC p hp)
  have h0 : ∀ i, h2 0 i = hi 0 i := fun i => (c2 0 i (by omega)).trans (w1 0 i (by unfold wXl; omega))
  have eR : ∀ (a : Nat) i, 49 ≤ a → a < 119 → hi' a i = hi a i := fun a i z1 z2 => w1 a i (by unfold wXl; omega)
  have fR : ∀ (a : Nat) i, 49 ≤ a → a < 119 → ¬ (wLd a i ∨ wSl p a i ∨ (a = 56 ∧ i = p)) → h2 a i = hi a i := fun a i z1 z2 z3 => (w2 a i z3).trans (eR a i z1 z2)
  have tc : ∀ n, tcn r2 n = tcn hr n := tcn_cg (fun q => rr 27 q (by omega) (by unfold rXl; omega))
  have r4 : ∀ m, m ≠ p → r2 4 m = hr 4 m := fun m z => rr 4 m (by omega) (by unfold rXl; omega)
  -- another slot
  have ds : ∀ {m a i}, m ≠ p → m ≠ 12 → wSl m a i → ¬ (wLd a i ∨ wSl p a i ∨ (a = 56 ∧ i = p)) := fun {m a i} z1 z2 u v => by
    have uc := wSl_c u
    rcases v with v | v | v
    · unfold wLd at v
      rcases v with v | v | v | v
      · omega
      · exact wSl_dj u z2 v
      · omega
      · omega
    · exact wSl_dj u z1 v
    · omega
  have hN2 := hN.bs X hC' h0 (y := 200000 * ((k + 1 : Nat) : Int)) (by omega) (fun a i u => fR a i (by omega) (by omega) (by unfold wLd wSl; omega)) (fun m a i m0 m1 u => fR a i (by have := wSl_c u; omega) (by have := wSl_c u; omega) (ds (by omega) (by omega) u))
  refine ⟨⟨hM.eq (fun i => rr 49 i (by omega) (by unfold rXl; omega)), fun i => ((c2 1 i (by omega)).trans (w1 1 i (by unfold wXl; omega))).trans (h1 i), by rw [gA.2.2.2 1 (by omega)]; exact h2', ?_⟩, fun j => if j = p then some B else S j, _, ⟨gA.sa hA, hC', hO.ex hA X h0, hTk.ex X, fun q t q0 q1 e => ?_, ((c2 33 10 (by omega)).trans (w1 33 10 (by unfold wXl; omega))).trans h33, fun m b u => ?_, fun m m0 m1 u => ?_⟩, ⟨fun j => ?_, fun m m0 m1 => ?_, fun m b u => ?_, fun q hq => by rw [fR 71 q (by decide) (by decide) (by unfold wLd wSl; omega)]; exact i4 q hq, by rw [e2]; decide, by rw [fR 49 51 (by decide) (by decide) (by unfold wLd wSl; omega)]; exact i6⟩, ⟨by rw [c2 2 1 (by omega), f1, e2], fun j j0 j1 => by omega, Or.inr ⟨f4, by rw [c2 2 3 (by omega)]; exact f5, by rw [c2 2 4 (by omega)]; exact f6⟩⟩, hN2⟩
  · have := gA.2.1
    have := gA.2.2.1
    unfold RmB at hRm ⊢
    rw [tc]
    omega
  · rw [(X.2 27 q (Or.inl (by decide))).2] at e
    obtain ⟨w9, -⟩ := hTk.1 q t q0 q1 e
    rw [(X.2 t 0 (Or.inr ⟨w9.1.1, w9.1.2.2.1⟩)).1]; exact h0t q t q0 q1 e
  · have u : (if m = p then some B else S m) = some b := u
    by_cases c : m = p
    · rw [if_pos c] at u; cases u
      subst c
      refine ⟨p0, al.1, r2p, ⟨n, al'.1, hG.fr GA.rf (fun i => c2 0 i (by omega)) (fun a i z1 z2 => c2 a i (by omega)) (fun a i z1 z2 => rn a i (by omega)), fun a z1 z2 z3 => ?_⟩, ?_⟩
      · obtain ⟨q, t, q0, q1, e, z4, z5⟩ := z3
        rw [(X.2 27 q (Or.inl (by decide))).2] at e
        have := (hTk.1 q t q0 q1 e).1.2.2.2.2.2.2.1.2.1
        omega
      · obtain ⟨M, hMv, -, q1, q2, -⟩ := hG
        exact hMv.1.1.1.2.1
    · rw [if_neg c] at u
      obtain ⟨y1, N2, y2, y3, y4⟩ := hS m b u
      exact ⟨y1, N2, (r4 m c).trans y2, y3.ex X h0, Nat.lt_of_lt_of_le y4 gA.1⟩
  · have u : (if m = p then some B else S m) = none := u
    by_cases c : m = p
    · rw [if_pos c] at u; cases u
    · rw [if_neg c] at u
      exact (r4 m c).trans (hS0 m m0 m1 u)
  · by_cases c : j = p
    · show (match (if j = p then some B else S j) with | none => _ | some b => _ : Prop)
      rw [if_pos c]
      subst c
      exact ⟨⟨p0.1, p0.2, g56⟩, gM⟩
    · have hh := i1 j
      show (match (if j = p then some B else S j) with | none => _ | some b => _ : Prop)
      rw [if_neg c]
      have ei : isM h2 j ↔ isM hi j := by unfold isM; rw [fR 56 j (by decide) (by decide) (by unfold wLd wSl; omega)]
      cases e : S j with
      | none => rw [e] at hh; exact fun z => hh (ei.mp z)
      | some b' =>
        rw [e] at hh
        have j0 := (hS j b' e).1
        refine ⟨ei.mpr hh.1, hh.2.sl (w := fun a i => wLd a i ∨ wSl p a i ∨ (a = 56 ∧ i = p) ∨ ¬ (49 ≤ a ∧ a < 119)) (fun a i z => fR a i (by omega) (by omega) (fun v => z (by rcases v with v | v | v; exact Or.inl v; exact Or.inr (Or.inl v); exact Or.inr (Or.inr (Or.inl v))))) (fun a i z u => ?_)⟩
        rcases u with u | u | u | u
        · exact ds c (by omega) z (Or.inl u)
        · exact ds c (by omega) z (Or.inr (Or.inl u))
        · exact ds c (by omega) z (Or.inr (Or.inr u))
        · have := wSl_c z; omega
  · by_cases c : m = p
    · rw [c]; exact Or.inr g56
    · rw [fR 56 m (by decide) (by decide) (by unfold wLd wSl; omega)]; exact i2 m m0 m1
  · have u : (if m = p then some B else S m) = some b := u
    by_cases c : m = p
    · rw [c, g52]; exact n0
    · rw [if_neg c] at u
      have m0 := (hS m b u).1
      rw [fR 52 m (by decide) (by decide) (by unfold wLd wSl; omega)]; exact i3 m b u
theorem c_load (H : LW g c1 b1 b2 k al hi hr) (hd : 70 ≤ d) (q : NX g c1 b1 b2 k d 264 [vI a1] Q) : Ev d 187 [vR (some 2), vI a1] al hi hr Q := by
  obtain ⟨hW, S, s, hL, hI, hT, hN⟩ := H; obtain ⟨hM, h1, h2, hRm⟩ := id hW; obtain ⟨hA, hC, hO, hTk, h0t, h33, hS, hS0⟩ := id hL; obtain ⟨i1, i2, i3, i4, i5, i6⟩ := id hI; obtain ⟨t1, t2, t3⟩ := id hT
  have al119 := hA.1
  have hSm : ∀ m b, S m = some b → 0 ≤ m ∧ m < 6 := fun m b e => (hS m b e).1
  have eR : ∀ {hi'}, FW (wXl al.1) hi hi' → eqR hi hi' := fun {hi'} w a i z1 z2 => w a i (by unfold wXl; omega)
  have eM : ∀ {hr'}, RW (rXl al.1) hr hr' → MR hr' := fun {hr'} w => hM.eq (fun i => w 49 i (by unfold rXl; omega))
  have e1 : ∀ {hi'}, FW (wXl al.1) hi hi' → ∀ i, hi' 1 i = g i := fun {hi'} w i => (w 1 i (by unfold wXl; omega)).trans (h1 i)
  have e50 : ∀ {hi'}, FW (wXl al.1) hi hi' → ∀ i, hi' 50 i = hi 50 i := fun {hi'} w i => w 50 i (by unfold wXl; omega)
  refine x_load hA hC hO (by omega) (by omega) (fun j j0 j1 => ?_) (fun bad => ?_) (fun w q' al' h' r' hLd y1 y2 y3 y4 => ?_) (fun p al' h' r' hLd y1 y2 y3 y4 y5 y6 y7 y8 y9 => ?_) (fun al' h' r' hLd y1 y2 y3 y4 => ?_)
  · rw [t2 j j0 (by omega)]; omega
  · refine q (-2) al hi hr hA h1 h2 ?_
    exact m_load hA hM (by omega) i5.2 i4 i2 (fun _ => ⟨rfl, LW.q0 hW hL hI hT hN⟩) (fun z1 z2 => absurd ⟨z1, by omega⟩ bad) (fun z1 z2 => absurd ⟨z1, by omega⟩ bad) (fun z1 z2 => absurd ⟨z1, by omega⟩ bad)
  · obtain ⟨n0, n1, gA, wf, wr, f21⟩ := hLd
    obtain ⟨j1, j2, j3, j4, j5, j6⟩ := hI.eq (eR wf)
    have e2 : h' 49 2 = hi 49 2 := eR wf 49 2 (by decide) (by decide)
    have eB : tB h' a1 = cB hi a1 := tB_cB hT (e50 wf) (by omega)
    refine q (-1) al' h' r' (gA.sa hA) (e1 wf) (by rw [gA.2.2.2 1 (by omega)]; exact h2) ?_
    refine m_load (gA.sa hA) (eM wr) (by omega) j5.2 j4 j2 (fun z => absurd ⟨n0, by omega⟩ z) (fun _ _ w' q'' h3 z1 z2 z3 z4 z5 z6 z7 => ⟨rfl, ?_⟩) (fun _ _ h3 z1 _ _ _ _ _ _ => ?_) (fun _ _ m' h3 z1 _ _ _ _ _ _ _ _ _ _ _ _ _ _ => ?_)
    · rw [eB] at z1
      obtain ⟨u1, u2⟩ := ldR_u y1 z1
      exact LW.ld hW hL hI hN gA wf wr z3 z7 f21 z6 (by rw [y3, z4, u1]) (by rw [y4, z5, u2])
    · rw [eB] at z1
      exact absurd (ldR_u y1 z1).1 y2
    · rw [eB] at z1
      exact absurd (ldR_u y1 z1).1 y2
  · obtain ⟨n0, n1, gA, wf, wr, f21⟩ := hLd
    obtain ⟨j1, j2, j3, j4, j5, j6⟩ := hI.eq (eR wf)
    have e2 : h' 49 2 = hi 49 2 := eR wf 49 2 (by decide) (by decide)
    have eB : tB h' a1 = cB hi a1 := tB_cB hT (e50 wf) (by omega)
    have Sp : S p = none := by
      cases e : S p with
      | none => rfl
      | some b =>
        obtain ⟨-, N, z, -⟩ := hS p b e
        rw [y8] at z; cases z
    have Sq : ∀ q, 0 ≤ q → q < p → hi 56 q = 1 := fun q q0 q1 => (i1.st hSm ⟨q0, by omega⟩).mp (fun z => y9 q q0 q1 (hS0 q q0 (by omega) z))
    have S56 : ∀ m, h' 56 m = hi 56 m := fun m => eR wf 56 m (by decide) (by decide)
    have p56 : hi 56 p ≠ 1 := fun z => (i1.st hSm ⟨y6, y7⟩).mpr z Sp
    have rn49 : ∀ i, upR r' 4 p (some al.1) 49 i = r' 49 i := fun i => upR_a (by decide)
    refine q p al' h' _ (gA.sa hA) (e1 wf) (by rw [gA.2.2.2 1 (by omega)]; exact h2) ?_
    refine m_load (gA.sa hA) ((eM wr).eq rn49) (by omega) j5.2 j4 j2 (fun z => absurd ⟨n0, by omega⟩ z) (fun _ _ w' q'' h3 z1 z2 _ _ _ _ _ => ?_) (fun _ _ h3 z1 _ _ _ _ _ z => ?_) (fun _ _ m' h3 z1 z2 z3 z4 z5 z6 z7 z8 z9 z10 z11 z12 z13 z14 z15 => ?_)
    · rw [eB] at z1
      exact absurd (ldR_u y1 z1).1.symm z2
    · have := z p y6 y7
      rw [S56] at this
      exact absurd this p56
    · have em : m' = p := by
        rw [S56] at z4
        by_cases c : m' < p
        · have := Sq m' z2 c; omega
        · by_cases c2 : p < m'
          · have := z5 p y6 c2
            rw [S56] at this
            exact absurd this p56
          · omega
      subst em
      rw [eB] at z12 z14 z15
      exact ⟨rfl, LW.lo hW hL hI hN gA wf wr ⟨y6, y7⟩ Sp z6 z10 f21 z9 (by rw [y4, z7]) (by rw [y5, z8]) n0 y3 z11 ⟨z12, z14, z15, y2.2.2⟩ z13⟩
  · obtain ⟨n0, n1, gA, wf, wr, f21⟩ := hLd
    obtain ⟨j1, j2, j3, j4, j5, j6⟩ := hI.eq (eR wf)
    have e2 : h' 49 2 = hi 49 2 := eR wf 49 2 (by decide) (by decide)
    have eB : tB h' a1 = cB hi a1 := tB_cB hT (e50 wf) (by omega)
    have Sq : ∀ q, 0 ≤ q → q < 6 → hi 56 q = 1 := fun q q0 q1 => (i1.st hSm ⟨q0, q1⟩).mp (fun z => y4 q q0 q1 (hS0 q q0 q1 z))
    have S56 : ∀ m, h' 56 m = hi 56 m := fun m => eR wf 56 m (by decide) (by decide)
    refine q (-1) al' h' r' (gA.sa hA) (e1 wf) (by rw [gA.2.2.2 1 (by omega)]; exact h2) ?_
    refine m_load (gA.sa hA) (eM wr) (by omega) j5.2 j4 j2 (fun z => absurd ⟨n0, by omega⟩ z) (fun _ _ w' q'' h3 z1 z2 _ _ _ _ _ => ?_) (fun _ _ h3 z1 z3 z4 z5 z6 z7 _ => ⟨rfl, ?_⟩) (fun _ _ m' h3 z1 z2 z3 z4 _ _ _ _ _ _ _ _ _ _ _ => ?_)
    · rw [eB] at z1
      exact absurd (ldR_u y1 z1).1.symm z2
    · exact LW.ld hW hL hI hN gA wf wr z3 z7 f21 z6 (by rw [y2, z4]) (by rw [y3, z5])
    · have := Sq m' z2 z3
      rw [S56] at z4
      omega
end LC3
