/-! THE LAW: calls: feed, fault, module, typeAt, about .. output -/
section LC1
variable {d : Nat} {T : TXs} {al al' : AL} {hi hi' : HI} {hr hr' : HR} {s s' : HI} {g : Int → Int} {c1 : Nat × Nat} {b1 b2 k : Nat} {S : Int → Option (Int → Int)} {b : Int → Int} {N t : Nat} {Q : QQ} {a1 a2 a3 a4 a5 : Int}
def LQ (g : Int → Int) (c1 : Nat × Nat) (b1 b2 k : Nat) (v : Int) : QQ := fun r al hi hr => r = some (some (vI v)) ∧ LW g c1 b1 b2 k al hi hr
/-- what a class's call leaves for the reference's -/
def NX (g : Int → Int) (c1 : Nat × Nat) (b1 b2 k d : Nat) (m : Nat) (as : List AV) (Q : QQ) : Prop := ∀ v al' hi' hr', SA al' → (∀ i, hi' 1 i = g i) → al'.2.2 1 = c1 → Ev d m (vR (some 49) :: as) al' hi' hr' (LQ g c1 b1 b2 (k + 1) v) → Q (some (some (vI v))) al' hi' hr'
theorem c_feed (H : LW g c1 b1 b2 k al hi hr) (hd : 70 ≤ d) (q : NX g c1 b1 b2 k d 217 [vI a1, vI a2, vI a3, vI a4, vI a5] Q) : Ev d 186 [vR (some 2), vI a1, vI a2, vI a3, vI a4, vI a5] al hi hr Q := by
  obtain ⟨hW, S, s, hL, hI, hT, hN⟩ := H; obtain ⟨hM, h1, h2, hRm⟩ := id hW; obtain ⟨hA, hC, hO, hTk, h0t, h33, hS, hS0⟩ := id hL; obtain ⟨i1, i2, i3, i4, i5, i6⟩ := id hI; obtain ⟨t1, t2, t3⟩ := id hT
  refine x_feed hA hC (by omega) (by omega) (fun no => ?_) (fun h y1 y2 y3 y4 => ?_)
  · refine q (-1) al hi hr hA h1 h2 ?_
    exact m_feed hA hM i5 (fun _ => ⟨rfl, LW.th hW hL hI hT hN wTh_0⟩) (fun h z1 _ _ _ => by omega)
  · have e : ∀ (a : Nat) i, a ≠ 2 → a ≠ 3 → h a i = hi a i := fun a i z1 z2 => y2 a i (by omega)
    have e492 : h 49 2 = hi 49 2 := e 49 2 (by decide) (by decide)
    refine q _ al h hr hA (fun i => (e 1 i (by decide) (by decide)).trans (h1 i)) h2 ?_
    refine m_feed hA hM (by rw [e492]; exact i5) (fun no => by omega) (fun h2' z1 z2 z3 z4 => ⟨by rw [e492, t1], ?_⟩)
    rw [e492] at z1 z2 z3 z4
    have f : ∀ (a : Nat) i, a ≠ 2 → a ≠ 3 → ¬ (a = 49 ∧ (i = 0 ∨ i = 2)) → a ≠ 50 → h2' a i = hi a i := fun a i u1 u2 u3 u4 => (z2 a i (by omega)).trans (e a i u1 u2)
    refine LW.same hM (fun i => (f 1 i (by decide) (by decide) (by omega) (by decide)).trans (h1 i)) h2 hRm.sc hL ⟨i1.fr (fun a i u1 u2 => f a i (by omega) (by omega) (by omega) (by omega)), fun m m0 m1 => by rw [f 56 m (by decide) (by decide) (by omega) (by decide)]; exact i2 m m0 m1, fun m b u => by rw [f 52 m (by decide) (by decide) (by omega) (by decide)]; exact i3 m b u, fun q hq => by rw [f 71 q (by decide) (by decide) (by omega) (by decide)]; exact i4 q hq, by rw [z3]; omega, by rw [f 49 51 (by decide) (by decide) (by omega) (by decide)]; exact i6⟩ ?_ hN hC (fun i => f 0 i (by decide) (by decide) (by omega) (by decide)) (fun _ => rfl) (XC.rf (fun a i u => f a i (by omega) (by omega) (by omega) (by omega)) (fun _ _ _ => rfl)) (fun a i u => f a i (by omega) (by omega) (by omega) (by omega))
    have g1 : h2' 2 1 = h 2 1 := z2 2 1 (by omega)
    have g3 : ∀ j, h2' 3 j = h 3 j := fun j => z2 3 j (by omega)
    refine ⟨by rw [g1, z3, y3]; omega, fun j j0 j1 => ?_, ?_⟩
    · rw [z3] at j1
      rw [g3]
      by_cases c : j < hi 49 2
      · rw [y2 3 j (by omega), z2 50 j (by omega), e 50 j (by decide) (by decide)]
        exact t2 j j0 c
      · have w1 := y4 (j - hi 2 1) (by omega) (by omega)
        have w2 := z4 (j - hi 49 2) (by omega) (by omega)
        rw [show hi 2 1 + (j - hi 2 1) = j by omega] at w1
        rw [show hi 49 2 + (j - hi 49 2) = j by omega] at w2
        rw [w1, w2, t1]
    · rw [f 49 24 (by decide) (by decide) (by omega) (by decide), f 49 22 (by decide) (by decide) (by omega) (by decide), f 49 23 (by decide) (by decide) (by omega) (by decide), z2 2 3 (by omega), z2 2 4 (by omega), y2 2 3 (by omega), y2 2 4 (by omega)]
      exact t3
theorem c_fault (H : LW g c1 b1 b2 k al hi hr) (q : NX g c1 b1 b2 k d 219 [vI a1] Q) : Ev d 188 [vR (some 2), vI a1] al hi hr Q := by
  obtain ⟨hW, S, s, hL, hI, hT, hN⟩ := H; obtain ⟨hM, h1, h2, hRm⟩ := id hW; obtain ⟨hA, hC, hO, hTk, h0t, h33, hS, hS0⟩ := id hL; obtain ⟨i1, i2, i3, i4, i5, i6⟩ := id hI; obtain ⟨t1, t2, t3⟩ := id hT
  refine x_fault hA ?_
  refine q _ al hi hr hA h1 h2 ?_
  refine m_fault hA hM ⟨?_, LW.th hW hL hI hT hN wTh_0⟩
  rcases t3 with ⟨u1, u2, u3⟩ | ⟨u1, u2, u3⟩
  · rw [u1, u2, u3, if_pos rfl]
    split
    · rfl
    · split <;> rfl
  · rw [u1, u2, u3, if_neg (by decide)]
theorem CL.sh_ (hL : CL al hi hr S) (hI : RfI hi S) (m : Int) : (∃ N b n L, shA hr m = some N ∧ S m = some b ∧ isM hi m ∧ GMod hi m b ∧ GC al hi hr N n b L ∧ n = hi 52 m) ∨ (shA hr m = none ∧ ¬ isM hi m) := by
  obtain ⟨hA, hC, hO, hTk, h0t, h33, hS, hS0⟩ := id hL
  obtain ⟨i1, i2, i3, -⟩ := hI
  cases e : S m with
  | some b =>
    obtain ⟨m0, N, y2, ⟨n, L, y3, y4⟩, y5⟩ := hS m b e
    obtain ⟨z1, z2⟩ := i1.y e
    refine Or.inl ⟨N, b, n, L, (if_pos m0).trans y2, rfl, z1, z2, y3, ?_⟩
    obtain ⟨M, -, hTx, -⟩ := y3
    have hx : TX2 b n := hTx.1
    have h52 := i3 m b e
    have hb := z2.1.2.2.2.1
    have h2000 := z2.1.2.2.1
    by_cases c : n < hi 52 m
    · have u1 := (hx.1 n).2 (by omega)
      rw [← hb] at u1
      unfold bAt at u1
      rw [if_pos ⟨hx.2.1, c⟩] at u1
      omega
    · by_cases c2 : hi 52 m < n
      · have u1 := ((hx.1 (hi 52 m)).1 ⟨h52, c2⟩).1
        rw [← hb] at u1
        unfold bAt at u1
        rw [if_neg (by omega)] at u1
        omega
      · omega
  | none =>
    refine Or.inr ⟨?_, i1.n e⟩
    unfold shA
    split
    · rename_i c
      exact hS0 m c.1 c.2 e
    · rfl
theorem c_module (H : LW g c1 b1 b2 k al hi hr) (hd : 70 ≤ d) (q : NX g c1 b1 b2 k d 270 [vI a1, vI a2, vI a3] Q) : Ev d 190 [vR (some 2), vI a1, vI a2, vI a3] al hi hr Q := by
  obtain ⟨hW, S, s, hL, hI, hT, hN⟩ := H; obtain ⟨hM, h1, h2, hRm⟩ := id hW; obtain ⟨hA, hC, hO, hTk, h0t, h33, hS, hS0⟩ := id hL; obtain ⟨i1, i2, i3, i4, i5, i6⟩ := id hI; obtain ⟨t1, t2, t3⟩ := id hT
  rcases hL.sh_ hI a1 with ⟨N, b, n, L, e1, e2, e3, e4, e5, e6⟩ | ⟨e1, e2⟩
  · refine x_module hA hC (by omega) e1 e5 (fun v hv => ?_)
    refine q v al hi hr hA h1 h2 ?_
    refine m_module2 (B := b) hA hM (by omega) i2 i4 (fun z => absurd e3 z) (fun _ => e4) (fun v' h' _ w hv' => ⟨?_, LW.th hW hL hI hT hN (wTh_T w)⟩)
    rw [← e6] at hv'
    rw [MO_u hv hv']
  · refine x_moduleN hA hC (by omega) e1 ?_
    refine q (-1) al hi hr hA h1 h2 ?_
    exact m_module2 (B := fun _ => 0) hA hM (by omega) i2 i4 (fun _ => ⟨rfl, LW.th hW hL hI hT hN wTh_0⟩) (fun z => absurd z e2) (fun v' h' z _ _ => absurd z e2)
theorem c_typeAt (H : LW g c1 b1 b2 k al hi hr) (hd : 70 ≤ d) (q : NX g c1 b1 b2 k d 272 [vI a1, vI a2, vI a3, vI a4, vI a5] Q) : Ev d 191 [vR (some 2), vI a1, vI a2, vI a3, vI a4, vI a5] al hi hr Q := by
  obtain ⟨hW, S, s, hL, hI, hT, hN⟩ := H; obtain ⟨hM, h1, h2, hRm⟩ := id hW; obtain ⟨hA, hC, hO, hTk, h0t, h33, hS, hS0⟩ := id hL; obtain ⟨i1, i2, i3, i4, i5, i6⟩ := id hI; obtain ⟨t1, t2, t3⟩ := id hT
  rcases hL.sh_ hI a1 with ⟨N, b, n, L, e1, e2, e3, e4, e5, e6⟩ | ⟨e1, e2⟩
  · refine x_typeAt hA hC (by omega) e1 e5 (fun no => ?_) (fun y1 y2 y3 y4 v hv => ?_)
    · refine q (-1) al hi hr hA h1 h2 ?_
      exact m_typeAt (B := b) hA hM (by omega) i2 i4 (fun _ => e4) (fun _ => ⟨rfl, LW.th hW hL hI hT hN wTh_0⟩) (fun _ z1 z2 z3 z4 _ _ _ _ => absurd ⟨z1, z2, z3, z4⟩ no)
    · refine q v al hi hr hA h1 h2 ?_
      refine m_typeAt (B := b) hA hM (by omega) i2 i4 (fun _ => e4) (fun z => absurd ⟨y1, y2, y3, y4⟩ (z e3)) (fun _ _ _ _ _ v' h' w hv' => ⟨?_, LW.th hW hL hI hT hN (wTh_T w)⟩)
      have l10 : nLoc b a2 ≤ 10 := (e4.2.1.2.2.2.2.2.2.2.2.2.2 a2 y1.1 y1.2).2.2.2.2.2.2.2.2.1
      rw [TA_u y2.1 y3 l10 hv hv']
  · refine x_typeAtN hA hC (by omega) e1 ?_
    refine q (-1) al hi hr hA h1 h2 ?_
    exact m_typeAt (B := fun _ => 0) hA hM (by omega) i2 i4 (fun z => absurd z e2) (fun _ => ⟨rfl, LW.th hW hL hI hT hN wTh_0⟩) (fun z _ _ _ _ _ _ _ _ => absurd z e2)
/-- what a question leaves -/
theorem LW.q0 (hW : MR hr ∧ (∀ i, hi 1 i = g i) ∧ al.2.2 1 = c1 ∧ RmB b1 b2 k al hr) (hL : CL al hi hr S) (hI : RfI hi S) (hT : CT hi) (hN : RN al hi hr s (200000 * k)) : LW g c1 b1 b2 (k + 1) al (upI hi 49 0 0) hr := LW.th hW hL hI hT hN wTh_0
theorem c_about (H : LW g c1 b1 b2 k al hi hr) (hd : 70 ≤ d) (q : NX g c1 b1 b2 k d 322 [vI a1] Q) : Ev d 194 [vR (some 2), vI a1] al hi hr Q := by
  obtain ⟨hW, S, s, hL, hI, hT, hN⟩ := H; obtain ⟨hM, h1, h2, hRm⟩ := id hW; obtain ⟨hA, hC, hO, hTk, h0t, h33, hS, hS0⟩ := id hL; obtain ⟨i1, i2, i3, i4, i5, i6⟩ := id hI; obtain ⟨t1, t2, t3⟩ := id hT
  obtain ⟨n1, n2, ⟨z, T, NN, A, r1, r2, r3, r4, r5, r6⟩ | ⟨z, u1, u2, u3, u4⟩⟩ := id hN
  · refine x_about r1 r4 r2 r3 (by omega) (fun v hv => ?_)
    refine q v al hi hr hA h1 h2 ?_
    refine r_about (T := T) hA hM (by omega) n1 i6 (fun _ => r3) (fun v' hv' => ⟨?_, LW.q0 hW hL hI hT hN⟩)
    rw [if_pos z] at hv'
    rw [AbA_u hv hv']
  · refine x_aboutU hA hC u1 ?_
    refine q (-1) al hi hr hA h1 h2 ?_
    refine r_about (T := fun _ _ => 0) hA hM (by omega) n1 i6 (fun y => by omega) (fun v' hv' => ⟨?_, LW.q0 hW hL hI hT hN⟩)
    rw [if_neg (by omega)] at hv'
    rw [hv']
theorem c_output (H : LW g c1 b1 b2 k al hi hr) (hd : 70 ≤ d) (q : NX g c1 b1 b2 k d 327 [vI a1, vI a2] Q) : Ev d 199 [vR (some 2), vI a1, vI a2] al hi hr Q := by
  obtain ⟨hW, S, s, hL, hI, hT, hN⟩ := H; obtain ⟨hM, h1, h2, hRm⟩ := id hW; obtain ⟨hA, hC, hO, hTk, h0t, h33, hS, hS0⟩ := id hL; obtain ⟨i1, i2, i3, i4, i5, i6⟩ := id hI; obtain ⟨t1, t2, t3⟩ := id hT
  obtain ⟨n1, n2, ⟨z, T, NN, A, r1, r2, r3, r4, r5, r6⟩ | ⟨z, u1, u2, u3, u4⟩⟩ := id hN
  · refine x_output r1 r4 r2 r3 ?_
    refine q _ al hi hr hA h1 h2 ?_
    refine r_output (T := T) hA hM (by omega) n1 i6 (fun _ => r3) (fun v' hv' => ⟨?_, LW.q0 hW hL hI hT hN⟩)
    rw [if_pos z] at hv'
    rw [hv']
  · refine x_outputU hA hC u1 ?_
    refine q (-1) al hi hr hA h1 h2 ?_
    refine r_output (T := fun _ _ => 0) hA hM (by omega) n1 i6 (fun y => by omega) (fun v' hv' => ⟨?_, LW.q0 hW hL hI hT hN⟩)
    rw [if_neg (by omega)] at hv'
    rw [hv']
theorem c_block (H : LW g c1 b1 b2 k al hi hr) (hd : 70 ≤ d) (hw : a2 ≤ 2147483647) (q : NX g c1 b1 b2 k d 325 [vI a1, vI a2] Q) : Ev d 197 [vR (some 2), vI a1, vI a2] al hi hr Q := by
  obtain ⟨hW, S, s, hL, hI, hT, hN⟩ := H; obtain ⟨hM, h1, h2, hRm⟩ := id hW; obtain ⟨hA, hC, hO, hTk, h0t, h33, hS, hS0⟩ := id hL; obtain ⟨i1, i2, i3, i4, i5, i6⟩ := id hI; obtain ⟨t1, t2, t3⟩ := id hT
  obtain ⟨n1, n2, ⟨z, T, NN, A, r1, r2, r3, r4, r5, r6⟩ | ⟨z, u1, u2, u3, u4⟩⟩ := id hN
  · refine x_block r1 r4 r2 r3 (by omega) hw ?_
    refine q _ al hi hr hA h1 h2 ?_
    refine r_block (T := T) hA hM (by omega) n1 i6 (fun _ => r3) (fun v' hv' => ⟨?_, LW.q0 hW hL hI hT hN⟩)
    rw [if_pos z] at hv'
    rw [hv']
  · refine x_block0 hA hC (by omega) (fun y1 y2 => u3 _ y1 y2) ?_
    refine q (-1) al hi hr hA h1 h2 ?_
    refine r_block (T := fun _ _ => 0) hA hM (by omega) n1 i6 (fun y => by omega) (fun v' hv' => ⟨?_, LW.q0 hW hL hI hT hN⟩)
    rw [if_neg (by omega)] at hv'
    rw [hv']
theorem c_channel (H : LW g c1 b1 b2 k al hi hr) (hd : 70 ≤ d) (q : NX g c1 b1 b2 k d 326 [vI a1, vI a2, vI a3] Q) : Ev d 198 [vR (some 2), vI a1, vI a2, vI a3] al hi hr Q := by
  obtain ⟨hW, S, s, hL, hI, hT, hN⟩ := H; obtain ⟨hM, h1, h2, hRm⟩ := id hW; obtain ⟨hA, hC, hO, hTk, h0t, h33, hS, hS0⟩ := id hL; obtain ⟨i1, i2, i3, i4, i5, i6⟩ := id hI; obtain ⟨t1, t2, t3⟩ := id hT
  obtain ⟨n1, n2, ⟨z, T, NN, A, r1, r2, r3, r4, r5, r6⟩ | ⟨z, u1, u2, u3, u4⟩⟩ := id hN
  · refine x_channel r1 r4 r2 r3 (by omega) ?_
    refine q _ al hi hr hA h1 h2 ?_
    refine r_channel_ (T := T) hA hM (by omega) n1 i6 (fun _ => r3) (fun v' hv' => ⟨?_, LW.q0 hW hL hI hT hN⟩)
    rw [if_pos z] at hv'
    rw [hv']
  · refine x_channel0 hA hC (by omega) (fun y1 y2 => u4 _ (by omega) (by omega)) ?_
    refine q (-1) al hi hr hA h1 h2 ?_
    refine r_channel_ (T := fun _ _ => 0) hA hM (by omega) n1 i6 (fun y => by omega) (fun v' hv' => ⟨?_, LW.q0 hW hL hI hT hN⟩)
    rw [if_neg (by omega)] at hv'
    rw [hv']
theorem c_value (H : LW g c1 b1 b2 k al hi hr) (hd : 70 ≤ d) (q : NX g c1 b1 b2 k d 324 [vI a1, vI a2, vI a3] Q) : Ev d 196 [vR (some 2), vI a1, vI a2, vI a3] al hi hr Q := by
  obtain ⟨hW, S, s, hL, hI, hT, hN⟩ := H; obtain ⟨hM, h1, h2, hRm⟩ := id hW; obtain ⟨hA, hC, hO, hTk, h0t, h33, hS, hS0⟩ := id hL; obtain ⟨i1, i2, i3, i4, i5, i6⟩ := id hI; obtain ⟨t1, t2, t3⟩ := id hT
  obtain ⟨n1, n2, ⟨z, T, NN, A, r1, r2, r3, r4, r5, r6⟩ | ⟨z, u1, u2, u3, u4⟩⟩ := id hN
  · refine x_value r1 r4 r2 r3 (by omega) (fun v hv1 hv2 => ?_)
    refine q _ al hi hr hA h1 h2 ?_
    refine r_value (T := T) hA hM (by omega) n1 i6 (fun _ => r3) (fun v' hv' hv'' => ⟨?_, LW.q0 hW hL hI hT hN⟩)
    by_cases c : VaO T s a1 a2 a3
    · rw [hv1 c, hv' ⟨z, c⟩]
    · rw [hv2 c, hv'' (fun y => c y.2)]
  · refine x_valueU hA hC u2 (by omega) ?_
    refine q _ al hi hr hA h1 h2 ?_
    refine r_value (T := fun _ _ => 0) hA hM (by omega) n1 i6 (fun y => by omega) (fun v' hv' hv'' => ⟨?_, LW.q0 hW hL hI hT hN⟩)
    rw [hv'' (fun y => by omega)]
theorem c_process (H : LW g c1 b1 b2 k al hi hr) (hd : 70 ≤ d) (q : NX g c1 b1 b2 k d 323 [vI a1, vI a2] Q) : Ev d 195 [vR (some 2), vI a1, vI a2] al hi hr Q := by
  obtain ⟨hW, S, s, hL, hI, hT, hN⟩ := H; obtain ⟨hM, h1, h2, hRm⟩ := id hW; obtain ⟨hA, hC, hO, hTk, h0t, h33, hS, hS0⟩ := id hL; obtain ⟨i1, i2, i3, i4, i5, i6⟩ := id hI; obtain ⟨t1, t2, t3⟩ := id hT
  obtain ⟨n1, n2, ⟨z, T, NN, A, r1, r2, r3, r4, r5, r6⟩ | ⟨z, u1, u2, u3, u4⟩⟩ := id hN
  · refine x_process r1 r4 r2 r3 (by omega) (fun v A' h' r' hv hR' => ?_)
    obtain ⟨eq1, eq2⟩ := hR'.eqR_
    have f2 := hR'.1.2.2.1.2.1
    have hN' := hN.co z r2 hR' r3 r4 r5 r6 eq1
    have hL' := hL.rc hR'
    have hI' := hI.eq eq1
    have hT' := hT.eq eq1 (fun a i z => (f2 a i (Or.inl z)).1)
    have hM' : MR r' := hM.eq eq2
    have h1' : ∀ i, h' 1 i = g i := fun i => ((f2 1 i (Or.inl (by decide))).1).trans (h1 i)
    refine q v al h' r' hA h1' h2 ?_
    refine r_process (T := T) hA hM' (by omega) hN'.1 hI'.2.2.2.2.2 (fun _ => r3) (fun _ => r5) (fun v' h'' hv' w => ⟨?_, LW.th ⟨hM', h1', h2, hRm.rc hR' (fun _ => rfl)⟩ hL' hI' hT' hN' (wTh_0.tr (w.mn (fun a i z => by unfold wNt at z; unfold wTh; omega)))⟩)
    have z' : h' 49 51 = 1 := (eq1 49 51 (by decide) (by decide)).trans z
    simp only [z', true_and] at hv'
    rw [hv, hv']
  · refine x_processU hA hC u2 (by omega) ?_
    refine q _ al hi hr hA h1 h2 ?_
    refine r_process (T := fun _ _ => 0) hA hM (by omega) n1 i6 (fun y => by omega) (fun y => by omega) (fun v' h'' hv' w => ⟨?_, LW.th hW hL hI hT hN (wTh_0.tr (w.mn (fun a i z => by unfold wNt at z; unfold wTh; omega)))⟩)
    rw [if_neg (by omega)] at hv'
    rw [hv']
end LC1
