/-! THE LAW: calls: run, discard, load -/
section LC2
variable {d : Nat} {T : TXs} {al al' : AL} {hi hi' h h2 : HI} {hr hr' : HR} {s s' : HI} {g : Int → Int} {c1 : Nat × Nat} {b1 b2 k : Nat} {S S' : Int → Option (Int → Int)} {b B : Int → Int} {N t : Nat} {Q : QQ} {a1 x y m n : Int}
theorem lk_51 (hI : INV T s) : (lkS T s).1 49 51 = s 49 51 := by
  obtain ⟨p, hp⟩ : ∃ p, s 49 53 = p := ⟨_, rfl⟩
  have nx : ∀ s : HI, nxS s 49 51 = s 49 51 := fun s => by unfold nxS; rw [upI_i (by decide), upI_i (by decide)]
  by_cases c : s 89 p < 4 ∧ cgS T s p
  · rw [lk_step hp c.1 c.2]
    obtain ⟨m, f, X, pc, fl, o, v, L⟩ := lk_of hI hp c.1
    have e : a1S T (ups s p) p 49 51 = s 49 51 := by
      rw [lk_a1 L, ex_49 (by decide), goS_n (by decide)]
      unfold ups
      rw [upI_i (by decide), upI_i (by decide), upI_a (by decide), upI_a (by decide)]
    show (if _ then _ else _ : HI) 49 51 = _
    split
    · rw [nx]; exact e
    · exact e
  · rw [lk_wait hp c]
    have e : (if s 89 p < 4 then upI s 89 p (if op9 T s p = 38 then 2 else 3) else s : HI) 49 51 = s 49 51 := by
      split
      · exact upI_a (show (49 : Nat) ≠ 89 by decide)
      · rfl
    exact (nx _).trans e
theorem rn_51 : ∀ (k : Nat) (s : HI) (j y N : Int), INV T s → (rnF T k s j y N).1 49 51 = s 49 51
  | 0, s, j, y, N, hI => rfl
  | k + 1, s, j, y, N, hI => by
    by_cases c : j < N ∧ y < 12
    · obtain ⟨i1, i2, i3⟩ := inv_look hI
      by_cases c2 : (lkS T s).2 = true
      · rw [rnF_y c c2, rn_51 k (lkS T s).1 (j + 1) 0 N i2]; exact lk_51 hI
      · have c2 : (lkS T s).2 = false := by cases h : (lkS T s).2 <;> simp_all
        rw [rnF_w c c2, rn_51 k (lkS T s).1 j (y + 1) N i2]; exact lk_51 hI
    · rw [rnF_n c]
theorem c_run (H : LW g c1 b1 b2 k al hi hr) (hd : 70 ≤ d) (hk : k ≤ 64) (q : NX g c1 b1 b2 k d 299 [vI a1] Q) : Ev d 193 [vR (some 2), vI a1] al hi hr Q := by
  obtain ⟨hW, S, s, hL, hI, hT, hN⟩ := H; obtain ⟨hM, h1, h2, hRm⟩ := id hW; obtain ⟨hA, hC, hO, hTk, h0t, h33, hS, hS0⟩ := id hL; obtain ⟨i1, i2, i3, i4, i5, i6⟩ := id hI; obtain ⟨t1, t2, t3⟩ := id hT
  obtain ⟨n1, n2, ⟨z, T, NN, A, r1, r2, r3, r4, r5, r6⟩ | ⟨z, u1, u2, u3, u4⟩⟩ := id hN
  · refine x_run r1 r4 r2 r3 n2 (by omega) (by omega) (fun no => ?_) (fun c0 c1' A' al' h' r' y1 y2 y3 y4 => ?_)
    · refine q (-1) al hi hr hA h1 h2 ?_
      exact r_run (s := s) hA hM (by omega) i6 (fun s => INV T s) (fun s h => inv_look h) (fun _ => ⟨rfl, LW.q0 hW hL hI hT hN⟩) (fun _ => ⟨r3, n1, by omega⟩) (fun y0 y1 _ _ _ _ _ _ _ => absurd ⟨y0, y1⟩ no)
    · obtain ⟨eq1, eq2⟩ := y1.eqR_
      have f2 := y1.1.2.2.1.2.1
      obtain ⟨⟨ga, gb, gc⟩, -⟩ := y1.1.2.2.1
      have hA' := y1.1.1
      have hL' := hL.rc y1
      have hI' := hI.eq eq1
      have hT' := hT.eq eq1 (fun a i z => (f2 a i (Or.inl z)).1)
      have hM' : MR r' := hM.eq eq2
      have h1' : ∀ i, h' 1 i = g i := fun i => ((f2 1 i (Or.inl (by decide))).1).trans (h1 i)
      have h2' : al'.2.2 1 = c1 := by rw [gc.2.2.2 1 (by have := hA.1; omega)]; exact h2
      have z' : h' 49 51 = 1 := (eq1 49 51 (by decide) (by decide)).trans z
      have n1' : RelR h' s := n1.eq (fun a i z => eq1 a i (by omega) (by omega))
      refine q _ al' h' r' hA' h1' h2' ?_
      refine r_run (s := s) hA' hM' (by omega) (Or.inr z') (fun s => INV T s ∧ R91 s) (fun s h => ⟨(inv_look h.1).1, ⟨(inv_look h.1).2.1, lk_91 h.1 h.2⟩, (inv_look h.1).2.2⟩) (fun no => absurd ⟨c0, c1', z'⟩ no) (fun _ => ⟨⟨r3, r5⟩, n1', by omega⟩) (fun _ _ _ h3 k' e1 e2 e3 w => ⟨by rw [e1], ?_⟩)
      obtain ⟨sn, hsn⟩ : ∃ sn, (rnF T ((a1 + 1) * 13).toNat s 0 0 a1).1 = sn := ⟨_, rfl⟩
      have b52 := (rn_52 ((a1 + 1) * 13).toNat s 0 0 a1 r3).1
      have b51 := rn_51 ((a1 + 1) * 13).toNat s 0 0 a1 r3
      rw [hsn] at y1 y2 y3 y4 e2 e3 b52 b51
      have s51 : s 49 51 = 1 := (n1.1 49 51 (by omega)).symm.trans z
      have h51 : h3 49 51 = 1 := (e2.1 49 51 (by omega)).trans (b51.trans s51)
      have f : ∀ (a : Nat) i, a < 87 → ¬ (a = 49 ∧ (i = 0 ∨ (51 ≤ i ∧ i ≤ 56) ∨ i = 89)) → h3 a i = h' a i := fun a i v1 v2 => (w a i (by unfold wRu; omega)).trans (upI_ne (by omega))
      have fh : ∀ (a : Nat) i, 119 ≤ a → h3 a i = h' a i := fun a i v1 => (w a i (by unfold wRu; omega)).trans (upI_ne (by omega))
      have X : XC al' h' r' al' h3 r' := XC.rf (fun a i u => by rcases u with u | u; exact f a i (by omega) (by omega); exact fh a i (by omega)) (fun _ _ _ => rfl)
      obtain ⟨q1, q2⟩ := y1.rb r2
      obtain ⟨q3, q4⟩ := q1.ex q2 y2 X q1.1.2.1 (fun i => f 0 i (by decide) (by omega))
      obtain ⟨j1, j2, j3, j4, j5, j6⟩ := hI'
      obtain ⟨k1, k2, k3⟩ := hT'
      refine ⟨⟨hM', fun i => (f 1 i (by decide) (by omega)).trans (h1' i), h2', (hRm.rc y1 (fun _ => rfl)).sc⟩, S, sn, hL'.ex X q1.1.2.1 (fun i => f 0 i (by decide) (by omega)) (fun _ => rfl), ⟨j1.fr (fun a i z1 z2 => f a i (by omega) (by omega)), fun m m0 m1 => by rw [f 56 m (by decide) (by omega)]; exact j2 m m0 m1, fun m b u => by rw [f 52 m (by decide) (by omega)]; exact j3 m b u, fun q hq => by rw [f 71 q (by decide) (by omega)]; exact j4 q hq, by rw [f 49 2 (by decide) (by omega)]; exact j5, Or.inr h51⟩, ?_, e2, y4, Or.inl ⟨h51, T, NN, A', q3, q4, y3, y2, e3.2, by omega⟩⟩
      unfold CT
      rw [f 2 1 (by decide) (by omega), f 49 2 (by decide) (by omega), f 49 24 (by decide) (by omega), f 2 3 (by decide) (by omega), f 2 4 (by decide) (by omega), f 49 22 (by decide) (by omega), f 49 23 (by decide) (by omega)]
      exact ⟨k1, fun j a b => by rw [f 3 j (by decide) (by omega), f 50 j (by decide) (by omega)]; exact k2 j a b, k3⟩
  · refine x_runU hA hC u1 ?_
    refine q (-1) al hi hr hA h1 h2 ?_
    exact r_run (T := fun _ _ => 0) (s := s) hA hM (by omega) i6 (fun s => INV (fun _ _ => 0) s) (fun s h => inv_look h) (fun _ => ⟨rfl, LW.q0 hW hL hI hT hN⟩) (fun y => by omega) (fun _ _ y => by omega)
/-- the slots of what runs stay -/
theorem GMod.sl {w : Nat → Int → Prop} (hG : GMod hi m b) (hw : FW w hi hi') (hn : ∀ a i, wSl m a i → ¬ w a i) : GMod hi' m b := by
  obtain ⟨hM, hs, hN, hC⟩ := hG
  exact ⟨hM.mv hs ⟨hM.1, hM.2.1⟩ (sEq_of hw hM.2.2.1 hn), hs, hN, hC⟩
theorem RN.bs (hN : RN al hi hr s x) (hE : XC al hi hr al' hi' hr') (hC : CR hr') (h0 : ∀ i, hi' 0 i = hi 0 i) (hxy : x ≤ y) (e : ∀ a i, ((87 ≤ a ∧ a ≤ 101) ∨ a = 103 ∨ a = 104 ∨ (109 ≤ a ∧ a ≤ 118) ∨ (a = 49 ∧ 51 ≤ i ∧ i ≤ 56)) → hi' a i = hi a i) (w : ∀ m a i, 6 ≤ m → m < 12 → wSl m a i → hi' a i = hi a i) : RN al' hi' hr' (bs1 hi' s) y := by
  obtain ⟨h1, h2, h3⟩ := hN
  refine ⟨h1.bs e, h2.bs, ?_⟩
  rw [e 49 51 (by omega)]
  have hm : ∀ T m, Mg T s m → Mg T (bs1 hi' s) m := fun T m hm => by
    obtain ⟨m0, hG, hc⟩ := hm
    refine ⟨m0, hG.sl (w := fun a i => ¬ wSl m a i) (fun a i z => ?_) (fun a i z u => u z), hc⟩
    have z : wSl m a i := Classical.byContradiction z
    have zc := wSl_c z
    rw [bs1_y (by omega), w m a i (by omega) (by omega) z]
    exact h1.1 a i (by omega)
  rcases h3 with ⟨z, T, NN, A, r1, r2, r3, r4, r5, r6⟩ | ⟨z, hU⟩
  · obtain ⟨q1, q2⟩ := r1.ex r2 r4 hE hC h0
    exact Or.inl ⟨z, T, NN, A, q1.bs r4, q2, r3.bs (hm T), r4.bs, r5.bs, by rw [bs1_n (by decide)]; omega⟩
  · exact Or.inr ⟨z, hU.ex hE⟩
theorem c_discard (H : LW g c1 b1 b2 k al hi hr) (hd : 70 ≤ d) (q : NX g c1 b1 b2 k d 269 [vI a1] Q) : Ev d 189 [vR (some 2), vI a1] al hi hr Q := by
  obtain ⟨hW, S, s, hL, hI, hT, hN⟩ := H; obtain ⟨hM, h1, h2, hRm⟩ := id hW; obtain ⟨hA, hC, hO, hTk, h0t, h33, hS, hS0⟩ := id hL; obtain ⟨i1, i2, i3, i4, i5, i6⟩ := id hI; obtain ⟨t1, t2, t3⟩ := id hT
  rcases hL.sh_ hI a1 with ⟨N, b, n, L, e1, e2, e3, e4, e5, e6⟩ | ⟨e1, e2⟩
  · have a0 : 0 ≤ a1 ∧ a1 < 6 := (hS a1 b e2).1
    have e9 : hr 4 a1 = some N := by unfold shA at e1; rw [if_pos a0] at e1; exact e1
    refine x_discard hA hC (by omega) (fun N' _ _ _ => ?_) (fun no => absurd ⟨a0.1, a0.2, by rw [e9]; simp⟩ no)
    have rn : ∀ (a : Nat) i, ¬ (a = 4 ∧ i = a1) → upR hr 4 a1 none a i = hr a i := fun a i z => if_neg z
    have hM' : MR (upR hr 4 a1 none) := hM.eq (fun i => rn 49 i (by omega))
    have hC' : CR (upR hr 4 a1 none) := fun p hp => by
      have key : ∀ p ∈ crl, p.1 ≠ 4 := by decide
      have := key p hp
      rw [rn _ _ (by omega)]; exact hC p hp
    refine q 1 al hi _ hA h1 h2 ?_
    refine m_discard hA hM' (by omega) i2 (fun _ => ⟨rfl, ?_⟩) (fun z => absurd e3 z)
    have f : ∀ (a : Nat) i, ¬ (a = 49 ∧ i = 0) → ¬ (a = 56 ∧ i = a1) → upI (upI hi 49 0 0) 56 a1 0 a i = hi a i := fun a i z1 z2 => (upI_ne z2).trans (upI_ne z1)
    have f56 : upI (upI hi 49 0 0) 56 a1 0 56 a1 = 0 := upI_eq
    obtain ⟨h3, hh3⟩ : ∃ h3, upI (upI hi 49 0 0) 56 a1 0 = h3 := ⟨_, rfl⟩
    rw [hh3] at f56 ⊢
    simp only [hh3] at f
    have X : XC al hi hr al h3 (upR hr 4 a1 none) := XC.rf (fun a i u => f a i (by omega) (by omega)) (fun a i u => rn a i (by omega))
    have hN2 := hN.bs X hC' (fun i => f 0 i (by omega) (by omega)) (y := 200000 * ((k + 1 : Nat) : Int)) (by omega) (fun a i u => f a i (by omega) (by omega)) (fun m a i m0 m1 u => f a i (by have := wSl_c u; omega) (by have := wSl_c u; omega))
    have tc : ∀ n, tcn (upR hr 4 a1 none) n = tcn hr n := tcn_cg (fun q => rn 27 q (by omega))
    refine ⟨⟨hM', fun i => (f 1 i (by omega) (by omega)).trans (h1 i), h2, by unfold RmB at hRm ⊢; rw [tc]; omega⟩, fun j => if j = a1 then none else S j, _, ?_, ⟨fun j => ?_, fun m m0 m1 => ?_, fun m b u => ?_, fun q hq => by rw [f 71 q (by omega) (by omega)]; exact i4 q hq, by rw [f 49 2 (by omega) (by omega)]; exact i5, by rw [f 49 51 (by omega) (by omega)]; exact i6⟩, ?_, hN2⟩
    · refine ⟨hA, hC', hO.ex hA X (fun i => f 0 i (by omega) (by omega)), hTk.ex X, fun q t q0 q1 e => ?_, (f 33 10 (by omega) (by omega)).trans h33, fun m b u => ?_, fun m m0 m1 u => ?_⟩
      · rw [rn 27 q (by omega)] at e
        have := (hTk.1 q t q0 q1 e).1.1.1
        rw [f t 0 (by omega) (by omega)]; exact h0t q t q0 q1 e
      · have u : (if m = a1 then none else S m) = some b := u
        by_cases c : m = a1
        · rw [if_pos c] at u; cases u
        · rw [if_neg c] at u
          obtain ⟨y1, N2, y2, y3, y4⟩ := hS m b u
          exact ⟨y1, N2, (rn 4 m (by omega)).trans y2, y3.ex X (fun i => f 0 i (by omega) (by omega)), y4⟩
      · have u : (if m = a1 then none else S m) = none := u
        by_cases c : m = a1
        · rw [c]; exact upR_eq
        · rw [if_neg c] at u
          exact (rn 4 m (by omega)).trans (hS0 m m0 m1 u)
    · by_cases c : j = a1
      · show (match (if j = a1 then none else S j) with | none => _ | some b => _ : Prop)
        rw [if_pos c]
        rintro ⟨-, -, z⟩
        rw [c, f56] at z; cases z
      · have hh := i1 j
        show (match (if j = a1 then none else S j) with | none => _ | some b => _ : Prop)
        rw [if_neg c]
        have ei : isM h3 j ↔ isM hi j := by unfold isM; rw [f 56 j (by omega) (by omega)]
        cases e : S j with
        | none => rw [e] at hh; exact fun z => hh (ei.mp z)
        | some b' =>
          rw [e] at hh
          exact ⟨ei.mpr hh.1, hh.2.sl (w := fun a i => (a = 49 ∧ i = 0) ∨ (a = 56 ∧ i = a1)) (fun a i z => f a i (by omega) (by omega)) (fun a i z u => by have := wSl_c z; omega)⟩
    · by_cases c : m = a1
      · rw [c, f56]; exact Or.inl rfl
      · rw [f 56 m (by omega) (by omega)]; exact i2 m m0 m1
    · have u : (if m = a1 then none else S m) = some b := u
      by_cases c : m = a1
      · rw [if_pos c] at u; cases u
      · rw [if_neg c] at u
        rw [f 52 m (by omega) (by omega)]; exact i3 m b u
    · unfold CT
      rw [f 2 1 (by omega) (by omega), f 49 2 (by omega) (by omega), f 49 24 (by omega) (by omega), f 2 3 (by omega) (by omega), f 2 4 (by omega) (by omega), f 49 22 (by omega) (by omega), f 49 23 (by omega) (by omega)]
      exact ⟨t1, fun j a b => by rw [f 3 j (by omega) (by omega), f 50 j (by omega) (by omega)]; exact t2 j a b, t3⟩
  · refine x_discard hA hC (by omega) (fun N' z0 z1 z2 => ?_) (fun no => ?_)
    · unfold shA at e1; rw [if_pos ⟨z0, z1⟩, z2] at e1; cases e1
    · refine q 0 al hi hr hA h1 h2 ?_
      exact m_discard hA hM (by omega) i2 (fun z => absurd z e2) (fun _ => ⟨rfl, LW.q0 hW hL hI hT hN⟩)
end LC2
