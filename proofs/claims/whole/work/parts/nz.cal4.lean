/-! THE LAW: calls: boot -/
section LC4
variable {d : Nat} {T : TXs} {al al' : AL} {hi hi' h h2 hc : HI} {hr hr' rc : HR} {s s' s0 : HI} {g : Int → Int} {c1 : Nat × Nat} {b1 b2 k : Nat} {S S' : Int → Option (Int → Int)} {b B : Int → Int} {N t : Nat} {Q : QQ} {a1 x y m n p kn H c : Int} {G : HI}
/-- copies of what is on the shelf -/
theorem cps (hI : RfI hi S) (hSm : ∀ m b, S m = some b → 0 ≤ m ∧ m < 6) : ∀ k : Nat, k ≤ 6 → ∃ h, FW (wCp k) hi h ∧ ∀ (m : Int) b, 0 ≤ m → m < k → S m = some b → MB h (6 + m) b
  | 0, _ => ⟨hi, FW.rf, fun m b m0 m1 => by omega⟩
  | k + 1, hk => by
    obtain ⟨h, w, hb⟩ := cps hI hSm k (by omega)
    cases e : S k with
    | none =>
      refine ⟨h, w.mn (fun a i ⟨m', z1, z2⟩ => ⟨m', by omega, z2⟩), fun m b m0 m1 u => ?_⟩
      by_cases c : m = k
      · rw [c, e] at u; cases u
      · exact hb m b m0 (by omega) u
    | some bk =>
      obtain ⟨-, hM, hs, -, -⟩ := hI.1.y e
      have h52 := hI.2.2.1 k bk e
      have hMk : MB h k bk := hM.mv hs ⟨by omega, by omega⟩ (sEq_of w hM.2.2.1 (fun a i z ⟨m', z1, z2⟩ => wSl_dj z (by omega) z2))
      have e52 : h 52 k = hi 52 k := w 52 k (by rintro ⟨m', z1, z2⟩; unfold wSl at z2; omega)
      have f := cp_fw (hi := h) (fr := k) (to := 6 + k) hMk.2.2.1
      refine ⟨cpH h k (6 + k), (w.mn (fun a i ⟨m', z1, z2⟩ => ⟨m', by omega, z2⟩)).tr (f.mn (fun a i z => ⟨k, by omega, z⟩)), fun m b m0 m1 u => ?_⟩
      by_cases c : m = k
      · rw [c, e] at u; cases u
        rw [c]
        exact hMk.mv hs ⟨by omega, by omega⟩ (cp_eq ⟨by omega, by omega⟩ ⟨by omega, by omega⟩ (by omega) ⟨by omega, hMk.2.2.1⟩)
      · have z := hb m b m0 (by omega) u
        have hs' := (hI.1.y u).2.2.1
        exact z.mv hs' ⟨by omega, by omega⟩ (sEq_of f z.2.2.1 (fun a i z1 z2 => wSl_dj z1 (by omega) z2))
/-- the texts by their slots -/
def TTf (S : Int → Option (Int → Int)) : TXs := fun j => match S (j - 6) with | some b => b | none => fun _ => -1
theorem TTf_y (e : S m = some b) : TTf S (6 + m) = b := by unfold TTf; rw [show 6 + m - 6 = m by omega, e]
theorem mg_of (hL : CL al hi hr S) (hI : RfI hi S) (e : S m = some b) (hM : MB h (6 + m) b) (eh : ∀ a i, 51 ≤ a → a ≤ 69 → s0 a i = h a i) : TTf S (6 + m) = b ∧ Mg (TTf S) s0 (6 + m) := by
  have eT := TTf_y e
  obtain ⟨y1, N, y2, ⟨n, L, ⟨M, q1, q2, q3, q4, q5⟩, -⟩, -⟩ := hL.2.2.2.2.2.2.1 m b e
  obtain ⟨-, -, hs, hN, hC⟩ := hI.1.y e
  refine ⟨eT, ⟨by omega, by omega⟩, ?_, ?_⟩
  · rw [eT]; exact ⟨hM.fw eh, hs, hN, hC⟩
  · rw [eT]
    intro f f0 f1
    obtain ⟨t, H, C, A, -, -, -, -, -, -, -, r⟩ := q5 f f0 f1
    exact ⟨A, r.2.2⟩
theorem BP.bs (hb : BP S G kn H x c s0 s) : BP S G kn H x c (bs1 h s0) (bs1 h s) := by
  obtain ⟨a1, a2, a3, a4, a5, a6, a7, a8, a9⟩ := hb
  have N : ∀ (s : HI) (a : Nat) i, ¬ (51 ≤ a ∧ a ≤ 69) → bs1 h s a i = s a i := fun s a i z => bs1_n z
  refine ⟨fun i => ?_, fun i => ?_, fun i => ?_, fun i => ?_, fun i => ?_, fun i => ?_, fun i => ?_, fun i => ?_, fun a i z => ?_⟩
  · rw [N s 49 i (by decide), N s0 49 i (by decide)]; exact a1 i
  · rw [N s 89 i (by decide), N s0 89 i (by decide)]; exact a2 i
  · rw [N s 90 i (by decide), N s0 90 i (by decide), N s 93 i (by decide), N s0 93 i (by decide), N s 108 i (by decide), N s0 108 i (by decide), N s 91 i (by decide), N s0 91 i (by decide), N s 92 i (by decide), N s0 92 i (by decide), N s 94 i (by decide), N s0 94 i (by decide)]; exact a3 i
  · rw [N s 95 i (by decide), N s0 95 i (by decide), N s 96 i (by decide), N s0 96 i (by decide), N s 97 i (by decide), N s0 97 i (by decide)]; exact a4 i
  · rw [N s 98 i (by decide), N s0 98 i (by decide), N s 99 i (by decide), N s0 99 i (by decide)]; exact a5 i
  · rw [N s 100 i (by decide), N s0 100 i (by decide)]; exact a6 i
  · rw [N s 109 i (by decide), N s0 109 i (by decide)]; exact a7 i
  · rw [N s 112 i (by decide), N s0 112 i (by decide), N s 113 i (by decide), N s0 113 i (by decide), N s 114 i (by decide), N s0 114 i (by decide), N s 118 i (by decide), N s0 118 i (by decide)]; exact a8 i
  · by_cases y : 51 ≤ a ∧ a ≤ 69
    · rw [bs1_y y, bs1_y y]
    · rw [N s a i y, N s0 a i y]; exact a9 a i z
theorem BP.r91 (hb : BP S G n n x c s0 s) (hg : GF S G n) (hSm : ∀ m b, S m = some b → 0 ≤ m ∧ m < 6) : R91 s := fun q q0 q1 => by
  obtain ⟨a1, a2, a3, -⟩ := hb
  rw [a1, if_neg (by decide), if_neg (by decide), if_pos rfl] at q1
  rw [(a3 q).2.2.2.1, if_pos ⟨q0, q1⟩]
  obtain ⟨b, e, -⟩ := hg.1.1.1 q q0 q1
  have := hSm _ b e
  omega
theorem CC.all (hc : CC G (4 * n) c) (hg : GF S G n) : c = G 200 0 := by
  obtain ⟨c0, -, c2⟩ := hc
  apply Classical.byContradiction
  intro z
  have u := c2 c (Int.le_refl _) (by omega)
  obtain ⟨v1, v2, -⟩ := hg.ch ⟨c0.1, by omega⟩
  obtain ⟨p, k, w1, w2, w3, w4, -⟩ := hg.us v1 (by omega) (j := 0) ⟨by decide, by decide⟩
  rw [Int.add_zero] at w1
  omega
theorem TkA.lw (hT : TkA al hr) (h2 : ∀ (a : Nat) i, (a = 26 ∨ a = 27 ∨ 119 ≤ a) → hr' a i = hr a i) : TkA al hr' := by
  obtain ⟨H1, H2, H3⟩ := hT
  have r27 : ∀ i, hr' 27 i = hr 27 i := fun i => h2 _ _ (by omega)
  have pls : ∀ a, pool hr' a ↔ pool hr a := fun a => by unfold pool; simp only [r27]
  refine ⟨fun q t q0 q1 e => ?_, ?_, fun q q' t t' q0 q1 q0' q1' hq e e' => ?_⟩
  · rw [r27] at e
    obtain ⟨w1, c, w2, w3, w4⟩ := H1 q t q0 q1 e
    have := w1.1.1
    refine ⟨?_, c, (h2 _ _ (by omega)).trans w2, (pls c).mpr w3, by rw [h2 _ _ (by omega)]; exact w4⟩
    unfold TkS at w1 ⊢
    simp only [h2 t 9 (by omega), h2 t 10 (by omega), h2 t 11 (by omega), h2 t 12 (by omega), h2 t 13 (by omega)]
    exact w1
  · obtain ⟨c, w1, w2⟩ := H2
    exact ⟨c, (h2 _ _ (by omega)).trans w1, (pls c).mpr w2⟩
  · rw [r27] at e e'
    have z1 := (H1 q t q0 q1 e).1.1.1
    have z2 := (H1 q' t' q0' q1' e').1.1.1
    rw [h2 _ _ (by omega), h2 _ _ (by omega)]
    exact H3 q q' t t' q0 q1 q0' q1' hq e e'
theorem CL.bt (h : CL al hi hr S) (w : FW (fun a i => wXb a i ∨ wSt a i) hi hc) (wr : RW (fun a i => rCm a i ∨ a = 37) hr rc) (hC : CR rc) : CL al hc rc S := by
  obtain ⟨a1, a2, a3, a4, a5, a6, a7, a8⟩ := h
  have e0 : ∀ i, hc 0 i = hi 0 i := fun i => w 0 i (by unfold wXb wCm wSt; omega)
  have eh : ∀ (a : Nat) i, 119 ≤ a → hc a i = hi a i := fun a i z => w a i (by unfold wXb wCm wSt; omega)
  have er : ∀ (a : Nat) i, (a = 26 ∨ a = 27 ∨ 119 ≤ a) → rc a i = hr a i := fun a i z => wr a i (by unfold rCm; omega)
  have e4 : ∀ m, rc 4 m = hr 4 m := fun m => wr 4 m (by unfold rCm; omega)
  refine ⟨a1, hC, ⟨a3.1, fun k a b => (e0 k).trans (a3.2 k a b)⟩, a4.lw er, fun q t q0 q1 e => ?_, (w 33 10 (by unfold wXb wCm wSt; omega)).trans a6, fun m b u => ?_, fun m m0 m1 u => (e4 m).trans (a8 m m0 m1 u)⟩
  · rw [er 27 q (by omega)] at e
    rw [eh t 0 (a4.1 q t q0 q1 e).1.1.1]; exact a5 q t q0 q1 e
  · obtain ⟨y1, N, y2, y3, y4⟩ := a7 m b u
    exact ⟨y1, N, (e4 m).trans y2, y3.own e0 eh (fun a i z => er a i (by omega)) (fun i => er 27 i (by omega)), y4⟩
theorem wBo_sl {a : Nat} {i : Int} (y : wBo2 a i) : ∃ m', (6 ≤ m' ∧ m' < 13) ∧ wSl m' a i ∨ ¬ (51 ≤ a ∧ a ≤ 69) := by
  rcases y with (y | y | y) | y
  · rcases y with y | y | y
    · exact ⟨12, Or.inl ⟨by decide, Or.inl (by omega)⟩⟩
    · exact ⟨12, Or.inl ⟨by decide, Or.inr (Or.inl (by omega))⟩⟩
    · exact ⟨12, Or.inr (by omega)⟩
  · exact ⟨12, Or.inr (by unfold wMa at y; omega)⟩
  · exact ⟨12, Or.inr (by omega)⟩
  · rcases y with ⟨m', z1, z2⟩ | y | y
    · exact ⟨6 + m', Or.inl ⟨by omega, z2⟩⟩
    · exact ⟨12, Or.inr (by unfold w49 at y; omega)⟩
    · exact ⟨12, Or.inr (by omega)⟩
theorem wBo_n {a : Nat} {i : Int} (y : wBo2 a i) : (49 ≤ a ∧ a < 119) ∧ a ≠ 50 ∧ a ≠ 56 ∧ ¬ (70 ≤ a ∧ a ≤ 76) ∧ ¬ (a = 52 ∧ i < 6) := by
  rcases y with (y | y | y) | y
  · unfold wTk at y; omega
  · unfold wMa at y; omega
  · omega
  · rcases y with ⟨m', z1, z2⟩ | y | y
    · have := wSl_c z2
      refine ⟨by omega, by omega, by omega, by omega, fun z => ?_⟩
      unfold wSl at z2; omega
    · unfold w49 at y; omega
    · omega
theorem RfI.bo (hI : RfI hi S) (hSm : ∀ m b, S m = some b → 0 ≤ m ∧ m < 6) (w : FW wBo2 hi hi') (e2 : hi' 49 2 = 0) (e51 : hi' 49 51 = 0 ∨ hi' 49 51 = 1) : RfI hi' S := by
  obtain ⟨i1, i2, i3, i4, i5, i6⟩ := hI
  exact ⟨i1.sl (fun a i z => w a i (fun u => z (wBo_sl u))), fun m m0 m1 => by rw [w 56 m (fun u => (wBo_n u).2.2.1 rfl)]; exact i2 m m0 m1, fun m b u => by rw [w 52 m (fun v => (wBo_n v).2.2.2.2 ⟨rfl, (hSm m b u).2⟩)]; exact i3 m b u, fun q hq => by rw [w 71 q (fun u => (wBo_n u).2.2.2.1 (by decide))]; exact i4 q hq, by rw [e2]; decide, e51⟩
set_option maxRecDepth 8000 in
theorem c_boot (H : LW g c1 b1 b2 k al hi hr) (hd : 70 ≤ d) (q : NX g c1 b1 b2 k d 278 [vI a1] Q) : Ev d 192 [vR (some 2), vI a1] al hi hr Q := by
  obtain ⟨hW, S, s, hL, hI, hT, hN⟩ := H; obtain ⟨hM, h1, h2, hRm⟩ := id hW; obtain ⟨hA, hC, hO, hTk, h0t, h33, hS, hS0⟩ := id hL; obtain ⟨i1, i2, i3, i4, i5, i6⟩ := id hI; obtain ⟨t1, t2, t3⟩ := id hT
  have al119 := hA.1
  have hSm : ∀ m b, S m = some b → 0 ≤ m ∧ m < 6 := fun m b e => (hS m b e).1
  have hSh : ∀ m b, S m = some b → Sh b := fun m b e => (i1.y e).2.2.1
  obtain ⟨hs, -, hcp⟩ := cps hI hSm 6 (Nat.le_refl _)
  have hMg : ∀ m b, S m = some b → TTf S (6 + m) = b ∧ Mg (TTf S) (bs1 hs s) (6 + m) := fun m b e => mg_of hL hI e (hcp m b (hSm m b e).1 (hSm m b e).2 e) (fun a i z1 z2 => bs1_y ⟨z1, z2⟩)
  refine x_boot (T := TTf S) (s0 := bs1 hs s) hA hC hTk h0t h33 (by omega) (fun j j0 j1 => ?_) hS hS0 hSh hMg (by omega) (fun bad => ?_) (fun n0 n1 w q' h' r' y1 wf wr y3 y4 y5 => ?_) (fun n0 n1 q' G hc rc A s9 c al' h' r' y1 gf b6 wf wr hR hB AP hb hcc y3 y4 y5 => ?_)
  · rw [t2 j j0 (by omega)]; omega
  · refine q (-2) al hi hr hA h1 h2 ?_
    exact r_boot hA hM (by omega) hN.1 i5 i1 i2 i3 (fun _ => ⟨rfl, LW.q0 hW hL hI hT hN⟩) (fun z1 z2 => absurd ⟨z1, by omega⟩ bad) (fun z1 z2 => absurd ⟨z1, by omega⟩ bad)
  · have eR : eqR hi h' := fun a i z1 z2 => wf a i (by unfold wXb wCm; omega)
    have e50 : ∀ i, h' 50 i = hi 50 i := fun i => eR 50 i (by decide) (by decide)
    obtain ⟨j1, j2, j3, j4, j5, j6⟩ := hI.eq eR
    have e2 : h' 49 2 = hi 49 2 := eR 49 2 (by decide) (by decide)
    have eB : tB h' a1 = cB hi a1 := tB_cB hT e50 (by omega)
    have hM' : MR r' := hM.eq (fun i => wr 49 i (by unfold rCm; omega))
    have hC' : CR r' := fun p hp => by
      have key : ∀ p ∈ crl, p.1 ≠ 15 ∧ p.1 ≠ 17 ∧ p.1 ≠ 23 := by decide
      have := key p hp
      exact (wr p.1 p.2.1 (by unfold rCm; omega)).trans (hC p hp)
    refine q (-1) al h' r' hA (fun i => (wf 1 i (by unfold wXb wCm; omega)).trans (h1 i)) h2 ?_
    refine r_boot (sO := s) hA hM' (by omega) (hN.1.eq (fun a i z => eR a i (by omega) (by omega))) j5 j1 j2 j3 (fun z => absurd ⟨n0, by omega⟩ z) (fun _ _ w' q'' h3 z1 z2 z3 z4 z5 z6 => ⟨rfl, ?_⟩) (fun _ _ q'' G h3 s1 s3 z1 => ?_)
    · rw [eB, y1] at z1
      cases z1
      have c2 : ∀ (a : Nat) i, (a < 49 ∨ 119 ≤ a) → h3 a i = h' a i := fun a i z => z2 a i (fun u => by have := (wBo_n (Or.inl u)).1; omega)
      have X : XC al hi hr al h3 r' := XC.rf (fun a i z => (c2 a i (by omega)).trans (wf a i (by unfold wXb wCm; omega))) (fun a i z => wr a i (by unfold rCm; omega))
      have h0 : ∀ i, h3 0 i = hi 0 i := fun i => (c2 0 i (by omega)).trans (wf 0 i (by unfold wXb wCm; omega))
      have fR : ∀ (a : Nat) i, 49 ≤ a → a < 119 → ¬ wBo a i → h3 a i = hi a i := fun a i u1 u2 u3 => (z2 a i u3).trans (eR a i u1 u2)
      have hN2 := hN.bs X hC' h0 (y := 200000 * ((k + 1 : Nat) : Int)) (by omega) (fun a i u => fR a i (by omega) (by omega) (by unfold wBo wTk wMa; omega)) (fun m a i m0 m1 u => fR a i (by have := wSl_c u; omega) (by have := wSl_c u; omega) (fun v => by
        have uc := wSl_c u
        unfold wBo wTk wMa at v
        unfold wSl at u
        omega))
      have tc : ∀ n, tcn r' n = tcn hr n := tcn_cg (fun q => wr 27 q (by unfold rCm; omega))
      refine ⟨⟨hM', fun i => ((c2 1 i (by omega)).trans (wf 1 i (by unfold wXb wCm; omega))).trans (h1 i), h2, by unfold RmB at hRm ⊢; rw [tc]; omega⟩, S, _, hL.ex X hC' h0 (fun m => wr 4 m (by unfold rCm; omega)), (hI.eq eR).bo hSm (z2.mn (fun a i u => Or.inl u)) z6 (by rw [z2 49 51 (by unfold wBo wTk wMa; omega)]; exact j6), ⟨by rw [c2 2 1 (by omega), y5, z6], fun j u1 u2 => by omega, Or.inr ⟨z5, by rw [c2 2 3 (by omega), y3, z3], by rw [c2 2 4 (by omega), y4, z4]⟩⟩, hN2⟩
    · rw [eB, y1] at z1; cases z1
  · have f2 := hR.1.2.2.1.2.1
    obtain ⟨⟨ga, gb, gc⟩, -⟩ := hR.1.2.2.1
    obtain ⟨eqc1, eqc2⟩ := hR.eqR_
    have eR : eqR hi h' := fun a i z1 z2 => (eqc1 a i z1 z2).trans (wf a i (by unfold wXb wCm wSt; omega))
    have hI' := hI.eq eR
    obtain ⟨j1, j2, j3, j4, j5, j6⟩ := id hI'
    have e2 : h' 49 2 = hi 49 2 := eR 49 2 (by decide) (by decide)
    have eB : tB h' a1 = cB hi a1 := tB_cB hT (fun i => eR 50 i (by decide) (by decide)) (by omega)
    have hM' : MR r' := hM.eq (fun i => (eqc2 i).trans (wr 49 i (by unfold rCm; omega)))
    have hA' := hR.1.1
    have hC' := hR.1.2.1
    have hc21 : ∀ i, h' 2 i = hc 2 i := fun i => (f2 2 i (Or.inl (by decide))).1
    have CRc : CR rc := fun p hp => by
      have key : ∀ p ∈ crl, p.1 ≠ 15 ∧ p.1 ≠ 17 ∧ p.1 ≠ 23 ∧ p.1 ≠ 37 := by decide
      have := key p hp
      exact (wr p.1 p.2.1 (by unfold rCm; omega)).trans (hC p hp)
    have hL' : CL al' h' r' S := (hL.bt wf wr CRc).rc hR
    have h1' : ∀ i, h' 1 i = g i := fun i => (((f2 1 i (Or.inl (by decide))).1).trans (wf 1 i (by unfold wXb wCm wSt; omega))).trans (h1 i)
    have h2' : al'.2.2 1 = c1 := by rw [gc.2.2.2 1 (by omega)]; exact h2
    refine q _ al' h' r' hA' h1' h2' ?_
    refine r_boot (sO := s) hA' hM' (by omega) (hN.1.eq (fun a i z => eR a i (by omega) (by omega))) j5 j1 j2 j3 (fun z => absurd ⟨n0, by omega⟩ z) (fun _ _ w' q'' h3 z1 => ?_) (fun _ _ q'' G2 h3 s1 s3 z1 gv gf2 b62 z2 z3 z4 z5 z6 z7 z8 z9 z10 z11 => ?_)
    · rw [eB, y1] at z1; cases z1
    · rw [eB] at z1 gf2 b62 z3 ⊢
      rw [y1] at z1
      cases z1
      refine ⟨rfl, ?_⟩
      obtain ⟨n, hn⟩ : ∃ n, cB hi a1 2 = n := ⟨_, rfl⟩
      rw [hn] at gf b6 hb hcc z3
      have ec := hcc.all gf
      subst ec
      -- the two states are one
      have es1 : bs1 h3 (bs1 hs s) = s1 := by
        funext a i
        by_cases u : 51 ≤ a ∧ a ≤ 69
        · rw [bs1_y u]; exact (z5 a i u.1 u.2).symm
        · rw [bs1_n u, bs1_n u]; exact (z4 a i u).symm
      have es3 : bs1 h3 s9 = s3 := by
        have hb' := hb.bs (h := h3)
        rw [es1] at hb'
        exact hb'.un z3
      have RC := hR.bs (h := h3) AP
      rw [es3] at RC
      have hM1 : ∀ m b, S m = some b → TTf S (6 + m) = b ∧ Mg (TTf S) s1 (6 + m) := fun m b e => mg_of hL hI e (z6 m b e).2 z5
      obtain ⟨v1, v2, v3⟩ := bp_inv (T := TTf S) gf b6 z3 hM1 (fun q _ hq => by
        rw [z4 89 q (by decide)] at hq
        rw [z4 90 q (by decide)]
        exact hN.2.1 q hq)
      have v4 : R91 s3 := z3.r91 gf hSm
      have s51 : s3 49 51 = 1 := by rw [z3.1, if_pos rfl]
      have s52 : s3 49 52 = 0 := by rw [z3.1, if_neg (by decide), if_pos (by decide)]
      have h51 : h3 49 51 = 1 := (z2.1 49 51 (by omega)).trans s51
      have c2 : ∀ (a : Nat) i, (a < 49 ∨ 119 ≤ a) → h3 a i = h' a i := fun a i z => z7 a i (fun u => by have := (wBo_n u).1; omega)
      have X : XC al' h' r' al' h3 r' := XC.rf (fun a i z => c2 a i (by omega)) (fun _ _ _ => rfl)
      have h0 : ∀ i, h3 0 i = h' 0 i := fun i => c2 0 i (by omega)
      obtain ⟨q1, q2⟩ := RC.rb hB
      obtain ⟨q3, q4⟩ := q1.ex q2 v3 X hC' h0
      exact ⟨⟨hM', fun i => (c2 1 i (by omega)).trans (h1' i), h2', (hRm.rc hR (fun q => wr 27 q (by unfold rCm; omega))).sc⟩, S, s3, hL'.ex X hC' h0 (fun _ => rfl), hI'.bo hSm z7 z11 (Or.inr h51), ⟨by rw [c2 2 1 (by omega), hc21, y5, z11], fun j u1 u2 => by omega, Or.inr ⟨z10, by rw [c2 2 3 (by omega), hc21, y3, z8], by rw [c2 2 4 (by omega), hc21, y4, z9]⟩⟩, z2, v2, Or.inl ⟨h51, TTf S, _, _, q3, q4, v1, v3, v4, by rw [s52]; omega⟩⟩
end LC4
