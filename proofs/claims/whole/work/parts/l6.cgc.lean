/-! RUNNING, the class: what a collection leaves -/
section CG4
variable {d : Nat} {Q : QQ} {T : TXs} {al al' : AL} {hi hi' : HI} {hr hr' : HR} {s s' : HI} {A A' : Int → Int → Int} {NN : Int → Option Nat} {E : Int → Prop} {p q m f v w x : Int} {B : Int → Int} {X Y : Tst} {t t' N c0 c1 : Nat} {al0 : AL} {hi0 : HI} {hr0 : HR} {a' : Int → Int} {fr : Int}
theorem RelC.gm (hR : RelC T NN al0 hi0 hr0 E A al hi hr s) (hB : Bs T NN al0 hi0 hr0) (hN : NN m = some N) : GM al hi hr N (T m) ∧ N < al0.1 := by
  obtain ⟨⟨n, L, g1, g2⟩, g3⟩ := hB.1 m N hN
  obtain ⟨⟨a1, a2, ⟨⟨c, z, x1⟩, x2, x3, x4, -⟩, a4⟩, -⟩ := hR
  have n119 := g1.n119
  obtain ⟨M, h1, h2, h3, h4, h5⟩ := id g1
  have k : ∀ a, N ≤ a → a < L → ¬ Zt hr a := fun a y1 y2 y3 => g2 a y1 y2 (x4 a (by omega) y3)
  exact ⟨⟨n, L, g1.fr x1 (fun i => (x2 0 i (by decide)).1) (fun a i y1 y2 => (x3 a i (by omega) (by omega) (k a y1 y2)).1) (fun a i y1 y2 => (x3 a i (by omega) (by omega) (k a y1 y2)).2), k⟩, g3⟩
/-- the parts of a module that stand -/
theorem GM.ms (h : GM al hi hr N B) : MS al hr N ∧ 119 ≤ N ∧ (∀ a, N ≤ a → a ≤ N + 6 → ¬ Zt hr a) ∧ (∀ r, 0 ≤ r → r < nRec B → hi (N + 3) r = ptB B r (nFld B r).toNat) ∧ (∀ c, 0 ≤ c → c < nCtr B → ∃ o, hr (N + 4) c = some o ∧ CtrOK al hi hr B c o ∧ ∀ a, o ≤ a → a ≤ o + 4 → 119 ≤ a ∧ ¬ Zt hr a) := by
  obtain ⟨n, L, ⟨M, h1, h2, h3, h4, h5⟩, g2⟩ := h
  obtain ⟨⟨m1, m2, m3, m4⟩, -, -, m5, m6, -⟩ := h1
  refine ⟨m1, m2, fun a y1 y2 => g2 a y1 (by omega), fun r r0 r1 => (m5 r r0 r1).2, fun c c0 c1 => ?_⟩
  obtain ⟨o, o1, o2, o3, o4⟩ := m6 c c0 c1
  exact ⟨o, o1, o4, fun a y1 y2 => ⟨by omega, g2 a (by omega) (by omega)⟩⟩
theorem HpC.cb {c : Nat} (hH : HpC A hi c fr s p) (hB : HBd s p) (h92 : s 92 p ≤ 1024) : CB A s p := by
  obtain ⟨k1, k2⟩ := hH.rsm_ hB
  have b1 := hH.1
  refine ⟨fun b hb => ?_, fun b b' hb hb' hne => hH.2.2.1 b b' (k1 b hb) (k1 b' hb') hne, by omega⟩
  obtain ⟨y1, y2, y3, -⟩ := hH.2.1 b (k1 b hb)
  exact ⟨y1, y2, y3.1, by have := y3.2; unfold zz; omega⟩
theorem RelC.cln (hR : RelC T NN al0 hi0 hr0 E A al hi hr s) (hO : OnP hr s p t) (hBs : Bs T NN al0 hi0 hr0) (hP : PJ T s p m f X) : ∃ N c0 c1, ClN T A al hi hr s p m t N c0 c1 ∧ hr 26 5 = some c1 ∧ pool hr c0 ∧ pool hr c1 := by
  obtain ⟨tS, ⟨⟨N, hNN, e1⟩, ⟨e7, e8⟩, h5, h6, c0, e15, hH⟩, tH⟩ := hR.tf hO
  obtain ⟨⟨p0, p1⟩, ht, h89, ⟨a1, a16⟩, ⟨r0, r1⟩, h97, h56⟩ := id hO
  have b4 := hR.2.2.2.2.1
  have hA := hR.1.1
  obtain ⟨-, c', c1', c2', c3'⟩ := b4.1 p t p0 p1 ht
  rw [e15] at c1'; cases c1'
  obtain ⟨c1, s1, s2⟩ := b4.2.1
  have hm91 : s 91 p = m := hP.1.2.2.1
  rw [hm91] at hNN
  obtain ⟨gm, -⟩ := hR.gm hBs hNN
  obtain ⟨ms, n119, nz, np, -⟩ := gm.ms
  have hbd := hP.hbd
  have z0 := b4.pz c2'
  have z1 := b4.pz s2
  have nzt : ¬ (t ≤ N + 3 ∧ N + 3 ≤ t + 6) := fun y => nz (N + 3) (by omega) (by omega) ⟨p, t, p0, p1, ht, y.1, y.2⟩
  have k9 := tS.1.2
  refine ⟨N, c0, c1, ⟨⟨p0, p1⟩, ⟨a1, a16⟩, h97, tS, b4.pk hA c2', b4.pk hA s2, fun e => by rw [e] at c3'; exact c3' s1, ⟨b4.c c2' p0 p1 ht, b4.c s2 p0 p1 ht⟩, e15, e7, fun a x0 x1 => (h5 a x0 x1).2.2, h6, hH.cb hbd r1, fun b hb => ?_, fun b i hb i0 i1 w1 => ?_, fun i hi w1 => ?_, hP.1.2.2.2.1, hP.2.1, e1, ⟨ms.1, ms.2.2.2.1.1, ms.2.2.2.1.2.1, ms.2.2.2.1.2.2⟩, ⟨fun e => ?_, fun e => ?_, fun y => nzt ⟨y.1, by omega⟩⟩, fun e => isK_ne ms.1 k9 (by decide) e, np⟩, s1, c2', s2⟩
  · obtain ⟨k1, k2⟩ := hH.rsm_ hbd
    obtain ⟨y1, y2, y3, y4, y5⟩ := hH.2.1 b (k1 b hb)
    exact ⟨y4, fun i i0 i1 => (y5 i i0 i1).1⟩
  · obtain ⟨y1, y2⟩ := hP.rch_ hb
    have hv := ((hP.2.1 b y1.1 y1.2).2 (by omega)).2 i i0 i1
    rcases hv.w1 w1 with z | z
    · omega
    · omega
  · obtain ⟨ty, hv⟩ := hP.any hi
    rcases hv.w1 w1 with z | z
    · exact Or.inl z
    · exact Or.inr (rch_r (pl_rot hi w1 (by omega)))
  · rcases z0 with y | y
    · omega
    · exact nz (N + 3) (by omega) (by omega) (by rw [e]; exact y.2)
  · rcases z1 with y | y
    · omega
    · exact nz (N + 3) (by omega) (by omega) (by rw [e]; exact y.2)
/-- those that were moved are those that are reached -/
theorem CI.all (hC : CI A s p c0 c1 a' fr fr 0 hi) (hV : VRo A s p t a' (s 94 p) 0 hi') (hB : CB A s p) : (∀ b, a' b ≠ 0 ↔ rch s p b) ∧ fr - 1 = rsm s p := by
  obtain ⟨⟨b1, b2, b3⟩, i2, i3, i4, i5, i6⟩ := hC
  have key : ∀ b, a' b ≠ 0 ↔ rch s p b := fun b => by
    refine ⟨fun z => (i2 b z).1, fun z => ?_⟩
    refine z (fun b => a' b ≠ 0) (fun x hx => ?_) (fun x i hx i0 i1 w1 w2 => ?_)
    · obtain ⟨a, k, z1, z2, z3, z4, z5, z6, z7⟩ := hx
      have := ((hV a k z1 z2 z3 z4).1 (Or.inl z2)).2 z5 (by omega)
      rw [z6] at this; exact this
    · obtain ⟨j1, j2, j3, j4, j5⟩ := i2 x hx
      have zx := (hB.1 x j1).2.1
      exact ((j5 i i0 i1).1 (Or.inl (by omega))).2 w1 (by omega)
  refine ⟨key, ?_⟩
  rw [i6, rsm_sA]
  exact congrArg _ (sA_cg (fun b _ _ => key b))
def swp (hr : HR) (t c0 c1 : Nat) : HR := upR (upR hr t 15 (some c1)) 26 5 (some c0)
theorem RelC.gc (hR : RelC T NN al0 hi0 hr0 E A al hi hr s) (hO : OnP hr s p t) (hAP : AllP s) (hBs : Bs T NN al0 hi0 hr0) (hN : ClN T A al hi hr s p m t N c0 c1) (s1 : hr 26 5 = some c1) (pc0 : pool hr c0) (pc1 : pool hr c1) (hC : CI A s p c0 c1 a' fr fr 0 hi') (hV : VRo A s p t a' (s 94 p) 0 hi') (h16 : hi' t 16 = fr) (hw : FW (wCo t c0 c1) hi hi') (hfr : fr ≤ s 92 p + 1) : RelC T NN al0 hi0 hr0 E (fun q b => if q = p then a' b else A q b) al hi' (swp hr t c0 c1) s ∧ OnP (swp hr t c0 c1) s p t := by
  obtain ⟨⟨p0, p1⟩, ⟨x1, x16⟩, h97, ⟨⟨t119, k9⟩, tS⟩, kc0, kc1, hne, ⟨hn0, hn1⟩, e15, e7, hh, hv, hB, hold, hng, hrt, hM, hH, e1, hNs, ⟨n30, n31, n3t⟩, nNt, hPt⟩ := hN
  have hallK := hC.all hV hB
  have ht := hO.2.1
  obtain ⟨⟨a1, a2, a3, a4⟩, b1, b2, b3, b4, b5, b6⟩ := id hR
  have z0 := b4.pz pc0
  have z1 := b4.pz pc1
  have hw2 : ∀ (a : Nat) i, a ≠ c0 → a ≠ c1 → a ≠ t + 5 → ¬ (a = t ∧ i = 16) → hi' a i = hi a i := fun a i y1 y2 y3 y4 => hw a i (by unfold wCo; omega)
  have low : ∀ (a : Nat) i, a < 119 → a ≠ 43 → hi' a i = hi a i := fun a i y1 y2 => hw2 a i (by rcases z0 with z | z <;> omega) (by rcases z1 with z | z <;> omega) (by omega) (by omega)
  have rS : ∀ (a : Nat) (i : Int), ¬ (a = t ∧ i = 15) → ¬ (a = 26 ∧ i = 5) → swp hr t c0 c1 a i = hr a i := fun a i y1 y2 => by unfold swp upR; rw [if_neg y2, if_neg y1]
  have rt15 : swp hr t c0 c1 t 15 = some c1 := by unfold swp; rw [upR_a (by omega), upR_eq]
  have r265 : swp hr t c0 c1 26 5 = some c0 := by unfold swp; rw [upR_eq]
  have r27 : ∀ i, swp hr t c0 c1 27 i = hr 27 i := fun i => rS _ _ (by omega) (by omega)
  have zt : ∀ a, Zt (swp hr t c0 c1) a ↔ Zt hr a := fun a => by unfold Zt; simp only [r27]
  have pls : ∀ a, pool (swp hr t c0 c1) a ↔ pool hr a := fun a => by unfold pool; simp only [r27]
  have tc : ∀ n, tcn (swp hr t c0 c1) n = tcn hr n := fun n => by
    induction n with
    | zero => rfl
    | succ n ih => unfold tcn; rw [ih, r27]
  have CRk : ∀ p ∈ crl, ¬ (p.1 = 26 ∧ p.2.1 = 5) ∧ p.1 < 119 := by decide
  have tsk : ∀ {t'}, TkS al hr t' → TkS al (swp hr t c0 c1) t' := fun {t'} h => by
    unfold TkS at h ⊢
    have : 119 ≤ t' := h.1.1
    simp only [rS t' 9 (by omega) (by omega), rS t' 10 (by omega) (by omega), rS t' 11 (by omega) (by omega), rS t' 12 (by omega) (by omega), rS t' 13 (by omega) (by omega)]
    exact h
  have dist : ∀ q t', 0 ≤ q → q < 12 → hr 27 q = some t' → q ≠ p → t' ≠ t := fun q t' q0 q1 e y => by
    have := b4.ne ⟨q0, q1⟩ ⟨p0, p1⟩ e ht y
    omega
  refine ⟨⟨⟨a1, fun pr hpr => ?_, ⟨a3.1, fun a i z => ?_, fun a i y1 y2 y3 => ?_, fun a y1 y2 => a3.2.2.2.1 a y1 ((zt a).mp y2), fun q t' q0 q1 e => by
    rw [r27] at e
    have u0 := b4.c pc0 q0 q1 e
    have u1 := b4.c pc1 q0 q1 e
    have u2 : t' ≠ t + 5 := by
      by_cases y : q = p
      · subst y; rw [ht] at e; cases e; omega
      · have := b4.ne ⟨q0, q1⟩ ⟨p0, p1⟩ e ht y; omega
    rw [hw2 t' 0 (by omega) (by omega) u2 (by omega)]
    exact a3.2.2.2.2 q t' q0 q1 e⟩, ?_⟩, ?_, ?_, ?_, ⟨fun q t' q0 q1 e => ?_, ⟨c0, r265, (pls c0).mpr pc0⟩, fun q q' t1 t2 q0 q1 q0' q1' hqq e e' => ?_⟩, fun q q0 q1 q2 => ?_, fun q t' q0 q1 e q2 => ?_⟩, ⟨⟨p0, p1⟩, (r27 p).trans ht, hO.2.2⟩⟩
  · have := CRk pr hpr
    rw [rS _ _ (by omega) this.1]; exact a2 pr hpr
  · rw [low a i (by omega) (by omega), rS a i (by omega) (by omega)]; exact a3.2.1 a i z
  · have y3' : ¬ Zt hr a := fun u => y3 ((zt a).mpr u)
    have nt : ¬ (t ≤ a ∧ a ≤ t + 6) := fun u => y3' ⟨p, t, p0, p1, ht, u.1, u.2⟩
    have n0 : a ≠ c0 := fun u => by rcases z0 with z | z; omega; exact y3' (by rw [u]; exact z.2)
    have n1 : a ≠ c1 := fun u => by rcases z1 with z | z; omega; exact y3' (by rw [u]; exact z.2)
    rw [hw2 a i n0 n1 (by omega) (by omega), rS a i (by omega) (by omega)]
    exact a3.2.2.1 a i y1 y2 y3'
  · unfold RoomC at a4 ⊢; rw [tc]; exact a4
  · unfold MaC at b1 ⊢
    simp only [low 26 _ (by decide) (by decide), low 28 _ (by decide) (by decide), low 44 _ (by decide) (by decide), low 45 _ (by decide) (by decide)]
    exact b1
  · unfold BlC at b2 ⊢
    simp only [low 29 _ (by decide) (by decide), low 30 _ (by decide) (by decide), low 31 _ (by decide) (by decide), low 32 _ (by decide) (by decide)]
    exact b2
  · obtain ⟨⟨u0, u1, u2⟩, u3⟩ := b3
    refine ⟨⟨u0, ?_, fun c y0 y1 y2 => ?_⟩, ?_⟩
    · simp only [low 34 _ (by decide) (by decide), low 35 _ (by decide) (by decide), low 36 _ (by decide) (by decide), low 38 _ (by decide) (by decide), low 39 _ (by decide) (by decide), low 40 _ (by decide) (by decide), low 41 _ (by decide) (by decide)]
      exact u1
    · obtain ⟨m', cc, N', o, o1, o2, o3, o4, o5⟩ := u2 c y0 y1 y2
      obtain ⟨gm, -⟩ := hR.gm hBs o1
      obtain ⟨ms, n119, nz, -⟩ := gm.ms
      have : N' + 4 ≠ t := fun u => nz (N' + 4) (by omega) (by omega) ⟨p, t, p0, p1, ht, by omega, by omega⟩
      exact ⟨m', cc, N', o, o1, o2, (rS _ _ (by omega) (by omega)).trans o3, (rS _ _ (by omega) (by omega)).trans o4, o5⟩
    · have oc := opc_c (hi := hi) (hi' := hi') (fun i => low 34 i (by decide) (by decide)) 24
      unfold ClL at u3 ⊢
      simp only [oc, low 33 _ (by decide) (by decide), low 42 _ (by decide) (by decide)]
      exact u3
  · rw [r27] at e
    obtain ⟨w1, c, w2, w3, w4⟩ := b4.1 q t' q0 q1 e
    refine ⟨tsk w1, ?_⟩
    by_cases y : q = p
    · subst y
      rw [ht] at e; cases e
      exact ⟨c1, rt15, (pls c1).mpr pc1, by rw [r265]; intro u; cases u; exact hne rfl⟩
    · have hd := dist q t' q0 q1 e y
      refine ⟨c, (rS _ _ (by omega) (by have := w1.1.1; omega)).trans w2, (pls c).mpr w3, ?_⟩
      rw [r265]; intro u; cases u
      exact (b4.2.2 q p t' t q0 q1 p0 p1 y e ht).2 (w2.trans e15.symm)
  · rw [r27] at e e'
    obtain ⟨w1, w2⟩ := b4.2.2 q q' t1 t2 q0 q1 q0' q1' hqq e e'
    refine ⟨w1, ?_⟩
    have k1 := (b4.1 q t1 q0 q1 e).1.1.1
    have k2 := (b4.1 q' t2 q0' q1' e').1.1.1
    by_cases y : q = p
    · subst y
      rw [ht] at e; cases e
      have hd := dist q' t2 q0' q1' e' (fun u => hqq u.symm)
      rw [rt15, rS t2 15 (by omega) (by omega)]
      intro u
      obtain ⟨-, c, v2, v3, v4⟩ := b4.1 q' t2 q0' q1' e'
      rw [v2] at u; cases u
      exact v4 s1
    · have hd := dist q t1 q0 q1 e y
      rw [rS t1 15 (by omega) (by omega)]
      by_cases y' : q' = p
      · subst y'
        rw [ht] at e'; cases e'
        rw [rt15]
        intro u
        obtain ⟨-, c, v2, v3, v4⟩ := b4.1 q t1 q0 q1 e
        rw [v2] at u; cases u
        exact v4 s1
      · have hd' := dist q' t2 q0' q1' e' y'
        rw [rS t2 15 (by omega) (by omega)]
        exact w2
  · obtain ⟨t', e', w⟩ := b5 q q0 q1 q2
    have k1 := (b4.1 q t' q0 q1 e').1.1.1
    have hc0 := b4.c pc0 q0 q1 e'
    have hc1 := b4.c pc1 q0 q1 e'
    have nt5 : t' ≠ t + 5 := fun u => by
      by_cases y : q = p
      · subst y; rw [ht] at e'; cases e'; omega
      · have := b4.ne ⟨q0, q1⟩ ⟨p0, p1⟩ e' ht y; omega
    refine ⟨t', (r27 q).trans e', ?_⟩
    unfold TkH at w ⊢
    have c : ∀ i : Int, i ≤ 6 → hi' t' i = hi t' i := fun i z => hw2 t' i (by omega) (by omega) nt5 (by omega)
    rw [c 0 (by decide), c 2 (by decide), c 3 (by decide), c 4 (by decide), c 5 (by decide), c 6 (by decide)]
    exact w
  · rw [r27] at e
    by_cases y : q = p
    · subst y
      rw [ht] at e; cases e
      obtain ⟨⟨N9, u1, u2⟩, ⟨u3, u4⟩, u5, u6, c9, u7, u8⟩ := b6 q t q0 q1 ht q2
      have ev : ∀ v w, vm (fun q' b => if q' = q then a' b else A q' b) q v w = vmf a' v w := fun v w => by unfold vm vmf; simp only [eq_self, if_true]
      have eA : ∀ b, (fun (q' b : Int) => if q' = q then a' b else A q' b) q b = a' b := fun b => if_pos rfl
      refine ⟨⟨N9, u1, (rS _ _ (by omega) (by omega)).trans u2⟩, by rw [hw2 _ _ (by omega) (by omega) (by omega) (by omega), hw2 _ _ (by omega) (by omega) (by omega) (by omega)]; exact ⟨u3, u4⟩, fun a y0 y1 => by rw [hw2 _ _ (by omega) (by omega) (by omega) (by omega), hw2 _ _ (by omega) (by omega) (by omega) (by omega), hw2 _ _ (by omega) (by omega) (by omega) (by omega)]; exact u5 a y0 y1, fun a k y0 y1 k0 k1 => ?_, c1, rt15, ?_⟩
      · rw [hw2 (t + 4) _ (by omega) (by omega) (by omega) (by omega), ev]
        exact ⟨(u6 a k y0 y1 k0 k1).1, ((hV a k y0 y1 k0 k1).1 (Or.inl y1)).1⟩
      · rw [h16]
        obtain ⟨⟨d1, d2, d3⟩, i2, i3, i4, i5, i6⟩ := hC
        refine ⟨⟨by omega, hfr⟩, fun b hb => ?_, fun b b' hb hb' hbb => ?_, fun i hi w1 w2 => ?_⟩
        · have hb : a' b ≠ 0 := by have := hb; simp only [eq_self, if_true] at this; exact this
          obtain ⟨j1, j2, j3, j4, j5⟩ := i2 b hb
          obtain ⟨g1, g2, g3, g4⟩ := hB.1 b j1
          have e9 : (fun (q' b : Int) => if q' = q then a' b else A q' b) q b = a' b := if_pos rfl
          refine ⟨g1, g2, ?_, ?_, fun i i0 i1 => ?_⟩
          · simp only [eq_self, if_true]; exact j2
          · simp only [eq_self, if_true]; exact j3
          · obtain ⟨k1, k2⟩ := (j5 i i0 i1).1 (Or.inl (by have : 1 ≤ zz s q b := g2; omega))
            rw [ev]
            simp only [eq_self, if_true]
            exact ⟨k1, k2⟩
        · simp only [eq_self, if_true] at hb hb' ⊢
          exact i3 b b' hb hb' hbb
        · simp only [eq_self, if_true]
          obtain ⟨x, k, y1, y2, y3, y4, rfl⟩ := hi
          have := ((hV (x - 16 * q) k (by omega) (by unfold ai at y2; omega) y3 (by rw [show 16 * q + (x - 16 * q) = x by omega]; exact y4)).1 (Or.inl (by unfold ai at y2; omega))).2
          rw [show 16 * q + (x - 16 * q) = x by omega] at this
          exact this w1 w2
    · have hd := b4.ne ⟨q0, q1⟩ ⟨p0, p1⟩ e ht y
      have k1 := (b4.1 q t' q0 q1 e).1.1.1
      have hc0 := b4.c pc0 q0 q1 e
      have hc1 := b4.c pc1 q0 q1 e
      obtain ⟨y1, y2, y3, y4⟩ := hAP q q0 q1 q2
      refine ((b6 q t' q0 q1 e q2).A_ (A' := fun q b => if q = p then a' b else A q b) (fun b => if_neg y)).fr (fun a i w1 w2 => hw2 a i (by omega) (by omega) (by omega) (by omega)) ⟨hw2 _ _ (by omega) (by omega) (by omega) (by omega), hw2 _ _ (by omega) (by omega) (by omega) (by omega), hw2 _ _ (by omega) (by omega) (by omega) (by omega)⟩ (fun c i w => ?_) ⟨rS _ _ (by omega) (by omega), rS _ _ (by omega) (by omega)⟩ (fun a i _ => rfl) q0 y1.2 y2.2 y3
      obtain ⟨-, c', v2, v3, v4⟩ := b4.1 q t' q0 q1 e
      rw [v2] at w; cases w
      have nc0 : c ≠ c0 := fun u => (b4.2.2 q p t' t q0 q1 p0 p1 y e ht).2 (by rw [v2, e15, u])
      have nc1 : c ≠ c1 := fun u => v4 (by rw [u]; exact s1)
      have nct := b4.c v3 p0 p1 ht
      exact hw2 c i nc0 nc1 (by omega) (by omega)
end CG4
