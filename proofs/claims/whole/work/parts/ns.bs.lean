/-! FACES: the modules' columns change, the rest of the state stays; the base of the class's relation -/
section FC0
variable {T T' : TXs} {al al' : AL} {hi hi' h : HI} {hr hr' : HR} {s s' : HI} {A : Int → Int → Int} {NN NN' : Int → Option Nat} {E : Int → Prop} {p q m f v w i c e : Int} {B : Int → Int} {t N : Nat} {al0 : AL} {hi0 : HI} {hr0 : HR}
theorem bs1_n {a : Nat} (z : ¬ (51 ≤ a ∧ a ≤ 69)) : bs1 h s a i = s a i := if_neg z
theorem bs1_y {a : Nat} (z : 51 ≤ a ∧ a ≤ 69) : bs1 h s a i = h a i := if_pos z
theorem bs1_eq (e : ∀ a i, ¬ (51 ≤ a ∧ a ≤ 69) → s' a i = s a i) : s' = bs1 s' s := by
  funext a i
  by_cases z : 51 ≤ a ∧ a ≤ 69
  · exact (bs1_y z).symm
  · rw [bs1_n z]; exact e a i z
theorem wk_bs (c e : Int) (k : Nat) : wk B c (bs1 h s) e k = wk B c s e k := wk_tr (bs1_n (by decide)) k (fun j _ => bs1_n (by decide)) k (Nat.le_refl _)
theorem vOk_bs {ty : Int} (hv : vOk T s p m v w ty) : vOk T (bs1 h s) p m v w ty := hv.tr (Vt.rf (fun i => bs1_n (by decide)) (fun i => bs1_n (by decide)) (fun i => bs1_n (by decide)) (fun i => bs1_n (by decide)) (fun i => bs1_n (by decide)))
theorem Gl.bs (hg : Gl s) : Gl (bs1 h s) := by
  unfold Gl at hg ⊢
  simp only [bs1_n (h := h) (s := s) (show ¬ (51 ≤ 49 ∧ 49 ≤ 69) by decide), bs1_n (h := h) (s := s) (show ¬ (51 ≤ 89 ∧ 89 ≤ 69) by decide), bs1_n (h := h) (s := s) (show ¬ (51 ≤ 93 ∧ 93 ≤ 69) by decide), bs1_n (h := h) (s := s) (show ¬ (51 ≤ 109 ∧ 109 ≤ 69) by decide), bs1_n (h := h) (s := s) (show ¬ (51 ≤ 111 ∧ 111 ≤ 69) by decide), bs1_n (h := h) (s := s) (show ¬ (51 ≤ 112 ∧ 112 ≤ 69) by decide), bs1_n (h := h) (s := s) (show ¬ (51 ≤ 114 ∧ 114 ≤ 69) by decide)]
  exact hg
theorem ai_bs : ai (bs1 h s) p = ai s p := ai_eq (bs1_n (by decide))
theorem pl_bs : pl (bs1 h s) p i ↔ pl s p i := pl_eq ai_bs (fun x _ _ => bs1_n (by decide))
theorem Frm_bs {x : Int} {X : Tst} (hF : Frm T s p m x X) : Frm T (bs1 h s) p m x X := by
  obtain ⟨h1, h2, h3⟩ := hF
  refine ⟨(bs1_n (by decide)).trans h1, fun k a b => ?_, fun k a b => ?_⟩
  · rw [bs1_n (by decide), bs1_n (by decide)]; exact vOk_bs (h2 k a b)
  · rw [bs1_n (by decide), bs1_n (by decide)]; exact vOk_bs (h3 k a b)
theorem PO.bs (hm : ∀ m, Mg T s m → Mg T (bs1 h s) m) (hp : PO T s p) : PO T (bs1 h s) p := by
  obtain ⟨m, ⟨a1, a2, a3, a4, a5, a6⟩, b1, b2, ⟨c1, A, X, c2, c3, c4, c5⟩, d1⟩ := hp
  have e94 : bs1 h s 94 p = s 94 p := bs1_n (by decide)
  refine ⟨m, ⟨a1, by rw [e94]; exact a2, (bs1_n (by decide)).trans a3, hm m a4, by rw [bs1_n (by decide)]; exact a5, by rw [bs1_n (by decide)]; exact a6⟩, fun b b0 b9 => ?_, fun x x0 x1 => ?_, ?_, ?_⟩
  · obtain ⟨y1, y2⟩ := b1 b b0 b9
    rw [bs1_n (a := 100) (by decide), bs1_n (a := 302) (by decide)]
    refine ⟨y1, fun z => ⟨(y2 z).1, fun i i0 i1 => ?_⟩⟩
    rw [bs1_n (by decide), bs1_n (by decide)]
    exact vOk_bs ((y2 z).2 i i0 i1)
  · rw [ai_bs] at x1
    obtain ⟨y1, A', Z, n, y2, y3, y4, y5, y6, y7⟩ := b2 x x0 x1
    unfold SuI
    rw [bs1_n (a := 95) (by decide), bs1_n (a := 96) (by decide), bs1_n (a := 95) (by decide)]
    exact ⟨y1, A', Z, n, y2, y3, y4, y5, Frm_bs y6, y7⟩
  · unfold ToI
    rw [ai_bs, bs1_n (a := 95) (by decide), bs1_n (a := 96) (by decide)]
    exact ⟨c1, A, X, c2, c3, c4, Frm_bs c5⟩
  · exact d1.tr (fun i hi => ⟨pl_bs.mp hi, bs1_n (by decide), bs1_n (by decide)⟩) (fun v z => (bs1_n (by decide)).trans z) (fun v z => (bs1_n (by decide)).trans z)
theorem QM_bs {e c : Int} {k : Nat} (hq : QM T s e m c k) : QM T (bs1 h s) e m c k := by
  obtain ⟨y1, y2, y3, y4, y5, y6⟩ := hq
  unfold QM
  rw [wk_bs, bs1_n (a := 115) (by decide), bs1_n (a := 116) (by decide), bs1_n (a := 117) (by decide), bs1_n (a := 110) (by decide), bs1_n (a := 113) (by decide)]
  exact ⟨y1, y2, y3, y4.imp id (fun z => ⟨z.1, vOk_bs z.2⟩), y5, y6⟩
theorem hlf_bs {e : Int} (hq : hlf T s e) : hlf T (bs1 h s) e := by
  unfold hlf eB eC at hq ⊢
  rw [wk_bs, bs1_n (a := 114) (by decide), bs1_n (a := 112) (by decide), bs1_n (a := 118) (by decide), bs1_n (a := 114) (by decide)]
  exact hq
theorem INV.bs (hI : INV T s) (hm : ∀ m, Mg T s m → Mg T (bs1 h s) m) : INV T (bs1 h s) := by
  obtain ⟨h54, hG, hq, hl, hp⟩ := hI
  have ho : ∀ e, opn (bs1 h s) e ↔ opn s e := fun e => by unfold opn; rw [bs1_n (by decide)]
  refine ⟨by rw [bs1_n (by decide)]; exact h54, hG.bs, fun e he => ?_, fun e he he' => ?_, fun q q0 q1 q2 q3 => ?_⟩
  · obtain ⟨m, c, a1, a2, a3, a4, a5, a6, a7, a8⟩ := hq e ((ho e).mp he)
    refine ⟨m, c, (bs1_n (by decide)).trans a1, a2, a3, hm m a4, by rw [bs1_n (by decide)]; exact a5, by rw [bs1_n (by decide)]; exact a6, fun k hk => ?_, fun j k hjk hk => ?_⟩
    · rw [bs1_n (by decide)] at hk; exact QM_bs (a7 k hk)
    · rw [bs1_n (by decide)] at hk
      rw [bs1_n (a := 117) (by decide), bs1_n (a := 117) (by decide), bs1_n (a := 116) (by decide), bs1_n (a := 116) (by decide)]
      exact a8 j k hjk hk
  · obtain ⟨k1, k2⟩ := hl e ((ho e).mp he) ((ho _).mp he')
    refine ⟨?_, k2.imp hlf_bs hlf_bs⟩
    unfold eB eC at k1 ⊢
    rw [bs1_n (a := 118) (by decide), bs1_n (a := 118) (by decide)]
    exact k1
  · rw [bs1_n (by decide)] at q3
    exact PO.bs hm (hp q q0 q1 q2 q3)
theorem AllP.bs (hP : AllP s) : AllP (bs1 h s) := fun q q0 q1 q2 => by
  rw [bs1_n (by decide)] at q2
  obtain ⟨y1, y2, y3, y4⟩ := hP q q0 q1 q2
  rw [bs1_n (a := 94) (by decide), bs1_n (a := 92) (by decide), bs1_n (a := 49) (by decide)]
  refine ⟨y1, y2, fun x x0 x1 => ?_, y4⟩
  rw [bs1_n (by decide)]
  rw [ai_bs] at x1
  exact y3 x x0 x1
theorem Z90.bs (hZ : Z90 s) : Z90 (bs1 h s) := fun q hq => by
  rw [bs1_n (by decide)] at hq ⊢
  exact hZ q hq
theorem R91.bs (hZ : R91 s) : R91 (bs1 h s) := fun q q0 q1 => by
  rw [bs1_n (by decide)] at q1 ⊢
  exact hZ q q0 q1
theorem RelC.bs (hR : RelC T NN al0 hi0 hr0 E A al hi hr s) (hP : AllP s) : RelC T NN al0 hi0 hr0 E A al hi hr (bs1 h s) := by
  obtain ⟨a, b1, b2, b3, b4, b5, b6⟩ := hR
  have ho : ∀ e, opn (bs1 h s) e ↔ opn s e := fun e => by unfold opn; rw [bs1_n (by decide)]
  refine ⟨a, b1.cg (fun _ _ _ => rfl) (fun a i z => bs1_n (by omega)), b2.cg (fun _ _ _ _ => rfl) (fun b _ _ => bs1_n (by decide)) (fun b _ _ _ => ⟨bs1_n (by decide), fun j _ _ => bs1_n (by decide)⟩), ⟨b3.1.cg (fun _ _ _ _ => rfl) (fun e => bs1_n (by decide)) (fun e => bs1_n (by decide)) (fun e _ => ⟨bs1_n (by decide), bs1_n (by decide), fun k _ _ => ⟨bs1_n (by decide), bs1_n (by decide), bs1_n (by decide)⟩⟩), b3.2⟩, b4, fun q q0 q1 q2 => ?_, fun q t q0 q1 e q2 => ?_⟩
  · rw [bs1_n (by decide)] at q2
    obtain ⟨t, e, k⟩ := b5 q q0 q1 q2
    refine ⟨t, e, ?_⟩
    unfold TkH at k ⊢
    rw [bs1_n (a := 91) (by decide), bs1_n (a := 92) (by decide), bs1_n (a := 89) (by decide), bs1_n (a := 90) (by decide), bs1_n (a := 93) (by decide)]
    exact k
  · rw [bs1_n (by decide)] at q2
    obtain ⟨y1, y2, y3, y4⟩ := hP q q0 q1 q2
    exact (b6 q t q0 q1 e q2).fr (fun _ _ _ _ => rfl) ⟨rfl, rfl, rfl⟩ (fun _ _ _ => rfl) ⟨rfl, rfl⟩ (fun a i z => bs1_n (by unfold ownC at z; omega)) q0 y1.2 y2.2 y3
/-- .. of the reference's memory -/
theorem RelR.bs {h' : HI} (hR : RelR h s) (e : ∀ a i, ((87 ≤ a ∧ a ≤ 101) ∨ a = 103 ∨ a = 104 ∨ (109 ≤ a ∧ a ≤ 118) ∨ (a = 49 ∧ 51 ≤ i ∧ i ≤ 56)) → h' a i = h a i) : RelR h' (bs1 h' s) := by
  refine ⟨fun a i z => ?_, fun p p0 p1 => ?_⟩
  · by_cases y : 51 ≤ a ∧ a ≤ 69
    · exact (bs1_y y).symm
    · rw [bs1_n y, e a i (by omega)]; exact hR.1 a i z
  · have := hR.2 p p0 p1
    have e1 : ∀ i, h' 101 i = h 101 i := fun i => e 101 i (by omega)
    have e3 : ∀ i, h' 103 i = h 103 i := fun i => e 103 i (by omega)
    have e4 : ∀ i, h' 104 i = h 104 i := fun i => e 104 i (by omega)
    unfold LR at this ⊢
    simp only [bs1_n (h := h') (s := s) (show ¬ (51 ≤ 100 ∧ 100 ≤ 69) by decide), bs1_n (h := h') (s := s) (show ¬ (51 ≤ 300 ∧ 300 ≤ 69) by decide), bs1_n (h := h') (s := s) (show ¬ (51 ≤ 301 ∧ 301 ≤ 69) by decide), e1, e3, e4]
    exact this
/-- a module's parts elsewhere in the memory -/
theorem GM.fx (hR : RelC T NN al0 hi0 hr0 E A al hi hr s) (g : GM al0 hi0 hr0 N B) : GM al hi hr N B := by
  obtain ⟨n, L, g1, g2⟩ := g
  obtain ⟨⟨a1, a2, ⟨⟨c, z, x1⟩, x2, x3, x4, -⟩, a4⟩, -⟩ := hR
  have n119 := g1.n119
  obtain ⟨M, h1, h2, h3, h4, h5⟩ := id g1
  have k : ∀ a, N ≤ a → a < L → ¬ Zt hr a := fun a y1 y2 y3 => g2 a y1 y2 (x4 a (by omega) y3)
  exact ⟨n, L, g1.fr x1 (fun i => (x2 0 i (by decide)).1) (fun a i y1 y2 => (x3 a i (by omega) (by omega) (k a y1 y2)).1) (fun a i y1 y2 => (x3 a i (by omega) (by omega) (k a y1 y2)).2), k⟩
/-- the base is the memory as it is -/
theorem RelC.rb (hR : RelC T NN al0 hi0 hr0 E A al hi hr s) (hB : Bs T NN al0 hi0 hr0) : RelC T NN al hi hr E A al hi hr s ∧ Bs T NN al hi hr := by
  have hA := hR.1.1
  obtain ⟨⟨c, z, x1⟩, -⟩ := hR.1.2.2.1
  refine ⟨⟨⟨hR.1.1, hR.1.2.1, ⟨⟨0, 0, GA.rf⟩, fun _ _ _ => ⟨rfl, rfl⟩, fun _ _ _ _ _ => ⟨rfl, rfl⟩, fun _ _ z => z, hR.1.2.2.1.2.2.2.2⟩, ⟨Nat.le_refl _, Nat.le_refl _⟩⟩, hR.2⟩, fun m N hN => ?_, hA⟩
  obtain ⟨g1, g2⟩ := hR.gm hB hN
  exact ⟨g1, Nat.lt_of_lt_of_le g2 x1.1⟩
/-- the memory changes elsewhere -/
def XC (al : AL) (hi : HI) (hr : HR) (al' : AL) (hi' : HI) (hr' : HR) : Prop := (∃ c z, GA al al' c z) ∧ ∀ a i, ((26 ≤ a ∧ a < 49) ∨ (119 ≤ a ∧ a < al.1)) → hi' a i = hi a i ∧ hr' a i = hr a i
theorem XC.zt (hE : XC al hi hr al' hi' hr') (a : Nat) : Zt hr' a ↔ Zt hr a := by unfold Zt; simp only [(hE.2 27 _ (Or.inl (by decide))).2]
theorem GM.ex (g : GM al hi hr N B) (hE : XC al hi hr al' hi' hr') (h0 : ∀ i, hi' 0 i = hi 0 i) : GM al' hi' hr' N B := by
  obtain ⟨n, L, g1, g2⟩ := g
  have n119 := g1.n119
  obtain ⟨M, h1, h2, h3, h4, h5⟩ := id g1
  obtain ⟨⟨c, z, x1⟩, x2⟩ := id hE
  exact ⟨n, L, g1.fr x1 h0 (fun a i y1 y2 => (x2 a i (by omega)).1) (fun a i y1 y2 => (x2 a i (by omega)).2), fun a y1 y2 y3 => g2 a y1 y2 ((hE.zt a).mp y3)⟩
theorem TkA.ex (hT : TkA al hr) (hE : XC al hi hr al' hi' hr') : TkA al' hr' := by
  obtain ⟨H1, H2, H3⟩ := hT
  obtain ⟨⟨c9, z9, g⟩, e⟩ := id hE
  have r27 : ∀ i, hr' 27 i = hr 27 i := fun i => (e 27 i (Or.inl (by decide))).2
  have pls : ∀ a, pool hr' a ↔ pool hr a := fun a => by unfold pool; simp only [r27]
  have up : ∀ {t}, TkS al hr t → ∀ j i, j ≤ 6 → hr' (t + j) i = hr (t + j) i := fun {t} h j i hj => (e _ i (by
    have h1 := h.1.1
    have h2 := h.2.2.2.2.2.2.1.2.1
    omega)).2
  refine ⟨fun q t q0 q1 e' => ?_, ?_, fun q q' t t' q0 q1 q0' q1' hq e1 e2 => ?_⟩
  · rw [r27] at e'
    obtain ⟨w1, c, w2, w3, w4⟩ := H1 q t q0 q1 e'
    have u := fun i => up w1 0 i (by decide)
    simp only [Nat.add_zero] at u
    refine ⟨?_, c, (u _).trans w2, (pls c).mpr w3, by rw [(e 26 5 (Or.inl (by decide))).2]; exact w4⟩
    obtain ⟨⟨t119, k0⟩, ⟨a1, b1, c1⟩, ⟨a2, b2, c2⟩, ⟨a3, b3, c3⟩, ⟨a4, b4, c4⟩, ⟨a5, b5, c5⟩, b6, c6⟩ := w1
    exact ⟨⟨t119, g.k k0⟩, ⟨(u _).trans a1, g.k b1, (g.l b1.2.1).trans c1⟩, ⟨(u _).trans a2, g.k b2, (g.l b2.2.1).trans c2⟩, ⟨(u _).trans a3, g.k b3, (g.l b3.2.1).trans c3⟩, ⟨(u _).trans a4, g.k b4, (g.l b4.2.1).trans c4⟩, ⟨(u _).trans a5, g.k b5, (g.l b5.2.1).trans c5⟩, g.k b6, (g.l b6.2.1).trans c6⟩
  · obtain ⟨c, w1, w2⟩ := H2
    exact ⟨c, ((e 26 5 (Or.inl (by decide))).2).trans w1, (pls c).mpr w2⟩
  · rw [r27] at e1 e2
    have z1 := up (H1 q t q0 q1 e1).1 0 15 (by decide)
    have z2 := up (H1 q' t' q0' q1' e2).1 0 15 (by decide)
    simp only [Nat.add_zero] at z1 z2
    rw [z1, z2]
    exact H3 q q' t t' q0 q1 q0' q1' hq e1 e2
theorem RelC.ex (hR : RelC T NN al hi hr E A al hi hr s) (hB : Bs T NN al hi hr) (hP : AllP s) (hE : XC al hi hr al' hi' hr') (hC' : CR hr') (h0 : ∀ i, hi' 0 i = hi 0 i) : RelC T NN al' hi' hr' E A al' hi' hr' s ∧ Bs T NN al' hi' hr' := by
  obtain ⟨⟨c9, z9, g⟩, e⟩ := id hE
  obtain ⟨⟨a1, a2, a3, a4⟩, b1, b2, b3, b4, b5, b6⟩ := id hR
  have al119 : 119 ≤ al.1 := a1.1
  have r27 : ∀ i, hr' 27 i = hr 27 i := fun i => (e 27 i (Or.inl (by decide))).2
  have low : ∀ (a : Nat) i, 26 ≤ a → a < 49 → hi' a i = hi a i := fun a i y1 y2 => (e a i (Or.inl ⟨y1, y2⟩)).1
  have hB' : Bs T NN al' hi' hr' := ⟨fun m N hN => ⟨(hB.1 m N hN).1.ex hE h0, Nat.lt_of_lt_of_le (hB.1 m N hN).2 g.1⟩, g.sa a1⟩
  have tl : ∀ {q t}, 0 ≤ q → q < 12 → hr 27 q = some t → 119 ≤ t ∧ t + 6 < al.1 := fun q0 q1 e1 => ⟨(b4.1 _ _ q0 q1 e1).1.1.1, (b4.1 _ _ q0 q1 e1).1.2.2.2.2.2.2.1.2.1⟩
  refine ⟨⟨⟨g.sa a1, hC', ⟨⟨0, 0, GA.rf⟩, fun _ _ _ => ⟨rfl, rfl⟩, fun _ _ _ _ _ => ⟨rfl, rfl⟩, fun _ _ z => z, fun q t q0 q1 e1 => ?_⟩, ⟨Nat.le_refl _, Nat.le_refl _⟩⟩, b1.cg (fun a i z => low a i (by omega) (by omega)) (fun _ _ _ => rfl), b2.cg (fun a i z1 z2 => low a i (by omega) (by omega)) (fun _ _ _ => rfl) (fun _ _ _ _ => ⟨rfl, fun _ _ _ => rfl⟩), ⟨?_, b3.2.cg (fun a i z => low a i (by omega) (by omega))⟩, b4.ex hE, fun q q0 q1 q2 => ?_, fun q t q0 q1 e1 q2 => ?_⟩, hB'⟩
  · rw [r27] at e1
    obtain ⟨t1, t2⟩ := tl q0 q1 e1
    rw [(e t 0 (by omega)).1]
    exact a3.2.2.2.2 q t q0 q1 e1
  · obtain ⟨u0, u1, u2⟩ := b3.1.cg (hi' := hi') (s' := s) (fun a i z1 z2 => low a i (by omega) (by omega)) (fun _ => rfl) (fun _ => rfl) (fun _ _ => ⟨rfl, rfl, fun _ _ _ => ⟨rfl, rfl, rfl⟩⟩)
    refine ⟨u0, u1, fun c y0 y1 y2 => ?_⟩
    obtain ⟨m', cc, N', o, o1, o2, o3, o4, o5⟩ := u2 c y0 y1 y2
    obtain ⟨gm, -⟩ := hB.1 m' N' o1
    obtain ⟨n, L, g1, g2⟩ := gm
    have n119 := g1.n119
    have ms : MS al hr N' := (GM.ms ⟨n, L, g1, g2⟩).1
    refine ⟨m', cc, N', o, o1, o2, ?_, by rw [(e 37 c (Or.inl (by decide))).2]; exact o4, o5⟩
    have k4 : N' + 4 < al.1 := by
      obtain ⟨-, -, -, -, ⟨-, k, -⟩, -⟩ := id ms
      exact k.2.1
    rw [(e (N' + 4) cc (by omega)).2]; exact o3
  · obtain ⟨t, e1, k⟩ := b5 q q0 q1 q2
    obtain ⟨t1, t2⟩ := tl q0 q1 e1
    refine ⟨t, (r27 q).trans e1, ?_⟩
    have c : ∀ i, hi' t i = hi t i := fun i => (e t i (by omega)).1
    unfold TkH at k ⊢
    simp only [c]
    exact k
  · rw [r27] at e1
    obtain ⟨t1, t2⟩ := tl q0 q1 e1
    obtain ⟨y1, y2, y3, y4⟩ := hP q q0 q1 q2
    refine (b6 q t q0 q1 e1 q2).fr (fun a i z1 z2 => (e a i (by omega)).1) ⟨(e t _ (by omega)).1, (e t _ (by omega)).1, (e t _ (by omega)).1⟩ (fun c i hc => ?_) ⟨(e t _ (by omega)).2, (e t _ (by omega)).2⟩ (fun _ _ _ => rfl) q0 y1.2 y2.2 y3
    obtain ⟨-, c', v2, v3, v4⟩ := b4.1 q t q0 q1 e1
    rw [v2] at hc; cases hc
    have ck := (b4.pk a1 v3).1.2.1
    rcases b4.pz v3 with z | z
    · exact (e c i (by omega)).1
    · exact (e c i (by omega)).1
end FC0
