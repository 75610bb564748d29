/-! RUNNING, the class: the heap's relation, when a box is made -/
section CM1
variable {d : Nat} {Q : QQ} {T : TXs} {al al' : AL} {hi hi' : HI} {hr hr' : HR} {s s' : HI} {A A' : Int → Int → Int} {NN : Int → Option Nat} {E : Int → Prop} {p q m f v w x n k ty : Int} {B : Int → Int} {X Y : Tst} {t t' N c : Nat} {al0 : AL} {hi0 : HI} {hr0 : HR} {fr H : Int} {ws : Int → Int}
theorem TkL.hp (h : TkL A hi hr NN s p t) (h97 : ∀ x, 16 * p ≤ x → x ≤ ai s p → 0 ≤ s 97 x) (hs : ∀ a i, a ≠ 100 → a ≠ 300 → a ≠ 301 → a ≠ 302 → s' a i = s a i) (hw : ∀ (b : Nat) i, t ≤ b → b ≤ t + 5 → ¬ (b = t ∧ i = 16) → hi' b i = hi b i) (ev : ∀ i, pl s p i → vm A' p (s 98 i) (s 99 i) = vm A p (s 98 i) (s 99 i)) (hH : ∀ c, hr t 15 = some c → HpC A hi c (hi t 16) s p → HpC A' hi' c (hi' t 16) s' p) : TkL A' hi' hr NN s' p t := by
  obtain ⟨⟨N, h1, h2⟩, ⟨h3, h4⟩, h5, h6, c, h7, h8⟩ := h
  have e94 : s' 94 p = s 94 p := hs _ _ (by decide) (by decide) (by decide) (by decide)
  have e97 : ∀ x, s' 97 x = s 97 x := fun x => hs _ _ (by decide) (by decide) (by decide) (by decide)
  refine ⟨⟨N, by rw [hs 91 p (by decide) (by decide) (by decide) (by decide)]; exact h1, h2⟩, by rw [e94, hw _ _ (by omega) (by omega) (by omega), hw _ _ (by omega) (by omega) (by omega)]; exact ⟨h3, h4⟩, fun a a0 a1 => ?_, fun a k a0 a1 k0 k1 => ?_, c, h7, hH c h7 h8⟩
  · rw [e94] at a1
    rw [hw _ _ (by omega) (by omega) (by omega), hw _ _ (by omega) (by omega) (by omega), hw _ _ (by omega) (by omega) (by omega), hs 95 _ (by decide) (by decide) (by decide) (by decide), hs 96 _ (by decide) (by decide) (by decide) (by decide), e97]
    exact h5 a a0 a1
  · rw [e94] at a1
    rw [e97] at k1
    rw [hw _ _ (by omega) (by omega) (by omega), hw _ _ (by omega) (by omega) (by omega), hs 98 _ (by decide) (by decide) (by decide) (by decide), hs 99 _ (by decide) (by decide) (by decide) (by decide)]
    obtain ⟨y1, y2⟩ := h6 a k a0 a1 k0 k1
    refine ⟨y1, y2.trans (ev _ ⟨16 * p + a, k, by omega, by unfold ai; omega, k0, k1, rfl⟩).symm⟩
/-- the heap of a process changes -/
theorem RelC.hp (hR : RelC T NN al0 hi0 hr0 E A al hi hr s) (hO : OnP hr s p t) (hP : AllP s) (eA : ∀ q b, q ≠ p → A' q b = A q b) (hs : ∀ a i, ¬ ((a = 100 ∨ a = 300 ∨ a = 301 ∨ a = 302) ∧ ownC p a i) → s' a i = s a i) (hw : ∀ (b : Nat) i, hr t 15 ≠ some b → ¬ (b = t ∧ i = 16) → hi' b i = hi b i) (ev : ∀ i, pl s p i → vm A' p (s 98 i) (s 99 i) = vm A p (s 98 i) (s 99 i)) (hH : ∀ c, hr t 15 = some c → HpC A hi c (hi t 16) s p → HpC A' hi' c (hi' t 16) s' p) : RelC T NN al0 hi0 hr0 E A' al hi' hr s' ∧ OnP hr s' p t ∧ AllP s' := by
  obtain ⟨⟨p0, p1⟩, ht, h89, ⟨a1, a16⟩, ⟨r0, r1⟩, h97, h56⟩ := id hO
  have b4 := hR.2.2.2.2.1
  obtain ⟨-, c, c1, c2, -⟩ := b4.1 p t p0 p1 ht
  have hcn := b4.c c2 p0 p1 ht
  have hs2 : ∀ a i, a ≠ 100 → a ≠ 300 → a ≠ 301 → a ≠ 302 → s' a i = s a i := fun a i _ _ _ _ => hs a i (by omega)
  have e94 : s' 94 p = s 94 p := hs _ _ (by omega)
  have hs3 : ∀ a i, ¬ (ownC p a i ∧ 94 ≤ a) → s' a i = s a i := fun a i z => hs a i (fun y => z ⟨y.2, by omega⟩)
  have H97 : ∀ x, 16 * p ≤ x → x ≤ ai s p → 0 ≤ s' 97 x ∧ s' 97 x ≤ 16 := fun x x0 x1 => by rw [hs _ _ (by omega)]; exact h97 x x0 x1
  refine ⟨hR.tskA eA hP ⟨p0, p1⟩ ht (fun a i z1 z2 => hw a i z2 (fun y => z1 (by omega))) (fun i z => hw t i (by rw [c1]; intro y; cases y; omega) (by omega)) hs3 (fun _ => ?_), hO.mono (hs _ _ (by omega)) e94 (hs _ _ (by omega)) (hs _ _ (by omega)) H97, hP.mono hs3 ⟨p0, p1⟩ (fun _ => ⟨by rw [e94]; exact ⟨a1, a16⟩, fun x x0 x1 => H97 x x0 (by rw [← ai_eq e94]; exact x1)⟩)⟩
  exact (hR.2.2.2.2.2.2 p t p0 p1 ht h89).hp (fun x x0 x1 => (h97 x x0 x1).1) hs2 (fun b i z1 z2 z3 => hw b i (by rw [c1]; intro y; cases y; omega) z3) ev hH
/-- what is not reached is forgotten -/
noncomputable def rsA (A : Int → Int → Int) (s : HI) (p : Int) : Int → Int → Int := fun q b => cif (q = p ∧ ¬ rch s p b) 0 (A q b)
theorem rsA_q {b : Int} (h : q ≠ p) : rsA A s p q b = A q b := cif_n (fun y => h y.1)
theorem rsA_y {b : Int} (h : rch s p b) : rsA A s p p b = A p b := cif_n (fun y => y.2 h)
theorem rsA_n {b : Int} (h : ¬ rch s p b) : rsA A s p p b = 0 := cif_y ⟨rfl, h⟩
theorem rsA_0 {b : Int} (h : rsA A s p p b ≠ 0) : rch s p b ∧ A p b ≠ 0 := by
  by_cases z : rch s p b
  · rw [rsA_y z] at h; exact ⟨z, h⟩
  · exact absurd (rsA_n z) h
theorem RelC.rs (hR : RelC T NN al0 hi0 hr0 E A al hi hr s) (hO : OnP hr s p t) (hP : AllP s) : RelC T NN al0 hi0 hr0 E (rsA A s p) al hi hr (gcS s p) ∧ OnP hr (gcS s p) p t ∧ AllP (gcS s p) := by
  obtain ⟨⟨p0, p1⟩, ht, h89, ⟨a1, a16⟩, ⟨r0, r1⟩, h97, h56⟩ := id hO
  have e : ∀ a i, a ≠ 100 → gcS s p a i = s a i := fun a i z => gcS_CE z
  have hL := hR.2.2.2.2.2.2 p t p0 p1 ht h89
  have rr : ∀ i, pl s p i → s 99 i = 1 → s 98 i ≠ 0 → rch s p (s 98 i) ∧ A p (s 98 i) ≠ 0 := fun i hi w1 w2 => by
    obtain ⟨-, -, -, -, c, -, h8⟩ := hL
    have := h8.2.2.2 i hi w1 w2
    have b := (h8.2.1 _ this).1
    exact ⟨rch_r (pl_rot hi w1 (by omega)), this⟩
  refine hR.hp hO hP (fun q b z => rsA_q z) (fun a i z => ?_) (fun _ _ _ _ => rfl) (fun i hi => ?_) (fun c c1 h8 => ?_)
  · by_cases y : a = 100
    · subst y
      exact gcS_o (by unfold ownC at z; omega)
    · exact e a i y
  · unfold vm
    by_cases w1 : s 99 i = 1
    · rw [if_pos w1, if_pos w1]
      by_cases w2 : s 98 i = 0
      · rw [if_pos w2, if_pos w2]
      · rw [if_neg w2, if_neg w2, rsA_y (rr i hi w1 w2).1]
    · rw [if_neg w1, if_neg w1]
  · obtain ⟨b1, b2, b3, b4⟩ := h8
    refine ⟨by rw [e _ _ (by decide)]; exact b1, fun b hb => ?_, fun b b' hb hb' hne => ?_, fun i hi w1 w2 => ?_⟩
    · obtain ⟨y1, y2⟩ := rsA_0 hb
      obtain ⟨z1, z2, z3, z4, z5⟩ := b2 b y2
      rw [gcS_y z1 y1, e 302 _ (by decide), rsA_y y1]
      refine ⟨z1, z2, z3, z4, fun i i0 i1 => ?_⟩
      rw [e 300 _ (by decide), e 301 _ (by decide)]
      obtain ⟨u1, u2⟩ := z5 i i0 i1
      have hrc : s 301 (hx p b i) = 1 → s 300 (hx p b i) ≠ 0 → rch s p (s 300 (hx p b i)) := fun w1 w2 => by
        have := (b2 _ (u2 w1 w2)).1
        exact rch_i y1 i0 i1 w1 (by omega)
      refine ⟨?_, fun w1 w2 => by rw [rsA_y (hrc w1 w2)]; exact u2 w1 w2⟩
      rw [u1]
      unfold vm
      by_cases w1 : s 301 (hx p b i) = 1
      · rw [if_pos w1, if_pos w1]
        by_cases w2 : s 300 (hx p b i) = 0
        · rw [if_pos w2, if_pos w2]
        · rw [if_neg w2, if_neg w2, rsA_y (hrc w1 w2)]
      · rw [if_neg w1, if_neg w1]
    · obtain ⟨y1, y2⟩ := rsA_0 hb
      obtain ⟨y1', y2'⟩ := rsA_0 hb'
      rw [gcS_y (b2 b y2).1 y1, gcS_y (b2 b' y2').1 y1', rsA_y y1, rsA_y y1']
      exact b3 b b' y2 y2' hne
    · have hi2 := (pl_eq (s := s) (s' := gcS s p) (ai_eq (e _ _ (by decide))) (fun x _ _ => e _ _ (by decide))).mp hi
      rw [e 98 _ (by decide)] at w2 ⊢
      rw [e 99 _ (by decide)] at w1
      obtain ⟨y1, y2⟩ := rr i hi2 w1 w2
      rw [rsA_y y1]; exact y2
/-- a new box -/
theorem RelC.nb (hR : RelC T NN al0 hi0 hr0 E A al hi hr s) (hO : OnP hr s p t) (hP : AllP s) (e15 : hr t 15 = some c) (h16 : hi t 16 = fr) (hfr : fr + n ≤ s 92 p) (n0 : 0 ≤ n) (kb : 1 ≤ k ∧ k ≤ 1024) (hk : ¬ 0 < s 100 (1025 * p + k)) (hM : nbM hi t c fr n (hdr ty (n + 1)) hi') : RelC T NN al0 hi0 hr0 E (fun q b => if q = p ∧ b = k then fr else A q b) al hi' hr (newB s p k n ty ws) ∧ OnP hr (newB s p k n ty ws) p t ∧ AllP (newB s p k n ty ws) := by
  obtain ⟨⟨p0, p1⟩, ht, h89, ⟨a1, a16⟩, ⟨r0, r1⟩, h97, h56⟩ := id hO
  obtain ⟨m1, m2, m3, m4⟩ := hM
  have hL := hR.2.2.2.2.2.2 p t p0 p1 ht h89
  have hA0 : A p k = 0 := by
    obtain ⟨-, -, -, -, c', -, h8⟩ := hL
    apply Classical.byContradiction
    intro z
    have := (h8.2.1 k z).2.1
    omega
  have hfr1 : 1 ≤ fr := by
    obtain ⟨-, -, -, -, c', -, h8⟩ := hL
    have := h8.1.1
    rw [h16] at this; exact this
  have nct : c ≠ t := by
    obtain ⟨-, c', v1, v2, -⟩ := hR.2.2.2.2.1.1 p t p0 p1 ht
    rw [e15] at v1; cases v1
    have := hR.2.2.2.2.1.c v2 p0 p1 ht
    omega
  have eA : ∀ q b, ¬ (q = p ∧ b = k) → (fun q b => if q = p ∧ b = k then fr else A q b) q b = A q b := fun q b z => if_neg z
  have e302 : ∀ i, i ≠ 1025 * p + k → newB s p k n ty ws 302 i = s 302 i := fun i z => by
    unfold newB; rw [if_neg (by omega), if_neg (by omega), if_neg (by omega), if_neg (by omega)]
  have evm : ∀ v w, (w = 1 → v ≠ 0 → A p v ≠ 0) → vm (fun q b => if q = p ∧ b = k then fr else A q b) p v w = vm A p v w := fun v w z => by
    unfold vm
    by_cases w1 : w = 1
    · rw [if_pos w1, if_pos w1]
      by_cases w2 : v = 0
      · rw [if_pos w2, if_pos w2]
      · rw [if_neg w2, if_neg w2]
        exact eA p v (fun y => z w1 w2 (by rw [y.2]; exact hA0))
    · rw [if_neg w1, if_neg w1]
  refine hR.hp hO hP (fun q b z => eA q b (fun y => z y.1)) (fun a i z => ?_) (fun b i z1 z2 => m4 b i (fun y => z1 (by rw [y.1]; exact e15)) z2) (fun i hi => evm _ _ (fun w1 w2 => ?_)) (fun c' c1 h8 => ?_)
  · unfold newB
    rw [if_neg (fun y => z (by unfold ownC; omega)), if_neg (fun y => z (by unfold ownC; omega)), if_neg (fun y => z (by unfold ownC; unfold hx at y ⊢; omega)), if_neg (fun y => z (by unfold ownC; unfold hx at y ⊢; omega))]
  · obtain ⟨-, -, -, -, c', -, h8⟩ := hL
    exact h8.2.2.2 i hi w1 w2
  · rw [e15] at c1; cases c1
    obtain ⟨b1, b2, b3, b4⟩ := h8
    rw [h16] at b1 b2
    rw [m3]
    have nk : ∀ b, A p b ≠ 0 → b ≠ k := fun b z y => z (by rw [y]; exact hA0)
    refine ⟨by rw [newB_o (by decide)]; omega, fun b hb => ?_, fun b b' hb hb' hne => ?_, fun i hi w1 w2 => ?_⟩
    · by_cases y : b = k
      · subst y
        have e9 : (fun q b' => if q = p ∧ b' = b then fr else A q b') p b = fr := if_pos ⟨rfl, rfl⟩
        rw [newB_k, newB_t]
        refine ⟨kb, by omega, by rw [e9]; omega, by rw [e9]; exact m1, fun i i0 i1 => ?_⟩
        obtain ⟨q1, q2⟩ := newB_x (s := s) (p := p) (k := b) (n := n) (t := ty) (w := ws) (i := i) ⟨i0, by omega⟩
        rw [q1, q2, e9, m2 i i0 (by omega)]
        refine ⟨?_, fun _ z => absurd rfl z⟩
        unfold vm
        split
        · rw [if_pos rfl]
        · rfl
      · have hb2 : A p b ≠ 0 := by rw [← eA p b (fun z => y z.2)]; exact hb
        obtain ⟨z1, z2, z3, z4, z5⟩ := b2 b hb2
        rw [eA p b (fun z => y z.2), newB_100 (by omega), e302 _ (by omega), m4 c _ (by omega) (fun u => nct u.1)]
        refine ⟨z1, z2, by omega, z4, fun i i0 i1 => ?_⟩
        obtain ⟨q1, q2⟩ := newB_y (s := s) (p := p) (k := k) (n := n) (t := ty) (w := ws) (i := hx p b i) (by unfold hx; omega)
        obtain ⟨u1, u2⟩ := z5 i i0 i1
        rw [q1, q2, m4 c _ (by omega) (fun u => nct u.1), evm _ _ u2]
        exact ⟨u1, fun w1 w2 => by rw [eA p _ (fun z => nk _ (u2 w1 w2) z.2)]; exact u2 w1 w2⟩
    · have e9 : (fun q b' => if q = p ∧ b' = k then fr else A q b') p k = fr := if_pos ⟨rfl, rfl⟩
      by_cases y : b = k
      · subst y
        have hb2 : A p b' ≠ 0 := by rw [← eA p b' (fun z => hne z.2.symm)]; exact hb'
        rw [e9, newB_k, newB_100 (by omega), eA p b' (fun z => hne z.2.symm)]
        have := (b2 b' hb2).2.2.1
        omega
      · have hb2 : A p b ≠ 0 := by rw [← eA p b (fun z => y z.2)]; exact hb
        by_cases y' : b' = k
        · subst y'
          rw [e9, newB_k, newB_100 (by omega), eA p b (fun z => y z.2)]
          have := (b2 b hb2).2.2.1
          omega
        · have hb2' : A p b' ≠ 0 := by rw [← eA p b' (fun z => y' z.2)]; exact hb'
          rw [newB_100 (by omega), newB_100 (by omega), eA p b (fun z => y z.2), eA p b' (fun z => y' z.2)]
          exact b3 b b' hb2 hb2' hne
    · have hi2 := (pl_eq (s := s) (s' := newB s p k n ty ws) (ai_eq (newB_o (by decide))) (fun x _ _ => newB_o (by decide))).mp hi
      rw [newB_o (by decide)] at w1 w2 ⊢
      have := b4 i hi2 w1 w2
      rw [eA p _ (fun z => nk _ this z.2)]; exact this
end CM1
