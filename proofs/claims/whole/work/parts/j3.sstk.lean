/-! SOUNDNESS: the stack and the locals -/
section SD3
variable {T : TXs} {s s' : HI} {p q m f v w t : Int} {B : Int → Int} {X Y : Tst}
def JJ (T : TXs) (s : HI) (p m f : Int) (X : Tst) : Prop := JO T s p ∧ PJ T s p m f X
def tpl (p : Int) (s s' : HI) : Prop := ∀ a i, ¬ (((a = 96 ∨ a = 97) ∧ i = ai s p) ∨ ((a = 98 ∨ a = 99) ∧ 26 * ai s p ≤ i ∧ i < 26 * ai s p + 26)) → s' a i = s a i
theorem tpl.e (h : tpl p s s') {a : Nat} {i : Int} (ha : a ≠ 96 ∧ a ≠ 97 ∧ a ≠ 98 ∧ a ≠ 99) : s' a i = s a i := h a i (by omega)
theorem tpl.lc (h : tpl p s s') (hp : 1 ≤ s 94 p ∧ s 94 p ≤ 16) : lcl p s s' := fun a i z _ _ _ _ => h a i (fun y => z (by unfold ownC; unfold ai at y; omega))
theorem Gl.tp (h : Gl s) (e : ∀ a i, a ≠ 96 ∧ a ≠ 97 ∧ a ≠ 98 ∧ a ≠ 99 → s' a i = s a i) : Gl s' := by
  unfold Gl at h ⊢
  simp only [e 49 _ (by decide), e 89 _ (by decide), e 93 _ (by decide), e 109 _ (by decide), e 111 _ (by decide), e 112 _ (by decide), e 114 _ (by decide)]
  exact h
theorem JJ.tp (h : JJ T s p m f X) (ht : tpl p s s') (y0 : 0 ≤ Y.1 ∧ Y.1 ≤ 16) (h97 : s' 97 (ai s p) = Y.1) (hs : ∀ k, 0 ≤ k → k < Y.1 → vOk T s p m (s' 98 (26 * ai s p + 10 + k)) (s' 99 (26 * ai s p + 10 + k)) (Y.2.1 k)) (hl : ∀ k, 0 ≤ k → k < 10 → vOk T s p m (s' 98 (26 * ai s p + k)) (s' 99 (26 * ai s p + k)) (Y.2.2 k)) (hO : OwI s' p) : JJ T s' p m f Y := by
  obtain ⟨hJ, hP⟩ := h
  have hpb := hP.1
  have hA := hpb.a
  have VT : ∀ v w, Vt s s' p v w := fun v w => Vt.rf (fun _ => ht.e (by decide)) (fun _ => ht.e (by decide)) (fun _ => ht.e (by decide)) (fun _ => ht.e (by decide)) (fun _ => ht.e (by decide))
  refine ⟨hJ.lc (ht.lc hpb.2.1) (hJ.1.tp (fun a i z => ht.e z)), hP.go (fun a i a1 a2 => ht.e (by omega)) (by rw [ht.e (by decide)]; exact hpb.2.2.2.2.2) (ht.e (by decide)) (ht.e (by decide)) (ht.e (by decide)) (fun x _ _ => ht.e (by decide)) (fun x x0 x1 => ⟨ht _ _ (by omega), ht _ _ (by omega)⟩) (fun i i0 i1 => ⟨ht _ _ (by omega), ht _ _ (by omega)⟩) (fun i _ _ => VT _ _) ?_ y0 ?_ hO⟩
  · exact hP.2.1.tr hpb.2.2.2.1 (fun b _ _ => ⟨ht.e (by decide), ht.e (by decide)⟩) (fun b i _ _ _ _ => ⟨ht.e (by decide), ht.e (by decide)⟩)
  · exact ⟨h97, fun k a b => (hs k a b).tr (VT _ _), fun k a b => (hl k a b).tr (VT _ _)⟩
/-- a linear value in hand: the process's, and at no place of it -/
def Fp (s : HI) (p v w : Int) : Prop := (w = 2 → s 110 v = p) ∧ (w = 3 → s 113 v = p) ∧ ((w = 2 ∨ w = 3) → ∀ j, pl s p j → s 99 j = w → s 98 j ≠ v)
theorem Fp.nl (h : w ≠ 2 ∧ w ≠ 3) : Fp s p v w := ⟨fun z => absurd z h.1, fun z => absurd z h.2, fun z => by omega⟩
theorem psh_tp (h0 : 0 ≤ hg s p ∧ hg s p < 16) : tpl p s (psh s p v w) := fun a i z => by
  unfold psh st2 sk upI
  rw [if_neg (by omega), if_neg (by omega), if_neg (by omega)]
theorem psh_97 : psh s p v w 97 (ai s p) = hg s p + 1 := upI_eq
theorem psh_98 {i : Int} : psh s p v w 98 i = if i = sk s p (hg s p) then v else s 98 i := by unfold psh st2; rw [upI_a (by decide), upI_a (by decide), upI_self]
theorem psh_99 {i : Int} : psh s p v w 99 i = if i = sk s p (hg s p) then w else s 99 i := by
  unfold psh st2; rw [upI_a (by decide), upI_self]
  split
  · rfl
  · exact upI_a (by decide)
theorem JJ.psh_ (h : JJ T s p m f X) (h16 : X.1 < 16) (hv : vOk T s p m v w t) (hF : Fp s p v w) : JJ T (psh s p v w) p m f (X.1 + 1, up1 X.2.1 X.1 t, X.2.2) := by
  have hP := h.2
  have hA := hP.1.a
  have hh := hP.hg_
  obtain ⟨h1, h2, h3, h4, h5, h6, h7⟩ := id hP
  have e0 : sk s p (hg s p) = 26 * ai s p + 10 + X.1 := by unfold sk; rw [hh]
  refine h.tp (psh_tp (by omega)) (by show 0 ≤ X.1 + 1 ∧ X.1 + 1 ≤ 16; omega) (by rw [psh_97, hh]) (fun k a b => ?_) (fun k a b => ?_) ?_
  · have b : k < X.1 + 1 := b
    rw [psh_98, psh_99, e0]
    by_cases c : k = X.1
    · rw [if_pos (by omega), if_pos (by omega), c]
      show vOk T s p m v w (up1 X.2.1 X.1 t X.1)
      rw [up1_eq]; exact hv
    · rw [if_neg (by omega), if_neg (by omega)]
      show vOk T s p m _ _ (up1 X.2.1 X.1 t k)
      rw [up1_ne c]; exact h6.2.1 k a (by omega)
  · rw [psh_98, psh_99, e0, if_neg (by omega), if_neg (by omega)]
    exact h6.2.2 k a b
  · have hp : ∀ i, pl (psh s p v w) p i → (pl s p i ∧ i ≠ sk s p (hg s p)) ∨ i = sk s p (hg s p) := by
      rintro i ⟨x, k, a, b, c, d, rfl⟩
      rw [psh_ai] at b
      by_cases z : x = ai s p
      · subst z
        rw [psh_97] at d
        by_cases y : k = 10 + hg s p
        · right; rw [e0]; omega
        · left; rw [e0]; exact ⟨⟨_, k, a, b, c, by show k < 10 + hg s p; omega, rfl⟩, by omega⟩
      · have e : psh s p v w 97 x = s 97 x := psh_tp (by omega) _ _ (by omega)
        rw [e] at d
        have := hP.h97 x a b
        left; rw [e0]; exact ⟨⟨x, k, a, b, c, d, rfl⟩, by omega⟩
    have o98 : ∀ i, i ≠ sk s p (hg s p) → psh s p v w 98 i = s 98 i := fun i z => by rw [psh_98, if_neg z]
    have o99 : ∀ i, i ≠ sk s p (hg s p) → psh s p v w 99 i = s 99 i := fun i z => by rw [psh_99, if_neg z]
    have n98 : psh s p v w 98 (sk s p (hg s p)) = v := by rw [psh_98, if_pos rfl]
    have n99 : psh s p v w 99 (sk s p (hg s p)) = w := by rw [psh_99, if_pos rfl]
    have tp := psh_tp (s := s) (p := p) (v := v) (w := w) (by omega)
    have x110 : ∀ i, psh s p v w 110 i = s 110 i := fun i => tp.e (by decide)
    have x113 : ∀ i, psh s p v w 113 i = s 113 i := fun i => tp.e (by decide)
    refine ⟨fun i hi => ?_, fun i j hi hj hne => ?_⟩
    · rcases hp i hi with ⟨z1, z2⟩ | z
      · rw [o98 i z2, o99 i z2, x110, x113]; exact h7.1 i z1
      · subst z; rw [n98, n99, x110, x113]; exact ⟨hF.1, hF.2.1⟩
    · rcases hp i hi with ⟨z1, z2⟩ | z
      · rw [o98 i z2, o99 i z2]
        rcases hp j hj with ⟨y1, y2⟩ | y
        · rw [o98 j y2, o99 j y2]; exact h7.2 i j z1 y1 hne
        · subst y; rw [n98, n99]
          intro k1 k2 k3
          exact hF.2.2 (by rw [k2]; exact k1) i z1 k2.symm k3.symm
      · subst z
        rw [n98, n99]
        rcases hp j hj with ⟨y1, y2⟩ | y
        · rw [o98 j y2, o99 j y2]
          exact fun k1 k2 => hF.2.2 k1 j y1 k2
        · exact absurd y.symm hne
/-- what is taken goes -/
theorem pp_tp {n : Int} : tpl p s (pp s p n) := fun a i z => by unfold pp upI; rw [if_neg (by omega)]
theorem pp_pl {n i : Int} (n0 : 0 ≤ n) (h : pl (pp s p n) p i) : pl s p i := by
  obtain ⟨x, k, a, b, c, d, e⟩ := h
  rw [ppz_ai] at b
  refine ⟨x, k, a, b, c, ?_, e⟩
  by_cases z : x = ai s p
  · subst z
    have e : pp s p n 97 (ai s p) = hg s p - n := upI_eq
    rw [e] at d; show k < 10 + hg s p; omega
  · have e : pp s p n 97 x = s 97 x := pp_tp _ _ (by omega)
    rw [e] at d; exact d
theorem pp_98 {n i : Int} : pp s p n 98 i = s 98 i := upI_a (by decide)
theorem pp_99 {n i : Int} : pp s p n 99 i = s 99 i := upI_a (by decide)
theorem JJ.pp_ {n : Int} (h : JJ T s p m f X) (n0 : 0 ≤ n) (n1 : n ≤ X.1) : JJ T (pp s p n) p m f (X.1 - n, X.2.1, X.2.2) := by
  have hP := h.2
  have hh := hP.hg_
  obtain ⟨h1, h2, h3, h4, h5, h6, h7⟩ := id hP
  refine h.tp pp_tp (by show 0 ≤ X.1 - n ∧ X.1 - n ≤ 16; omega) (by show upI _ _ _ _ _ _ = _; rw [upI_eq, hh]) (fun k a b => ?_) (fun k a b => ?_) ?_
  · have b : k < X.1 - n := b
    rw [pp_98, pp_99]; exact h6.2.1 k a (by omega)
  · rw [pp_98, pp_99]; exact h6.2.2 k a b
  · exact h7.tr (fun i hi => ⟨pp_pl n0 hi, pp_98, pp_99⟩) (fun v z => (pp_tp.e (by decide)).trans z) (fun v z => (pp_tp.e (by decide)).trans z)
/-- the place so far below the top -/
theorem PJ.pl_ (h : PJ T s p m f X) {k : Int} (k0 : 0 ≤ k) (k1 : k < X.1) : pl s p (sk s p (hg s p - 1 - k)) := by
  have hA := h.1.a
  have hh := h.hg_
  refine ⟨ai s p, 10 + (X.1 - 1 - k), hA.1, Int.le_refl _, by omega, ?_, by unfold sk; rw [hh]; omega⟩
  show _ < 10 + hg s p
  rw [hh]; omega
theorem JJ.top (h : JJ T s p m f X) {k : Int} (k0 : 0 ≤ k) (k1 : k < X.1) : vOk T s p m (tv s p k) (ts s p k) (X.2.1 (X.1 - 1 - k)) := by
  have hh := h.2.hg_
  have := h.2.2.2.2.2.2.1.2.1 (X.1 - 1 - k) (by omega) (by omega)
  unfold tv ts sk; rw [hh]; exact this
theorem pp_np {n k : Int} (h : PJ T s p m f X) (k0 : 0 ≤ k) (k1 : k < n) (n1 : n ≤ X.1) : ∀ j, pl (pp s p n) p j → j ≠ sk s p (hg s p - 1 - k) := by
  rintro j ⟨x, l, a, b, c, d, rfl⟩
  rw [ppz_ai] at b
  have hh := h.hg_
  unfold sk; rw [hh]
  by_cases z : x = ai s p
  · subst z
    have e : pp s p n 97 (ai s p) = hg s p - n := upI_eq
    rw [e] at d; omega
  · have e : pp s p n 97 x = s 97 x := pp_tp _ _ (by omega)
    rw [e] at d
    have := h.h97 x a b
    omega
/-- what was taken is in hand -/
theorem JJ.fp {n k : Int} (h : JJ T s p m f X) (k0 : 0 ≤ k) (k1 : k < n) (n1 : n ≤ X.1) : Fp (pp s p n) p (tv s p k) (ts s p k) := by
  have hP := h.2
  have hi := hP.pl_ k0 (by omega)
  have hO := hP.2.2.2.2.2.2
  have x110 : ∀ i, pp s p n 110 i = s 110 i := fun i => pp_tp.e (by decide)
  have x113 : ∀ i, pp s p n 113 i = s 113 i := fun i => pp_tp.e (by decide)
  refine ⟨fun z => by rw [x110]; exact (hO.1 _ hi).1 z, fun z => by rw [x113]; exact (hO.1 _ hi).2 z, fun z j hj => ?_⟩
  rw [pp_98, pp_99]
  intro y
  exact hO.2 _ j hi (pp_pl (by omega) hj) (fun e => pp_np hP k0 k1 n1 j hj e.symm) z y
/-- a place of the frame gets another value -/
theorem st2_98 {i j : Int} : st2 s i v w 98 j = if j = i then v else s 98 j := by unfold st2; rw [upI_a (by decide), upI_self]
theorem st2_99 {i j : Int} : st2 s i v w 99 j = if j = i then w else s 99 j := by
  unfold st2; rw [upI_self]
  split
  · rfl
  · exact upI_a (by decide)
def Fq (s : HI) (p i v w : Int) : Prop := (w = 2 → s 110 v = p) ∧ (w = 3 → s 113 v = p) ∧ ((w = 2 ∨ w = 3) → ∀ j, pl s p j → j ≠ i → s 99 j = w → s 98 j ≠ v)
theorem Fq.nl {i : Int} (h : w ≠ 2 ∧ w ≠ 3) : Fq s p i v w := ⟨fun z => absurd z h.1, fun z => absurd z h.2, fun z => by omega⟩
theorem Fp.fq {i : Int} (h : Fp s p v w) : Fq s p i v w := ⟨h.1, h.2.1, fun z j hj _ => h.2.2 z j hj⟩
theorem st2_tp {i : Int} (hi : 26 * ai s p ≤ i ∧ i < 26 * ai s p + 26) : tpl p s (st2 s i v w) := fun a j z => by
  unfold st2 upI
  rw [if_neg (by omega), if_neg (by omega)]
theorem OwI.st {i : Int} (h : OwI s p) (hF : Fq s p i v w) : OwI (st2 s i v w) p := by
  have hp : ∀ {j}, pl (st2 s i v w) p j → pl s p j := fun {j} hj => (pl_eq st2_ai (fun x _ _ => st2_n (by decide) (by decide))).mp hj
  have o98 : ∀ j, j ≠ i → st2 s i v w 98 j = s 98 j := fun j z => by rw [st2_98, if_neg z]
  have o99 : ∀ j, j ≠ i → st2 s i v w 99 j = s 99 j := fun j z => by rw [st2_99, if_neg z]
  have n98 : st2 s i v w 98 i = v := by rw [st2_98, if_pos rfl]
  have n99 : st2 s i v w 99 i = w := by rw [st2_99, if_pos rfl]
  have x110 : ∀ j, st2 s i v w 110 j = s 110 j := fun j => st2_n (by decide) (by decide)
  have x113 : ∀ j, st2 s i v w 113 j = s 113 j := fun j => st2_n (by decide) (by decide)
  refine ⟨fun j hj => ?_, fun j k hj hk hne => ?_⟩
  · by_cases z : j = i
    · subst z; rw [n98, n99, x110, x113]; exact ⟨hF.1, hF.2.1⟩
    · rw [o98 j z, o99 j z, x110, x113]; exact h.1 j (hp hj)
  · by_cases z : j = i
    · subst z
      rw [n98, n99, o98 k (fun y => hne y.symm), o99 k (fun y => hne y.symm)]
      exact fun k1 k2 => hF.2.2 k1 k (hp hk) (fun y => hne y.symm) k2
    · rw [o98 j z, o99 j z]
      by_cases y : k = i
      · subst y; rw [n98, n99]
        intro k1 k2 k3
        exact hF.2.2 (by rw [k2]; exact k1) j (hp hj) z k2.symm k3.symm
      · rw [o98 k y, o99 k y]; exact h.2 j k (hp hj) (hp hk) hne
theorem JJ.stl {l : Int} (h : JJ T s p m f X) (l0 : 0 ≤ l) (l1 : l < 10) (hv : vOk T s p m v w t) (hF : Fq s p (26 * ai s p + l) v w) : JJ T (st2 s (26 * ai s p + l) v w) p m f (X.1, X.2.1, up1 X.2.2 l t) := by
  have hP := h.2
  obtain ⟨h1, h2, h3, h4, h5, h6, h7⟩ := id hP
  refine h.tp (st2_tp (by omega)) h5 ((st2_n (by decide) (by decide)).trans h6.1) (fun k a b => ?_) (fun k a b => ?_) (h7.st hF)
  · have b : k < X.1 := b
    rw [st2_98, st2_99, if_neg (by omega), if_neg (by omega)]; exact h6.2.1 k a b
  · rw [st2_98, st2_99]
    by_cases c : k = l
    · subst c; rw [if_pos rfl, if_pos rfl]
      show vOk T s p m v w (up1 X.2.2 k t k)
      rw [up1_eq]; exact hv
    · rw [if_neg (by omega), if_neg (by omega)]
      show vOk T s p m _ _ (up1 X.2.2 l t k)
      rw [up1_ne c]; exact h6.2.2 k a b
theorem JJ.sts {l : Int} (h : JJ T s p m f X) (l0 : 0 ≤ l) (l1 : l < X.1) (hv : vOk T s p m v w t) (hF : Fq s p (26 * ai s p + 10 + l) v w) : JJ T (st2 s (26 * ai s p + 10 + l) v w) p m f (X.1, up1 X.2.1 l t, X.2.2) := by
  have hP := h.2
  obtain ⟨h1, h2, h3, h4, h5, h6, h7⟩ := id hP
  refine h.tp (st2_tp (by omega)) h5 ((st2_n (by decide) (by decide)).trans h6.1) (fun k a b => ?_) (fun k a b => ?_) (h7.st hF)
  · have b : k < X.1 := b
    rw [st2_98, st2_99]
    by_cases c : k = l
    · subst c; rw [if_pos rfl, if_pos rfl]
      show vOk T s p m v w (up1 X.2.1 k t k)
      rw [up1_eq]; exact hv
    · rw [if_neg (by omega), if_neg (by omega)]
      show vOk T s p m _ _ (up1 X.2.1 l t k)
      rw [up1_ne c]; exact h6.2.1 k a b
  · rw [st2_98, st2_99, if_neg (by omega), if_neg (by omega)]; exact h6.2.2 k a b
theorem JJ.gos {y : Int} (h : JJ T s p m f X) : JJ T (goS s p y) p m f X := by
  obtain ⟨h1, h2, h3, h4, h5, h6, h7⟩ := id h.2
  have n : ∀ {a : Nat} {i : Int}, a ≠ 96 → goS s p y a i = s a i := fun z => upI_a z
  refine h.tp (fun a i z => by unfold goS upI; rw [if_neg (by omega)]) h5 ((n (by decide)).trans h6.1) (fun k a b => ?_) (fun k a b => ?_) (h7.tr (fun i hi => ⟨(pl_eq (ai_eq (n (by decide))) (fun x _ _ => n (by decide))).mp hi, n (by decide), n (by decide)⟩) (fun v z => (n (by decide)).trans z) (fun v z => (n (by decide)).trans z))
  · rw [n (by decide), n (by decide)]; exact h6.2.1 k a b
  · rw [n (by decide), n (by decide)]; exact h6.2.2 k a b
/-- a process's state, from its frame's types -/
theorem JJ.land {A : Asg} {Z : Tst} (h : JJ T s p m f X) (hL : LC (T m) f A) (h0 : 0 ≤ s 96 (ai s p)) (hA : A (s 96 (ai s p)) = some Z) (hl : leX X Z) : JO T s (-1) := by
  obtain ⟨⟨g1, g2, g3, g4⟩, h1, h2, h3, h4, h5, h6, h7⟩ := h
  refine ⟨g1, g2, g3, fun q q0 q1 q2 q3 => ?_⟩
  by_cases c : q = p
  · subst c
    refine ⟨m, h1, h2, h3, ⟨by rw [h4.2]; exact h4.1, A, Z, by rw [h4.2]; exact hL, h0, hA, h6.le hl⟩, h7⟩
  · exact g4 q q0 q1 c q3
theorem JO.start (h : JO T s (-1)) (hp : 0 ≤ p ∧ p < 12) (h89 : s 89 p < 4) : ∃ m A X, JJ T s p m (s 95 (ai s p)) X ∧ LC (T m) (s 95 (ai s p)) A ∧ 0 ≤ s 96 (ai s p) ∧ A (s 96 (ai s p)) = some X := by
  obtain ⟨g1, g2, g3, g4⟩ := h
  obtain ⟨m, h1, h2, h3, ⟨h4, A, X, h5, h6, h7, h8⟩, h9⟩ := g4 p hp.1 hp.2 (by omega) h89
  have x0 : 0 ≤ X.1 := (h5.2.2.2 _ _ h6 h7).1
  have x1 : X.1 ≤ 16 := (h5.2.2.1 _ _ h6 h7).1
  exact ⟨m, A, X, ⟨⟨g1, g2, g3, fun q q0 q1 q2 => g4 q q0 q1 (by omega)⟩, h1, h2, h3, ⟨h4, rfl⟩, ⟨x0, x1⟩, h8, h9⟩, h5, h6, h7⟩
theorem JJ.ups_ (h : JJ T s p m f X) (h54 : s 49 54 < 8) : JJ T (ups s p) p m f X := by
  obtain ⟨hJ, h1, h2, h3, h4, h5, h6, h7⟩ := id h
  have n : ∀ {a : Nat} {i : Int}, a ≠ 89 → a ≠ 93 → a ≠ 49 → ups s p a i = s a i := fun z1 z2 z3 => ups_n z1 z2 z3
  obtain ⟨g1, g2, g3, g4, g5, g6, g7, g8, g9⟩ := hJ.1
  have e52 : ups s p 49 52 = s 49 52 + 1 := by unfold ups; rw [upI_i (by decide), upI_eq]
  have e54 : ups s p 49 54 = s 49 54 + 1 := by unfold ups; rw [upI_eq]
  have e49 : ∀ i, i ≠ 52 → i ≠ 54 → ups s p 49 i = s 49 i := fun i z1 z2 => by unfold ups; rw [upI_i z2, upI_i z1, upI_a (by decide), upI_a (by decide)]
  have e89 : ∀ q, ups s p 89 q = if q = p then 1 else s 89 q := fun q => by unfold ups; rw [upI_a (by decide), upI_a (by decide), upI_a (by decide), upI_self]
  have e93 : ∀ q, ups s p 93 q = if q = p then s 93 p + 1 else s 93 q := fun q => by
    unfold ups; rw [upI_a (by decide), upI_a (by decide), upI_self]
    split
    · rfl
    · exact upI_a (by decide)
  have VT : ∀ v w, Vt s (ups s p) p v w := fun v w => Vt.rf (fun _ => n (by decide) (by decide) (by decide)) (fun _ => n (by decide) (by decide) (by decide)) (fun _ => n (by decide) (by decide) (by decide)) (fun _ => n (by decide) (by decide) (by decide)) (fun _ => n (by decide) (by decide) (by decide))
  refine ⟨hJ.lc (fun a i z z1 z2 z3 z4 => ?_) ?_, h.2.go (fun a i a1 a2 => n (by omega) (by omega) (by omega)) (by rw [e89, if_pos rfl]; decide) (n (by decide) (by decide) (by decide)) (n (by decide) (by decide) (by decide)) (n (by decide) (by decide) (by decide)) (fun x _ _ => n (by decide) (by decide) (by decide)) (fun x _ _ => ⟨n (by decide) (by decide) (by decide), n (by decide) (by decide) (by decide)⟩) (fun i _ _ => ⟨n (by decide) (by decide) (by decide), n (by decide) (by decide) (by decide)⟩) (fun i _ _ => VT _ _) ?_ h5 ?_ ?_⟩
  · have z5 : ¬ ((a = 89 ∨ a = 93) ∧ i = p) := fun y => z (by unfold ownC; omega)
    unfold ups upI
    rw [if_neg (by omega), if_neg (by omega), if_neg (by omega), if_neg (by omega)]
  · refine ⟨by rw [e49 _ (by decide) (by decide)]; exact g1, by rw [e54]; omega, by rw [e52]; omega, by rw [e49 _ (by decide) (by decide)]; exact g4, by rw [e49 _ (by decide) (by decide)]; exact g5, fun q q0 q1 => ?_, fun b b0 b1 => by rw [n (by decide) (by decide) (by decide)]; exact g7 b b0 b1, fun b j b0 b1 => by rw [n (by decide) (by decide) (by decide), n (by decide) (by decide) (by decide)]; exact g8 b j b0 b1, fun e e0 e1 => by rw [n (by decide) (by decide) (by decide), n (by decide) (by decide) (by decide)]; exact g9 e e0 e1⟩
    rw [e89, e93, e52, e49 _ (by decide) (by decide)]
    have := g6 q q0 q1
    by_cases c : q = p
    · subst c
      rw [if_pos rfl, if_pos rfl]
      have := h1.2.2.2.2.2
      omega
    · rw [if_neg c, if_neg c]; omega
  · exact h2.tr h1.2.2.2.1 (fun b _ _ => ⟨n (by decide) (by decide) (by decide), n (by decide) (by decide) (by decide)⟩) (fun b i _ _ _ _ => ⟨n (by decide) (by decide) (by decide), n (by decide) (by decide) (by decide)⟩)
  · refine ⟨(n (by decide) (by decide) (by decide)).trans h6.1, fun k a b => ?_, fun k a b => ?_⟩
    · rw [n (by decide) (by decide) (by decide), n (by decide) (by decide) (by decide)]; exact (h6.2.1 k a b).tr (VT _ _)
    · rw [n (by decide) (by decide) (by decide), n (by decide) (by decide) (by decide)]; exact (h6.2.2 k a b).tr (VT _ _)
  · exact h7.tr (fun i hi => ⟨(pl_eq (ai_eq (n (by decide) (by decide) (by decide))) (fun x _ _ => n (by decide) (by decide) (by decide))).mp hi, n (by decide) (by decide) (by decide), n (by decide) (by decide) (by decide)⟩) (fun v z => (n (by decide) (by decide) (by decide)).trans z) (fun v z => (n (by decide) (by decide) (by decide)).trans z)
end SD3
